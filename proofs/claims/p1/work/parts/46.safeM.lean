set_option maxHeartbeats 4000000 in
set_option maxRecDepth 100000 in
theorem sl_X4_lookerComes_52 {F : Nat} (hF : 73786976294838206464 ≤ F) {τ : Mem} : ∀ (N : Nat) (x3 : Int32) (σ : Mem), wiM σ → (∀ k, k < 101 → σ k = τ k) → σ 101 15 = τ 101 15 → σ 101 34 = τ 101 34 → σ 101 1 = τ 101 1 → σ 101 30 = τ 101 30 → σ 101 18 = τ 101 18 → 8 < x3.toInt + N → 0 ≤ x3.toInt → x3.toInt ≤ 8 → 0 ≤ (σ 101 3).toInt → (σ 101 3).toInt ≤ 4 → sf (lp_X4_lookerComes_52 F N x3 σ) (fun _ s => wiM s ∧ (∀ k, k < 101 → s k = τ k) ∧ s 101 15 = τ 101 15 ∧ s 101 34 = τ 101 34 ∧ s 101 1 = τ 101 1 ∧ s 101 30 = τ 101 30 ∧ s 101 18 = τ 101 18 ∧ True) := by
  intro N
  induction N with
  | zero => intro x3 σ hI Fσ Of15_σ Of34_σ Of1_σ Of30_σ Of18_σ hN x3_1 x3_2 mf0_1 mf0_2; exfalso; omega
  | succ N ih =>
    intro x3 σ hI Fσ Of15_σ Of34_σ Of1_σ Of30_σ Of18_σ hN x3_1 x3_2 mf0_1 mf0_2
    rw [lp_X4_lookerComes_52_s]
    refine sf_ite (fun c1 => ?_) (fun c1 => ?_)
    · have C1 : (8 : Int) ≤ x3.toInt := ti_le c1
      refine sf_lt (fun s2 hs2 => ?_)
      have m3 := wx_X4_3 hI
      have t4 : ((σ 101 3) + (1 : Int32)).toInt = (σ 101 3).toInt + (1 : Int) := ti_add (show -2147483648 ≤ (σ 101 3).toInt + (1 : Int) by omega) (show (σ 101 3).toInt + (1 : Int) ≤ 2147483647 by omega)
      have Is2 : wiM s2 := by rw [hs2]; exact wx_put_X4_3 hI (by omega) (by omega)
      have Fs2 : ∀ k, k < 101 → s2 k = τ k := fun k hk => (show s2 k = σ k by rw [hs2, up2_k (by omega)]).trans (Fσ k hk)
      have Of15_s2 : s2 101 15 = τ 101 15 := (show s2 101 15 = σ 101 15 by rw [hs2, up2_i (by decide)]).trans Of15_σ
      have Of34_s2 : s2 101 34 = τ 101 34 := (show s2 101 34 = σ 101 34 by rw [hs2, up2_i (by decide)]).trans Of34_σ
      have Of1_s2 : s2 101 1 = τ 101 1 := (show s2 101 1 = σ 101 1 by rw [hs2, up2_i (by decide)]).trans Of1_σ
      have Of30_s2 : s2 101 30 = τ 101 30 := (show s2 101 30 = σ 101 30 by rw [hs2, up2_i (by decide)]).trans Of30_σ
      have Of18_s2 : s2 101 18 = τ 101 18 := (show s2 101 18 = σ 101 18 by rw [hs2, up2_i (by decide)]).trans Of18_σ
      exact sf_ret ⟨Is2, Fs2, Of15_s2, Of34_s2, Of1_s2, Of30_s2, Of18_s2, trivial⟩
    have C1 : x3.toInt < (8 : Int) := ti_nle c1
    have m5 := wx_X4_3 hI
    have t6 : ((8 : Int32) * (σ 101 3)).toInt = (8 : Int) * (σ 101 3).toInt := ti_mul (show -2147483648 ≤ (8 : Int) * (σ 101 3).toInt by omega) (show (8 : Int) * (σ 101 3).toInt ≤ 2147483647 by omega)
    have t7 : (((8 : Int32) * (σ 101 3)) + x3).toInt = ((8 : Int32) * (σ 101 3)).toInt + x3.toInt := ti_add (show -2147483648 ≤ ((8 : Int32) * (σ 101 3)).toInt + x3.toInt by omega) (show ((8 : Int32) * (σ 101 3)).toInt + x3.toInt ≤ 2147483647 by omega)
    refine sf_chk (ti_in (by omega) (by omega)) ?_
    have v8 : Int32.toNatClampNeg (((8 : Int32) * (σ 101 3)) + x3) = (((8 : Int32) * (σ 101 3)) + x3).toInt.toNat := rfl
    refine sf_lt (fun s9 hs9 => ?_)
    have Is9 : wiM s9 := by rw [hs9]; exact wm_oth hI (by decide) (by decide) (by decide) (by decide)
    have Fs9 : ∀ k, k < 101 → s9 k = τ k := fun k hk => (show s9 k = σ k by rw [hs9, up2_k (by omega)]).trans (Fσ k hk)
    have Of15_s9 : s9 101 15 = τ 101 15 := (show s9 101 15 = σ 101 15 by rw [hs9, up2_k (by omega)]).trans Of15_σ
    have Of34_s9 : s9 101 34 = τ 101 34 := (show s9 101 34 = σ 101 34 by rw [hs9, up2_k (by omega)]).trans Of34_σ
    have Of1_s9 : s9 101 1 = τ 101 1 := (show s9 101 1 = σ 101 1 by rw [hs9, up2_k (by omega)]).trans Of1_σ
    have Of30_s9 : s9 101 30 = τ 101 30 := (show s9 101 30 = σ 101 30 by rw [hs9, up2_k (by omega)]).trans Of30_σ
    have Of18_s9 : s9 101 18 = τ 101 18 := (show s9 101 18 = σ 101 18 by rw [hs9, up2_k (by omega)]).trans Of18_σ
    have t10 : (x3 + (1 : Int32)).toInt = x3.toInt + (1 : Int) := ti_add (show -2147483648 ≤ x3.toInt + (1 : Int) by omega) (show x3.toInt + (1 : Int) ≤ 2147483647 by omega)
    have m11 := wx_X4_3 Is9
    have e12 : (s9 101 3).toInt = (σ 101 3).toInt := congrArg Int32.toInt (by rw [hs9, up2_k (by omega)])
    exact ih _ _ Is9 Fs9 Of15_s9 Of34_s9 Of1_s9 Of30_s9 Of18_s9 (by omega) (by omega) (by omega) (by omega) (by omega)
set_option maxHeartbeats 4000000 in
set_option maxRecDepth 100000 in
theorem sl_X4_lookerComes_22 {F : Nat} (hF : 73786976294838206464 ≤ F) {τ : Mem} : ∀ (N : Nat) (x3 : Int32) (σ : Mem), wiM σ → (∀ k, k < 101 → σ k = τ k) → σ 101 15 = τ 101 15 → σ 101 34 = τ 101 34 → σ 101 1 = τ 101 1 → σ 101 30 = τ 101 30 → σ 101 18 = τ 101 18 → 24 < x3.toInt + N → 0 ≤ x3.toInt → x3.toInt ≤ 24 → 0 ≤ (σ 101 3).toInt → (σ 101 3).toInt ≤ 4 → sf (lp_X4_lookerComes_22 F N x3 σ) (fun _ s => wiM s ∧ (∀ k, k < 101 → s k = τ k) ∧ s 101 15 = τ 101 15 ∧ s 101 34 = τ 101 34 ∧ s 101 1 = τ 101 1 ∧ s 101 30 = τ 101 30 ∧ s 101 18 = τ 101 18 ∧ True) := by
  intro N
  induction N with
  | zero => intro x3 σ hI Fσ Of15_σ Of34_σ Of1_σ Of30_σ Of18_σ hN x3_1 x3_2 mf0_1 mf0_2; exfalso; omega
  | succ N ih =>
    intro x3 σ hI Fσ Of15_σ Of34_σ Of1_σ Of30_σ Of18_σ hN x3_1 x3_2 mf0_1 mf0_2
    rw [lp_X4_lookerComes_22_s]
    refine sf_ite (fun c1 => ?_) (fun c1 => ?_)
    · have C1 : (24 : Int) ≤ x3.toInt := ti_le c1
      have m2 := wx_X4_3 hI
      have l_0 : (0 : Int32).toInt = 0 := rfl
      exact sl_X4_lookerComes_52 hF _ _ _ hI Fσ Of15_σ Of34_σ Of1_σ Of30_σ Of18_σ (by omega) (by decide) (by decide) (by omega) (by omega)
    have C1 : x3.toInt < (24 : Int) := ti_nle c1
    have m3 := wx_X4_3 hI
    have t4 : ((24 : Int32) * (σ 101 3)).toInt = (24 : Int) * (σ 101 3).toInt := ti_mul (show -2147483648 ≤ (24 : Int) * (σ 101 3).toInt by omega) (show (24 : Int) * (σ 101 3).toInt ≤ 2147483647 by omega)
    have t5 : (((24 : Int32) * (σ 101 3)) + x3).toInt = ((24 : Int32) * (σ 101 3)).toInt + x3.toInt := ti_add (show -2147483648 ≤ ((24 : Int32) * (σ 101 3)).toInt + x3.toInt by omega) (show ((24 : Int32) * (σ 101 3)).toInt + x3.toInt ≤ 2147483647 by omega)
    refine sf_chk (ti_in (by omega) (by omega)) ?_
    have v6 : Int32.toNatClampNeg (((24 : Int32) * (σ 101 3)) + x3) = (((24 : Int32) * (σ 101 3)) + x3).toInt.toNat := rfl
    refine sf_lt (fun s7 hs7 => ?_)
    have Is7 : wiM s7 := by rw [hs7]; exact wx_put_106 hI (by decide) (by decide)
    have Fs7 : ∀ k, k < 101 → s7 k = τ k := fun k hk => (show s7 k = σ k by rw [hs7, up2_k (by omega)]).trans (Fσ k hk)
    have Of15_s7 : s7 101 15 = τ 101 15 := (show s7 101 15 = σ 101 15 by rw [hs7, up2_k (by omega)]).trans Of15_σ
    have Of34_s7 : s7 101 34 = τ 101 34 := (show s7 101 34 = σ 101 34 by rw [hs7, up2_k (by omega)]).trans Of34_σ
    have Of1_s7 : s7 101 1 = τ 101 1 := (show s7 101 1 = σ 101 1 by rw [hs7, up2_k (by omega)]).trans Of1_σ
    have Of30_s7 : s7 101 30 = τ 101 30 := (show s7 101 30 = σ 101 30 by rw [hs7, up2_k (by omega)]).trans Of30_σ
    have Of18_s7 : s7 101 18 = τ 101 18 := (show s7 101 18 = σ 101 18 by rw [hs7, up2_k (by omega)]).trans Of18_σ
    have t8 : (x3 + (1 : Int32)).toInt = x3.toInt + (1 : Int) := ti_add (show -2147483648 ≤ x3.toInt + (1 : Int) by omega) (show x3.toInt + (1 : Int) ≤ 2147483647 by omega)
    have m9 := wx_X4_3 Is7
    have e10 : (s7 101 3).toInt = (σ 101 3).toInt := congrArg Int32.toInt (by rw [hs7, up2_k (by omega)])
    exact ih _ _ Is7 Fs7 Of15_s7 Of34_s7 Of1_s7 Of30_s7 Of18_s7 (by omega) (by omega) (by omega) (by omega) (by omega)
set_option maxHeartbeats 4000000 in
set_option maxRecDepth 100000 in
theorem s_X4_lookerComes {F : Nat} (hF : 73786976294838206464 ≤ F) {x1 : Int32} {x2 : Int32} {τ : Mem} (hI : wiM τ) (x1_1 : 0 ≤ x1.toInt) (x1_2 : x1.toInt ≤ 5) (x2_1 : 0 ≤ x2.toInt) (x2_2 : x2.toInt ≤ 999) (xp0 : (τ 101 3).toInt ≤ 4) : sf (f_X4_lookerComes F x1 x2 τ) (fun _ s => wiM s ∧ (∀ k, k < 101 → s k = τ k) ∧ s 101 15 = τ 101 15 ∧ s 101 34 = τ 101 34 ∧ s 101 1 = τ 101 1 ∧ s 101 30 = τ 101 30 ∧ s 101 18 = τ 101 18 ∧ True) := by
  have Fτ : ∀ k, k < 101 → τ k = τ k := fun _ _ => rfl
  have Of15_τ : τ 101 15 = τ 101 15 := rfl
  have Of34_τ : τ 101 34 = τ 101 34 := rfl
  have Of1_τ : τ 101 1 = τ 101 1 := rfl
  have Of30_τ : τ 101 30 = τ 101 30 := rfl
  have Of18_τ : τ 101 18 = τ 101 18 := rfl
  rw [f_X4_lookerComes_e]
  have m1 := wx_X4_3 hI
  refine sf_chk (ti_in (by omega) (by omega)) ?_
  have v2 : Int32.toNatClampNeg (τ 101 3) = (τ 101 3).toInt.toNat := rfl
  refine sf_lt (fun s3 hs3 => ?_)
  have Is3 : wiM s3 := by rw [hs3]; exact wm_oth hI (by decide) (by decide) (by decide) (by decide)
  have Fs3 : ∀ k, k < 101 → s3 k = τ k := fun k hk => (show s3 k = τ k by rw [hs3, up2_k (by omega)]).trans (Fτ k hk)
  have Of15_s3 : s3 101 15 = τ 101 15 := (show s3 101 15 = τ 101 15 by rw [hs3, up2_k (by omega)]).trans Of15_τ
  have Of34_s3 : s3 101 34 = τ 101 34 := (show s3 101 34 = τ 101 34 by rw [hs3, up2_k (by omega)]).trans Of34_τ
  have Of1_s3 : s3 101 1 = τ 101 1 := (show s3 101 1 = τ 101 1 by rw [hs3, up2_k (by omega)]).trans Of1_τ
  have Of30_s3 : s3 101 30 = τ 101 30 := (show s3 101 30 = τ 101 30 by rw [hs3, up2_k (by omega)]).trans Of30_τ
  have Of18_s3 : s3 101 18 = τ 101 18 := (show s3 101 18 = τ 101 18 by rw [hs3, up2_k (by omega)]).trans Of18_τ
  have m4 := wx_X4_3 Is3
  have e5 : (s3 101 3).toInt = (τ 101 3).toInt := congrArg Int32.toInt (by rw [hs3, up2_k (by omega)])
  refine sf_chk (ti_in (by omega) (by omega)) ?_
  have v6 : Int32.toNatClampNeg (s3 101 3) = (s3 101 3).toInt.toNat := rfl
  refine sf_lt (fun s7 hs7 => ?_)
  have Is7 : wiM s7 := by rw [hs7]; exact wm_oth Is3 (by decide) (by decide) (by decide) (by decide)
  have Fs7 : ∀ k, k < 101 → s7 k = τ k := fun k hk => (show s7 k = s3 k by rw [hs7, up2_k (by omega)]).trans (Fs3 k hk)
  have Of15_s7 : s7 101 15 = τ 101 15 := (show s7 101 15 = s3 101 15 by rw [hs7, up2_k (by omega)]).trans Of15_s3
  have Of34_s7 : s7 101 34 = τ 101 34 := (show s7 101 34 = s3 101 34 by rw [hs7, up2_k (by omega)]).trans Of34_s3
  have Of1_s7 : s7 101 1 = τ 101 1 := (show s7 101 1 = s3 101 1 by rw [hs7, up2_k (by omega)]).trans Of1_s3
  have Of30_s7 : s7 101 30 = τ 101 30 := (show s7 101 30 = s3 101 30 by rw [hs7, up2_k (by omega)]).trans Of30_s3
  have Of18_s7 : s7 101 18 = τ 101 18 := (show s7 101 18 = s3 101 18 by rw [hs7, up2_k (by omega)]).trans Of18_s3
  have m8 := wx_X4_3 Is7
  have e9 : (s7 101 3).toInt = (s3 101 3).toInt := congrArg Int32.toInt (by rw [hs7, up2_k (by omega)])
  have l_0 : (0 : Int32).toInt = 0 := rfl
  exact sl_X4_lookerComes_22 hF _ _ _ Is7 Fs7 Of15_s7 Of34_s7 Of1_s7 Of30_s7 Of18_s7 (by omega) (by decide) (by decide) (by omega) (by omega)
set_option maxHeartbeats 4000000 in
set_option maxRecDepth 100000 in
theorem sl_X4_stand_3 {F : Nat} (hF : 73786976294838206464 ≤ F) {x1 : Int32} {x3 : Int32} {x4 : Int32} {τ : Mem} (x1_1 : 0 ≤ x1.toInt) (x1_2 : x1.toInt ≤ 4) (x3_1 : 0 ≤ x3.toInt) (x3_2 : x3.toInt ≤ 23) : ∀ (N : Nat) (x5 : Int32) (σ : Mem), wiM σ → (∀ k, k < 101 → σ k = τ k) → σ 101 15 = τ 101 15 → σ 101 34 = τ 101 34 → σ 101 1 = τ 101 1 → σ 101 30 = τ 101 30 → σ 101 18 = τ 101 18 → 1000 < x5.toInt + N → 0 ≤ x5.toInt → x5.toInt ≤ 1000 → (x4.toInt = 9 ∨ (0 ≤ x4.toInt ∧ x4.toInt ≤ 5)) → sf (lp_X4_stand_3 F x1 x3 x4 N x5 σ) (fun _ s => wiM s ∧ (∀ k, k < 101 → s k = τ k) ∧ s 101 15 = τ 101 15 ∧ s 101 34 = τ 101 34 ∧ s 101 1 = τ 101 1 ∧ s 101 30 = τ 101 30 ∧ s 101 18 = τ 101 18 ∧ True) := by
  intro N
  induction N with
  | zero => intro x5 σ hI Fσ Of15_σ Of34_σ Of1_σ Of30_σ Of18_σ hN x5_1 x5_2 xl0; exfalso; omega
  | succ N ih =>
    intro x5 σ hI Fσ Of15_σ Of34_σ Of1_σ Of30_σ Of18_σ hN x5_1 x5_2 xl0
    rw [lp_X4_stand_3_s]
    refine sf_ite (fun c1 => ?_) (fun c1 => ?_)
    · have C1 : x3.toInt < x5.toInt := ti_lt c1
      exact sf_ret ⟨hI, Fσ, Of15_σ, Of34_σ, Of1_σ, Of30_σ, Of18_σ, trivial⟩
    have C1 : x5.toInt ≤ x3.toInt := ti_nlt c1
    have b2 := ti_lo x4
    have b3 := ti_hi x4
    refine sf_ite (fun c4 => ?_) (fun c4 => ?_)
    · have C4 : x4.toInt = (9 : Int) := ti_eq c4
      rw [j_X4_stand_34_e]
      have t5 : ((24 : Int32) * x1).toInt = (24 : Int) * x1.toInt := ti_mul (show -2147483648 ≤ (24 : Int) * x1.toInt by omega) (show (24 : Int) * x1.toInt ≤ 2147483647 by omega)
      have t6 : (((24 : Int32) * x1) + x5).toInt = ((24 : Int32) * x1).toInt + x5.toInt := ti_add (show -2147483648 ≤ ((24 : Int32) * x1).toInt + x5.toInt by omega) (show ((24 : Int32) * x1).toInt + x5.toInt ≤ 2147483647 by omega)
      refine sf_chk (ti_in (by omega) (by omega)) ?_
      have v7 : Int32.toNatClampNeg (((24 : Int32) * x1) + x5) = (((24 : Int32) * x1) + x5).toInt.toNat := rfl
      refine sf_lt (fun s8 hs8 => ?_)
      have Is8 : wiM s8 := by rw [hs8]; exact wx_put_106 hI (by decide) (by decide)
      have Fs8 : ∀ k, k < 101 → s8 k = τ k := fun k hk => (show s8 k = σ k by rw [hs8, up2_k (by omega)]).trans (Fσ k hk)
      have Of15_s8 : s8 101 15 = τ 101 15 := (show s8 101 15 = σ 101 15 by rw [hs8, up2_k (by omega)]).trans Of15_σ
      have Of34_s8 : s8 101 34 = τ 101 34 := (show s8 101 34 = σ 101 34 by rw [hs8, up2_k (by omega)]).trans Of34_σ
      have Of1_s8 : s8 101 1 = τ 101 1 := (show s8 101 1 = σ 101 1 by rw [hs8, up2_k (by omega)]).trans Of1_σ
      have Of30_s8 : s8 101 30 = τ 101 30 := (show s8 101 30 = σ 101 30 by rw [hs8, up2_k (by omega)]).trans Of30_σ
      have Of18_s8 : s8 101 18 = τ 101 18 := (show s8 101 18 = σ 101 18 by rw [hs8, up2_k (by omega)]).trans Of18_σ
      have t9 : (x5 + (1 : Int32)).toInt = x5.toInt + (1 : Int) := ti_add (show -2147483648 ≤ x5.toInt + (1 : Int) by omega) (show x5.toInt + (1 : Int) ≤ 2147483647 by omega)
      exact ih _ _ Is8 Fs8 Of15_s8 Of34_s8 Of1_s8 Of30_s8 Of18_s8 (by omega) (by omega) (by omega) (show x4.toInt = 9 ∨ (0 ≤ x4.toInt ∧ x4.toInt ≤ 5) from by omega)
    have C4 : ¬ x4.toInt = (9 : Int) := ti_ne c4
    rw [j_X4_stand_34_e]
    have t10 : ((24 : Int32) * x1).toInt = (24 : Int) * x1.toInt := ti_mul (show -2147483648 ≤ (24 : Int) * x1.toInt by omega) (show (24 : Int) * x1.toInt ≤ 2147483647 by omega)
    have t11 : (((24 : Int32) * x1) + x5).toInt = ((24 : Int32) * x1).toInt + x5.toInt := ti_add (show -2147483648 ≤ ((24 : Int32) * x1).toInt + x5.toInt by omega) (show ((24 : Int32) * x1).toInt + x5.toInt ≤ 2147483647 by omega)
    refine sf_chk (ti_in (by omega) (by omega)) ?_
    have v12 : Int32.toNatClampNeg (((24 : Int32) * x1) + x5) = (((24 : Int32) * x1) + x5).toInt.toNat := rfl
    refine sf_lt (fun s13 hs13 => ?_)
    have Is13 : wiM s13 := by rw [hs13]; exact wx_put_106 hI (by omega) (by omega)
    have Fs13 : ∀ k, k < 101 → s13 k = τ k := fun k hk => (show s13 k = σ k by rw [hs13, up2_k (by omega)]).trans (Fσ k hk)
    have Of15_s13 : s13 101 15 = τ 101 15 := (show s13 101 15 = σ 101 15 by rw [hs13, up2_k (by omega)]).trans Of15_σ
    have Of34_s13 : s13 101 34 = τ 101 34 := (show s13 101 34 = σ 101 34 by rw [hs13, up2_k (by omega)]).trans Of34_σ
    have Of1_s13 : s13 101 1 = τ 101 1 := (show s13 101 1 = σ 101 1 by rw [hs13, up2_k (by omega)]).trans Of1_σ
    have Of30_s13 : s13 101 30 = τ 101 30 := (show s13 101 30 = σ 101 30 by rw [hs13, up2_k (by omega)]).trans Of30_σ
    have Of18_s13 : s13 101 18 = τ 101 18 := (show s13 101 18 = σ 101 18 by rw [hs13, up2_k (by omega)]).trans Of18_σ
    have t14 : (x5 + (1 : Int32)).toInt = x5.toInt + (1 : Int) := ti_add (show -2147483648 ≤ x5.toInt + (1 : Int) by omega) (show x5.toInt + (1 : Int) ≤ 2147483647 by omega)
    exact ih _ _ Is13 Fs13 Of15_s13 Of34_s13 Of1_s13 Of30_s13 Of18_s13 (by omega) (by omega) (by omega) (show x4.toInt = 9 ∨ (0 ≤ x4.toInt ∧ x4.toInt ≤ 5) from by omega)
set_option maxHeartbeats 4000000 in
set_option maxRecDepth 100000 in
theorem s_X4_stand {F : Nat} (hF : 73786976294838206464 ≤ F) {x1 : Int32} {x2 : Int32} {x3 : Int32} {x4 : Int32} {τ : Mem} (hI : wiM τ) (x1_1 : 0 ≤ x1.toInt) (x1_2 : x1.toInt ≤ 4) (x2_1 : 0 ≤ x2.toInt) (x2_2 : x2.toInt ≤ 999) (x3_1 : 0 ≤ x3.toInt) (x3_2 : x3.toInt ≤ 23) (xp0 : x4.toInt = 9 ∨ (0 ≤ x4.toInt ∧ x4.toInt ≤ 5)) : sf (f_X4_stand F x1 x2 x3 x4 τ) (fun _ s => wiM s ∧ (∀ k, k < 101 → s k = τ k) ∧ s 101 15 = τ 101 15 ∧ s 101 34 = τ 101 34 ∧ s 101 1 = τ 101 1 ∧ s 101 30 = τ 101 30 ∧ s 101 18 = τ 101 18 ∧ True) := by
  have Fτ : ∀ k, k < 101 → τ k = τ k := fun _ _ => rfl
  have Of15_τ : τ 101 15 = τ 101 15 := rfl
  have Of34_τ : τ 101 34 = τ 101 34 := rfl
  have Of1_τ : τ 101 1 = τ 101 1 := rfl
  have Of30_τ : τ 101 30 = τ 101 30 := rfl
  have Of18_τ : τ 101 18 = τ 101 18 := rfl
  rw [f_X4_stand_e]
  have b1 := ti_lo x4
  have b2 := ti_hi x4
  exact sl_X4_stand_3 hF (by omega) (by omega) (by omega) (by omega) _ _ _ hI Fτ Of15_τ Of34_τ Of1_τ Of30_τ Of18_τ (by omega) (by omega) (by omega) (show x4.toInt = 9 ∨ (0 ≤ x4.toInt ∧ x4.toInt ≤ 5) from by omega)
set_option maxHeartbeats 4000000 in
set_option maxRecDepth 100000 in
theorem s_X4_comesTold {F : Nat} (hF : 73786976294838206464 ≤ F) {x1 : Int32} {τ : Mem} (hI : wiM τ) (x1_1 : 0 ≤ x1.toInt) (x1_2 : x1.toInt ≤ 47) : sf (f_X4_comesTold F x1 τ) (fun r s => wiM s ∧ (∀ k, k < 101 → s k = τ k) ∧ s 101 15 = τ 101 15 ∧ s 101 34 = τ 101 34 ∧ s 101 30 = τ 101 30 ∧ s 101 18 = τ 101 18 ∧ 0 ≤ r.toInt ∧ r.toInt ≤ 1) := by
  have Fτ : ∀ k, k < 101 → τ k = τ k := fun _ _ => rfl
  have Of15_τ : τ 101 15 = τ 101 15 := rfl
  have Of34_τ : τ 101 34 = τ 101 34 := rfl
  have Of1_τ : τ 101 1 = τ 101 1 := rfl
  have Of30_τ : τ 101 30 = τ 101 30 := rfl
  have Of18_τ : τ 101 18 = τ 101 18 := rfl
  rw [f_X4_comesTold_e]
  have t1 : ((4 : Int32) * x1).toInt = (4 : Int) * x1.toInt := ti_mul (show -2147483648 ≤ (4 : Int) * x1.toInt by omega) (show (4 : Int) * x1.toInt ≤ 2147483647 by omega)
  refine sf_chk (ti_in (by omega) (by omega)) ?_
  have v2 : Int32.toNatClampNeg ((4 : Int32) * x1) = ((4 : Int32) * x1).toInt.toNat := rfl
  have m4 := wx_114 hI (Int32.toNatClampNeg ((4 : Int32) * x1))
  refine sf_lt (fun z3 hz3 => ?_)
  have hz3_ : z3.toInt = (τ 114 (Int32.toNatClampNeg ((4 : Int32) * x1))).toInt := (show z3.toInt = (τ 114 (Int32.toNatClampNeg ((4 : Int32) * x1))).toInt from congrArg Int32.toInt hz3)
  have t5 : (((4 : Int32) * x1) + (1 : Int32)).toInt = ((4 : Int32) * x1).toInt + (1 : Int) := ti_add (show -2147483648 ≤ ((4 : Int32) * x1).toInt + (1 : Int) by omega) (show ((4 : Int32) * x1).toInt + (1 : Int) ≤ 2147483647 by omega)
  refine sf_chk (ti_in (by omega) (by omega)) ?_
  have v6 : Int32.toNatClampNeg (((4 : Int32) * x1) + (1 : Int32)) = (((4 : Int32) * x1) + (1 : Int32)).toInt.toNat := rfl
  have m8 := wx_114 hI (Int32.toNatClampNeg (((4 : Int32) * x1) + (1 : Int32)))
  refine sf_lt (fun z7 hz7 => ?_)
  have hz7_ : z7.toInt = (τ 114 (Int32.toNatClampNeg (((4 : Int32) * x1) + (1 : Int32)))).toInt := (show z7.toInt = (τ 114 (Int32.toNatClampNeg (((4 : Int32) * x1) + (1 : Int32)))).toInt from congrArg Int32.toInt hz7)
  have t9 : (((4 : Int32) * x1) + (2 : Int32)).toInt = ((4 : Int32) * x1).toInt + (2 : Int) := ti_add (show -2147483648 ≤ ((4 : Int32) * x1).toInt + (2 : Int) by omega) (show ((4 : Int32) * x1).toInt + (2 : Int) ≤ 2147483647 by omega)
  refine sf_chk (ti_in (by omega) (by omega)) ?_
  have v10 : Int32.toNatClampNeg (((4 : Int32) * x1) + (2 : Int32)) = (((4 : Int32) * x1) + (2 : Int32)).toInt.toNat := rfl
  have m12 := wx_114 hI (Int32.toNatClampNeg (((4 : Int32) * x1) + (2 : Int32)))
  refine sf_lt (fun z11 hz11 => ?_)
  have hz11_ : z11.toInt = (τ 114 (Int32.toNatClampNeg (((4 : Int32) * x1) + (2 : Int32)))).toInt := (show z11.toInt = (τ 114 (Int32.toNatClampNeg (((4 : Int32) * x1) + (2 : Int32)))).toInt from congrArg Int32.toInt hz11)
  have t13 : (((4 : Int32) * x1) + (3 : Int32)).toInt = ((4 : Int32) * x1).toInt + (3 : Int) := ti_add (show -2147483648 ≤ ((4 : Int32) * x1).toInt + (3 : Int) by omega) (show ((4 : Int32) * x1).toInt + (3 : Int) ≤ 2147483647 by omega)
  refine sf_chk (ti_in (by omega) (by omega)) ?_
  have v14 : Int32.toNatClampNeg (((4 : Int32) * x1) + (3 : Int32)) = (((4 : Int32) * x1) + (3 : Int32)).toInt.toNat := rfl
  have m16 := wx_114 hI (Int32.toNatClampNeg (((4 : Int32) * x1) + (3 : Int32)))
  refine sf_lt (fun z15 hz15 => ?_)
  have hz15_ : z15.toInt = (τ 114 (Int32.toNatClampNeg (((4 : Int32) * x1) + (3 : Int32)))).toInt := (show z15.toInt = (τ 114 (Int32.toNatClampNeg (((4 : Int32) * x1) + (3 : Int32)))).toInt from congrArg Int32.toInt hz15)
  refine sf_chk (ti_in (by omega) (by omega)) ?_
  have v17 : Int32.toNatClampNeg x1 = x1.toInt.toNat := rfl
  have b18 := ti_lo (τ 113 (Int32.toNatClampNeg x1))
  have b19 := ti_hi (τ 113 (Int32.toNatClampNeg x1))
  refine sf_ite (fun c20 => ?_) (fun c20 => ?_)
  · have C20 : (τ 113 (Int32.toNatClampNeg x1)).toInt = (108 : Int) := ti_eq c20
    refine sf_ite (fun c21 => ?_) (fun c21 => ?_)
    · have C21 : (6 : Int) ≤ z3.toInt := ti_le c21
      rw [j_X4_comesTold_185_e]
      rw [j_X4_comesTold_186_e]
      refine sf_ite (fun c22 => ?_) (fun c22 => ?_)
      · have C22 : (0 : Int) = (0 : Int) := ti_eq c22
        rw [j_X4_comesTold_199_e]
        refine sf_bz (by decide) ?_
        exact sf_ret ⟨hI, Fτ, Of15_τ, Of34_τ, Of30_τ, Of18_τ, by decide, by decide⟩
      have C22 : ¬ (0 : Int) = (0 : Int) := ti_ne c22
      exfalso; omega
    have C21 : z3.toInt < (6 : Int) := ti_nle c21
    have m23 := wx_X4_3 hI
    refine sf_ite (fun c24 => ?_) (fun c24 => ?_)
    · have C24 : (5 : Int) ≤ (τ 101 3).toInt := ti_le c24
      rw [j_X4_comesTold_185_e]
      rw [j_X4_comesTold_186_e]
      refine sf_ite (fun c25 => ?_) (fun c25 => ?_)
      · have C25 : (0 : Int) = (0 : Int) := ti_eq c25
        rw [j_X4_comesTold_199_e]
        refine sf_bz (by decide) ?_
        exact sf_ret ⟨hI, Fτ, Of15_τ, Of34_τ, Of30_τ, Of18_τ, by decide, by decide⟩
      have C25 : ¬ (0 : Int) = (0 : Int) := ti_ne c25
      exfalso; omega
    have C24 : (τ 101 3).toInt < (5 : Int) := ti_nle c24
    rw [j_X4_comesTold_186_e]
    refine sf_ite (fun c26 => ?_) (fun c26 => ?_)
    · have C26 : (1 : Int) = (0 : Int) := ti_eq c26
      exfalso; omega
    have C26 : ¬ (1 : Int) = (0 : Int) := ti_ne c26
    refine sf_bnd (s_X4_lookerComes hF hI (by omega) (by omega) (by omega) (by omega) (by first | omega | decide)) (fun r27 u28 p29 => ?_)
    obtain ⟨Iu28, Fu28_, Of15_u28_, Of34_u28_, Of1_u28_, Of30_u28_, Of18_u28_, -⟩ := p29
    have Fu28 : ∀ k, k < 101 → u28 k = τ k := fun k hk => (Fu28_ k hk).trans (Fτ k hk)
    have Of15_u28 : u28 101 15 = τ 101 15 := Of15_u28_.trans Of15_τ
    have Of34_u28 : u28 101 34 = τ 101 34 := Of34_u28_.trans Of34_τ
    have Of1_u28 : u28 101 1 = τ 101 1 := Of1_u28_.trans Of1_τ
    have Of30_u28 : u28 101 30 = τ 101 30 := Of30_u28_.trans Of30_τ
    have Of18_u28 : u28 101 18 = τ 101 18 := Of18_u28_.trans Of18_τ
    rw [j_X4_comesTold_199_e]
    refine sf_bz (by decide) ?_
    exact sf_ret ⟨Iu28, Fu28, Of15_u28, Of34_u28, Of30_u28, Of18_u28, by decide, by decide⟩
  have C20 : ¬ (τ 113 (Int32.toNatClampNeg x1)).toInt = (108 : Int) := ti_ne c20
  refine sf_ite (fun c30 => ?_) (fun c30 => ?_)
  · have C30 : (τ 113 (Int32.toNatClampNeg x1)).toInt = (112 : Int) := ti_eq c30
    refine sf_ite (fun c31 => ?_) (fun c31 => ?_)
    · have C31 : (255 : Int) < z3.toInt := ti_lt c31
      rw [j_X4_comesTold_136_e]
      rw [j_X4_comesTold_137_e]
      refine sf_ite (fun c32 => ?_) (fun c32 => ?_)
      · have C32 : (0 : Int) = (0 : Int) := ti_eq c32
        rw [j_X4_comesTold_164_e]
        refine sf_bz (by decide) ?_
        exact sf_ret ⟨hI, Fτ, Of15_τ, Of34_τ, Of30_τ, Of18_τ, by decide, by decide⟩
      have C32 : ¬ (0 : Int) = (0 : Int) := ti_ne c32
      exfalso; omega
    have C31 : z3.toInt ≤ (255 : Int) := ti_nlt c31
    have m33 := wx_X4_1 hI
    refine sf_ite (fun c34 => ?_) (fun c34 => ?_)
    · have C34 : (6 : Int) ≤ (τ 101 1).toInt := ti_le c34
      rw [j_X4_comesTold_136_e]
      rw [j_X4_comesTold_137_e]
      refine sf_ite (fun c35 => ?_) (fun c35 => ?_)
      · have C35 : (0 : Int) = (0 : Int) := ti_eq c35
        rw [j_X4_comesTold_164_e]
        refine sf_bz (by decide) ?_
        exact sf_ret ⟨hI, Fτ, Of15_τ, Of34_τ, Of30_τ, Of18_τ, by decide, by decide⟩
      have C35 : ¬ (0 : Int) = (0 : Int) := ti_ne c35
      exfalso; omega
    have C34 : (τ 101 1).toInt < (6 : Int) := ti_nle c34
    rw [j_X4_comesTold_137_e]
    refine sf_ite (fun c36 => ?_) (fun c36 => ?_)
    · have C36 : (1 : Int) = (0 : Int) := ti_eq c36
      exfalso; omega
    have C36 : ¬ (1 : Int) = (0 : Int) := ti_ne c36
    refine sf_chk (ti_in (by omega) (by omega)) ?_
    have v37 : Int32.toNatClampNeg (τ 101 1) = (τ 101 1).toInt.toNat := rfl
    refine sf_lt (fun s38 hs38 => ?_)
    have Is38 : wiM s38 := by rw [hs38]; exact wm_oth hI (by decide) (by decide) (by decide) (by decide)
    have Fs38 : ∀ k, k < 101 → s38 k = τ k := fun k hk => (show s38 k = τ k by rw [hs38, up2_k (by omega)]).trans (Fτ k hk)
    have Of15_s38 : s38 101 15 = τ 101 15 := (show s38 101 15 = τ 101 15 by rw [hs38, up2_k (by omega)]).trans Of15_τ
    have Of34_s38 : s38 101 34 = τ 101 34 := (show s38 101 34 = τ 101 34 by rw [hs38, up2_k (by omega)]).trans Of34_τ
    have Of1_s38 : s38 101 1 = τ 101 1 := (show s38 101 1 = τ 101 1 by rw [hs38, up2_k (by omega)]).trans Of1_τ
    have Of30_s38 : s38 101 30 = τ 101 30 := (show s38 101 30 = τ 101 30 by rw [hs38, up2_k (by omega)]).trans Of30_τ
    have Of18_s38 : s38 101 18 = τ 101 18 := (show s38 101 18 = τ 101 18 by rw [hs38, up2_k (by omega)]).trans Of18_τ
    refine sf_lt (fun s39 hs39 => ?_)
    have m40 := wx_X4_1 Is38
    have e41 : (s38 101 1).toInt = (τ 101 1).toInt := congrArg Int32.toInt (by rw [hs38, up2_k (by omega)])
    have t42 : ((s38 101 1) + (1 : Int32)).toInt = (s38 101 1).toInt + (1 : Int) := ti_add (show -2147483648 ≤ (s38 101 1).toInt + (1 : Int) by omega) (show (s38 101 1).toInt + (1 : Int) ≤ 2147483647 by omega)
    have Is39 : wiM s39 := by rw [hs39]; exact wx_put_X4_1 Is38 (by omega) (by omega)
    have Fs39 : ∀ k, k < 101 → s39 k = τ k := fun k hk => (show s39 k = s38 k by rw [hs39, up2_k (by omega)]).trans (Fs38 k hk)
    have Of15_s39 : s39 101 15 = τ 101 15 := (show s39 101 15 = s38 101 15 by rw [hs39, up2_i (by decide)]).trans Of15_s38
    have Of34_s39 : s39 101 34 = τ 101 34 := (show s39 101 34 = s38 101 34 by rw [hs39, up2_i (by decide)]).trans Of34_s38
    have Of30_s39 : s39 101 30 = τ 101 30 := (show s39 101 30 = s38 101 30 by rw [hs39, up2_i (by decide)]).trans Of30_s38
    have Of18_s39 : s39 101 18 = τ 101 18 := (show s39 101 18 = s38 101 18 by rw [hs39, up2_i (by decide)]).trans Of18_s38
    rw [j_X4_comesTold_164_e]
    refine sf_bz (by decide) ?_
    exact sf_ret ⟨Is39, Fs39, Of15_s39, Of34_s39, Of30_s39, Of18_s39, by decide, by decide⟩
  have C30 : ¬ (τ 113 (Int32.toNatClampNeg x1)).toInt = (112 : Int) := ti_ne c30
  refine sf_ite (fun c43 => ?_) (fun c43 => ?_)
  · have C43 : (τ 113 (Int32.toNatClampNeg x1)).toInt = (115 : Int) := ti_eq c43
    refine sf_bnd (s_X4_isLooker hF hI) (fun r44 u45 p46 => ?_)
    obtain ⟨e9, p46⟩ := p46
    have e9 := e9.symm
    subst e9
    rcases p46 with ⟨rfl, q47, q48⟩ | p46
    · refine sf_ite (fun c49 => ?_) (fun c49 => ?_)
      · have C49 : (1 : Int) = (0 : Int) := ti_eq c49
        exfalso; omega
      have C49 : ¬ (1 : Int) = (0 : Int) := ti_ne c49
      refine sf_ite (fun c50 => ?_) (fun c50 => ?_)
      · have C50 : z11.toInt < z7.toInt := ti_lt c50
        rw [j_X4_comesTold_243_e]
        rw [j_X4_comesTold_244_e]
        refine sf_ite (fun c51 => ?_) (fun c51 => ?_)
        · have C51 : (0 : Int) = (0 : Int) := ti_eq c51
          rw [j_X4_comesTold_261_e]
          refine sf_bz (by decide) ?_
          exact sf_ret ⟨hI, Fτ, Of15_τ, Of34_τ, Of30_τ, Of18_τ, by decide, by decide⟩
        have C51 : ¬ (0 : Int) = (0 : Int) := ti_ne c51
        exfalso; omega
      have C50 : z7.toInt ≤ z11.toInt := ti_nlt c50
      refine sf_ite (fun c52 => ?_) (fun c52 => ?_)
      · have C52 : (24 : Int) ≤ z11.toInt := ti_le c52
        rw [j_X4_comesTold_243_e]
        rw [j_X4_comesTold_244_e]
        refine sf_ite (fun c53 => ?_) (fun c53 => ?_)
        · have C53 : (0 : Int) = (0 : Int) := ti_eq c53
          rw [j_X4_comesTold_261_e]
          refine sf_bz (by decide) ?_
          exact sf_ret ⟨hI, Fτ, Of15_τ, Of34_τ, Of30_τ, Of18_τ, by decide, by decide⟩
        have C53 : ¬ (0 : Int) = (0 : Int) := ti_ne c53
        exfalso; omega
      have C52 : z11.toInt < (24 : Int) := ti_nle c52
      refine sf_ite (fun c54 => ?_) (fun c54 => ?_)
      · have C54 : z15.toInt = (9 : Int) := ti_eq c54
        rw [j_X4_comesTold_239_e]
        rw [j_X4_comesTold_244_e]
        refine sf_ite (fun c55 => ?_) (fun c55 => ?_)
        · have C55 : (1 : Int) = (0 : Int) := ti_eq c55
          exfalso; omega
        have C55 : ¬ (1 : Int) = (0 : Int) := ti_ne c55
        refine sf_bnd (s_X4_stand hF hI (by omega) (by omega) (by omega) (by omega) (by omega) (by omega) (by first | omega | decide)) (fun r56 u57 p58 => ?_)
        obtain ⟨Iu57, Fu57_, Of15_u57_, Of34_u57_, Of1_u57_, Of30_u57_, Of18_u57_, -⟩ := p58
        have Fu57 : ∀ k, k < 101 → u57 k = τ k := fun k hk => (Fu57_ k hk).trans (Fτ k hk)
        have Of15_u57 : u57 101 15 = τ 101 15 := Of15_u57_.trans Of15_τ
        have Of34_u57 : u57 101 34 = τ 101 34 := Of34_u57_.trans Of34_τ
        have Of1_u57 : u57 101 1 = τ 101 1 := Of1_u57_.trans Of1_τ
        have Of30_u57 : u57 101 30 = τ 101 30 := Of30_u57_.trans Of30_τ
        have Of18_u57 : u57 101 18 = τ 101 18 := Of18_u57_.trans Of18_τ
        rw [j_X4_comesTold_261_e]
        refine sf_bz (by decide) ?_
        exact sf_ret ⟨Iu57, Fu57, Of15_u57, Of34_u57, Of30_u57, Of18_u57, by decide, by decide⟩
      have C54 : ¬ z15.toInt = (9 : Int) := ti_ne c54
      refine sf_bnd (s_X4_isPane hF hI) (fun r59 u60 p61 => ?_)
      obtain ⟨e9, p61⟩ := p61
      have e9 := e9.symm
      subst e9
      rcases p61 with ⟨rfl, q62, q63⟩ | p61
      · refine sf_ite (fun c64 => ?_) (fun c64 => ?_)
        · have C64 : (1 : Int) = (0 : Int) := ti_eq c64
          exfalso; omega
        have C64 : ¬ (1 : Int) = (0 : Int) := ti_ne c64
        rw [j_X4_comesTold_239_e]
        rw [j_X4_comesTold_244_e]
        refine sf_ite (fun c65 => ?_) (fun c65 => ?_)
        · have C65 : (1 : Int) = (0 : Int) := ti_eq c65
          exfalso; omega
        have C65 : ¬ (1 : Int) = (0 : Int) := ti_ne c65
        refine sf_bnd (s_X4_stand hF hI (by omega) (by omega) (by omega) (by omega) (by omega) (by omega) (by first | omega | decide)) (fun r66 u67 p68 => ?_)
        obtain ⟨Iu67, Fu67_, Of15_u67_, Of34_u67_, Of1_u67_, Of30_u67_, Of18_u67_, -⟩ := p68
        have Fu67 : ∀ k, k < 101 → u67 k = τ k := fun k hk => (Fu67_ k hk).trans (Fτ k hk)
        have Of15_u67 : u67 101 15 = τ 101 15 := Of15_u67_.trans Of15_τ
        have Of34_u67 : u67 101 34 = τ 101 34 := Of34_u67_.trans Of34_τ
        have Of1_u67 : u67 101 1 = τ 101 1 := Of1_u67_.trans Of1_τ
        have Of30_u67 : u67 101 30 = τ 101 30 := Of30_u67_.trans Of30_τ
        have Of18_u67 : u67 101 18 = τ 101 18 := Of18_u67_.trans Of18_τ
        rw [j_X4_comesTold_261_e]
        refine sf_bz (by decide) ?_
        exact sf_ret ⟨Iu67, Fu67, Of15_u67, Of34_u67, Of30_u67, Of18_u67, by decide, by decide⟩
      obtain rfl := p61
      refine sf_ite (fun c69 => ?_) (fun c69 => ?_)
      · have C69 : (0 : Int) = (0 : Int) := ti_eq c69
        rw [j_X4_comesTold_243_e]
        rw [j_X4_comesTold_244_e]
        refine sf_ite (fun c70 => ?_) (fun c70 => ?_)
        · have C70 : (0 : Int) = (0 : Int) := ti_eq c70
          rw [j_X4_comesTold_261_e]
          refine sf_bz (by decide) ?_
          exact sf_ret ⟨hI, Fτ, Of15_τ, Of34_τ, Of30_τ, Of18_τ, by decide, by decide⟩
        have C70 : ¬ (0 : Int) = (0 : Int) := ti_ne c70
        exfalso; omega
      have C69 : ¬ (0 : Int) = (0 : Int) := ti_ne c69
      exfalso; omega
    obtain rfl := p46
    refine sf_ite (fun c71 => ?_) (fun c71 => ?_)
    · have C71 : (0 : Int) = (0 : Int) := ti_eq c71
      rw [j_X4_comesTold_243_e]
      rw [j_X4_comesTold_244_e]
      refine sf_ite (fun c72 => ?_) (fun c72 => ?_)
      · have C72 : (0 : Int) = (0 : Int) := ti_eq c72
        rw [j_X4_comesTold_261_e]
        refine sf_bz (by decide) ?_
        exact sf_ret ⟨hI, Fτ, Of15_τ, Of34_τ, Of30_τ, Of18_τ, by decide, by decide⟩
      have C72 : ¬ (0 : Int) = (0 : Int) := ti_ne c72
      exfalso; omega
    have C71 : ¬ (0 : Int) = (0 : Int) := ti_ne c71
    exfalso; omega
  have C43 : ¬ (τ 113 (Int32.toNatClampNeg x1)).toInt = (115 : Int) := ti_ne c43
  refine sf_ite (fun c73 => ?_) (fun c73 => ?_)
  · have C73 : (τ 113 (Int32.toNatClampNeg x1)).toInt = (117 : Int) := ti_eq c73
    refine sf_lt (fun s74 hs74 => ?_)
    have Is74 : wiM s74 := by rw [hs74]; exact wm_fld hI (by decide) (by decide) (by decide) (by decide) (by decide) (by decide) (by decide)
    have Fs74 : ∀ k, k < 101 → s74 k = τ k := fun k hk => (show s74 k = τ k by rw [hs74, up2_k (by omega)]).trans (Fτ k hk)
    have Of15_s74 : s74 101 15 = τ 101 15 := (show s74 101 15 = τ 101 15 by rw [hs74, up2_i (by decide)]).trans Of15_τ
    have Of34_s74 : s74 101 34 = τ 101 34 := (show s74 101 34 = τ 101 34 by rw [hs74, up2_i (by decide)]).trans Of34_τ
    have Of1_s74 : s74 101 1 = τ 101 1 := (show s74 101 1 = τ 101 1 by rw [hs74, up2_i (by decide)]).trans Of1_τ
    have Of30_s74 : s74 101 30 = τ 101 30 := (show s74 101 30 = τ 101 30 by rw [hs74, up2_i (by decide)]).trans Of30_τ
    have Of18_s74 : s74 101 18 = τ 101 18 := (show s74 101 18 = τ 101 18 by rw [hs74, up2_i (by decide)]).trans Of18_τ
    refine sf_ite (fun c75 => ?_) (fun c75 => ?_)
    · have C75 : (3 : Int) ≤ z3.toInt := ti_le c75
      exact sf_ret ⟨Is74, Fs74, Of15_s74, Of34_s74, Of30_s74, Of18_s74, by decide, by decide⟩
    have C75 : z3.toInt < (3 : Int) := ti_nle c75
    exact sf_ret ⟨Is74, Fs74, Of15_s74, Of34_s74, Of30_s74, Of18_s74, by decide, by decide⟩
  have C73 : ¬ (τ 113 (Int32.toNatClampNeg x1)).toInt = (117 : Int) := ti_ne c73
  refine sf_ite (fun c76 => ?_) (fun c76 => ?_)
  · have C76 : (τ 113 (Int32.toNatClampNeg x1)).toInt = (118 : Int) := ti_eq c76
    refine sf_ite (fun c77 => ?_) (fun c77 => ?_)
    · have C77 : (8 : Int) ≤ z3.toInt := ti_le c77
      rw [j_X4_comesTold_275_e]
      refine sf_ite (fun c78 => ?_) (fun c78 => ?_)
      · have C78 : (0 : Int) = (0 : Int) := ti_eq c78
        rw [j_X4_comesTold_289_e]
        refine sf_bz (by decide) ?_
        exact sf_ret ⟨hI, Fτ, Of15_τ, Of34_τ, Of30_τ, Of18_τ, by decide, by decide⟩
      have C78 : ¬ (0 : Int) = (0 : Int) := ti_ne c78
      exfalso; omega
    have C77 : z3.toInt < (8 : Int) := ti_nle c77
    rw [j_X4_comesTold_275_e]
    refine sf_ite (fun c79 => ?_) (fun c79 => ?_)
    · have C79 : (1 : Int) = (0 : Int) := ti_eq c79
      exfalso; omega
    have C79 : ¬ (1 : Int) = (0 : Int) := ti_ne c79
    refine sf_chk (ti_in (by omega) (by omega)) ?_
    have v80 : Int32.toNatClampNeg z3 = z3.toInt.toNat := rfl
    refine sf_lt (fun s81 hs81 => ?_)
    have Is81 : wiM s81 := by rw [hs81]; exact wm_oth hI (by decide) (by decide) (by decide) (by decide)
    have Fs81 : ∀ k, k < 101 → s81 k = τ k := fun k hk => (show s81 k = τ k by rw [hs81, up2_k (by omega)]).trans (Fτ k hk)
    have Of15_s81 : s81 101 15 = τ 101 15 := (show s81 101 15 = τ 101 15 by rw [hs81, up2_k (by omega)]).trans Of15_τ
    have Of34_s81 : s81 101 34 = τ 101 34 := (show s81 101 34 = τ 101 34 by rw [hs81, up2_k (by omega)]).trans Of34_τ
    have Of1_s81 : s81 101 1 = τ 101 1 := (show s81 101 1 = τ 101 1 by rw [hs81, up2_k (by omega)]).trans Of1_τ
    have Of30_s81 : s81 101 30 = τ 101 30 := (show s81 101 30 = τ 101 30 by rw [hs81, up2_k (by omega)]).trans Of30_τ
    have Of18_s81 : s81 101 18 = τ 101 18 := (show s81 101 18 = τ 101 18 by rw [hs81, up2_k (by omega)]).trans Of18_τ
    rw [j_X4_comesTold_289_e]
    refine sf_bz (by decide) ?_
    exact sf_ret ⟨Is81, Fs81, Of15_s81, Of34_s81, Of30_s81, Of18_s81, by decide, by decide⟩
  have C76 : ¬ (τ 113 (Int32.toNatClampNeg x1)).toInt = (118 : Int) := ti_ne c76
  refine sf_ite (fun c82 => ?_) (fun c82 => ?_)
  · have C82 : (τ 113 (Int32.toNatClampNeg x1)).toInt = (119 : Int) := ti_eq c82
    refine sf_bnd (s_X4_isPane hF hI) (fun r83 u84 p85 => ?_)
    obtain ⟨e9, p85⟩ := p85
    have e9 := e9.symm
    subst e9
    rcases p85 with ⟨rfl, q86, q87⟩ | p85
    · refine sf_ite (fun c88 => ?_) (fun c88 => ?_)
      · have C88 : (1 : Int) = (0 : Int) := ti_eq c88
        exfalso; omega
      have C88 : ¬ (1 : Int) = (0 : Int) := ti_ne c88
      refine sf_ite (fun c89 => ?_) (fun c89 => ?_)
      · have C89 : (8 : Int) ≤ z7.toInt := ti_le c89
        rw [j_X4_comesTold_310_e]
        rw [j_X4_comesTold_311_e]
        refine sf_ite (fun c90 => ?_) (fun c90 => ?_)
        · have C90 : (0 : Int) = (0 : Int) := ti_eq c90
          rw [j_X4_comesTold_330_e]
          refine sf_bz (by decide) ?_
          exact sf_ret ⟨hI, Fτ, Of15_τ, Of34_τ, Of30_τ, Of18_τ, by decide, by decide⟩
        have C90 : ¬ (0 : Int) = (0 : Int) := ti_ne c90
        exfalso; omega
      have C89 : z7.toInt < (8 : Int) := ti_nle c89
      rw [j_X4_comesTold_311_e]
      refine sf_ite (fun c91 => ?_) (fun c91 => ?_)
      · have C91 : (1 : Int) = (0 : Int) := ti_eq c91
        exfalso; omega
      have C91 : ¬ (1 : Int) = (0 : Int) := ti_ne c91
      refine sf_chk (ti_in (by omega) (by omega)) ?_
      have v92 : Int32.toNatClampNeg z3 = z3.toInt.toNat := rfl
      refine sf_lt (fun s93 hs93 => ?_)
      have Is93 : wiM s93 := by rw [hs93]; exact wm_oth hI (by decide) (by decide) (by decide) (by decide)
      have Fs93 : ∀ k, k < 101 → s93 k = τ k := fun k hk => (show s93 k = τ k by rw [hs93, up2_k (by omega)]).trans (Fτ k hk)
      have Of15_s93 : s93 101 15 = τ 101 15 := (show s93 101 15 = τ 101 15 by rw [hs93, up2_k (by omega)]).trans Of15_τ
      have Of34_s93 : s93 101 34 = τ 101 34 := (show s93 101 34 = τ 101 34 by rw [hs93, up2_k (by omega)]).trans Of34_τ
      have Of1_s93 : s93 101 1 = τ 101 1 := (show s93 101 1 = τ 101 1 by rw [hs93, up2_k (by omega)]).trans Of1_τ
      have Of30_s93 : s93 101 30 = τ 101 30 := (show s93 101 30 = τ 101 30 by rw [hs93, up2_k (by omega)]).trans Of30_τ
      have Of18_s93 : s93 101 18 = τ 101 18 := (show s93 101 18 = τ 101 18 by rw [hs93, up2_k (by omega)]).trans Of18_τ
      rw [j_X4_comesTold_330_e]
      refine sf_bz (by decide) ?_
      exact sf_ret ⟨Is93, Fs93, Of15_s93, Of34_s93, Of30_s93, Of18_s93, by decide, by decide⟩
    obtain rfl := p85
    refine sf_ite (fun c94 => ?_) (fun c94 => ?_)
    · have C94 : (0 : Int) = (0 : Int) := ti_eq c94
      rw [j_X4_comesTold_310_e]
      rw [j_X4_comesTold_311_e]
      refine sf_ite (fun c95 => ?_) (fun c95 => ?_)
      · have C95 : (0 : Int) = (0 : Int) := ti_eq c95
        rw [j_X4_comesTold_330_e]
        refine sf_bz (by decide) ?_
        exact sf_ret ⟨hI, Fτ, Of15_τ, Of34_τ, Of30_τ, Of18_τ, by decide, by decide⟩
      have C95 : ¬ (0 : Int) = (0 : Int) := ti_ne c95
      exfalso; omega
    have C94 : ¬ (0 : Int) = (0 : Int) := ti_ne c94
    exfalso; omega
  have C82 : ¬ (τ 113 (Int32.toNatClampNeg x1)).toInt = (119 : Int) := ti_ne c82
  refine sf_in ?_
  rw [f_X4_in_e]
  have b96 := ti_lo (lg_cmp (Int32.toInt64 z3) (1 : Int64))
  have b97 := ti_hi (lg_cmp (Int32.toInt64 z3) (1 : Int64))
  refine sf_ite (fun c98 => ?_) (fun c98 => ?_)
  · have C98 : (lg_cmp (Int32.toInt64 z3) (1 : Int64)).toInt < (0 : Int) := ti_lt c98
    have L98 : z3.toInt < (1 : Int) := by have q := lg_ltl c98; (repeat (rw [Int32.toInt_toInt64] at q)); exact q
    rw [j_X4_in_17_e]
    refine sf_ret ?_
    refine sf_ite (fun c99 => ?_) (fun c99 => ?_)
    · have C99 : (0 : Int) = (0 : Int) := ti_eq c99
      rw [j_X4_comesTold_377_e]
      rw [j_X4_comesTold_378_e]
      refine sf_ite (fun c100 => ?_) (fun c100 => ?_)
      · have C100 : (0 : Int) = (0 : Int) := ti_eq c100
        rw [j_X4_comesTold_390_e]
        refine sf_bz (by decide) ?_
        exact sf_ret ⟨hI, Fτ, Of15_τ, Of34_τ, Of30_τ, Of18_τ, by decide, by decide⟩
      have C100 : ¬ (0 : Int) = (0 : Int) := ti_ne c100
      exfalso; omega
    have C99 : ¬ (0 : Int) = (0 : Int) := ti_ne c99
    exfalso; omega
  have C98 : (0 : Int) ≤ (lg_cmp (Int32.toInt64 z3) (1 : Int64)).toInt := ti_nlt c98
  have L98 : (1 : Int) ≤ z3.toInt := by have q := lg_ltln c98; (repeat (rw [Int32.toInt_toInt64] at q)); exact q
  have b101 := ti_lo (lg_cmp (Int32.toInt64 z3) (60 : Int64))
  have b102 := ti_hi (lg_cmp (Int32.toInt64 z3) (60 : Int64))
  refine sf_ite (fun c103 => ?_) (fun c103 => ?_)
  · have C103 : (0 : Int) < (lg_cmp (Int32.toInt64 z3) (60 : Int64)).toInt := ti_lt c103
    have L103 : (60 : Int) < z3.toInt := by have q := lg_ltr c103; (repeat (rw [Int32.toInt_toInt64] at q)); exact q
    rw [j_X4_in_17_e]
    refine sf_ret ?_
    refine sf_ite (fun c104 => ?_) (fun c104 => ?_)
    · have C104 : (0 : Int) = (0 : Int) := ti_eq c104
      rw [j_X4_comesTold_377_e]
      rw [j_X4_comesTold_378_e]
      refine sf_ite (fun c105 => ?_) (fun c105 => ?_)
      · have C105 : (0 : Int) = (0 : Int) := ti_eq c105
        rw [j_X4_comesTold_390_e]
        refine sf_bz (by decide) ?_
        exact sf_ret ⟨hI, Fτ, Of15_τ, Of34_τ, Of30_τ, Of18_τ, by decide, by decide⟩
      have C105 : ¬ (0 : Int) = (0 : Int) := ti_ne c105
      exfalso; omega
    have C104 : ¬ (0 : Int) = (0 : Int) := ti_ne c104
    exfalso; omega
  have C103 : (lg_cmp (Int32.toInt64 z3) (60 : Int64)).toInt ≤ (0 : Int) := ti_nlt c103
  have L103 : z3.toInt ≤ (60 : Int) := by have q := lg_ltrn c103; (repeat (rw [Int32.toInt_toInt64] at q)); exact q
  refine sf_ret ?_
  refine sf_ite (fun c106 => ?_) (fun c106 => ?_)
  · have C106 : (1 : Int) = (0 : Int) := ti_eq c106
    exfalso; omega
  have C106 : ¬ (1 : Int) = (0 : Int) := ti_ne c106
  have b107 := ti_lo (τ 101 9)
  have b108 := ti_hi (τ 101 9)
  have b109 := ti_lo ((τ 101 9) + z3)
  have b110 := ti_hi ((τ 101 9) + z3)
  refine sf_ite (fun c111 => ?_) (fun c111 => ?_)
  · have C111 : (9999 : Int) < ((τ 101 9) + z3).toInt := ti_lt c111
    rw [j_X4_comesTold_377_e]
    rw [j_X4_comesTold_378_e]
    refine sf_ite (fun c112 => ?_) (fun c112 => ?_)
    · have C112 : (0 : Int) = (0 : Int) := ti_eq c112
      rw [j_X4_comesTold_390_e]
      refine sf_bz (by decide) ?_
      exact sf_ret ⟨hI, Fτ, Of15_τ, Of34_τ, Of30_τ, Of18_τ, by decide, by decide⟩
    have C112 : ¬ (0 : Int) = (0 : Int) := ti_ne c112
    exfalso; omega
  have C111 : ((τ 101 9) + z3).toInt ≤ (9999 : Int) := ti_nlt c111
  rw [j_X4_comesTold_378_e]
  refine sf_ite (fun c113 => ?_) (fun c113 => ?_)
  · have C113 : (1 : Int) = (0 : Int) := ti_eq c113
    exfalso; omega
  have C113 : ¬ (1 : Int) = (0 : Int) := ti_ne c113
  refine sf_bnd (s_X4_goDays hF hI (by omega) (by omega)) (fun r114 u115 p116 => ?_)
  obtain ⟨Iu115, Fu115_, Of15_u115_, Of34_u115_, Of1_u115_, Of30_u115_, Of18_u115_, -⟩ := p116
  have Fu115 : ∀ k, k < 101 → u115 k = τ k := fun k hk => (Fu115_ k hk).trans (Fτ k hk)
  have Of15_u115 : u115 101 15 = τ 101 15 := Of15_u115_.trans Of15_τ
  have Of34_u115 : u115 101 34 = τ 101 34 := Of34_u115_.trans Of34_τ
  have Of1_u115 : u115 101 1 = τ 101 1 := Of1_u115_.trans Of1_τ
  have Of30_u115 : u115 101 30 = τ 101 30 := Of30_u115_.trans Of30_τ
  have Of18_u115 : u115 101 18 = τ 101 18 := Of18_u115_.trans Of18_τ
  rw [j_X4_comesTold_390_e]
  refine sf_bz (by decide) ?_
  exact sf_ret ⟨Iu115, Fu115, Of15_u115, Of34_u115, Of30_u115, Of18_u115, by decide, by decide⟩
set_option maxHeartbeats 4000000 in
set_option maxRecDepth 100000 in
theorem s_X4_carryAll {F : Nat} (hF : 73786976294838206464 ≤ F) {a : Nat} {x2 : Int32} {τ : Mem} (ha : wiK a) (hI : wiM τ) (x2_1 : 0 ≤ x2.toInt) (x2_2 : x2.toInt ≤ 1) : sf (f_X4_carryAll F a x2 τ) (fun _ s => wiM s ∧ (∀ k, k < 101 → s k = τ k) ∧ s 101 15 = τ 101 15 ∧ s 101 34 = τ 101 34 ∧ s 101 30 = τ 101 30 ∧ s 101 18 = τ 101 18 ∧ True ∧ (¬ x2.toInt = 0 → ((s 101 1).toInt = (τ 101 1).toInt ∧ (s 101 3).toInt = (τ 101 3).toInt))) := by
  have hk := ha
  unfold wiK at hk
  refine sf_mono (wt_carryAll (by omega) (wi_bool x2_1 x2_2) ha) (fun _ s hC => ⟨wt_Car_wiM ha hI hC, fun k h => wt_Car_reg hC (by omega) (Or.inl h), wt_Car_fld ha hC (by omega) (by omega), wt_Car_fld ha hC (by omega) (by omega), wt_Car_fld ha hC (by omega) (by omega), wt_Car_fld ha hC (by omega) (by omega), trivial, fun h => ?_⟩)
  have hx : ¬ x2 = 0 := fun q => h (by rw [q]; rfl)
  exact ⟨congrArg Int32.toInt (wt_Car_took ha hx hC (fun q => by have := q.2; omega) (by omega)), congrArg Int32.toInt (wt_Car_took ha hx hC (fun q => by have := q.2; omega) (by omega))⟩
set_option maxHeartbeats 4000000 in
set_option maxRecDepth 100000 in
theorem s_X4_think {F : Nat} (hF : 73786976294838206464 ≤ F) {τ : Mem} (hI : wiM τ) : sf (f_X4_think F τ) (fun _ s => wiM s ∧ (∀ k, k < 101 → s k = τ k) ∧ s 101 15 = τ 101 15 ∧ s 101 34 = τ 101 34 ∧ s 101 30 = τ 101 30 ∧ s 101 18 = τ 101 18 ∧ True ∧ ((s 101 1).toInt = (τ 101 1).toInt ∧ (s 101 3).toInt = (τ 101 3).toInt)) := by
  have Fτ : ∀ k, k < 101 → τ k = τ k := fun _ _ => rfl
  have Of15_τ : τ 101 15 = τ 101 15 := rfl
  have Of34_τ : τ 101 34 = τ 101 34 := rfl
  have Of1_τ : τ 101 1 = τ 101 1 := rfl
  have Of30_τ : τ 101 30 = τ 101 30 := rfl
  have Of18_τ : τ 101 18 = τ 101 18 := rfl
  rw [f_X4_think_e]
  have m1 := wx_X4_1 hI
  have m2 := wx_X4_3 hI
  refine sf_bnd (s_X4_carryAll hF (by unfold wiK; omega) hI (by decide) (by decide)) (fun r3 u4 p5 => ?_)
  obtain ⟨Iu4, Fu4_, Of15_u4_, Of34_u4_, Of30_u4_, Of18_u4_, -, p5_x0⟩ := p5
  have Fu4 : ∀ k, k < 101 → u4 k = τ k := fun k hk => (Fu4_ k hk).trans (Fτ k hk)
  have Of15_u4 : u4 101 15 = τ 101 15 := Of15_u4_.trans Of15_τ
  have Of34_u4 : u4 101 34 = τ 101 34 := Of34_u4_.trans Of34_τ
  have Of30_u4 : u4 101 30 = τ 101 30 := Of30_u4_.trans Of30_τ
  have Of18_u4 : u4 101 18 = τ 101 18 := Of18_u4_.trans Of18_τ
  replace p5_x0 : ¬ (1 : Int) = 0 → ((u4 101 1).toInt = (τ 101 1).toInt ∧ (u4 101 3).toInt = (τ 101 3).toInt) := p5_x0
  have m6 := wx_X4_1 Iu4
  have m7 := wx_X4_3 Iu4
  exact sf_ret ⟨Iu4, Fu4, Of15_u4, Of34_u4, Of30_u4, Of18_u4, trivial, (show (u4 101 1).toInt = (τ 101 1).toInt ∧ (u4 101 3).toInt = (τ 101 3).toInt from by omega)⟩
set_option maxHeartbeats 4000000 in
set_option maxRecDepth 100000 in
theorem s_X4_again {F : Nat} (hF : 73786976294838206464 ≤ F) {τ : Mem} (hI : wiM τ) : sf (f_X4_again F τ) (fun _ s => wiM s ∧ (∀ k, k < 101 → s k = τ k) ∧ s 101 15 = τ 101 15 ∧ s 101 34 = τ 101 34 ∧ s 101 30 = τ 101 30 ∧ s 101 18 = τ 101 18 ∧ True) := by
  have Fτ : ∀ k, k < 101 → τ k = τ k := fun _ _ => rfl
  have Of15_τ : τ 101 15 = τ 101 15 := rfl
  have Of34_τ : τ 101 34 = τ 101 34 := rfl
  have Of1_τ : τ 101 1 = τ 101 1 := rfl
  have Of30_τ : τ 101 30 = τ 101 30 := rfl
  have Of18_τ : τ 101 18 = τ 101 18 := rfl
  rw [f_X4_again_e]
  have m1 := wx_X4_1 hI
  have m2 := wx_X4_3 hI
  refine sf_bnd (s_X4_carryAll hF (by unfold wiK; omega) hI (by decide) (by decide)) (fun r3 u4 p5 => ?_)
  obtain ⟨Iu4, Fu4_, Of15_u4_, Of34_u4_, Of30_u4_, Of18_u4_, -, p5_x0⟩ := p5
  have Fu4 : ∀ k, k < 101 → u4 k = τ k := fun k hk => (Fu4_ k hk).trans (Fτ k hk)
  have Of15_u4 : u4 101 15 = τ 101 15 := Of15_u4_.trans Of15_τ
  have Of34_u4 : u4 101 34 = τ 101 34 := Of34_u4_.trans Of34_τ
  have Of30_u4 : u4 101 30 = τ 101 30 := Of30_u4_.trans Of30_τ
  have Of18_u4 : u4 101 18 = τ 101 18 := Of18_u4_.trans Of18_τ
  replace p5_x0 : ¬ (0 : Int) = 0 → ((u4 101 1).toInt = (τ 101 1).toInt ∧ (u4 101 3).toInt = (τ 101 3).toInt) := p5_x0
  have m6 := wx_X4_1 Iu4
  have m7 := wx_X4_3 Iu4
  exact sf_ret ⟨Iu4, Fu4, Of15_u4, Of34_u4, Of30_u4, Of18_u4, trivial⟩
set_option maxHeartbeats 4000000 in
set_option maxRecDepth 100000 in
theorem sl_X4_terrace_79 {F : Nat} (hF : 73786976294838206464 ≤ F) {τ : Mem} : ∀ (N : Nat) (x1 : Int32) (σ : Mem), wiM σ → (∀ k, k < 101 → σ k = τ k) → σ 101 34 = τ 101 34 → 48 < x1.toInt + N → 0 ≤ x1.toInt → x1.toInt ≤ 48 → ((σ 101 15).toInt = 0) → sf (lp_X4_terrace_79 F N x1 σ) (fun r s => wiM s ∧ (∀ k, k < 101 → s k = τ k) ∧ s 101 34 = τ 101 34 ∧ -2147483648 ≤ r.toInt ∧ r.toInt ≤ 2147483647 ∧ ((s 101 15).toInt = 0)) := by
  intro N
  induction N with
  | zero => intro x1 σ hI Fσ Of34_σ hN x1_1 x1_2 xl0; exfalso; omega
  | succ N ih =>
    intro x1 σ hI Fσ Of34_σ hN x1_1 x1_2 xl0
    rw [lp_X4_terrace_79_s]
    have m1 := wx_X4_18 hI
    refine sf_ite (fun c2 => ?_) (fun c2 => ?_)
    · have C2 : (σ 101 18).toInt ≤ x1.toInt := ti_le c2
      refine sf_lt (fun s3 hs3 => ?_)
      have Is3 : wiM s3 := by rw [hs3]; exact wx_put_X4_30 hI (by decide) (by decide)
      have Fs3 : ∀ k, k < 101 → s3 k = τ k := fun k hk => (show s3 k = σ k by rw [hs3, up2_k (by omega)]).trans (Fσ k hk)
      have Of34_s3 : s3 101 34 = τ 101 34 := (show s3 101 34 = σ 101 34 by rw [hs3, up2_i (by decide)]).trans Of34_σ
      have m4 := wx_X4_18 Is3
      have e5 : (s3 101 18).toInt = (σ 101 18).toInt := congrArg Int32.toInt (by rw [hs3, up2_i (by decide)])
      have m6 := wx_X4_15 Is3
      have m7 := wx_X4_15 hI
      have e8 : (s3 101 15).toInt = (σ 101 15).toInt := congrArg Int32.toInt (by rw [hs3, up2_i (by decide)])
      have b9 := ti_lo (τ 101 15)
      have b10 := ti_hi (τ 101 15)
      exact sf_ret ⟨Is3, Fs3, Of34_s3, ti_lo _, ti_hi _, (show (s3 101 15).toInt = 0 from by omega)⟩
    have C2 : x1.toInt < (σ 101 18).toInt := ti_nle c2
    refine sf_bnd (s_X4_comesTold hF hI (by omega) (by omega)) (fun r11 u12 p13 => ?_)
    obtain ⟨Iu12, Fu12_, Of15_u12_, Of34_u12_, Of30_u12_, Of18_u12_, p13_1, p13_2⟩ := p13
    have Fu12 : ∀ k, k < 101 → u12 k = τ k := fun k hk => (Fu12_ k hk).trans (Fσ k hk)
    have Of34_u12 : u12 101 34 = τ 101 34 := Of34_u12_.trans Of34_σ
    have hb_r11 : r11 = 0 ∨ r11 = 1 := wi_bool p13_1 p13_2
    refine sf_ite (fun c14 => ?_) (fun c14 => ?_)
    · have C14 : r11.toInt = (0 : Int) := ti_eq c14
      refine sf_bnd (s_X4_again hF Iu12) (fun r15 u16 p17 => ?_)
      obtain ⟨Iu16, Fu16_, Of15_u16_, Of34_u16_, Of30_u16_, Of18_u16_, -⟩ := p17
      have Fu16 : ∀ k, k < 101 → u16 k = τ k := fun k hk => (Fu16_ k hk).trans (Fu12 k hk)
      have Of34_u16 : u16 101 34 = τ 101 34 := Of34_u16_.trans Of34_u12
      refine sf_chk (ti_in (by omega) (by omega)) ?_
      have v18 : Int32.toNatClampNeg x1 = x1.toInt.toNat := rfl
      have b19 := ti_lo (u16 112 (Int32.toNatClampNeg x1))
      have b20 := ti_hi (u16 112 (Int32.toNatClampNeg x1))
      have b21 := ti_lo ((-2000 : Int32) - (u16 112 (Int32.toNatClampNeg x1)))
      have b22 := ti_hi ((-2000 : Int32) - (u16 112 (Int32.toNatClampNeg x1)))
      have m23 := wx_X4_15 Iu16
      have m24 := wx_X4_15 Iu12
      have m25 := wx_X4_15 hI
      have e26 : (u12 101 15).toInt = (σ 101 15).toInt := congrArg Int32.toInt Of15_u12_
      have e27 : (u16 101 15).toInt = (u12 101 15).toInt := congrArg Int32.toInt Of15_u16_
      have b28 := ti_lo (τ 101 15)
      have b29 := ti_hi (τ 101 15)
      exact sf_ret ⟨Iu16, Fu16, Of34_u16, ti_lo _, ti_hi _, (show (u16 101 15).toInt = 0 from by omega)⟩
    have C14 : ¬ r11.toInt = (0 : Int) := ti_ne c14
    have t30 : (x1 + (1 : Int32)).toInt = x1.toInt + (1 : Int) := ti_add (show -2147483648 ≤ x1.toInt + (1 : Int) by omega) (show x1.toInt + (1 : Int) ≤ 2147483647 by omega)
    have m31 := wx_X4_15 Iu12
    have m32 := wx_X4_15 hI
    have e33 : (u12 101 15).toInt = (σ 101 15).toInt := congrArg Int32.toInt Of15_u12_
    have b34 := ti_lo (τ 101 15)
    have b35 := ti_hi (τ 101 15)
    exact ih _ _ Iu12 Fu12 Of34_u12 (by omega) (by omega) (by omega) (show (u12 101 15).toInt = 0 from by omega)
set_option maxHeartbeats 4000000 in
set_option maxRecDepth 100000 in
theorem sl_X4_terrace_20 {F : Nat} (hF : 73786976294838206464 ≤ F) {τ : Mem} : ∀ (N : Nat) (σ : Mem), wiM σ → (∀ k, k < 101 → σ k = τ k) → σ 101 34 = τ 101 34 → 48 < (σ 101 18).toInt + N → ((σ 101 18).toInt ≤ 32) → ((σ 101 17).toInt = 0 → 3 * (σ 101 18).toInt ≤ (σ 101 16).toInt) → sf (lp_X4_terrace_20 F N σ) (fun r s => wiM s ∧ (∀ k, k < 101 → s k = τ k) ∧ s 101 34 = τ 101 34 ∧ -2147483648 ≤ r.toInt ∧ r.toInt ≤ 2147483647 ∧ ((s 101 15).toInt = 0)) := by
  intro N
  induction N with
  | zero => intro σ hI Fσ Of34_σ hN xl0 xl1; exfalso; omega
  | succ N ih =>
    intro σ hI Fσ Of34_σ hN xl0 xl1
    rw [lp_X4_terrace_20_s]
    have b1 := ti_lo (σ 101 17)
    have b2 := ti_hi (σ 101 17)
    refine sf_ite (fun c3 => ?_) (fun c3 => ?_)
    · have C3 : (σ 101 17).toInt = (0 : Int) := ti_eq c3
      have m4 := wx_X4_18 hI
      refine sf_ite (fun c5 => ?_) (fun c5 => ?_)
      · have C5 : (σ 101 18).toInt = (0 : Int) := ti_eq c5
        rw [j_X4_terrace_45_e]
        have m6 := wx_X4_16 hI
        refine sf_bnd (s_X4_readStatement hF hI (by first | omega | decide)) (fun r7 u8 p9 => ?_)
        obtain ⟨Iu8, Fu8_, Of15_u8_, Of34_u8_, Of1_u8_, Of30_u8_, -, p9_x0, p9_x1⟩ := p9
        have Fu8 : ∀ k, k < 101 → u8 k = τ k := fun k hk => (Fu8_ k hk).trans (Fσ k hk)
        have Of34_u8 : u8 101 34 = τ 101 34 := Of34_u8_.trans Of34_σ
        replace p9_x0 : (u8 101 18).toInt = (σ 101 18).toInt + 1 := p9_x0
        replace p9_x1 : (u8 101 17).toInt = 0 → (σ 101 16).toInt + 3 ≤ (u8 101 16).toInt := p9_x1
        have m10 := wx_X4_18 Iu8
        have b11 := ti_lo (u8 101 17)
        have b12 := ti_hi (u8 101 17)
        have m13 := wx_X4_16 Iu8
        have b14 := ti_lo (τ 101 18)
        have b15 := ti_hi (τ 101 18)
        have b16 := ti_lo (τ 101 17)
        have b17 := ti_hi (τ 101 17)
        have b18 := ti_lo (τ 101 16)
        have b19 := ti_hi (τ 101 16)
        exact ih _ Iu8 Fu8 Of34_u8 (by omega) (show (u8 101 18).toInt ≤ 32 from by omega) (show (u8 101 17).toInt = 0 → 3 * (u8 101 18).toInt ≤ (u8 101 16).toInt from by omega)
      have C5 : ¬ (σ 101 18).toInt = (0 : Int) := ti_ne c5
      have m20 := wx_X4_15 hI
      have m21 := wx_X4_16 hI
      refine sf_ite (fun c22 => ?_) (fun c22 => ?_)
      · have C22 : (σ 101 15).toInt ≤ (σ 101 16).toInt := ti_le c22
        rw [j_X4_terrace_52_e]
        refine sf_lt (fun s23 hs23 => ?_)
        have Is23 : wiM s23 := by rw [hs23]; exact wx_put_X4_15 hI (by decide) (by decide)
        have Fs23 : ∀ k, k < 101 → s23 k = τ k := fun k hk => (show s23 k = σ k by rw [hs23, up2_k (by omega)]).trans (Fσ k hk)
        have Of34_s23 : s23 101 34 = τ 101 34 := (show s23 101 34 = σ 101 34 by rw [hs23, up2_i (by decide)]).trans Of34_σ
        have e24 : (s23 101 17).toInt = (σ 101 17).toInt := congrArg Int32.toInt (by rw [hs23, up2_i (by decide)])
        refine sf_ite (fun c25 => ?_) (fun c25 => ?_)
        · have C25 : (s23 101 17).toInt = (0 : Int) := ti_eq c25
          have m26 := wx_X4_1 Is23
          have m27 := wx_X4_1 hI
          have e28 : (s23 101 1).toInt = (σ 101 1).toInt := congrArg Int32.toInt (by rw [hs23, up2_i (by decide)])
          have m29 := wx_X4_3 Is23
          have m30 := wx_X4_3 hI
          have e31 : (s23 101 3).toInt = (σ 101 3).toInt := congrArg Int32.toInt (by rw [hs23, up2_i (by decide)])
          refine sf_bnd (s_X4_think hF Is23) (fun r32 u33 p34 => ?_)
          obtain ⟨Iu33, Fu33_, Of15_u33_, Of34_u33_, Of30_u33_, Of18_u33_, -, p34_x0⟩ := p34
          have Fu33 : ∀ k, k < 101 → u33 k = τ k := fun k hk => (Fu33_ k hk).trans (Fs23 k hk)
          have Of34_u33 : u33 101 34 = τ 101 34 := Of34_u33_.trans Of34_s23
          replace p34_x0 : (u33 101 1).toInt = (s23 101 1).toInt ∧ (u33 101 3).toInt = (s23 101 3).toInt := p34_x0
          have m35 := wx_X4_1 Iu33
          have m36 := wx_X4_3 Iu33
          have m37 := wx_X4_15 Iu33
          have m38 := wx_X4_15 Is23
          have e39 : (s23 101 15).toInt = (0 : Int) := (show (s23 101 15).toInt = (0 : Int32).toInt from congrArg Int32.toInt (by rw [hs23, up2_s]))
          have e40 : (u33 101 15).toInt = (s23 101 15).toInt := congrArg Int32.toInt Of15_u33_
          have b41 := ti_lo (τ 101 15)
          have b42 := ti_hi (τ 101 15)
          have l_0 : (0 : Int32).toInt = 0 := rfl
          exact sl_X4_terrace_79 hF _ _ _ Iu33 Fu33 Of34_u33 (by omega) (by decide) (by decide) (show (u33 101 15).toInt = 0 from by omega)
        have C25 : ¬ (s23 101 17).toInt = (0 : Int) := ti_ne c25
        exfalso; omega
      have C22 : (σ 101 16).toInt < (σ 101 15).toInt := ti_nle c22
      rw [j_X4_terrace_45_e]
      refine sf_bnd (s_X4_readStatement hF hI (by first | omega | decide)) (fun r43 u44 p45 => ?_)
      obtain ⟨Iu44, Fu44_, Of15_u44_, Of34_u44_, Of1_u44_, Of30_u44_, -, p45_x0, p45_x1⟩ := p45
      have Fu44 : ∀ k, k < 101 → u44 k = τ k := fun k hk => (Fu44_ k hk).trans (Fσ k hk)
      have Of34_u44 : u44 101 34 = τ 101 34 := Of34_u44_.trans Of34_σ
      replace p45_x0 : (u44 101 18).toInt = (σ 101 18).toInt + 1 := p45_x0
      replace p45_x1 : (u44 101 17).toInt = 0 → (σ 101 16).toInt + 3 ≤ (u44 101 16).toInt := p45_x1
      have m46 := wx_X4_18 Iu44
      have b47 := ti_lo (u44 101 17)
      have b48 := ti_hi (u44 101 17)
      have m49 := wx_X4_16 Iu44
      have b50 := ti_lo (τ 101 18)
      have b51 := ti_hi (τ 101 18)
      have b52 := ti_lo (τ 101 17)
      have b53 := ti_hi (τ 101 17)
      have b54 := ti_lo (τ 101 16)
      have b55 := ti_hi (τ 101 16)
      exact ih _ Iu44 Fu44 Of34_u44 (by omega) (show (u44 101 18).toInt ≤ 32 from by omega) (show (u44 101 17).toInt = 0 → 3 * (u44 101 18).toInt ≤ (u44 101 16).toInt from by omega)
    have C3 : ¬ (σ 101 17).toInt = (0 : Int) := ti_ne c3
    rw [j_X4_terrace_52_e]
    refine sf_lt (fun s56 hs56 => ?_)
    have Is56 : wiM s56 := by rw [hs56]; exact wx_put_X4_15 hI (by decide) (by decide)
    have Fs56 : ∀ k, k < 101 → s56 k = τ k := fun k hk => (show s56 k = σ k by rw [hs56, up2_k (by omega)]).trans (Fσ k hk)
    have Of34_s56 : s56 101 34 = τ 101 34 := (show s56 101 34 = σ 101 34 by rw [hs56, up2_i (by decide)]).trans Of34_σ
    have e57 : (s56 101 17).toInt = (σ 101 17).toInt := congrArg Int32.toInt (by rw [hs56, up2_i (by decide)])
    have b58 := ti_lo (s56 101 17)
    have b59 := ti_hi (s56 101 17)
    refine sf_ite (fun c60 => ?_) (fun c60 => ?_)
    · have C60 : (s56 101 17).toInt = (0 : Int) := ti_eq c60
      have m61 := wx_X4_1 Is56
      have m62 := wx_X4_1 hI
      have e63 : (s56 101 1).toInt = (σ 101 1).toInt := congrArg Int32.toInt (by rw [hs56, up2_i (by decide)])
      have m64 := wx_X4_3 Is56
      have m65 := wx_X4_3 hI
      have e66 : (s56 101 3).toInt = (σ 101 3).toInt := congrArg Int32.toInt (by rw [hs56, up2_i (by decide)])
      refine sf_bnd (s_X4_think hF Is56) (fun r67 u68 p69 => ?_)
      obtain ⟨Iu68, Fu68_, Of15_u68_, Of34_u68_, Of30_u68_, Of18_u68_, -, p69_x0⟩ := p69
      have Fu68 : ∀ k, k < 101 → u68 k = τ k := fun k hk => (Fu68_ k hk).trans (Fs56 k hk)
      have Of34_u68 : u68 101 34 = τ 101 34 := Of34_u68_.trans Of34_s56
      replace p69_x0 : (u68 101 1).toInt = (s56 101 1).toInt ∧ (u68 101 3).toInt = (s56 101 3).toInt := p69_x0
      have m70 := wx_X4_1 Iu68
      have m71 := wx_X4_3 Iu68
      have m72 := wx_X4_15 Iu68
      have m73 := wx_X4_15 Is56
      have e74 : (s56 101 15).toInt = (0 : Int) := (show (s56 101 15).toInt = (0 : Int32).toInt from congrArg Int32.toInt (by rw [hs56, up2_s]))
      have e75 : (u68 101 15).toInt = (s56 101 15).toInt := congrArg Int32.toInt Of15_u68_
      have b76 := ti_lo (τ 101 15)
      have b77 := ti_hi (τ 101 15)
      have l_0 : (0 : Int32).toInt = 0 := rfl
      exact sl_X4_terrace_79 hF _ _ _ Iu68 Fu68 Of34_u68 (by omega) (by decide) (by decide) (show (u68 101 15).toInt = 0 from by omega)
    have C60 : ¬ (s56 101 17).toInt = (0 : Int) := ti_ne c60
    have m78 := wx_X4_16 Is56
    have m79 := wx_X4_16 hI
    have e80 : (s56 101 16).toInt = (σ 101 16).toInt := congrArg Int32.toInt (by rw [hs56, up2_i (by decide)])
    have t81 : ((-1000 : Int32) - (s56 101 16)).toInt = (-1000 : Int) - (s56 101 16).toInt := ti_sub (show -2147483648 ≤ (-1000 : Int) - (s56 101 16).toInt by omega) (show (-1000 : Int) - (s56 101 16).toInt ≤ 2147483647 by omega)
    have m82 := wx_X4_15 Is56
    have e83 : (s56 101 15).toInt = (0 : Int) := (show (s56 101 15).toInt = (0 : Int32).toInt from congrArg Int32.toInt (by rw [hs56, up2_s]))
    have b84 := ti_lo (τ 101 15)
    have b85 := ti_hi (τ 101 15)
    exact sf_ret ⟨Is56, Fs56, Of34_s56, ti_lo _, ti_hi _, (show (s56 101 15).toInt = 0 from by omega)⟩
set_option maxHeartbeats 4000000 in
set_option maxRecDepth 100000 in
theorem s_X4_terrace {F : Nat} (hF : 73786976294838206464 ≤ F) {τ : Mem} (hI : wiM τ) : sf (f_X4_terrace F τ) (fun r s => wiM s ∧ (∀ k, k < 101 → s k = τ k) ∧ s 101 34 = τ 101 34 ∧ -2147483648 ≤ r.toInt ∧ r.toInt ≤ 2147483647 ∧ ((s 101 15).toInt = 0)) := by
  have Fτ : ∀ k, k < 101 → τ k = τ k := fun _ _ => rfl
  have Of15_τ : τ 101 15 = τ 101 15 := rfl
  have Of34_τ : τ 101 34 = τ 101 34 := rfl
  have Of1_τ : τ 101 1 = τ 101 1 := rfl
  have Of30_τ : τ 101 30 = τ 101 30 := rfl
  have Of18_τ : τ 101 18 = τ 101 18 := rfl
  rw [f_X4_terrace_e]
  refine sf_lt (fun s1 hs1 => ?_)
  have Is1 : wiM s1 := by rw [hs1]; exact wm_fld hI (by decide) (by decide) (by decide) (by decide) (by decide) (by decide) (by decide)
  have Fs1 : ∀ k, k < 101 → s1 k = τ k := fun k hk => (show s1 k = τ k by rw [hs1, up2_k (by omega)]).trans (Fτ k hk)
  have Of15_s1 : s1 101 15 = τ 101 15 := (show s1 101 15 = τ 101 15 by rw [hs1, up2_i (by decide)]).trans Of15_τ
  have Of34_s1 : s1 101 34 = τ 101 34 := (show s1 101 34 = τ 101 34 by rw [hs1, up2_i (by decide)]).trans Of34_τ
  have Of1_s1 : s1 101 1 = τ 101 1 := (show s1 101 1 = τ 101 1 by rw [hs1, up2_i (by decide)]).trans Of1_τ
  have Of30_s1 : s1 101 30 = τ 101 30 := (show s1 101 30 = τ 101 30 by rw [hs1, up2_i (by decide)]).trans Of30_τ
  have Of18_s1 : s1 101 18 = τ 101 18 := (show s1 101 18 = τ 101 18 by rw [hs1, up2_i (by decide)]).trans Of18_τ
  refine sf_lt (fun s2 hs2 => ?_)
  have Is2 : wiM s2 := by rw [hs2]; exact wx_put_X4_16 Is1 (by decide) (by decide)
  have Fs2 : ∀ k, k < 101 → s2 k = τ k := fun k hk => (show s2 k = s1 k by rw [hs2, up2_k (by omega)]).trans (Fs1 k hk)
  have Of15_s2 : s2 101 15 = τ 101 15 := (show s2 101 15 = s1 101 15 by rw [hs2, up2_i (by decide)]).trans Of15_s1
  have Of34_s2 : s2 101 34 = τ 101 34 := (show s2 101 34 = s1 101 34 by rw [hs2, up2_i (by decide)]).trans Of34_s1
  have Of1_s2 : s2 101 1 = τ 101 1 := (show s2 101 1 = s1 101 1 by rw [hs2, up2_i (by decide)]).trans Of1_s1
  have Of30_s2 : s2 101 30 = τ 101 30 := (show s2 101 30 = s1 101 30 by rw [hs2, up2_i (by decide)]).trans Of30_s1
  have Of18_s2 : s2 101 18 = τ 101 18 := (show s2 101 18 = s1 101 18 by rw [hs2, up2_i (by decide)]).trans Of18_s1
  refine sf_lt (fun s3 hs3 => ?_)
  have Is3 : wiM s3 := by rw [hs3]; exact wm_fld Is2 (by decide) (by decide) (by decide) (by decide) (by decide) (by decide) (by decide)
  have Fs3 : ∀ k, k < 101 → s3 k = τ k := fun k hk => (show s3 k = s2 k by rw [hs3, up2_k (by omega)]).trans (Fs2 k hk)
  have Of15_s3 : s3 101 15 = τ 101 15 := (show s3 101 15 = s2 101 15 by rw [hs3, up2_i (by decide)]).trans Of15_s2
  have Of34_s3 : s3 101 34 = τ 101 34 := (show s3 101 34 = s2 101 34 by rw [hs3, up2_i (by decide)]).trans Of34_s2
  have Of1_s3 : s3 101 1 = τ 101 1 := (show s3 101 1 = s2 101 1 by rw [hs3, up2_i (by decide)]).trans Of1_s2
  have Of30_s3 : s3 101 30 = τ 101 30 := (show s3 101 30 = s2 101 30 by rw [hs3, up2_i (by decide)]).trans Of30_s2
  have Of18_s3 : s3 101 18 = τ 101 18 := (show s3 101 18 = s2 101 18 by rw [hs3, up2_i (by decide)]).trans Of18_s2
  refine sf_lt (fun s4 hs4 => ?_)
  have Is4 : wiM s4 := by rw [hs4]; exact wx_put_X4_18 Is3 (by decide) (by decide)
  have Fs4 : ∀ k, k < 101 → s4 k = τ k := fun k hk => (show s4 k = s3 k by rw [hs4, up2_k (by omega)]).trans (Fs3 k hk)
  have Of15_s4 : s4 101 15 = τ 101 15 := (show s4 101 15 = s3 101 15 by rw [hs4, up2_i (by decide)]).trans Of15_s3
  have Of34_s4 : s4 101 34 = τ 101 34 := (show s4 101 34 = s3 101 34 by rw [hs4, up2_i (by decide)]).trans Of34_s3
  have Of1_s4 : s4 101 1 = τ 101 1 := (show s4 101 1 = s3 101 1 by rw [hs4, up2_i (by decide)]).trans Of1_s3
  have Of30_s4 : s4 101 30 = τ 101 30 := (show s4 101 30 = s3 101 30 by rw [hs4, up2_i (by decide)]).trans Of30_s3
  have m5 := wx_X4_18 Is4
  have e6 : (s4 101 18).toInt = (0 : Int) := (show (s4 101 18).toInt = (0 : Int32).toInt from congrArg Int32.toInt (by rw [hs4, up2_s]))
  have m7 := wx_X4_18 hI
  have e8 : (s3 101 17).toInt = (0 : Int) := (show (s3 101 17).toInt = (0 : Int32).toInt from congrArg Int32.toInt (by rw [hs3, up2_s]))
  have e9 : (s4 101 17).toInt = (s3 101 17).toInt := congrArg Int32.toInt (by rw [hs4, up2_i (by decide)])
  have m10 := wx_X4_16 Is4
  have m11 := wx_X4_16 Is3
  have m12 := wx_X4_16 Is2
  have e13 : (s2 101 16).toInt = (0 : Int) := (show (s2 101 16).toInt = (0 : Int32).toInt from congrArg Int32.toInt (by rw [hs2, up2_s]))
  have e14 : (s3 101 16).toInt = (s2 101 16).toInt := congrArg Int32.toInt (by rw [hs3, up2_i (by decide)])
  have e15 : (s4 101 16).toInt = (s3 101 16).toInt := congrArg Int32.toInt (by rw [hs4, up2_i (by decide)])
  have b16 := ti_lo (τ 101 17)
  have b17 := ti_hi (τ 101 17)
  have m18 := wx_X4_16 hI
  exact sl_X4_terrace_20 hF _ _ Is4 Fs4 Of34_s4 (by omega) (show (s4 101 18).toInt ≤ 32 from by omega) (show (s4 101 17).toInt = 0 → 3 * (s4 101 18).toInt ≤ (s4 101 16).toInt from by omega)
