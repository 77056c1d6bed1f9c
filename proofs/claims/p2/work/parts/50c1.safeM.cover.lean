theorem ti_m1 {x : Int32} (h : -2147483648 < x.toInt) : (x + (-1 : Int32)).toInt = x.toInt - 1 := by
  have e : (-1 : Int32).toInt = -1 := rfl
  have h2 := ti_hi x
  rw [ti_add (by rw [e]; omega) (by rw [e]; omega), e]
  omega
set_option maxHeartbeats 4000000 in
set_option maxRecDepth 100000 in
theorem sl_X4_cover_31 {F : Nat} (hF : 73786976294838206464 ≤ F) {x1 : Int32} {x2 : Int32} {x3 : Int32} {k21 : Int32 → Int32 → Mem → Option (Int32 × Mem)} {τ : Mem} (x2_1 : 0 ≤ x2.toInt) (x2_2 : x2.toInt ≤ 63) (x3_1 : 0 ≤ x3.toInt) (x3_2 : x3.toInt ≤ 63) {N21 : Nat} (hM21 : x3.toInt + 1 < (N21 + 1)) (hk21 : ∀ (x2 : Int32) (x3 : Int32) (σ : Mem), wiM σ → (∀ k, k < 101 → σ k = τ k) → σ 101 15 = τ 101 15 → σ 101 34 = τ 101 34 → σ 101 1 = τ 101 1 → σ 101 30 = τ 101 30 → σ 101 18 = τ 101 18 → x3.toInt + 1 < N21 → 0 ≤ x2.toInt → x2.toInt ≤ 63 → -1 ≤ x3.toInt → x3.toInt ≤ 63 → sf (k21 x2 x3 σ) (fun r s => wiM s ∧ (∀ k, k < 101 → s k = τ k) ∧ s 101 15 = τ 101 15 ∧ s 101 34 = τ 101 34 ∧ s 101 1 = τ 101 1 ∧ s 101 30 = τ 101 30 ∧ s 101 18 = τ 101 18 ∧ 0 ≤ r.toInt ∧ r.toInt ≤ 63)) : ∀ (N : Nat) (x4 : Int32) (x5 : Int32) (σ : Mem), wiM σ → (∀ k, k < 101 → σ k = τ k) → σ 101 15 = τ 101 15 → σ 101 34 = τ 101 34 → σ 101 1 = τ 101 1 → σ 101 30 = τ 101 30 → σ 101 18 = τ 101 18 → 6 < x5.toInt + N → 0 ≤ x5.toInt → x5.toInt ≤ 6 → sf (lp_X4_cover_31 F k21 x1 x2 x3 N x4 x5 σ) (fun r s => wiM s ∧ (∀ k, k < 101 → s k = τ k) ∧ s 101 15 = τ 101 15 ∧ s 101 34 = τ 101 34 ∧ s 101 1 = τ 101 1 ∧ s 101 30 = τ 101 30 ∧ s 101 18 = τ 101 18 ∧ 0 ≤ r.toInt ∧ r.toInt ≤ 63) := by
  intro N
  induction N with
  | zero => intro x4 x5 σ hI Fσ Of15_σ Of34_σ Of1_σ Of30_σ Of18_σ hN x5_1 x5_2; exfalso; omega
  | succ N ih =>
    intro x4 x5 σ hI Fσ Of15_σ Of34_σ Of1_σ Of30_σ Of18_σ hN x5_1 x5_2
    rw [lp_X4_cover_31_s]
    have m1 := wx_X4_1 hI
    have e2 : (σ 101 1).toInt = (τ 101 1).toInt := congrArg Int32.toInt Of1_σ
    refine sf_ite (fun c3 => ?_) (fun c3 => ?_)
    · have C3 : (σ 101 1).toInt ≤ x5.toInt := ti_le c3
      have b4 := ti_lo x4
      have b5 := ti_hi x4
      have b6 := ti_lo x1
      have b7 := ti_hi x1
      refine sf_ite (fun c8 => ?_) (fun c8 => ?_)
      · have C8 : x4.toInt = x1.toInt := ti_eq c8
        refine sf_bnd (s_X4_onesOf hF hI) (fun r9 u10 p11 => ?_)
        obtain ⟨e9, p11_1, p11_2⟩ := p11
        have e9 := e9.symm
        subst e9
        refine sf_bnd (s_X4_onesOf hF hI) (fun r12 u13 p14 => ?_)
        obtain ⟨e9, p14_1, p14_2⟩ := p14
        have e9 := e9.symm
        subst e9
        have b15 := ti_lo r12
        have b16 := ti_hi r12
        have b17 := ti_lo r9
        have b18 := ti_hi r9
        refine sf_ite (fun c19 => ?_) (fun c19 => ?_)
        · have C19 : r12.toInt < r9.toInt := ti_lt c19
          rw [j_X4_cover_92_e]
          rw [j_X4_cover_93_e]
          have t20 := ti_m1 (x := x3) (by omega)
          generalize x3 + (-1 : Int32) = x9 at t20 ⊢
          exact hk21 _ _ _ hI Fσ Of15_σ Of34_σ Of1_σ Of30_σ Of18_σ (by omega) (by omega) (by omega) (by omega) (by omega)
        have C19 : r9.toInt ≤ r12.toInt := ti_nlt c19
        rw [j_X4_cover_93_e]
        have t20 := ti_m1 (x := x3) (by omega)
        generalize x3 + (-1 : Int32) = x9 at t20 ⊢
        exact hk21 _ _ _ hI Fσ Of15_σ Of34_σ Of1_σ Of30_σ Of18_σ (by omega) (by omega) (by omega) (by omega) (by omega)
      have C8 : ¬ x4.toInt = x1.toInt := ti_ne c8
      rw [j_X4_cover_92_e]
      rw [j_X4_cover_93_e]
      have t20 := ti_m1 (x := x3) (by omega)
      generalize x3 + (-1 : Int32) = x9 at t20 ⊢
      exact hk21 _ _ _ hI Fσ Of15_σ Of34_σ Of1_σ Of30_σ Of18_σ (by omega) (by omega) (by omega) (by omega) (by omega)
    have C3 : x5.toInt < (σ 101 1).toInt := ti_nle c3
    refine sf_bnd (s_X4_hasBit hF hI (by omega) (by omega)) (fun r23 u24 p25 => ?_)
    obtain ⟨e9, p25_1, p25_2⟩ := p25
    have e9 := e9.symm
    subst e9
    have hb_r23 : r23 = 0 ∨ r23 = 1 := wi_bool p25_1 p25_2
    refine sf_ite (fun c26 => ?_) (fun c26 => ?_)
    · have C26 : r23.toInt = (0 : Int) := ti_eq c26
      rw [j_X4_cover_62_e]
      have b27 := ti_lo (x4 ||| (0 : Int32))
      have b28 := ti_hi (x4 ||| (0 : Int32))
      have t29 : (x5 + (1 : Int32)).toInt = x5.toInt + (1 : Int) := ti_add (show -2147483648 ≤ x5.toInt + (1 : Int) by omega) (show x5.toInt + (1 : Int) ≤ 2147483647 by omega)
      exact ih _ _ _ hI Fσ Of15_σ Of34_σ Of1_σ Of30_σ Of18_σ (by omega) (by omega) (by omega)
    have C26 : ¬ r23.toInt = (0 : Int) := ti_ne c26
    refine sf_chk (ti_in (by omega) (by omega)) ?_
    have v30 : Int32.toNatClampNeg x5 = x5.toInt.toNat := rfl
    rw [j_X4_cover_62_e]
    have b31 := ti_lo (x4 ||| (σ 103 (Int32.toNatClampNeg x5)))
    have b32 := ti_hi (x4 ||| (σ 103 (Int32.toNatClampNeg x5)))
    have t33 : (x5 + (1 : Int32)).toInt = x5.toInt + (1 : Int) := ti_add (show -2147483648 ≤ x5.toInt + (1 : Int) by omega) (show x5.toInt + (1 : Int) ≤ 2147483647 by omega)
    exact ih _ _ _ hI Fσ Of15_σ Of34_σ Of1_σ Of30_σ Of18_σ (by omega) (by omega) (by omega)
