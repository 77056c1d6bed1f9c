set_option maxHeartbeats 4000000 in
set_option maxRecDepth 100000 in
theorem sl_X4_shown_22 {F : Nat} (hF : 73786976294838206464 ≤ F) {x1 : Int32} {τ : Mem} (x1_1 : 0 ≤ x1.toInt) (x1_2 : x1.toInt ≤ 7) : ∀ (N : Nat) (x2 : Int32) (x3 : Int32) (σ : Mem), wiM σ → (∀ k, k < 101 → σ k = τ k) → σ 101 15 = τ 101 15 → σ 101 34 = τ 101 34 → σ 101 1 = τ 101 1 → σ 101 30 = τ 101 30 → σ 101 18 = τ 101 18 → 6 < x3.toInt + N → 0 ≤ x3.toInt → x3.toInt ≤ 6 → sf (lp_X4_shown_22 F x1 N x2 x3 σ) (fun r s => wiM s ∧ (∀ k, k < 101 → s k = τ k) ∧ s 101 15 = τ 101 15 ∧ s 101 34 = τ 101 34 ∧ s 101 1 = τ 101 1 ∧ s 101 30 = τ 101 30 ∧ s 101 18 = τ 101 18 ∧ -2147483648 ≤ r.toInt ∧ r.toInt ≤ 2147483647) := by
  intro N
  induction N with
  | zero => intro x2 x3 σ hI Fσ Of15_σ Of34_σ Of1_σ Of30_σ Of18_σ hN x3_1 x3_2; exfalso; omega
  | succ N ih =>
    intro x2 x3 σ hI Fσ Of15_σ Of34_σ Of1_σ Of30_σ Of18_σ hN x3_1 x3_2
    rw [lp_X4_shown_22_s]
    have m1 := wx_X4_1 hI
    have e2 : (σ 101 1).toInt = (τ 101 1).toInt := congrArg Int32.toInt Of1_σ
    refine sf_ite (fun c3 => ?_) (fun c3 => ?_)
    · have C3 : (σ 101 1).toInt ≤ x3.toInt := ti_le c3
      have b4 := ti_lo x2
      have b5 := ti_hi x2
      exact sf_ret ⟨hI, Fσ, Of15_σ, Of34_σ, Of1_σ, Of30_σ, Of18_σ, ti_lo _, ti_hi _⟩
    have C3 : x3.toInt < (σ 101 1).toInt := ti_nle c3
    refine sf_chk (ti_in (by omega) (by omega)) ?_
    have v6 : Int32.toNatClampNeg x3 = x3.toInt.toNat := rfl
    have b7 := ti_lo (σ 103 (Int32.toNatClampNeg x3))
    have b8 := ti_hi (σ 103 (Int32.toNatClampNeg x3))
    refine sf_bnd (s_X4_hasBit hF hI (by omega) (by omega)) (fun r9 u10 p11 => ?_)
    obtain ⟨e9, p11_1, p11_2⟩ := p11
    have e9 := e9.symm
    subst e9
    have hb_r9 : r9 = 0 ∨ r9 = 1 := wi_bool p11_1 p11_2
    refine sf_ite (fun c12 => ?_) (fun c12 => ?_)
    · have C12 : r9.toInt = (0 : Int) := ti_eq c12
      rw [j_X4_shown_49_e]
      have b13 := ti_lo x2
      have b14 := ti_hi x2
      have t15 : (x2 + (0 : Int32)).toInt = x2.toInt + (0 : Int) := ti_add (show -2147483648 ≤ x2.toInt + (0 : Int) by omega) (show x2.toInt + (0 : Int) ≤ 2147483647 by omega)
      have t16 : (x3 + (1 : Int32)).toInt = x3.toInt + (1 : Int) := ti_add (show -2147483648 ≤ x3.toInt + (1 : Int) by omega) (show x3.toInt + (1 : Int) ≤ 2147483647 by omega)
      exact ih _ _ _ hI Fσ Of15_σ Of34_σ Of1_σ Of30_σ Of18_σ (by omega) (by omega) (by omega)
    have C12 : ¬ r9.toInt = (0 : Int) := ti_ne c12
    rw [j_X4_shown_49_e]
    have b17 := ti_lo x2
    have b18 := ti_hi x2
    have b19 := ti_lo (x2 + (1 : Int32))
    have b20 := ti_hi (x2 + (1 : Int32))
    have t21 : (x3 + (1 : Int32)).toInt = x3.toInt + (1 : Int) := ti_add (show -2147483648 ≤ x3.toInt + (1 : Int) by omega) (show x3.toInt + (1 : Int) ≤ 2147483647 by omega)
    exact ih _ _ _ hI Fσ Of15_σ Of34_σ Of1_σ Of30_σ Of18_σ (by omega) (by omega) (by omega)
set_option maxHeartbeats 4000000 in
set_option maxRecDepth 100000 in
theorem s_X4_shown {F : Nat} (hF : 73786976294838206464 ≤ F) {x1 : Int32} {τ : Mem} (hI : wiM τ) : sf (f_X4_shown F x1 τ) (fun r s => wiM s ∧ (∀ k, k < 101 → s k = τ k) ∧ s 101 15 = τ 101 15 ∧ s 101 34 = τ 101 34 ∧ s 101 1 = τ 101 1 ∧ s 101 30 = τ 101 30 ∧ s 101 18 = τ 101 18 ∧ -2147483648 ≤ r.toInt ∧ r.toInt ≤ 2147483647) := by
  have Fτ : ∀ k, k < 101 → τ k = τ k := fun _ _ => rfl
  have Of15_τ : τ 101 15 = τ 101 15 := rfl
  have Of34_τ : τ 101 34 = τ 101 34 := rfl
  have Of1_τ : τ 101 1 = τ 101 1 := rfl
  have Of30_τ : τ 101 30 = τ 101 30 := rfl
  have Of18_τ : τ 101 18 = τ 101 18 := rfl
  rw [f_X4_shown_e]
  refine sf_lt (fun s1 hs1 => ?_)
  have Is1 : wiM s1 := by rw [hs1]; exact wm_fld hI (by decide) (by decide) (by decide) (by decide) (by decide) (by decide) (by decide)
  have Fs1 : ∀ k, k < 101 → s1 k = τ k := fun k hk => (show s1 k = τ k by rw [hs1, up2_k (by omega)]).trans (Fτ k hk)
  have Of15_s1 : s1 101 15 = τ 101 15 := (show s1 101 15 = τ 101 15 by rw [hs1, up2_i (by decide)]).trans Of15_τ
  have Of34_s1 : s1 101 34 = τ 101 34 := (show s1 101 34 = τ 101 34 by rw [hs1, up2_i (by decide)]).trans Of34_τ
  have Of1_s1 : s1 101 1 = τ 101 1 := (show s1 101 1 = τ 101 1 by rw [hs1, up2_i (by decide)]).trans Of1_τ
  have Of30_s1 : s1 101 30 = τ 101 30 := (show s1 101 30 = τ 101 30 by rw [hs1, up2_i (by decide)]).trans Of30_τ
  have Of18_s1 : s1 101 18 = τ 101 18 := (show s1 101 18 = τ 101 18 by rw [hs1, up2_i (by decide)]).trans Of18_τ
  have b2 := ti_lo x1
  have b3 := ti_hi x1
  refine sf_bnd (s_X4_isView hF Is1) (fun r4 u5 p6 => ?_)
  obtain ⟨e9, p6⟩ := p6
  have e9 := e9.symm
  subst e9
  rcases p6 with ⟨rfl, q7, q8⟩ | p6
  · refine sf_ite (fun c9 => ?_) (fun c9 => ?_)
    · have C9 : (1 : Int) = (0 : Int) := ti_eq c9
      exfalso; omega
    have C9 : ¬ (1 : Int) = (0 : Int) := ti_ne c9
    have l_0 : (0 : Int32).toInt = 0 := rfl
    exact sl_X4_shown_22 hF (by omega) (by omega) _ _ _ _ Is1 Fs1 Of15_s1 Of34_s1 Of1_s1 Of30_s1 Of18_s1 (by omega) (by decide) (by decide)
  obtain ⟨rfl, q10⟩ := p6
  refine sf_ite (fun c11 => ?_) (fun c11 => ?_)
  · have C11 : (0 : Int) = (0 : Int) := ti_eq c11
    refine sf_bnd (s_X4_refuse hF Is1 (by decide) (by decide)) (fun r12 u13 p14 => ?_)
    obtain ⟨Iu13, Fu13_, Of15_u13_, Of34_u13_, Of1_u13_, Of30_u13_, Of18_u13_, p14_1, p14_2, p14_x0⟩ := p14
    have Fu13 : ∀ k, k < 101 → u13 k = τ k := fun k hk => (Fu13_ k hk).trans (Fs1 k hk)
    have Of15_u13 : u13 101 15 = τ 101 15 := Of15_u13_.trans Of15_s1
    have Of34_u13 : u13 101 34 = τ 101 34 := Of34_u13_.trans Of34_s1
    have Of1_u13 : u13 101 1 = τ 101 1 := Of1_u13_.trans Of1_s1
    have Of30_u13 : u13 101 30 = τ 101 30 := Of30_u13_.trans Of30_s1
    have Of18_u13 : u13 101 18 = τ 101 18 := Of18_u13_.trans Of18_s1
    replace p14_x0 : r12.toInt = (-1 : Int) := p14_x0
    exact sf_ret ⟨Iu13, Fu13, Of15_u13, Of34_u13, Of1_u13, Of30_u13, Of18_u13, ti_lo _, ti_hi _⟩
  have C11 : ¬ (0 : Int) = (0 : Int) := ti_ne c11
  exfalso; omega
