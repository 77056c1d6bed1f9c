set_option maxHeartbeats 4000000 in
set_option maxRecDepth 100000 in
theorem sl_X4_isRow_8 {F : Nat} (hF : 73786976294838206464 ≤ F) {x1 : Int32} {τ : Mem} (x1_1 : 0 ≤ x1.toInt) (x1_2 : x1.toInt ≤ 999) : ∀ (N : Nat) (x2 : Int32) (x3 : Int32) (σ : Mem), wiM σ → (∀ k, k < 101 → σ k = τ k) → σ 101 15 = τ 101 15 → σ 101 34 = τ 101 34 → σ 101 1 = τ 101 1 → σ 101 30 = τ 101 30 → σ 101 18 = τ 101 18 → 8 < x3.toInt + N → 0 ≤ x2.toInt → x2.toInt ≤ 1 → 0 ≤ x3.toInt → x3.toInt ≤ 8 → 0 ≤ (σ 101 34).toInt → (σ 101 34).toInt ≤ 8 → sf (lp_X4_isRow_8 F x1 N x2 x3 σ) (fun r s => wiM s ∧ (∀ k, k < 101 → s k = τ k) ∧ s 101 15 = τ 101 15 ∧ s 101 34 = τ 101 34 ∧ s 101 1 = τ 101 1 ∧ s 101 30 = τ 101 30 ∧ s 101 18 = τ 101 18 ∧ 0 ≤ r.toInt ∧ r.toInt ≤ 1) := by
  intro N
  induction N with
  | zero => intro x2 x3 σ hI Fσ Of15_σ Of34_σ Of1_σ Of30_σ Of18_σ hN x2_1 x2_2 x3_1 x3_2 mf0_1 mf0_2; exfalso; omega
  | succ N ih =>
    intro x2 x3 σ hI Fσ Of15_σ Of34_σ Of1_σ Of30_σ Of18_σ hN x2_1 x2_2 x3_1 x3_2 mf0_1 mf0_2
    rw [lp_X4_isRow_8_s]
    have m1 := wx_X4_34 hI
    have e2 : (σ 101 34).toInt = (τ 101 34).toInt := congrArg Int32.toInt Of34_σ
    refine sf_ite (fun c3 => ?_) (fun c3 => ?_)
    · have C3 : (σ 101 34).toInt ≤ x3.toInt := ti_le c3
      refine sf_bz (by first | assumption | decide | exact wi_bool (by omega) (by omega)) ?_
      exact sf_ret ⟨hI, Fσ, Of15_σ, Of34_σ, Of1_σ, Of30_σ, Of18_σ, by omega, by omega⟩
    have C3 : x3.toInt < (σ 101 34).toInt := ti_nle c3
    refine sf_bnd (s_X4_ownerIn hF hI (by omega) (by omega) (by omega) (by omega)) (fun r4 u5 p6 => ?_)
    obtain ⟨Iu5, Fu5_, Of15_u5_, Of34_u5_, Of1_u5_, Of30_u5_, Of18_u5_, p6_1, p6_2⟩ := p6
    have Fu5 : ∀ k, k < 101 → u5 k = τ k := fun k hk => (Fu5_ k hk).trans (Fσ k hk)
    have Of15_u5 : u5 101 15 = τ 101 15 := Of15_u5_.trans Of15_σ
    have Of34_u5 : u5 101 34 = τ 101 34 := Of34_u5_.trans Of34_σ
    have Of1_u5 : u5 101 1 = τ 101 1 := Of1_u5_.trans Of1_σ
    have Of30_u5 : u5 101 30 = τ 101 30 := Of30_u5_.trans Of30_σ
    have Of18_u5 : u5 101 18 = τ 101 18 := Of18_u5_.trans Of18_σ
    refine sf_ite (fun c7 => ?_) (fun c7 => ?_)
    · have C7 : x2.toInt = (0 : Int) := ti_eq c7
      rw [j_X4_isRow_53_e]
      rw [j_X4_isRow_54_e]
      have t8 : (x3 + (1 : Int32)).toInt = x3.toInt + (1 : Int) := ti_add (show -2147483648 ≤ x3.toInt + (1 : Int) by omega) (show x3.toInt + (1 : Int) ≤ 2147483647 by omega)
      have m9 := wx_X4_34 Iu5
      have e10 : (u5 101 34).toInt = (σ 101 34).toInt := congrArg Int32.toInt Of34_u5_
      exact ih _ _ _ Iu5 Fu5 Of15_u5 Of34_u5 Of1_u5 Of30_u5 Of18_u5 (by omega) (by decide) (by decide) (by omega) (by omega) (by omega) (by omega)
    have C7 : ¬ x2.toInt = (0 : Int) := ti_ne c7
    refine sf_chk (ti_in (by omega) (by omega)) ?_
    have v11 : Int32.toNatClampNeg x3 = x3.toInt.toNat := rfl
    refine sf_ite (fun c12 => ?_) (fun c12 => ?_)
    · have C12 : (0 : Int) ≤ r4.toInt := ti_le c12
      rw [j_X4_isRow_46_e]
      have b13 := ti_lo (u5 121 (Int32.toNatClampNeg x3))
      have b14 := ti_hi (u5 121 (Int32.toNatClampNeg x3))
      refine sf_ite (fun c15 => ?_) (fun c15 => ?_)
      · have C15 : (u5 121 (Int32.toNatClampNeg x3)).toInt = r4.toInt := ti_eq c15
        rw [j_X4_isRow_54_e]
        have t16 : (x3 + (1 : Int32)).toInt = x3.toInt + (1 : Int) := ti_add (show -2147483648 ≤ x3.toInt + (1 : Int) by omega) (show x3.toInt + (1 : Int) ≤ 2147483647 by omega)
        have m17 := wx_X4_34 Iu5
        have e18 : (u5 101 34).toInt = (σ 101 34).toInt := congrArg Int32.toInt Of34_u5_
        exact ih _ _ _ Iu5 Fu5 Of15_u5 Of34_u5 Of1_u5 Of30_u5 Of18_u5 (by omega) (by decide) (by decide) (by omega) (by omega) (by omega) (by omega)
      have C15 : ¬ (u5 121 (Int32.toNatClampNeg x3)).toInt = r4.toInt := ti_ne c15
      rw [j_X4_isRow_53_e]
      rw [j_X4_isRow_54_e]
      have t19 : (x3 + (1 : Int32)).toInt = x3.toInt + (1 : Int) := ti_add (show -2147483648 ≤ x3.toInt + (1 : Int) by omega) (show x3.toInt + (1 : Int) ≤ 2147483647 by omega)
      have m20 := wx_X4_34 Iu5
      have e21 : (u5 101 34).toInt = (σ 101 34).toInt := congrArg Int32.toInt Of34_u5_
      exact ih _ _ _ Iu5 Fu5 Of15_u5 Of34_u5 Of1_u5 Of30_u5 Of18_u5 (by omega) (by decide) (by decide) (by omega) (by omega) (by omega) (by omega)
    have C12 : r4.toInt < (0 : Int) := ti_nle c12
    rw [j_X4_isRow_46_e]
    have b22 := ti_lo (u5 121 (Int32.toNatClampNeg x3))
    have b23 := ti_hi (u5 121 (Int32.toNatClampNeg x3))
    refine sf_ite (fun c24 => ?_) (fun c24 => ?_)
    · have C24 : (u5 121 (Int32.toNatClampNeg x3)).toInt = (99 : Int) := ti_eq c24
      rw [j_X4_isRow_54_e]
      have t25 : (x3 + (1 : Int32)).toInt = x3.toInt + (1 : Int) := ti_add (show -2147483648 ≤ x3.toInt + (1 : Int) by omega) (show x3.toInt + (1 : Int) ≤ 2147483647 by omega)
      have m26 := wx_X4_34 Iu5
      have e27 : (u5 101 34).toInt = (σ 101 34).toInt := congrArg Int32.toInt Of34_u5_
      exact ih _ _ _ Iu5 Fu5 Of15_u5 Of34_u5 Of1_u5 Of30_u5 Of18_u5 (by omega) (by decide) (by decide) (by omega) (by omega) (by omega) (by omega)
    have C24 : ¬ (u5 121 (Int32.toNatClampNeg x3)).toInt = (99 : Int) := ti_ne c24
    rw [j_X4_isRow_53_e]
    rw [j_X4_isRow_54_e]
    have t28 : (x3 + (1 : Int32)).toInt = x3.toInt + (1 : Int) := ti_add (show -2147483648 ≤ x3.toInt + (1 : Int) by omega) (show x3.toInt + (1 : Int) ≤ 2147483647 by omega)
    have m29 := wx_X4_34 Iu5
    have e30 : (u5 101 34).toInt = (σ 101 34).toInt := congrArg Int32.toInt Of34_u5_
    exact ih _ _ _ Iu5 Fu5 Of15_u5 Of34_u5 Of1_u5 Of30_u5 Of18_u5 (by omega) (by decide) (by decide) (by omega) (by omega) (by omega) (by omega)
set_option maxHeartbeats 4000000 in
set_option maxRecDepth 100000 in
theorem s_X4_isRow {F : Nat} (hF : 73786976294838206464 ≤ F) {x1 : Int32} {τ : Mem} (hI : wiM τ) (x1_1 : 0 ≤ x1.toInt) (x1_2 : x1.toInt ≤ 999) (xp0 : (τ 101 34).toInt ≤ 8) : sf (f_X4_isRow F x1 τ) (fun r s => wiM s ∧ (∀ k, k < 101 → s k = τ k) ∧ s 101 15 = τ 101 15 ∧ s 101 34 = τ 101 34 ∧ s 101 1 = τ 101 1 ∧ s 101 30 = τ 101 30 ∧ s 101 18 = τ 101 18 ∧ 0 ≤ r.toInt ∧ r.toInt ≤ 1) := by
  have Fτ : ∀ k, k < 101 → τ k = τ k := fun _ _ => rfl
  have Of15_τ : τ 101 15 = τ 101 15 := rfl
  have Of34_τ : τ 101 34 = τ 101 34 := rfl
  have Of1_τ : τ 101 1 = τ 101 1 := rfl
  have Of30_τ : τ 101 30 = τ 101 30 := rfl
  have Of18_τ : τ 101 18 = τ 101 18 := rfl
  rw [f_X4_isRow_e]
  refine sf_bnd (s_X4_layBrings hF hI) (fun r1 u2 p3 => ?_)
  obtain ⟨Iu2, Fu2_, Of15_u2_, Of34_u2_, Of1_u2_, Of30_u2_, Of18_u2_, -⟩ := p3
  have Fu2 : ∀ k, k < 101 → u2 k = τ k := fun k hk => (Fu2_ k hk).trans (Fτ k hk)
  have Of15_u2 : u2 101 15 = τ 101 15 := Of15_u2_.trans Of15_τ
  have Of34_u2 : u2 101 34 = τ 101 34 := Of34_u2_.trans Of34_τ
  have Of1_u2 : u2 101 1 = τ 101 1 := Of1_u2_.trans Of1_τ
  have Of30_u2 : u2 101 30 = τ 101 30 := Of30_u2_.trans Of30_τ
  have Of18_u2 : u2 101 18 = τ 101 18 := Of18_u2_.trans Of18_τ
  have m4 := wx_X4_34 Iu2
  have m5 := wx_X4_34 hI
  have e6 : (u2 101 34).toInt = (τ 101 34).toInt := congrArg Int32.toInt Of34_u2_
  have l_0 : (0 : Int32).toInt = 0 := rfl
  exact sl_X4_isRow_8 hF (by omega) (by omega) _ _ _ _ Iu2 Fu2 Of15_u2 Of34_u2 Of1_u2 Of30_u2 Of18_u2 (by omega) (by decide) (by decide) (by decide) (by decide) (by omega) (by omega)
set_option maxHeartbeats 4000000 in
set_option maxRecDepth 100000 in
theorem sl_X4_whichLaw_30 {F : Nat} (hF : 73786976294838206464 ≤ F) {x1 : Int32} {τ : Mem} : ∀ (N : Nat) (x2 : Int32) (x3 : Int32) (σ : Mem), wiM σ → (∀ k, k < 101 → σ k = τ k) → σ 101 15 = τ 101 15 → σ 101 34 = τ 101 34 → σ 101 1 = τ 101 1 → σ 101 30 = τ 101 30 → σ 101 18 = τ 101 18 → 3 < x3.toInt + N → 0 ≤ x3.toInt → x3.toInt ≤ 3 → 0 ≤ (σ 101 34).toInt → (σ 101 34).toInt ≤ 8 → sf (lp_X4_whichLaw_30 F x1 N x2 x3 σ) (fun r s => wiM s ∧ (∀ k, k < 101 → s k = τ k) ∧ s 101 15 = τ 101 15 ∧ s 101 34 = τ 101 34 ∧ s 101 1 = τ 101 1 ∧ s 101 30 = τ 101 30 ∧ s 101 18 = τ 101 18 ∧ -2147483648 ≤ r.toInt ∧ r.toInt ≤ 2147483647) := by
  intro N
  induction N with
  | zero => intro x2 x3 σ hI Fσ Of15_σ Of34_σ Of1_σ Of30_σ Of18_σ hN x3_1 x3_2 mf0_1 mf0_2; exfalso; omega
  | succ N ih =>
    intro x2 x3 σ hI Fσ Of15_σ Of34_σ Of1_σ Of30_σ Of18_σ hN x3_1 x3_2 mf0_1 mf0_2
    rw [lp_X4_whichLaw_30_s]
    refine sf_ite (fun c1 => ?_) (fun c1 => ?_)
    · have C1 : (3 : Int) ≤ x3.toInt := ti_le c1
      refine sf_lt (fun s2 hs2 => ?_)
      have Is2 : wiM s2 := by rw [hs2]; exact wm_fld hI (by decide) (by decide) (by decide) (by decide) (by decide) (by decide) (by decide)
      have Fs2 : ∀ k, k < 101 → s2 k = τ k := fun k hk => (show s2 k = σ k by rw [hs2, up2_k (by omega)]).trans (Fσ k hk)
      have Of15_s2 : s2 101 15 = τ 101 15 := (show s2 101 15 = σ 101 15 by rw [hs2, up2_i (by decide)]).trans Of15_σ
      have Of34_s2 : s2 101 34 = τ 101 34 := (show s2 101 34 = σ 101 34 by rw [hs2, up2_i (by decide)]).trans Of34_σ
      have Of1_s2 : s2 101 1 = τ 101 1 := (show s2 101 1 = σ 101 1 by rw [hs2, up2_i (by decide)]).trans Of1_σ
      have Of30_s2 : s2 101 30 = τ 101 30 := (show s2 101 30 = σ 101 30 by rw [hs2, up2_i (by decide)]).trans Of30_σ
      have Of18_s2 : s2 101 18 = τ 101 18 := (show s2 101 18 = σ 101 18 by rw [hs2, up2_i (by decide)]).trans Of18_σ
      have b3 := ti_lo x2
      have b4 := ti_hi x2
      exact sf_ret ⟨Is2, Fs2, Of15_s2, Of34_s2, Of1_s2, Of30_s2, Of18_s2, ti_lo _, ti_hi _⟩
    have C1 : x3.toInt < (3 : Int) := ti_nle c1
    refine sf_lt (fun s5 hs5 => ?_)
    have Is5 : wiM s5 := by rw [hs5]; exact wm_fld hI (by decide) (by decide) (by decide) (by decide) (by decide) (by decide) (by decide)
    have Fs5 : ∀ k, k < 101 → s5 k = τ k := fun k hk => (show s5 k = σ k by rw [hs5, up2_k (by omega)]).trans (Fσ k hk)
    have Of15_s5 : s5 101 15 = τ 101 15 := (show s5 101 15 = σ 101 15 by rw [hs5, up2_i (by decide)]).trans Of15_σ
    have Of34_s5 : s5 101 34 = τ 101 34 := (show s5 101 34 = σ 101 34 by rw [hs5, up2_i (by decide)]).trans Of34_σ
    have Of1_s5 : s5 101 1 = τ 101 1 := (show s5 101 1 = σ 101 1 by rw [hs5, up2_i (by decide)]).trans Of1_σ
    have Of30_s5 : s5 101 30 = τ 101 30 := (show s5 101 30 = σ 101 30 by rw [hs5, up2_i (by decide)]).trans Of30_σ
    have Of18_s5 : s5 101 18 = τ 101 18 := (show s5 101 18 = σ 101 18 by rw [hs5, up2_i (by decide)]).trans Of18_σ
    have m6 := wx_X4_34 Is5
    have m7 := wx_X4_34 hI
    have e8 : (σ 101 34).toInt = (τ 101 34).toInt := congrArg Int32.toInt Of34_σ
    have e9 : (s5 101 34).toInt = (σ 101 34).toInt := congrArg Int32.toInt (by rw [hs5, up2_i (by decide)])
    refine sf_bnd (s_X4_isRow hF Is5 (by decide) (by decide) (by first | omega | decide)) (fun r10 u11 p12 => ?_)
    obtain ⟨Iu11, Fu11_, Of15_u11_, Of34_u11_, Of1_u11_, Of30_u11_, Of18_u11_, p12_1, p12_2⟩ := p12
    have Fu11 : ∀ k, k < 101 → u11 k = τ k := fun k hk => (Fu11_ k hk).trans (Fs5 k hk)
    have Of15_u11 : u11 101 15 = τ 101 15 := Of15_u11_.trans Of15_s5
    have Of34_u11 : u11 101 34 = τ 101 34 := Of34_u11_.trans Of34_s5
    have Of1_u11 : u11 101 1 = τ 101 1 := Of1_u11_.trans Of1_s5
    have Of30_u11 : u11 101 30 = τ 101 30 := Of30_u11_.trans Of30_s5
    have Of18_u11 : u11 101 18 = τ 101 18 := Of18_u11_.trans Of18_s5
    have hb_r10 : r10 = 0 ∨ r10 = 1 := wi_bool p12_1 p12_2
    refine sf_ite (fun c13 => ?_) (fun c13 => ?_)
    · have C13 : r10.toInt = (0 : Int) := ti_eq c13
      rw [j_X4_whichLaw_56_e]
      have b14 := ti_lo (x2 ||| (0 : Int32))
      have b15 := ti_hi (x2 ||| (0 : Int32))
      have t16 : (x3 + (1 : Int32)).toInt = x3.toInt + (1 : Int) := ti_add (show -2147483648 ≤ x3.toInt + (1 : Int) by omega) (show x3.toInt + (1 : Int) ≤ 2147483647 by omega)
      have m17 := wx_X4_34 Iu11
      have e18 : (u11 101 34).toInt = (s5 101 34).toInt := congrArg Int32.toInt Of34_u11_
      exact ih _ _ _ Iu11 Fu11 Of15_u11 Of34_u11 Of1_u11 Of30_u11 Of18_u11 (by omega) (by omega) (by omega) (by omega) (by omega)
    have C13 : ¬ r10.toInt = (0 : Int) := ti_ne c13
    rw [j_X4_whichLaw_56_e]
    have b19 := ti_lo (x2 ||| ((1 : Int32) <<< (x3 &&& 31)))
    have b20 := ti_hi (x2 ||| ((1 : Int32) <<< (x3 &&& 31)))
    have t21 : (x3 + (1 : Int32)).toInt = x3.toInt + (1 : Int) := ti_add (show -2147483648 ≤ x3.toInt + (1 : Int) by omega) (show x3.toInt + (1 : Int) ≤ 2147483647 by omega)
    have m22 := wx_X4_34 Iu11
    have e23 : (u11 101 34).toInt = (s5 101 34).toInt := congrArg Int32.toInt Of34_u11_
    exact ih _ _ _ Iu11 Fu11 Of15_u11 Of34_u11 Of1_u11 Of30_u11 Of18_u11 (by omega) (by omega) (by omega) (by omega) (by omega)
set_option maxHeartbeats 4000000 in
set_option maxRecDepth 100000 in
theorem s_X4_whichLaw {F : Nat} (hF : 73786976294838206464 ≤ F) {τ : Mem} (hI : wiM τ) : sf (f_X4_whichLaw F τ) (fun r s => wiM s ∧ (∀ k, k < 101 → s k = τ k) ∧ s 101 15 = τ 101 15 ∧ s 101 34 = τ 101 34 ∧ s 101 1 = τ 101 1 ∧ s 101 30 = τ 101 30 ∧ s 101 18 = τ 101 18 ∧ -2147483648 ≤ r.toInt ∧ r.toInt ≤ 2147483647) := by
  have Fτ : ∀ k, k < 101 → τ k = τ k := fun _ _ => rfl
  have Of15_τ : τ 101 15 = τ 101 15 := rfl
  have Of34_τ : τ 101 34 = τ 101 34 := rfl
  have Of1_τ : τ 101 1 = τ 101 1 := rfl
  have Of30_τ : τ 101 30 = τ 101 30 := rfl
  have Of18_τ : τ 101 18 = τ 101 18 := rfl
  rw [f_X4_whichLaw_e]
  refine sf_lt (fun s1 hs1 => ?_)
  have Is1 : wiM s1 := by rw [hs1]; exact wm_fld hI (by decide) (by decide) (by decide) (by decide) (by decide) (by decide) (by decide)
  have Fs1 : ∀ k, k < 101 → s1 k = τ k := fun k hk => (show s1 k = τ k by rw [hs1, up2_k (by omega)]).trans (Fτ k hk)
  have Of15_s1 : s1 101 15 = τ 101 15 := (show s1 101 15 = τ 101 15 by rw [hs1, up2_i (by decide)]).trans Of15_τ
  have Of34_s1 : s1 101 34 = τ 101 34 := (show s1 101 34 = τ 101 34 by rw [hs1, up2_i (by decide)]).trans Of34_τ
  have Of1_s1 : s1 101 1 = τ 101 1 := (show s1 101 1 = τ 101 1 by rw [hs1, up2_i (by decide)]).trans Of1_τ
  have Of30_s1 : s1 101 30 = τ 101 30 := (show s1 101 30 = τ 101 30 by rw [hs1, up2_i (by decide)]).trans Of30_τ
  have Of18_s1 : s1 101 18 = τ 101 18 := (show s1 101 18 = τ 101 18 by rw [hs1, up2_i (by decide)]).trans Of18_τ
  have m2 := wx_X4_34 Is1
  have m3 := wx_X4_34 hI
  have e4 : (s1 101 34).toInt = (τ 101 34).toInt := congrArg Int32.toInt (by rw [hs1, up2_i (by decide)])
  refine sf_ite (fun c5 => ?_) (fun c5 => ?_)
  · have C5 : (s1 101 34).toInt ≤ (8 : Int) := ti_le c5
    have b6 := ti_lo (τ 101 8)
    have b7 := ti_hi (τ 101 8)
    have e8 : (s1 101 8).toInt = (τ 101 8).toInt := congrArg Int32.toInt (by rw [hs1, up2_i (by decide)])
    have b9 := ti_lo (s1 101 8)
    have b10 := ti_hi (s1 101 8)
    have l_0 : (0 : Int32).toInt = 0 := rfl
    exact sl_X4_whichLaw_30 hF _ _ _ _ Is1 Fs1 Of15_s1 Of34_s1 Of1_s1 Of30_s1 Of18_s1 (by omega) (by decide) (by decide) (by omega) (by omega)
  have C5 : (8 : Int) < (s1 101 34).toInt := ti_nle c5
  refine sf_bnd (s_X4_refuse hF Is1 (by decide) (by decide)) (fun r11 u12 p13 => ?_)
  obtain ⟨Iu12, Fu12_, Of15_u12_, Of34_u12_, Of1_u12_, Of30_u12_, Of18_u12_, p13_1, p13_2, p13_x0⟩ := p13
  have Fu12 : ∀ k, k < 101 → u12 k = τ k := fun k hk => (Fu12_ k hk).trans (Fs1 k hk)
  have Of15_u12 : u12 101 15 = τ 101 15 := Of15_u12_.trans Of15_s1
  have Of34_u12 : u12 101 34 = τ 101 34 := Of34_u12_.trans Of34_s1
  have Of1_u12 : u12 101 1 = τ 101 1 := Of1_u12_.trans Of1_s1
  have Of30_u12 : u12 101 30 = τ 101 30 := Of30_u12_.trans Of30_s1
  have Of18_u12 : u12 101 18 = τ 101 18 := Of18_u12_.trans Of18_s1
  replace p13_x0 : r11.toInt = (-3 : Int) := p13_x0
  exact sf_ret ⟨Iu12, Fu12, Of15_u12, Of34_u12, Of1_u12, Of30_u12, Of18_u12, ti_lo _, ti_hi _⟩
set_option maxHeartbeats 4000000 in
set_option maxRecDepth 100000 in
theorem sl_X4_whichKind_77 {F : Nat} (hF : 73786976294838206464 ≤ F) {x1 : Int32} {x2 : Int32} {x3 : Int32} {τ : Mem} (x1_1 : 0 ≤ x1.toInt) (x1_2 : x1.toInt ≤ 4) (x2_1 : 0 ≤ x2.toInt) (x2_2 : x2.toInt ≤ 999) (x3_1 : 0 ≤ x3.toInt) (x3_2 : x3.toInt ≤ 1) : ∀ (N : Nat) (x5 : Int32) (x6 : Int32) (σ : Mem), wiM σ → (∀ k, k < 101 → σ k = τ k) → σ 101 15 = τ 101 15 → σ 101 34 = τ 101 34 → σ 101 30 = τ 101 30 → σ 101 18 = τ 101 18 → 10 < x6.toInt + N → 0 ≤ x6.toInt → x6.toInt ≤ 10 → 0 ≤ (σ 101 34).toInt → (σ 101 34).toInt ≤ 8 → sf (lp_X4_whichKind_77 F x1 x2 x3 N x5 x6 σ) (fun r s => wiM s ∧ (∀ k, k < 101 → s k = τ k) ∧ s 101 15 = τ 101 15 ∧ s 101 34 = τ 101 34 ∧ s 101 30 = τ 101 30 ∧ s 101 18 = τ 101 18 ∧ -2147483648 ≤ r.toInt ∧ r.toInt ≤ 2147483647) := by
  intro N
  induction N with
  | zero => intro x5 x6 σ hI Fσ Of15_σ Of34_σ Of30_σ Of18_σ hN x6_1 x6_2 mf0_1 mf0_2; exfalso; omega
  | succ N ih =>
    intro x5 x6 σ hI Fσ Of15_σ Of34_σ Of30_σ Of18_σ hN x6_1 x6_2 mf0_1 mf0_2
    rw [lp_X4_whichKind_77_s]
    refine sf_ite (fun c1 => ?_) (fun c1 => ?_)
    · have C1 : x3.toInt = (0 : Int) := ti_eq c1
      rw [j_X4_whichKind_90_e]
      refine sf_ite (fun c2 => ?_) (fun c2 => ?_)
      · have C2 : (6 : Int) ≤ x6.toInt := ti_le c2
        refine sf_bnd (s_X4_again hF hI) (fun r3 u4 p5 => ?_)
        obtain ⟨Iu4, Fu4_, Of15_u4_, Of34_u4_, Of30_u4_, Of18_u4_, -⟩ := p5
        have Fu4 : ∀ k, k < 101 → u4 k = τ k := fun k hk => (Fu4_ k hk).trans (Fσ k hk)
        have Of15_u4 : u4 101 15 = τ 101 15 := Of15_u4_.trans Of15_σ
        have Of34_u4 : u4 101 34 = τ 101 34 := Of34_u4_.trans Of34_σ
        have Of30_u4 : u4 101 30 = τ 101 30 := Of30_u4_.trans Of30_σ
        have Of18_u4 : u4 101 18 = τ 101 18 := Of18_u4_.trans Of18_σ
        have b6 := ti_lo x5
        have b7 := ti_hi x5
        exact sf_ret ⟨Iu4, Fu4, Of15_u4, Of34_u4, Of30_u4, Of18_u4, ti_lo _, ti_hi _⟩
      have C2 : x6.toInt < (6 : Int) := ti_nle c2
      refine sf_ite (fun c8 => ?_) (fun c8 => ?_)
      · have C8 : x3.toInt = (0 : Int) := ti_eq c8
        rw [j_X4_whichKind_113_e]
        refine sf_chk (ti_in (by omega) (by omega)) ?_
        have v9 : Int32.toNatClampNeg x1 = x1.toInt.toNat := rfl
        refine sf_lt (fun s10 hs10 => ?_)
        have Is10 : wiM s10 := by rw [hs10]; exact wm_oth hI (by decide) (by decide) (by decide) (by decide)
        have Fs10 : ∀ k, k < 101 → s10 k = τ k := fun k hk => (show s10 k = σ k by rw [hs10, up2_k (by omega)]).trans (Fσ k hk)
        have Of15_s10 : s10 101 15 = τ 101 15 := (show s10 101 15 = σ 101 15 by rw [hs10, up2_k (by omega)]).trans Of15_σ
        have Of34_s10 : s10 101 34 = τ 101 34 := (show s10 101 34 = σ 101 34 by rw [hs10, up2_k (by omega)]).trans Of34_σ
        have Of30_s10 : s10 101 30 = τ 101 30 := (show s10 101 30 = σ 101 30 by rw [hs10, up2_k (by omega)]).trans Of30_σ
        have Of18_s10 : s10 101 18 = τ 101 18 := (show s10 101 18 = σ 101 18 by rw [hs10, up2_k (by omega)]).trans Of18_σ
        refine sf_ite (fun c11 => ?_) (fun c11 => ?_)
        · have C11 : x3.toInt = (1 : Int) := ti_eq c11
          exfalso; omega
        have C11 : ¬ x3.toInt = (1 : Int) := ti_ne c11
        refine sf_chk (ti_in (by omega) (by omega)) ?_
        have v12 : Int32.toNatClampNeg x1 = x1.toInt.toNat := rfl
        rw [j_X4_whichKind_135_e]
        refine sf_chk (ti_in (by omega) (by omega)) ?_
        have v13 : Int32.toNatClampNeg x1 = x1.toInt.toNat := rfl
        refine sf_lt (fun s14 hs14 => ?_)
        have Is14 : wiM s14 := by rw [hs14]; exact wm_oth Is10 (by decide) (by decide) (by decide) (by decide)
        have Fs14 : ∀ k, k < 101 → s14 k = τ k := fun k hk => (show s14 k = s10 k by rw [hs14, up2_k (by omega)]).trans (Fs10 k hk)
        have Of15_s14 : s14 101 15 = τ 101 15 := (show s14 101 15 = s10 101 15 by rw [hs14, up2_k (by omega)]).trans Of15_s10
        have Of34_s14 : s14 101 34 = τ 101 34 := (show s14 101 34 = s10 101 34 by rw [hs14, up2_k (by omega)]).trans Of34_s10
        have Of30_s14 : s14 101 30 = τ 101 30 := (show s14 101 30 = s10 101 30 by rw [hs14, up2_k (by omega)]).trans Of30_s10
        have Of18_s14 : s14 101 18 = τ 101 18 := (show s14 101 18 = s10 101 18 by rw [hs14, up2_k (by omega)]).trans Of18_s10
        have m15 := wx_X4_34 Is14
        have m16 := wx_X4_34 Is10
        have m17 := wx_X4_34 hI
        have e18 : (σ 101 34).toInt = (τ 101 34).toInt := congrArg Int32.toInt Of34_σ
        have e19 : (s10 101 34).toInt = (σ 101 34).toInt := congrArg Int32.toInt (by rw [hs10, up2_k (by omega)])
        have e20 : (s14 101 34).toInt = (s10 101 34).toInt := congrArg Int32.toInt (by rw [hs14, up2_k (by omega)])
        refine sf_bnd (s_X4_isRow hF Is14 (by omega) (by omega) (by first | omega | decide)) (fun r21 u22 p23 => ?_)
        obtain ⟨Iu22, Fu22_, Of15_u22_, Of34_u22_, Of1_u22_, Of30_u22_, Of18_u22_, p23_1, p23_2⟩ := p23
        have Fu22 : ∀ k, k < 101 → u22 k = τ k := fun k hk => (Fu22_ k hk).trans (Fs14 k hk)
        have Of15_u22 : u22 101 15 = τ 101 15 := Of15_u22_.trans Of15_s14
        have Of34_u22 : u22 101 34 = τ 101 34 := Of34_u22_.trans Of34_s14
        have Of30_u22 : u22 101 30 = τ 101 30 := Of30_u22_.trans Of30_s14
        have Of18_u22 : u22 101 18 = τ 101 18 := Of18_u22_.trans Of18_s14
        have hb_r21 : r21 = 0 ∨ r21 = 1 := wi_bool p23_1 p23_2
        refine sf_ite (fun c24 => ?_) (fun c24 => ?_)
        · have C24 : r21.toInt = (0 : Int) := ti_eq c24
          rw [j_X4_whichKind_154_e]
          have b25 := ti_lo (x5 ||| (0 : Int32))
          have b26 := ti_hi (x5 ||| (0 : Int32))
          have t27 : (x6 + (1 : Int32)).toInt = x6.toInt + (1 : Int) := ti_add (show -2147483648 ≤ x6.toInt + (1 : Int) by omega) (show x6.toInt + (1 : Int) ≤ 2147483647 by omega)
          have m28 := wx_X4_34 Iu22
          have e29 : (u22 101 34).toInt = (s14 101 34).toInt := congrArg Int32.toInt Of34_u22_
          exact ih _ _ _ Iu22 Fu22 Of15_u22 Of34_u22 Of30_u22 Of18_u22 (by omega) (by omega) (by omega) (by omega) (by omega)
        have C24 : ¬ r21.toInt = (0 : Int) := ti_ne c24
        rw [j_X4_whichKind_154_e]
        have b30 := ti_lo (x5 ||| ((1 : Int32) <<< (x6 &&& 31)))
        have b31 := ti_hi (x5 ||| ((1 : Int32) <<< (x6 &&& 31)))
        have t32 : (x6 + (1 : Int32)).toInt = x6.toInt + (1 : Int) := ti_add (show -2147483648 ≤ x6.toInt + (1 : Int) by omega) (show x6.toInt + (1 : Int) ≤ 2147483647 by omega)
        have m33 := wx_X4_34 Iu22
        have e34 : (u22 101 34).toInt = (s14 101 34).toInt := congrArg Int32.toInt Of34_u22_
        exact ih _ _ _ Iu22 Fu22 Of15_u22 Of34_u22 Of30_u22 Of18_u22 (by omega) (by omega) (by omega) (by omega) (by omega)
      have C8 : ¬ x3.toInt = (0 : Int) := ti_ne c8
      exfalso; omega
    have C1 : ¬ x3.toInt = (0 : Int) := ti_ne c1
    rw [j_X4_whichKind_90_e]
    refine sf_ite (fun c35 => ?_) (fun c35 => ?_)
    · have C35 : (10 : Int) ≤ x6.toInt := ti_le c35
      refine sf_bnd (s_X4_again hF hI) (fun r36 u37 p38 => ?_)
      obtain ⟨Iu37, Fu37_, Of15_u37_, Of34_u37_, Of30_u37_, Of18_u37_, -⟩ := p38
      have Fu37 : ∀ k, k < 101 → u37 k = τ k := fun k hk => (Fu37_ k hk).trans (Fσ k hk)
      have Of15_u37 : u37 101 15 = τ 101 15 := Of15_u37_.trans Of15_σ
      have Of34_u37 : u37 101 34 = τ 101 34 := Of34_u37_.trans Of34_σ
      have Of30_u37 : u37 101 30 = τ 101 30 := Of30_u37_.trans Of30_σ
      have Of18_u37 : u37 101 18 = τ 101 18 := Of18_u37_.trans Of18_σ
      have b39 := ti_lo x5
      have b40 := ti_hi x5
      exact sf_ret ⟨Iu37, Fu37, Of15_u37, Of34_u37, Of30_u37, Of18_u37, ti_lo _, ti_hi _⟩
    have C35 : x6.toInt < (10 : Int) := ti_nle c35
    refine sf_ite (fun c41 => ?_) (fun c41 => ?_)
    · have C41 : x3.toInt = (0 : Int) := ti_eq c41
      exfalso; omega
    have C41 : ¬ x3.toInt = (0 : Int) := ti_ne c41
    refine sf_chk (ti_in (by omega) (by omega)) ?_
    have v42 : Int32.toNatClampNeg x1 = x1.toInt.toNat := rfl
    rw [j_X4_whichKind_113_e]
    refine sf_chk (ti_in (by omega) (by omega)) ?_
    have v43 : Int32.toNatClampNeg x1 = x1.toInt.toNat := rfl
    refine sf_lt (fun s44 hs44 => ?_)
    have Is44 : wiM s44 := by rw [hs44]; exact wm_oth hI (by decide) (by decide) (by decide) (by decide)
    have Fs44 : ∀ k, k < 101 → s44 k = τ k := fun k hk => (show s44 k = σ k by rw [hs44, up2_k (by omega)]).trans (Fσ k hk)
    have Of15_s44 : s44 101 15 = τ 101 15 := (show s44 101 15 = σ 101 15 by rw [hs44, up2_k (by omega)]).trans Of15_σ
    have Of34_s44 : s44 101 34 = τ 101 34 := (show s44 101 34 = σ 101 34 by rw [hs44, up2_k (by omega)]).trans Of34_σ
    have Of30_s44 : s44 101 30 = τ 101 30 := (show s44 101 30 = σ 101 30 by rw [hs44, up2_k (by omega)]).trans Of30_σ
    have Of18_s44 : s44 101 18 = τ 101 18 := (show s44 101 18 = σ 101 18 by rw [hs44, up2_k (by omega)]).trans Of18_σ
    refine sf_ite (fun c45 => ?_) (fun c45 => ?_)
    · have C45 : x3.toInt = (1 : Int) := ti_eq c45
      rw [j_X4_whichKind_135_e]
      refine sf_chk (ti_in (by omega) (by omega)) ?_
      have v46 : Int32.toNatClampNeg x1 = x1.toInt.toNat := rfl
      refine sf_lt (fun s47 hs47 => ?_)
      have Is47 : wiM s47 := by rw [hs47]; exact wm_oth Is44 (by decide) (by decide) (by decide) (by decide)
      have Fs47 : ∀ k, k < 101 → s47 k = τ k := fun k hk => (show s47 k = s44 k by rw [hs47, up2_k (by omega)]).trans (Fs44 k hk)
      have Of15_s47 : s47 101 15 = τ 101 15 := (show s47 101 15 = s44 101 15 by rw [hs47, up2_k (by omega)]).trans Of15_s44
      have Of34_s47 : s47 101 34 = τ 101 34 := (show s47 101 34 = s44 101 34 by rw [hs47, up2_k (by omega)]).trans Of34_s44
      have Of30_s47 : s47 101 30 = τ 101 30 := (show s47 101 30 = s44 101 30 by rw [hs47, up2_k (by omega)]).trans Of30_s44
      have Of18_s47 : s47 101 18 = τ 101 18 := (show s47 101 18 = s44 101 18 by rw [hs47, up2_k (by omega)]).trans Of18_s44
      have m48 := wx_X4_34 Is47
      have m49 := wx_X4_34 Is44
      have m50 := wx_X4_34 hI
      have e51 : (σ 101 34).toInt = (τ 101 34).toInt := congrArg Int32.toInt Of34_σ
      have e52 : (s44 101 34).toInt = (σ 101 34).toInt := congrArg Int32.toInt (by rw [hs44, up2_k (by omega)])
      have e53 : (s47 101 34).toInt = (s44 101 34).toInt := congrArg Int32.toInt (by rw [hs47, up2_k (by omega)])
      refine sf_bnd (s_X4_isRow hF Is47 (by omega) (by omega) (by first | omega | decide)) (fun r54 u55 p56 => ?_)
      obtain ⟨Iu55, Fu55_, Of15_u55_, Of34_u55_, Of1_u55_, Of30_u55_, Of18_u55_, p56_1, p56_2⟩ := p56
      have Fu55 : ∀ k, k < 101 → u55 k = τ k := fun k hk => (Fu55_ k hk).trans (Fs47 k hk)
      have Of15_u55 : u55 101 15 = τ 101 15 := Of15_u55_.trans Of15_s47
      have Of34_u55 : u55 101 34 = τ 101 34 := Of34_u55_.trans Of34_s47
      have Of30_u55 : u55 101 30 = τ 101 30 := Of30_u55_.trans Of30_s47
      have Of18_u55 : u55 101 18 = τ 101 18 := Of18_u55_.trans Of18_s47
      have hb_r54 : r54 = 0 ∨ r54 = 1 := wi_bool p56_1 p56_2
      refine sf_ite (fun c57 => ?_) (fun c57 => ?_)
      · have C57 : r54.toInt = (0 : Int) := ti_eq c57
        rw [j_X4_whichKind_154_e]
        have b58 := ti_lo (x5 ||| (0 : Int32))
        have b59 := ti_hi (x5 ||| (0 : Int32))
        have t60 : (x6 + (1 : Int32)).toInt = x6.toInt + (1 : Int) := ti_add (show -2147483648 ≤ x6.toInt + (1 : Int) by omega) (show x6.toInt + (1 : Int) ≤ 2147483647 by omega)
        have m61 := wx_X4_34 Iu55
        have e62 : (u55 101 34).toInt = (s47 101 34).toInt := congrArg Int32.toInt Of34_u55_
        exact ih _ _ _ Iu55 Fu55 Of15_u55 Of34_u55 Of30_u55 Of18_u55 (by omega) (by omega) (by omega) (by omega) (by omega)
      have C57 : ¬ r54.toInt = (0 : Int) := ti_ne c57
      rw [j_X4_whichKind_154_e]
      have b63 := ti_lo (x5 ||| ((1 : Int32) <<< (x6 &&& 31)))
      have b64 := ti_hi (x5 ||| ((1 : Int32) <<< (x6 &&& 31)))
      have t65 : (x6 + (1 : Int32)).toInt = x6.toInt + (1 : Int) := ti_add (show -2147483648 ≤ x6.toInt + (1 : Int) by omega) (show x6.toInt + (1 : Int) ≤ 2147483647 by omega)
      have m66 := wx_X4_34 Iu55
      have e67 : (u55 101 34).toInt = (s47 101 34).toInt := congrArg Int32.toInt Of34_u55_
      exact ih _ _ _ Iu55 Fu55 Of15_u55 Of34_u55 Of30_u55 Of18_u55 (by omega) (by omega) (by omega) (by omega) (by omega)
    have C45 : ¬ x3.toInt = (1 : Int) := ti_ne c45
    exfalso; omega
set_option maxHeartbeats 4000000 in
set_option maxRecDepth 100000 in
theorem s_X4_whichKind {F : Nat} (hF : 73786976294838206464 ≤ F) {x1 : Int32} {x2 : Int32} {x3 : Int32} {τ : Mem} (hI : wiM τ) : sf (f_X4_whichKind F x1 x2 x3 τ) (fun r s => wiM s ∧ (∀ k, k < 101 → s k = τ k) ∧ s 101 15 = τ 101 15 ∧ s 101 34 = τ 101 34 ∧ s 101 30 = τ 101 30 ∧ s 101 18 = τ 101 18 ∧ -2147483648 ≤ r.toInt ∧ r.toInt ≤ 2147483647) := by
  have Fτ : ∀ k, k < 101 → τ k = τ k := fun _ _ => rfl
  have Of15_τ : τ 101 15 = τ 101 15 := rfl
  have Of34_τ : τ 101 34 = τ 101 34 := rfl
  have Of1_τ : τ 101 1 = τ 101 1 := rfl
  have Of30_τ : τ 101 30 = τ 101 30 := rfl
  have Of18_τ : τ 101 18 = τ 101 18 := rfl
  rw [f_X4_whichKind_e]
  refine sf_lt (fun s1 hs1 => ?_)
  have Is1 : wiM s1 := by rw [hs1]; exact wm_fld hI (by decide) (by decide) (by decide) (by decide) (by decide) (by decide) (by decide)
  have Fs1 : ∀ k, k < 101 → s1 k = τ k := fun k hk => (show s1 k = τ k by rw [hs1, up2_k (by omega)]).trans (Fτ k hk)
  have Of15_s1 : s1 101 15 = τ 101 15 := (show s1 101 15 = τ 101 15 by rw [hs1, up2_i (by decide)]).trans Of15_τ
  have Of34_s1 : s1 101 34 = τ 101 34 := (show s1 101 34 = τ 101 34 by rw [hs1, up2_i (by decide)]).trans Of34_τ
  have Of1_s1 : s1 101 1 = τ 101 1 := (show s1 101 1 = τ 101 1 by rw [hs1, up2_i (by decide)]).trans Of1_τ
  have Of30_s1 : s1 101 30 = τ 101 30 := (show s1 101 30 = τ 101 30 by rw [hs1, up2_i (by decide)]).trans Of30_τ
  have Of18_s1 : s1 101 18 = τ 101 18 := (show s1 101 18 = τ 101 18 by rw [hs1, up2_i (by decide)]).trans Of18_τ
  have b2 := ti_lo x1
  have b3 := ti_hi x1
  refine sf_bnd (s_X4_isLooker hF Is1) (fun r4 u5 p6 => ?_)
  obtain ⟨e9, p6⟩ := p6
  have e9 := e9.symm
  subst e9
  rcases p6 with ⟨rfl, q7, q8⟩ | p6
  · refine sf_ite (fun c9 => ?_) (fun c9 => ?_)
    · have C9 : (1 : Int) = (0 : Int) := ti_eq c9
      exfalso; omega
    have C9 : ¬ (1 : Int) = (0 : Int) := ti_ne c9
    refine sf_in ?_
    rw [f_X4_wrongNumber_e]
    have b10 := ti_lo x2
    have b11 := ti_hi x2
    refine sf_ite (fun c12 => ?_) (fun c12 => ?_)
    · have C12 : (0 : Int) ≤ x2.toInt := ti_le c12
      refine sf_ite (fun c13 => ?_) (fun c13 => ?_)
      · have C13 : x2.toInt ≤ (999 : Int) := ti_le c13
        refine sf_ret ?_
        rw [j_X4_whichKind_25_e]
        refine sf_in ?_
        rw [f_X4_wrongBit_e]
        refine sf_ite (fun c14 => ?_) (fun c14 => ?_)
        · have C14 : (0 : Int) = (0 : Int) := ti_eq c14
          refine sf_in ?_
          rw [f_X4_in_e]
          have b15 := ti_lo x3
          have b16 := ti_hi x3
          have b17 := ti_lo (lg_cmp (Int32.toInt64 x3) (0 : Int64))
          have b18 := ti_hi (lg_cmp (Int32.toInt64 x3) (0 : Int64))
          refine sf_ite (fun c19 => ?_) (fun c19 => ?_)
          · have C19 : (lg_cmp (Int32.toInt64 x3) (0 : Int64)).toInt < (0 : Int) := ti_lt c19
            have L19 : x3.toInt < (0 : Int) := by have q := lg_ltl c19; (repeat (rw [Int32.toInt_toInt64] at q)); exact q
            rw [j_X4_in_17_e]
            refine sf_ret ?_
            refine sf_ite (fun c20 => ?_) (fun c20 => ?_)
            · have C20 : (0 : Int) = (0 : Int) := ti_eq c20
              refine sf_ret ?_
              refine sf_ite (fun c21 => ?_) (fun c21 => ?_)
              · have C21 : (-2 : Int) = (0 : Int) := ti_eq c21
                exfalso; omega
              have C21 : ¬ (-2 : Int) = (0 : Int) := ti_ne c21
              rw [j_X4_whichKind_51_e]
              rw [j_X4_whichKind_53_e]
              refine sf_ite (fun c22 => ?_) (fun c22 => ?_)
              · have C22 : (0 : Int) ≤ (-2 : Int) := ti_le c22
                exfalso; omega
              have C22 : (-2 : Int) < (0 : Int) := ti_nle c22
              refine sf_bnd (s_X4_refuse hF Is1 (by decide) (by decide)) (fun r23 u24 p25 => ?_)
              obtain ⟨Iu24, Fu24_, Of15_u24_, Of34_u24_, Of1_u24_, Of30_u24_, Of18_u24_, p25_1, p25_2, p25_x0⟩ := p25
              have Fu24 : ∀ k, k < 101 → u24 k = τ k := fun k hk => (Fu24_ k hk).trans (Fs1 k hk)
              have Of15_u24 : u24 101 15 = τ 101 15 := Of15_u24_.trans Of15_s1
              have Of34_u24 : u24 101 34 = τ 101 34 := Of34_u24_.trans Of34_s1
              have Of1_u24 : u24 101 1 = τ 101 1 := Of1_u24_.trans Of1_s1
              have Of30_u24 : u24 101 30 = τ 101 30 := Of30_u24_.trans Of30_s1
              have Of18_u24 : u24 101 18 = τ 101 18 := Of18_u24_.trans Of18_s1
              replace p25_x0 : r23.toInt = (-2 : Int) := p25_x0
              exact sf_ret ⟨Iu24, Fu24, Of15_u24, Of34_u24, Of30_u24, Of18_u24, ti_lo _, ti_hi _⟩
            have C20 : ¬ (0 : Int) = (0 : Int) := ti_ne c20
            exfalso; omega
          have C19 : (0 : Int) ≤ (lg_cmp (Int32.toInt64 x3) (0 : Int64)).toInt := ti_nlt c19
          have L19 : (0 : Int) ≤ x3.toInt := by have q := lg_ltln c19; (repeat (rw [Int32.toInt_toInt64] at q)); exact q
          have b26 := ti_lo (lg_cmp (Int32.toInt64 x3) (Int32.toInt64 (1 : Int32)))
          have b27 := ti_hi (lg_cmp (Int32.toInt64 x3) (Int32.toInt64 (1 : Int32)))
          refine sf_ite (fun c28 => ?_) (fun c28 => ?_)
          · have C28 : (0 : Int) < (lg_cmp (Int32.toInt64 x3) (Int32.toInt64 (1 : Int32))).toInt := ti_lt c28
            have L28 : (1 : Int) < x3.toInt := by have q := lg_ltr c28; (repeat (rw [Int32.toInt_toInt64] at q)); exact q
            rw [j_X4_in_17_e]
            refine sf_ret ?_
            refine sf_ite (fun c29 => ?_) (fun c29 => ?_)
            · have C29 : (0 : Int) = (0 : Int) := ti_eq c29
              refine sf_ret ?_
              refine sf_ite (fun c30 => ?_) (fun c30 => ?_)
              · have C30 : (-2 : Int) = (0 : Int) := ti_eq c30
                exfalso; omega
              have C30 : ¬ (-2 : Int) = (0 : Int) := ti_ne c30
              rw [j_X4_whichKind_51_e]
              rw [j_X4_whichKind_53_e]
              refine sf_ite (fun c31 => ?_) (fun c31 => ?_)
              · have C31 : (0 : Int) ≤ (-2 : Int) := ti_le c31
                exfalso; omega
              have C31 : (-2 : Int) < (0 : Int) := ti_nle c31
              refine sf_bnd (s_X4_refuse hF Is1 (by decide) (by decide)) (fun r32 u33 p34 => ?_)
              obtain ⟨Iu33, Fu33_, Of15_u33_, Of34_u33_, Of1_u33_, Of30_u33_, Of18_u33_, p34_1, p34_2, p34_x0⟩ := p34
              have Fu33 : ∀ k, k < 101 → u33 k = τ k := fun k hk => (Fu33_ k hk).trans (Fs1 k hk)
              have Of15_u33 : u33 101 15 = τ 101 15 := Of15_u33_.trans Of15_s1
              have Of34_u33 : u33 101 34 = τ 101 34 := Of34_u33_.trans Of34_s1
              have Of1_u33 : u33 101 1 = τ 101 1 := Of1_u33_.trans Of1_s1
              have Of30_u33 : u33 101 30 = τ 101 30 := Of30_u33_.trans Of30_s1
              have Of18_u33 : u33 101 18 = τ 101 18 := Of18_u33_.trans Of18_s1
              replace p34_x0 : r32.toInt = (-2 : Int) := p34_x0
              exact sf_ret ⟨Iu33, Fu33, Of15_u33, Of34_u33, Of30_u33, Of18_u33, ti_lo _, ti_hi _⟩
            have C29 : ¬ (0 : Int) = (0 : Int) := ti_ne c29
            exfalso; omega
          have C28 : (lg_cmp (Int32.toInt64 x3) (Int32.toInt64 (1 : Int32))).toInt ≤ (0 : Int) := ti_nlt c28
          have L28 : x3.toInt ≤ (1 : Int) := by have q := lg_ltrn c28; (repeat (rw [Int32.toInt_toInt64] at q)); exact q
          refine sf_ret ?_
          refine sf_ite (fun c35 => ?_) (fun c35 => ?_)
          · have C35 : (1 : Int) = (0 : Int) := ti_eq c35
            exfalso; omega
          have C35 : ¬ (1 : Int) = (0 : Int) := ti_ne c35
          rw [j_X4_wrongBit_20_e]
          refine sf_ret ?_
          refine sf_ite (fun c36 => ?_) (fun c36 => ?_)
          · have C36 : (0 : Int) = (0 : Int) := ti_eq c36
            have m37 := wx_X4_34 Is1
            have m38 := wx_X4_34 hI
            have e39 : (s1 101 34).toInt = (τ 101 34).toInt := congrArg Int32.toInt (by rw [hs1, up2_i (by decide)])
            refine sf_ite (fun c40 => ?_) (fun c40 => ?_)
            · have C40 : (s1 101 34).toInt ≤ (8 : Int) := ti_le c40
              rw [j_X4_whichKind_51_e]
              rw [j_X4_whichKind_53_e]
              refine sf_ite (fun c41 => ?_) (fun c41 => ?_)
              · have C41 : (0 : Int) ≤ (0 : Int) := ti_le c41
                have m42 := wx_X4_1 Is1
                have m43 := wx_X4_1 hI
                have e44 : (s1 101 1).toInt = (τ 101 1).toInt := congrArg Int32.toInt (by rw [hs1, up2_i (by decide)])
                have m45 := wx_X4_3 Is1
                have m46 := wx_X4_3 hI
                have e47 : (s1 101 3).toInt = (τ 101 3).toInt := congrArg Int32.toInt (by rw [hs1, up2_i (by decide)])
                refine sf_bnd (s_X4_think hF Is1) (fun r48 u49 p50 => ?_)
                obtain ⟨Iu49, Fu49_, Of15_u49_, Of34_u49_, Of30_u49_, Of18_u49_, -, p50_x0⟩ := p50
                have Fu49 : ∀ k, k < 101 → u49 k = τ k := fun k hk => (Fu49_ k hk).trans (Fs1 k hk)
                have Of15_u49 : u49 101 15 = τ 101 15 := Of15_u49_.trans Of15_s1
                have Of34_u49 : u49 101 34 = τ 101 34 := Of34_u49_.trans Of34_s1
                have Of30_u49 : u49 101 30 = τ 101 30 := Of30_u49_.trans Of30_s1
                have Of18_u49 : u49 101 18 = τ 101 18 := Of18_u49_.trans Of18_s1
                replace p50_x0 : (u49 101 1).toInt = (s1 101 1).toInt ∧ (u49 101 3).toInt = (s1 101 3).toInt := p50_x0
                have m51 := wx_X4_1 Iu49
                have m52 := wx_X4_3 Iu49
                have m53 := wx_X4_34 Iu49
                have e54 : (u49 101 34).toInt = (s1 101 34).toInt := congrArg Int32.toInt Of34_u49_
                have l_0 : (0 : Int32).toInt = 0 := rfl
                exact sl_X4_whichKind_77 hF (by omega) (by omega) (by omega) (by omega) (by omega) (by omega) _ _ _ _ Iu49 Fu49 Of15_u49 Of34_u49 Of30_u49 Of18_u49 (by omega) (by decide) (by decide) (by omega) (by omega)
              have C41 : (0 : Int) < (0 : Int) := ti_nle c41
              exfalso; omega
            have C40 : (8 : Int) < (s1 101 34).toInt := ti_nle c40
            rw [j_X4_whichKind_53_e]
            refine sf_ite (fun c55 => ?_) (fun c55 => ?_)
            · have C55 : (0 : Int) ≤ (-3 : Int) := ti_le c55
              exfalso; omega
            have C55 : (-3 : Int) < (0 : Int) := ti_nle c55
            refine sf_bnd (s_X4_refuse hF Is1 (by decide) (by decide)) (fun r56 u57 p58 => ?_)
            obtain ⟨Iu57, Fu57_, Of15_u57_, Of34_u57_, Of1_u57_, Of30_u57_, Of18_u57_, p58_1, p58_2, p58_x0⟩ := p58
            have Fu57 : ∀ k, k < 101 → u57 k = τ k := fun k hk => (Fu57_ k hk).trans (Fs1 k hk)
            have Of15_u57 : u57 101 15 = τ 101 15 := Of15_u57_.trans Of15_s1
            have Of34_u57 : u57 101 34 = τ 101 34 := Of34_u57_.trans Of34_s1
            have Of1_u57 : u57 101 1 = τ 101 1 := Of1_u57_.trans Of1_s1
            have Of30_u57 : u57 101 30 = τ 101 30 := Of30_u57_.trans Of30_s1
            have Of18_u57 : u57 101 18 = τ 101 18 := Of18_u57_.trans Of18_s1
            replace p58_x0 : r56.toInt = (-3 : Int) := p58_x0
            exact sf_ret ⟨Iu57, Fu57, Of15_u57, Of34_u57, Of30_u57, Of18_u57, ti_lo _, ti_hi _⟩
          have C36 : ¬ (0 : Int) = (0 : Int) := ti_ne c36
          exfalso; omega
        have C14 : ¬ (0 : Int) = (0 : Int) := ti_ne c14
        exfalso; omega
      have C13 : (999 : Int) < x2.toInt := ti_nle c13
      refine sf_ret ?_
      rw [j_X4_whichKind_25_e]
      refine sf_in ?_
      rw [f_X4_wrongBit_e]
      refine sf_ite (fun c59 => ?_) (fun c59 => ?_)
      · have C59 : (-6 : Int) = (0 : Int) := ti_eq c59
        exfalso; omega
      have C59 : ¬ (-6 : Int) = (0 : Int) := ti_ne c59
      rw [j_X4_wrongBit_20_e]
      refine sf_ret ?_
      refine sf_ite (fun c60 => ?_) (fun c60 => ?_)
      · have C60 : (-6 : Int) = (0 : Int) := ti_eq c60
        exfalso; omega
      have C60 : ¬ (-6 : Int) = (0 : Int) := ti_ne c60
      rw [j_X4_whichKind_51_e]
      rw [j_X4_whichKind_53_e]
      refine sf_ite (fun c61 => ?_) (fun c61 => ?_)
      · have C61 : (0 : Int) ≤ (-6 : Int) := ti_le c61
        exfalso; omega
      have C61 : (-6 : Int) < (0 : Int) := ti_nle c61
      refine sf_bnd (s_X4_refuse hF Is1 (by decide) (by decide)) (fun r62 u63 p64 => ?_)
      obtain ⟨Iu63, Fu63_, Of15_u63_, Of34_u63_, Of1_u63_, Of30_u63_, Of18_u63_, p64_1, p64_2, p64_x0⟩ := p64
      have Fu63 : ∀ k, k < 101 → u63 k = τ k := fun k hk => (Fu63_ k hk).trans (Fs1 k hk)
      have Of15_u63 : u63 101 15 = τ 101 15 := Of15_u63_.trans Of15_s1
      have Of34_u63 : u63 101 34 = τ 101 34 := Of34_u63_.trans Of34_s1
      have Of1_u63 : u63 101 1 = τ 101 1 := Of1_u63_.trans Of1_s1
      have Of30_u63 : u63 101 30 = τ 101 30 := Of30_u63_.trans Of30_s1
      have Of18_u63 : u63 101 18 = τ 101 18 := Of18_u63_.trans Of18_s1
      replace p64_x0 : r62.toInt = (-6 : Int) := p64_x0
      exact sf_ret ⟨Iu63, Fu63, Of15_u63, Of34_u63, Of30_u63, Of18_u63, ti_lo _, ti_hi _⟩
    have C12 : x2.toInt < (0 : Int) := ti_nle c12
    refine sf_ret ?_
    rw [j_X4_whichKind_25_e]
    refine sf_in ?_
    rw [f_X4_wrongBit_e]
    refine sf_ite (fun c65 => ?_) (fun c65 => ?_)
    · have C65 : (-4 : Int) = (0 : Int) := ti_eq c65
      exfalso; omega
    have C65 : ¬ (-4 : Int) = (0 : Int) := ti_ne c65
    rw [j_X4_wrongBit_20_e]
    refine sf_ret ?_
    refine sf_ite (fun c66 => ?_) (fun c66 => ?_)
    · have C66 : (-4 : Int) = (0 : Int) := ti_eq c66
      exfalso; omega
    have C66 : ¬ (-4 : Int) = (0 : Int) := ti_ne c66
    rw [j_X4_whichKind_51_e]
    rw [j_X4_whichKind_53_e]
    refine sf_ite (fun c67 => ?_) (fun c67 => ?_)
    · have C67 : (0 : Int) ≤ (-4 : Int) := ti_le c67
      exfalso; omega
    have C67 : (-4 : Int) < (0 : Int) := ti_nle c67
    refine sf_bnd (s_X4_refuse hF Is1 (by decide) (by decide)) (fun r68 u69 p70 => ?_)
    obtain ⟨Iu69, Fu69_, Of15_u69_, Of34_u69_, Of1_u69_, Of30_u69_, Of18_u69_, p70_1, p70_2, p70_x0⟩ := p70
    have Fu69 : ∀ k, k < 101 → u69 k = τ k := fun k hk => (Fu69_ k hk).trans (Fs1 k hk)
    have Of15_u69 : u69 101 15 = τ 101 15 := Of15_u69_.trans Of15_s1
    have Of34_u69 : u69 101 34 = τ 101 34 := Of34_u69_.trans Of34_s1
    have Of1_u69 : u69 101 1 = τ 101 1 := Of1_u69_.trans Of1_s1
    have Of30_u69 : u69 101 30 = τ 101 30 := Of30_u69_.trans Of30_s1
    have Of18_u69 : u69 101 18 = τ 101 18 := Of18_u69_.trans Of18_s1
    replace p70_x0 : r68.toInt = (-4 : Int) := p70_x0
    exact sf_ret ⟨Iu69, Fu69, Of15_u69, Of34_u69, Of30_u69, Of18_u69, ti_lo _, ti_hi _⟩
  obtain rfl := p6
  refine sf_ite (fun c71 => ?_) (fun c71 => ?_)
  · have C71 : (0 : Int) = (0 : Int) := ti_eq c71
    rw [j_X4_whichKind_25_e]
    refine sf_in ?_
    rw [f_X4_wrongBit_e]
    refine sf_ite (fun c72 => ?_) (fun c72 => ?_)
    · have C72 : (-1 : Int) = (0 : Int) := ti_eq c72
      exfalso; omega
    have C72 : ¬ (-1 : Int) = (0 : Int) := ti_ne c72
    rw [j_X4_wrongBit_20_e]
    refine sf_ret ?_
    refine sf_ite (fun c73 => ?_) (fun c73 => ?_)
    · have C73 : (-1 : Int) = (0 : Int) := ti_eq c73
      exfalso; omega
    have C73 : ¬ (-1 : Int) = (0 : Int) := ti_ne c73
    rw [j_X4_whichKind_51_e]
    rw [j_X4_whichKind_53_e]
    refine sf_ite (fun c74 => ?_) (fun c74 => ?_)
    · have C74 : (0 : Int) ≤ (-1 : Int) := ti_le c74
      exfalso; omega
    have C74 : (-1 : Int) < (0 : Int) := ti_nle c74
    refine sf_bnd (s_X4_refuse hF Is1 (by decide) (by decide)) (fun r75 u76 p77 => ?_)
    obtain ⟨Iu76, Fu76_, Of15_u76_, Of34_u76_, Of1_u76_, Of30_u76_, Of18_u76_, p77_1, p77_2, p77_x0⟩ := p77
    have Fu76 : ∀ k, k < 101 → u76 k = τ k := fun k hk => (Fu76_ k hk).trans (Fs1 k hk)
    have Of15_u76 : u76 101 15 = τ 101 15 := Of15_u76_.trans Of15_s1
    have Of34_u76 : u76 101 34 = τ 101 34 := Of34_u76_.trans Of34_s1
    have Of1_u76 : u76 101 1 = τ 101 1 := Of1_u76_.trans Of1_s1
    have Of30_u76 : u76 101 30 = τ 101 30 := Of30_u76_.trans Of30_s1
    have Of18_u76 : u76 101 18 = τ 101 18 := Of18_u76_.trans Of18_s1
    replace p77_x0 : r75.toInt = (-1 : Int) := p77_x0
    exact sf_ret ⟨Iu76, Fu76, Of15_u76, Of34_u76, Of30_u76, Of18_u76, ti_lo _, ti_hi _⟩
  have C71 : ¬ (0 : Int) = (0 : Int) := ti_ne c71
  exfalso; omega
set_option maxHeartbeats 4000000 in
set_option maxRecDepth 100000 in
theorem sl_X4_ill_140 {F : Nat} (hF : 73786976294838206464 ≤ F) {x1 : Int32} {x2 : Int32} {x3 : Int32} {x4 : Int32} {x5 : Int32} {y7 : Int64} {y9 : Int64} {x11 : Int32} {k126 : Int64 → Int32 → Mem → Option (Int64 × Mem)} {τ : Mem} (x1_1 : 0 ≤ x1.toInt) (x1_2 : x1.toInt ≤ 4) (x2_1 : 0 ≤ x2.toInt) (x2_2 : x2.toInt ≤ 7) (x3_1 : 0 ≤ x3.toInt) (x3_2 : x3.toInt ≤ 8) (x4_1 : 2 ≤ x4.toInt) (x4_2 : x4.toInt ≤ 20) (x5_1 : 0 ≤ x5.toInt) (x5_2 : x5.toInt ≤ 1) (x11_1 : 0 ≤ x11.toInt) (x11_2 : x11.toInt ≤ 255) {N126 : Nat} (hM126 : 999 < x11.toInt + (N126 + 1)) (hk126 : ∀ (y7 : Int64) (x11 : Int32) (σ : Mem), wiM σ → (∀ k, k < 101 → σ k = τ k) → σ 101 15 = τ 101 15 → σ 101 34 = τ 101 34 → σ 101 1 = τ 101 1 → σ 101 30 = τ 101 30 → σ 101 18 = τ 101 18 → 999 < x11.toInt + N126 → 0 ≤ x11.toInt → x11.toInt ≤ 999 → sf (k126 y7 x11 σ) (fun r s => wiM s ∧ (∀ k, k < 101 → s k = τ k) ∧ s 101 15 = τ 101 15 ∧ s 101 34 = τ 101 34 ∧ s 101 1 = τ 101 1 ∧ s 101 30 = τ 101 30 ∧ s 101 18 = τ 101 18 ∧ True)) : ∀ (N : Nat) (y12 : Int64) (x14 : Int32) (σ : Mem), wiM σ → (∀ k, k < 101 → σ k = τ k) → σ 101 15 = τ 101 15 → σ 101 34 = τ 101 34 → σ 101 1 = τ 101 1 → σ 101 30 = τ 101 30 → σ 101 18 = τ 101 18 → 8 < x14.toInt + N → 0 ≤ x14.toInt → x14.toInt ≤ 8 → sf (lp_X4_ill_140 F k126 x1 x2 x3 x4 x5 y7 y9 x11 N y12 x14 σ) (fun r s => wiM s ∧ (∀ k, k < 101 → s k = τ k) ∧ s 101 15 = τ 101 15 ∧ s 101 34 = τ 101 34 ∧ s 101 1 = τ 101 1 ∧ s 101 30 = τ 101 30 ∧ s 101 18 = τ 101 18 ∧ True) := by
  intro N
  induction N with
  | zero => intro y12 x14 σ hI Fσ Of15_σ Of34_σ Of1_σ Of30_σ Of18_σ hN x14_1 x14_2; exfalso; omega
  | succ N ih =>
    intro y12 x14 σ hI Fσ Of15_σ Of34_σ Of1_σ Of30_σ Of18_σ hN x14_1 x14_2
    rw [lp_X4_ill_140_s]
    refine sf_ite (fun c1 => ?_) (fun c1 => ?_)
    · have C1 : x3.toInt ≤ x14.toInt := ti_le c1
      refine sf_bnd (s_X4_ownerIn hF hI (by omega) (by omega) (by omega) (by omega)) (fun r2 u3 p4 => ?_)
      obtain ⟨Iu3, Fu3_, Of15_u3_, Of34_u3_, Of1_u3_, Of30_u3_, Of18_u3_, p4_1, p4_2⟩ := p4
      have Fu3 : ∀ k, k < 101 → u3 k = τ k := fun k hk => (Fu3_ k hk).trans (Fσ k hk)
      have Of15_u3 : u3 101 15 = τ 101 15 := Of15_u3_.trans Of15_σ
      have Of34_u3 : u3 101 34 = τ 101 34 := Of34_u3_.trans Of34_σ
      have Of1_u3 : u3 101 1 = τ 101 1 := Of1_u3_.trans Of1_σ
      have Of30_u3 : u3 101 30 = τ 101 30 := Of30_u3_.trans Of30_σ
      have Of18_u3 : u3 101 18 = τ 101 18 := Of18_u3_.trans Of18_σ
      have t5 : ((8 : Int32) * x1).toInt = (8 : Int) * x1.toInt := ti_mul (show -2147483648 ≤ (8 : Int) * x1.toInt by omega) (show (8 : Int) * x1.toInt ≤ 2147483647 by omega)
      have t6 : (((8 : Int32) * x1) + x2).toInt = ((8 : Int32) * x1).toInt + x2.toInt := ti_add (show -2147483648 ≤ ((8 : Int32) * x1).toInt + x2.toInt by omega) (show ((8 : Int32) * x1).toInt + x2.toInt ≤ 2147483647 by omega)
      refine sf_chk (ti_in (by omega) (by omega)) ?_
      have v7 : Int32.toNatClampNeg (((8 : Int32) * x1) + x2) = (((8 : Int32) * x1) + x2).toInt.toNat := rfl
      refine sf_bnd (s_X4_onesOf hF Iu3) (fun r8 u9 p10 => ?_)
      obtain ⟨e9, p10_1, p10_2⟩ := p10
      have e9 := e9.symm
      subst e9
      have b11 := ti_lo (u3 107 (Int32.toNatClampNeg (((8 : Int32) * x1) + x2)))
      have b12 := ti_hi (u3 107 (Int32.toNatClampNeg (((8 : Int32) * x1) + x2)))
      have b13 := ti_lo r8
      have b14 := ti_hi r8
      have b15 := ti_lo (u3 109 (Int32.toNatClampNeg (((8 : Int32) * x1) + x2)))
      have b16 := ti_hi (u3 109 (Int32.toNatClampNeg (((8 : Int32) * x1) + x2)))
      have b17 := ti_lo (r8 * (u3 109 (Int32.toNatClampNeg (((8 : Int32) * x1) + x2))))
      have b18 := ti_hi (r8 * (u3 109 (Int32.toNatClampNeg (((8 : Int32) * x1) + x2))))
      have b19 := ti_lo ((u3 107 (Int32.toNatClampNeg (((8 : Int32) * x1) + x2))) + (r8 * (u3 109 (Int32.toNatClampNeg (((8 : Int32) * x1) + x2)))))
      have b20 := ti_hi ((u3 107 (Int32.toNatClampNeg (((8 : Int32) * x1) + x2))) + (r8 * (u3 109 (Int32.toNatClampNeg (((8 : Int32) * x1) + x2)))))
      refine sf_bnd (s_X4_held hF Iu3) (fun r21 u22 p23 => ?_)
      obtain ⟨e9, p23_1, p23_2⟩ := p23
      have e9 := e9.symm
      subst e9
      refine sf_chk (ti_in (by omega) (by omega)) ?_
      have v24 : Int32.toNatClampNeg x1 = x1.toInt.toNat := rfl
      refine sf_lt (fun s25 hs25 => ?_)
      have Is25 : wiM s25 := by rw [hs25]; exact wm_oth Iu3 (by decide) (by decide) (by decide) (by decide)
      have Fs25 : ∀ k, k < 101 → s25 k = τ k := fun k hk => (show s25 k = u3 k by rw [hs25, up2_k (by omega)]).trans (Fu3 k hk)
      have Of15_s25 : s25 101 15 = τ 101 15 := (show s25 101 15 = u3 101 15 by rw [hs25, up2_k (by omega)]).trans Of15_u3
      have Of34_s25 : s25 101 34 = τ 101 34 := (show s25 101 34 = u3 101 34 by rw [hs25, up2_k (by omega)]).trans Of34_u3
      have Of1_s25 : s25 101 1 = τ 101 1 := (show s25 101 1 = u3 101 1 by rw [hs25, up2_k (by omega)]).trans Of1_u3
      have Of30_s25 : s25 101 30 = τ 101 30 := (show s25 101 30 = u3 101 30 by rw [hs25, up2_k (by omega)]).trans Of30_u3
      have Of18_s25 : s25 101 18 = τ 101 18 := (show s25 101 18 = u3 101 18 by rw [hs25, up2_k (by omega)]).trans Of18_u3
      refine sf_bnd (s_X4_ownerLooked hF Is25) (fun r26 u27 p28 => ?_)
      obtain ⟨e9, p28_1, p28_2⟩ := p28
      have e9 := e9.symm
      subst e9
      refine sf_ite (fun c29 => ?_) (fun c29 => ?_)
      · have C29 : r26.toInt = x1.toInt := ti_eq c29
        rw [j_X4_ill_237_e]
        have t30 : (x11 + (1 : Int32)).toInt = x11.toInt + (1 : Int) := ti_add (show -2147483648 ≤ x11.toInt + (1 : Int) by omega) (show x11.toInt + (1 : Int) ≤ 2147483647 by omega)
        exact hk126 _ _ _ Is25 Fs25 Of15_s25 Of34_s25 Of1_s25 Of30_s25 Of18_s25 (by omega) (by omega) (by omega)
      have C29 : ¬ r26.toInt = x1.toInt := ti_ne c29
      rw [j_X4_ill_237_e]
      have t31 : (x11 + (1 : Int32)).toInt = x11.toInt + (1 : Int) := ti_add (show -2147483648 ≤ x11.toInt + (1 : Int) by omega) (show x11.toInt + (1 : Int) ≤ 2147483647 by omega)
      exact hk126 _ _ _ Is25 Fs25 Of15_s25 Of34_s25 Of1_s25 Of30_s25 Of18_s25 (by omega) (by omega) (by omega)
    have C1 : x14.toInt < x3.toInt := ti_nle c1
    refine sf_bnd (s_X4_hasBit hF hI (by omega) (by omega)) (fun r32 u33 p34 => ?_)
    obtain ⟨e9, p34_1, p34_2⟩ := p34
    have e9 := e9.symm
    subst e9
    have hb_r32 : r32 = 0 ∨ r32 = 1 := wi_bool p34_1 p34_2
    refine sf_ite (fun c35 => ?_) (fun c35 => ?_)
    · have C35 : r32.toInt = (0 : Int) := ti_eq c35
      rw [j_X4_ill_167_e]
      have t36 : (x14 + (1 : Int32)).toInt = x14.toInt + (1 : Int) := ti_add (show -2147483648 ≤ x14.toInt + (1 : Int) by omega) (show x14.toInt + (1 : Int) ≤ 2147483647 by omega)
      exact ih _ _ _ hI Fσ Of15_σ Of34_σ Of1_σ Of30_σ Of18_σ (by omega) (by omega) (by omega)
    have C35 : ¬ r32.toInt = (0 : Int) := ti_ne c35
    rw [j_X4_ill_167_e]
    have t37 : (x14 + (1 : Int32)).toInt = x14.toInt + (1 : Int) := ti_add (show -2147483648 ≤ x14.toInt + (1 : Int) by omega) (show x14.toInt + (1 : Int) ≤ 2147483647 by omega)
    exact ih _ _ _ hI Fσ Of15_σ Of34_σ Of1_σ Of30_σ Of18_σ (by omega) (by omega) (by omega)
set_option maxHeartbeats 4000000 in
set_option maxRecDepth 100000 in
theorem sl_X4_ill_126 {F : Nat} (hF : 73786976294838206464 ≤ F) {x1 : Int32} {x2 : Int32} {x3 : Int32} {x4 : Int32} {x5 : Int32} {y9 : Int64} {τ : Mem} (x1_1 : 0 ≤ x1.toInt) (x1_2 : x1.toInt ≤ 4) (x2_1 : 0 ≤ x2.toInt) (x2_2 : x2.toInt ≤ 7) (x3_1 : 0 ≤ x3.toInt) (x3_2 : x3.toInt ≤ 8) (x4_1 : 2 ≤ x4.toInt) (x4_2 : x4.toInt ≤ 20) (x5_1 : 0 ≤ x5.toInt) (x5_2 : x5.toInt ≤ 1) : ∀ (N : Nat) (y7 : Int64) (x11 : Int32) (σ : Mem), wiM σ → (∀ k, k < 101 → σ k = τ k) → σ 101 15 = τ 101 15 → σ 101 34 = τ 101 34 → σ 101 1 = τ 101 1 → σ 101 30 = τ 101 30 → σ 101 18 = τ 101 18 → 999 < x11.toInt + N → 0 ≤ x11.toInt → x11.toInt ≤ 999 → sf (lp_X4_ill_126 F x1 x2 x3 x4 x5 y9 N y7 x11 σ) (fun r s => wiM s ∧ (∀ k, k < 101 → s k = τ k) ∧ s 101 15 = τ 101 15 ∧ s 101 34 = τ 101 34 ∧ s 101 1 = τ 101 1 ∧ s 101 30 = τ 101 30 ∧ s 101 18 = τ 101 18 ∧ True) := by
  intro N
  induction N with
  | zero => intro y7 x11 σ hI Fσ Of15_σ Of34_σ Of1_σ Of30_σ Of18_σ hN x11_1 x11_2; exfalso; omega
  | succ N ih =>
    intro y7 x11 σ hI Fσ Of15_σ Of34_σ Of1_σ Of30_σ Of18_σ hN x11_1 x11_2
    rw [lp_X4_ill_126_s]
    obtain ⟨w1_1, w1_2⟩ := wi_shl8 x3 (by omega) (by omega)
    refine sf_ite (fun c2 => ?_) (fun c2 => ?_)
    · have C2 : ((1 : Int32) <<< (x3 &&& 31)).toInt ≤ x11.toInt := ti_le c2
      refine sf_bnd (s_X4_partOf hF hI (by omega) (by omega)) (fun r3 u4 p5 => ?_)
      obtain ⟨e9, -⟩ := p5
      have e9 := e9.symm
      subst e9
      exact sf_ret ⟨hI, Fσ, Of15_σ, Of34_σ, Of1_σ, Of30_σ, Of18_σ, trivial⟩
    have C2 : x11.toInt < ((1 : Int32) <<< (x3 &&& 31)).toInt := ti_nle c2
    have l_0 : (0 : Int32).toInt = 0 := rfl
    exact sl_X4_ill_140 hF (by omega) (by omega) (by omega) (by omega) (by omega) (by omega) (by omega) (by omega) (by omega) (by omega) (by omega) (by omega) (by omega) ih _ _ _ _ hI Fσ Of15_σ Of34_σ Of1_σ Of30_σ Of18_σ (by omega) (by decide) (by decide)
set_option maxHeartbeats 4000000 in
set_option maxRecDepth 100000 in
theorem sl_X4_ill_103 {F : Nat} (hF : 73786976294838206464 ≤ F) {x1 : Int32} {x2 : Int32} {x3 : Int32} {x4 : Int32} {x5 : Int32} {y7 : Int64} {τ : Mem} (x1_1 : 0 ≤ x1.toInt) (x1_2 : x1.toInt ≤ 4) (x2_1 : 0 ≤ x2.toInt) (x2_2 : x2.toInt ≤ 7) (x3_1 : 0 ≤ x3.toInt) (x3_2 : x3.toInt ≤ 8) (x4_1 : 2 ≤ x4.toInt) (x4_2 : x4.toInt ≤ 20) (x5_1 : 0 ≤ x5.toInt) (x5_2 : x5.toInt ≤ 1) : ∀ (N : Nat) (y9 : Int64) (x11 : Int32) (σ : Mem), wiM σ → (∀ k, k < 101 → σ k = τ k) → σ 101 15 = τ 101 15 → σ 101 34 = τ 101 34 → σ 101 1 = τ 101 1 → σ 101 30 = τ 101 30 → σ 101 18 = τ 101 18 → 8 < x11.toInt + N → 0 ≤ x11.toInt → x11.toInt ≤ 8 → sf (lp_X4_ill_103 F x1 x2 x3 x4 x5 y7 N y9 x11 σ) (fun r s => wiM s ∧ (∀ k, k < 101 → s k = τ k) ∧ s 101 15 = τ 101 15 ∧ s 101 34 = τ 101 34 ∧ s 101 1 = τ 101 1 ∧ s 101 30 = τ 101 30 ∧ s 101 18 = τ 101 18 ∧ True) := by
  intro N
  induction N with
  | zero => intro y9 x11 σ hI Fσ Of15_σ Of34_σ Of1_σ Of30_σ Of18_σ hN x11_1 x11_2; exfalso; omega
  | succ N ih =>
    intro y9 x11 σ hI Fσ Of15_σ Of34_σ Of1_σ Of30_σ Of18_σ hN x11_1 x11_2
    rw [lp_X4_ill_103_s]
    refine sf_ite (fun c1 => ?_) (fun c1 => ?_)
    · have C1 : x3.toInt ≤ x11.toInt := ti_le c1
      have l_0 : (0 : Int32).toInt = 0 := rfl
      exact sl_X4_ill_126 hF (by omega) (by omega) (by omega) (by omega) (by omega) (by omega) (by omega) (by omega) (by omega) (by omega) _ _ _ _ hI Fσ Of15_σ Of34_σ Of1_σ Of30_σ Of18_σ (by omega) (by decide) (by decide)
    have C1 : x11.toInt < x3.toInt := ti_nle c1
    refine sf_lt (fun z2 hz2 => ?_)
    have t3 : (x11 + (1 : Int32)).toInt = x11.toInt + (1 : Int) := ti_add (show -2147483648 ≤ x11.toInt + (1 : Int) by omega) (show x11.toInt + (1 : Int) ≤ 2147483647 by omega)
    exact ih _ _ _ hI Fσ Of15_σ Of34_σ Of1_σ Of30_σ Of18_σ (by omega) (by omega) (by omega)
set_option maxHeartbeats 4000000 in
set_option maxRecDepth 100000 in
theorem s_X4_ill {F : Nat} (hF : 73786976294838206464 ≤ F) {x1 : Int32} {x2 : Int32} {x3 : Int32} {x4 : Int32} {x5 : Int32} {τ : Mem} (hI : wiM τ) : sf (f_X4_ill F x1 x2 x3 x4 x5 τ) (fun r s => wiM s ∧ (∀ k, k < 101 → s k = τ k) ∧ s 101 15 = τ 101 15 ∧ s 101 34 = τ 101 34 ∧ s 101 1 = τ 101 1 ∧ s 101 30 = τ 101 30 ∧ s 101 18 = τ 101 18 ∧ True) := by
  have Fτ : ∀ k, k < 101 → τ k = τ k := fun _ _ => rfl
  have Of15_τ : τ 101 15 = τ 101 15 := rfl
  have Of34_τ : τ 101 34 = τ 101 34 := rfl
  have Of1_τ : τ 101 1 = τ 101 1 := rfl
  have Of30_τ : τ 101 30 = τ 101 30 := rfl
  have Of18_τ : τ 101 18 = τ 101 18 := rfl
  rw [f_X4_ill_e]
  refine sf_lt (fun s1 hs1 => ?_)
  have Is1 : wiM s1 := by rw [hs1]; exact wm_fld hI (by decide) (by decide) (by decide) (by decide) (by decide) (by decide) (by decide)
  have Fs1 : ∀ k, k < 101 → s1 k = τ k := fun k hk => (show s1 k = τ k by rw [hs1, up2_k (by omega)]).trans (Fτ k hk)
  have Of15_s1 : s1 101 15 = τ 101 15 := (show s1 101 15 = τ 101 15 by rw [hs1, up2_i (by decide)]).trans Of15_τ
  have Of34_s1 : s1 101 34 = τ 101 34 := (show s1 101 34 = τ 101 34 by rw [hs1, up2_i (by decide)]).trans Of34_τ
  have Of1_s1 : s1 101 1 = τ 101 1 := (show s1 101 1 = τ 101 1 by rw [hs1, up2_i (by decide)]).trans Of1_τ
  have Of30_s1 : s1 101 30 = τ 101 30 := (show s1 101 30 = τ 101 30 by rw [hs1, up2_i (by decide)]).trans Of30_τ
  have Of18_s1 : s1 101 18 = τ 101 18 := (show s1 101 18 = τ 101 18 by rw [hs1, up2_i (by decide)]).trans Of18_τ
  have b2 := ti_lo x1
  have b3 := ti_hi x1
  refine sf_bnd (s_X4_isLooker hF Is1) (fun r4 u5 p6 => ?_)
  obtain ⟨e9, p6⟩ := p6
  have e9 := e9.symm
  subst e9
  rcases p6 with ⟨rfl, q7, q8⟩ | p6
  · refine sf_ite (fun c9 => ?_) (fun c9 => ?_)
    · have C9 : (1 : Int) = (0 : Int) := ti_eq c9
      exfalso; omega
    have C9 : ¬ (1 : Int) = (0 : Int) := ti_ne c9
    have b10 := ti_lo x2
    have b11 := ti_hi x2
    refine sf_bnd (s_X4_isView hF Is1) (fun r12 u13 p14 => ?_)
    obtain ⟨e9, p14⟩ := p14
    have e9 := e9.symm
    subst e9
    rcases p14 with ⟨rfl, q15, q16⟩ | p14
    · refine sf_ite (fun c17 => ?_) (fun c17 => ?_)
      · have C17 : (1 : Int) = (0 : Int) := ti_eq c17
        exfalso; omega
      have C17 : ¬ (1 : Int) = (0 : Int) := ti_ne c17
      have b18 := ti_lo x3
      have b19 := ti_hi x3
      refine sf_ite (fun c20 => ?_) (fun c20 => ?_)
      · have C20 : x3.toInt < (0 : Int) := ti_lt c20
        rw [j_X4_ill_39_e]
        rw [j_X4_ill_63_e]
        refine sf_in ?_
        rw [f_X4_wrongBit_e]
        refine sf_ite (fun c21 => ?_) (fun c21 => ?_)
        · have C21 : (-4 : Int) = (0 : Int) := ti_eq c21
          exfalso; omega
        have C21 : ¬ (-4 : Int) = (0 : Int) := ti_ne c21
        rw [j_X4_wrongBit_20_e]
        refine sf_ret ?_
        refine sf_ite (fun c22 => ?_) (fun c22 => ?_)
        · have C22 : (0 : Int) ≤ (-4 : Int) := ti_le c22
          exfalso; omega
        have C22 : (-4 : Int) < (0 : Int) := ti_nle c22
        refine sf_bnd (s_X4_refuse hF Is1 (by decide) (by decide)) (fun r23 u24 p25 => ?_)
        obtain ⟨Iu24, Fu24_, Of15_u24_, Of34_u24_, Of1_u24_, Of30_u24_, Of18_u24_, p25_1, p25_2, p25_x0⟩ := p25
        have Fu24 : ∀ k, k < 101 → u24 k = τ k := fun k hk => (Fu24_ k hk).trans (Fs1 k hk)
        have Of15_u24 : u24 101 15 = τ 101 15 := Of15_u24_.trans Of15_s1
        have Of34_u24 : u24 101 34 = τ 101 34 := Of34_u24_.trans Of34_s1
        have Of1_u24 : u24 101 1 = τ 101 1 := Of1_u24_.trans Of1_s1
        have Of30_u24 : u24 101 30 = τ 101 30 := Of30_u24_.trans Of30_s1
        have Of18_u24 : u24 101 18 = τ 101 18 := Of18_u24_.trans Of18_s1
        replace p25_x0 : r23.toInt = (-4 : Int) := p25_x0
        exact sf_ret ⟨Iu24, Fu24, Of15_u24, Of34_u24, Of1_u24, Of30_u24, Of18_u24, trivial⟩
      have C20 : (0 : Int) ≤ x3.toInt := ti_nlt c20
      have b26 := ti_lo x4
      have b27 := ti_hi x4
      refine sf_ite (fun c28 => ?_) (fun c28 => ?_)
      · have C28 : (2 : Int) ≤ x4.toInt := ti_le c28
        refine sf_ite (fun c29 => ?_) (fun c29 => ?_)
        · have C29 : (8 : Int) < x3.toInt := ti_lt c29
          rw [j_X4_ill_59_e]
          rw [j_X4_ill_63_e]
          refine sf_in ?_
          rw [f_X4_wrongBit_e]
          refine sf_ite (fun c30 => ?_) (fun c30 => ?_)
          · have C30 : (-6 : Int) = (0 : Int) := ti_eq c30
            exfalso; omega
          have C30 : ¬ (-6 : Int) = (0 : Int) := ti_ne c30
          rw [j_X4_wrongBit_20_e]
          refine sf_ret ?_
          refine sf_ite (fun c31 => ?_) (fun c31 => ?_)
          · have C31 : (0 : Int) ≤ (-6 : Int) := ti_le c31
            exfalso; omega
          have C31 : (-6 : Int) < (0 : Int) := ti_nle c31
          refine sf_bnd (s_X4_refuse hF Is1 (by decide) (by decide)) (fun r32 u33 p34 => ?_)
          obtain ⟨Iu33, Fu33_, Of15_u33_, Of34_u33_, Of1_u33_, Of30_u33_, Of18_u33_, p34_1, p34_2, p34_x0⟩ := p34
          have Fu33 : ∀ k, k < 101 → u33 k = τ k := fun k hk => (Fu33_ k hk).trans (Fs1 k hk)
          have Of15_u33 : u33 101 15 = τ 101 15 := Of15_u33_.trans Of15_s1
          have Of34_u33 : u33 101 34 = τ 101 34 := Of34_u33_.trans Of34_s1
          have Of1_u33 : u33 101 1 = τ 101 1 := Of1_u33_.trans Of1_s1
          have Of30_u33 : u33 101 30 = τ 101 30 := Of30_u33_.trans Of30_s1
          have Of18_u33 : u33 101 18 = τ 101 18 := Of18_u33_.trans Of18_s1
          replace p34_x0 : r32.toInt = (-6 : Int) := p34_x0
          exact sf_ret ⟨Iu33, Fu33, Of15_u33, Of34_u33, Of1_u33, Of30_u33, Of18_u33, trivial⟩
        have C29 : x3.toInt ≤ (8 : Int) := ti_nlt c29
        refine sf_ite (fun c35 => ?_) (fun c35 => ?_)
        · have C35 : x4.toInt ≤ (20 : Int) := ti_le c35
          rw [j_X4_ill_63_e]
          refine sf_in ?_
          rw [f_X4_wrongBit_e]
          refine sf_ite (fun c36 => ?_) (fun c36 => ?_)
          · have C36 : (0 : Int) = (0 : Int) := ti_eq c36
            refine sf_in ?_
            rw [f_X4_in_e]
            have b37 := ti_lo x5
            have b38 := ti_hi x5
            have b39 := ti_lo (lg_cmp (Int32.toInt64 x5) (0 : Int64))
            have b40 := ti_hi (lg_cmp (Int32.toInt64 x5) (0 : Int64))
            refine sf_ite (fun c41 => ?_) (fun c41 => ?_)
            · have C41 : (lg_cmp (Int32.toInt64 x5) (0 : Int64)).toInt < (0 : Int) := ti_lt c41
              have L41 : x5.toInt < (0 : Int) := by have q := lg_ltl c41; (repeat (rw [Int32.toInt_toInt64] at q)); exact q
              rw [j_X4_in_17_e]
              refine sf_ret ?_
              refine sf_ite (fun c42 => ?_) (fun c42 => ?_)
              · have C42 : (0 : Int) = (0 : Int) := ti_eq c42
                refine sf_ret ?_
                refine sf_ite (fun c43 => ?_) (fun c43 => ?_)
                · have C43 : (0 : Int) ≤ (-2 : Int) := ti_le c43
                  exfalso; omega
                have C43 : (-2 : Int) < (0 : Int) := ti_nle c43
                refine sf_bnd (s_X4_refuse hF Is1 (by decide) (by decide)) (fun r44 u45 p46 => ?_)
                obtain ⟨Iu45, Fu45_, Of15_u45_, Of34_u45_, Of1_u45_, Of30_u45_, Of18_u45_, p46_1, p46_2, p46_x0⟩ := p46
                have Fu45 : ∀ k, k < 101 → u45 k = τ k := fun k hk => (Fu45_ k hk).trans (Fs1 k hk)
                have Of15_u45 : u45 101 15 = τ 101 15 := Of15_u45_.trans Of15_s1
                have Of34_u45 : u45 101 34 = τ 101 34 := Of34_u45_.trans Of34_s1
                have Of1_u45 : u45 101 1 = τ 101 1 := Of1_u45_.trans Of1_s1
                have Of30_u45 : u45 101 30 = τ 101 30 := Of30_u45_.trans Of30_s1
                have Of18_u45 : u45 101 18 = τ 101 18 := Of18_u45_.trans Of18_s1
                replace p46_x0 : r44.toInt = (-2 : Int) := p46_x0
                exact sf_ret ⟨Iu45, Fu45, Of15_u45, Of34_u45, Of1_u45, Of30_u45, Of18_u45, trivial⟩
              have C42 : ¬ (0 : Int) = (0 : Int) := ti_ne c42
              exfalso; omega
            have C41 : (0 : Int) ≤ (lg_cmp (Int32.toInt64 x5) (0 : Int64)).toInt := ti_nlt c41
            have L41 : (0 : Int) ≤ x5.toInt := by have q := lg_ltln c41; (repeat (rw [Int32.toInt_toInt64] at q)); exact q
            have b47 := ti_lo (lg_cmp (Int32.toInt64 x5) (Int32.toInt64 (1 : Int32)))
            have b48 := ti_hi (lg_cmp (Int32.toInt64 x5) (Int32.toInt64 (1 : Int32)))
            refine sf_ite (fun c49 => ?_) (fun c49 => ?_)
            · have C49 : (0 : Int) < (lg_cmp (Int32.toInt64 x5) (Int32.toInt64 (1 : Int32))).toInt := ti_lt c49
              have L49 : (1 : Int) < x5.toInt := by have q := lg_ltr c49; (repeat (rw [Int32.toInt_toInt64] at q)); exact q
              rw [j_X4_in_17_e]
              refine sf_ret ?_
              refine sf_ite (fun c50 => ?_) (fun c50 => ?_)
              · have C50 : (0 : Int) = (0 : Int) := ti_eq c50
                refine sf_ret ?_
                refine sf_ite (fun c51 => ?_) (fun c51 => ?_)
                · have C51 : (0 : Int) ≤ (-2 : Int) := ti_le c51
                  exfalso; omega
                have C51 : (-2 : Int) < (0 : Int) := ti_nle c51
                refine sf_bnd (s_X4_refuse hF Is1 (by decide) (by decide)) (fun r52 u53 p54 => ?_)
                obtain ⟨Iu53, Fu53_, Of15_u53_, Of34_u53_, Of1_u53_, Of30_u53_, Of18_u53_, p54_1, p54_2, p54_x0⟩ := p54
                have Fu53 : ∀ k, k < 101 → u53 k = τ k := fun k hk => (Fu53_ k hk).trans (Fs1 k hk)
                have Of15_u53 : u53 101 15 = τ 101 15 := Of15_u53_.trans Of15_s1
                have Of34_u53 : u53 101 34 = τ 101 34 := Of34_u53_.trans Of34_s1
                have Of1_u53 : u53 101 1 = τ 101 1 := Of1_u53_.trans Of1_s1
                have Of30_u53 : u53 101 30 = τ 101 30 := Of30_u53_.trans Of30_s1
                have Of18_u53 : u53 101 18 = τ 101 18 := Of18_u53_.trans Of18_s1
                replace p54_x0 : r52.toInt = (-2 : Int) := p54_x0
                exact sf_ret ⟨Iu53, Fu53, Of15_u53, Of34_u53, Of1_u53, Of30_u53, Of18_u53, trivial⟩
              have C50 : ¬ (0 : Int) = (0 : Int) := ti_ne c50
              exfalso; omega
            have C49 : (lg_cmp (Int32.toInt64 x5) (Int32.toInt64 (1 : Int32))).toInt ≤ (0 : Int) := ti_nlt c49
            have L49 : x5.toInt ≤ (1 : Int) := by have q := lg_ltrn c49; (repeat (rw [Int32.toInt_toInt64] at q)); exact q
            refine sf_ret ?_
            refine sf_ite (fun c55 => ?_) (fun c55 => ?_)
            · have C55 : (1 : Int) = (0 : Int) := ti_eq c55
              exfalso; omega
            have C55 : ¬ (1 : Int) = (0 : Int) := ti_ne c55
            rw [j_X4_wrongBit_20_e]
            refine sf_ret ?_
            refine sf_ite (fun c56 => ?_) (fun c56 => ?_)
            · have C56 : (0 : Int) ≤ (0 : Int) := ti_le c56
              refine sf_bnd (s_X4_layBrings hF Is1) (fun r57 u58 p59 => ?_)
              obtain ⟨Iu58, Fu58_, Of15_u58_, Of34_u58_, Of1_u58_, Of30_u58_, Of18_u58_, -⟩ := p59
              have Fu58 : ∀ k, k < 101 → u58 k = τ k := fun k hk => (Fu58_ k hk).trans (Fs1 k hk)
              have Of15_u58 : u58 101 15 = τ 101 15 := Of15_u58_.trans Of15_s1
              have Of34_u58 : u58 101 34 = τ 101 34 := Of34_u58_.trans Of34_s1
              have Of1_u58 : u58 101 1 = τ 101 1 := Of1_u58_.trans Of1_s1
              have Of30_u58 : u58 101 30 = τ 101 30 := Of30_u58_.trans Of30_s1
              have Of18_u58 : u58 101 18 = τ 101 18 := Of18_u58_.trans Of18_s1
              have l_0 : (0 : Int32).toInt = 0 := rfl
              exact sl_X4_ill_103 hF (by omega) (by omega) (by omega) (by omega) (by omega) (by omega) (by omega) (by omega) (by omega) (by omega) _ _ _ _ Iu58 Fu58 Of15_u58 Of34_u58 Of1_u58 Of30_u58 Of18_u58 (by omega) (by decide) (by decide)
            have C56 : (0 : Int) < (0 : Int) := ti_nle c56
            exfalso; omega
          have C36 : ¬ (0 : Int) = (0 : Int) := ti_ne c36
          exfalso; omega
        have C35 : (20 : Int) < x4.toInt := ti_nle c35
        rw [j_X4_ill_59_e]
        rw [j_X4_ill_63_e]
        refine sf_in ?_
        rw [f_X4_wrongBit_e]
        refine sf_ite (fun c60 => ?_) (fun c60 => ?_)
        · have C60 : (-6 : Int) = (0 : Int) := ti_eq c60
          exfalso; omega
        have C60 : ¬ (-6 : Int) = (0 : Int) := ti_ne c60
        rw [j_X4_wrongBit_20_e]
        refine sf_ret ?_
        refine sf_ite (fun c61 => ?_) (fun c61 => ?_)
        · have C61 : (0 : Int) ≤ (-6 : Int) := ti_le c61
          exfalso; omega
        have C61 : (-6 : Int) < (0 : Int) := ti_nle c61
        refine sf_bnd (s_X4_refuse hF Is1 (by decide) (by decide)) (fun r62 u63 p64 => ?_)
        obtain ⟨Iu63, Fu63_, Of15_u63_, Of34_u63_, Of1_u63_, Of30_u63_, Of18_u63_, p64_1, p64_2, p64_x0⟩ := p64
        have Fu63 : ∀ k, k < 101 → u63 k = τ k := fun k hk => (Fu63_ k hk).trans (Fs1 k hk)
        have Of15_u63 : u63 101 15 = τ 101 15 := Of15_u63_.trans Of15_s1
        have Of34_u63 : u63 101 34 = τ 101 34 := Of34_u63_.trans Of34_s1
        have Of1_u63 : u63 101 1 = τ 101 1 := Of1_u63_.trans Of1_s1
        have Of30_u63 : u63 101 30 = τ 101 30 := Of30_u63_.trans Of30_s1
        have Of18_u63 : u63 101 18 = τ 101 18 := Of18_u63_.trans Of18_s1
        replace p64_x0 : r62.toInt = (-6 : Int) := p64_x0
        exact sf_ret ⟨Iu63, Fu63, Of15_u63, Of34_u63, Of1_u63, Of30_u63, Of18_u63, trivial⟩
      have C28 : x4.toInt < (2 : Int) := ti_nle c28
      rw [j_X4_ill_39_e]
      rw [j_X4_ill_63_e]
      refine sf_in ?_
      rw [f_X4_wrongBit_e]
      refine sf_ite (fun c65 => ?_) (fun c65 => ?_)
      · have C65 : (-4 : Int) = (0 : Int) := ti_eq c65
        exfalso; omega
      have C65 : ¬ (-4 : Int) = (0 : Int) := ti_ne c65
      rw [j_X4_wrongBit_20_e]
      refine sf_ret ?_
      refine sf_ite (fun c66 => ?_) (fun c66 => ?_)
      · have C66 : (0 : Int) ≤ (-4 : Int) := ti_le c66
        exfalso; omega
      have C66 : (-4 : Int) < (0 : Int) := ti_nle c66
      refine sf_bnd (s_X4_refuse hF Is1 (by decide) (by decide)) (fun r67 u68 p69 => ?_)
      obtain ⟨Iu68, Fu68_, Of15_u68_, Of34_u68_, Of1_u68_, Of30_u68_, Of18_u68_, p69_1, p69_2, p69_x0⟩ := p69
      have Fu68 : ∀ k, k < 101 → u68 k = τ k := fun k hk => (Fu68_ k hk).trans (Fs1 k hk)
      have Of15_u68 : u68 101 15 = τ 101 15 := Of15_u68_.trans Of15_s1
      have Of34_u68 : u68 101 34 = τ 101 34 := Of34_u68_.trans Of34_s1
      have Of1_u68 : u68 101 1 = τ 101 1 := Of1_u68_.trans Of1_s1
      have Of30_u68 : u68 101 30 = τ 101 30 := Of30_u68_.trans Of30_s1
      have Of18_u68 : u68 101 18 = τ 101 18 := Of18_u68_.trans Of18_s1
      replace p69_x0 : r67.toInt = (-4 : Int) := p69_x0
      exact sf_ret ⟨Iu68, Fu68, Of15_u68, Of34_u68, Of1_u68, Of30_u68, Of18_u68, trivial⟩
    obtain ⟨rfl, q70⟩ := p14
    refine sf_ite (fun c71 => ?_) (fun c71 => ?_)
    · have C71 : (0 : Int) = (0 : Int) := ti_eq c71
      rw [j_X4_ill_23_e]
      rw [j_X4_ill_63_e]
      refine sf_in ?_
      rw [f_X4_wrongBit_e]
      refine sf_ite (fun c72 => ?_) (fun c72 => ?_)
      · have C72 : (-1 : Int) = (0 : Int) := ti_eq c72
        exfalso; omega
      have C72 : ¬ (-1 : Int) = (0 : Int) := ti_ne c72
      rw [j_X4_wrongBit_20_e]
      refine sf_ret ?_
      refine sf_ite (fun c73 => ?_) (fun c73 => ?_)
      · have C73 : (0 : Int) ≤ (-1 : Int) := ti_le c73
        exfalso; omega
      have C73 : (-1 : Int) < (0 : Int) := ti_nle c73
      refine sf_bnd (s_X4_refuse hF Is1 (by decide) (by decide)) (fun r74 u75 p76 => ?_)
      obtain ⟨Iu75, Fu75_, Of15_u75_, Of34_u75_, Of1_u75_, Of30_u75_, Of18_u75_, p76_1, p76_2, p76_x0⟩ := p76
      have Fu75 : ∀ k, k < 101 → u75 k = τ k := fun k hk => (Fu75_ k hk).trans (Fs1 k hk)
      have Of15_u75 : u75 101 15 = τ 101 15 := Of15_u75_.trans Of15_s1
      have Of34_u75 : u75 101 34 = τ 101 34 := Of34_u75_.trans Of34_s1
      have Of1_u75 : u75 101 1 = τ 101 1 := Of1_u75_.trans Of1_s1
      have Of30_u75 : u75 101 30 = τ 101 30 := Of30_u75_.trans Of30_s1
      have Of18_u75 : u75 101 18 = τ 101 18 := Of18_u75_.trans Of18_s1
      replace p76_x0 : r74.toInt = (-1 : Int) := p76_x0
      exact sf_ret ⟨Iu75, Fu75, Of15_u75, Of34_u75, Of1_u75, Of30_u75, Of18_u75, trivial⟩
    have C71 : ¬ (0 : Int) = (0 : Int) := ti_ne c71
    exfalso; omega
  obtain rfl := p6
  refine sf_ite (fun c77 => ?_) (fun c77 => ?_)
  · have C77 : (0 : Int) = (0 : Int) := ti_eq c77
    rw [j_X4_ill_23_e]
    rw [j_X4_ill_63_e]
    refine sf_in ?_
    rw [f_X4_wrongBit_e]
    refine sf_ite (fun c78 => ?_) (fun c78 => ?_)
    · have C78 : (-1 : Int) = (0 : Int) := ti_eq c78
      exfalso; omega
    have C78 : ¬ (-1 : Int) = (0 : Int) := ti_ne c78
    rw [j_X4_wrongBit_20_e]
    refine sf_ret ?_
    refine sf_ite (fun c79 => ?_) (fun c79 => ?_)
    · have C79 : (0 : Int) ≤ (-1 : Int) := ti_le c79
      exfalso; omega
    have C79 : (-1 : Int) < (0 : Int) := ti_nle c79
    refine sf_bnd (s_X4_refuse hF Is1 (by decide) (by decide)) (fun r80 u81 p82 => ?_)
    obtain ⟨Iu81, Fu81_, Of15_u81_, Of34_u81_, Of1_u81_, Of30_u81_, Of18_u81_, p82_1, p82_2, p82_x0⟩ := p82
    have Fu81 : ∀ k, k < 101 → u81 k = τ k := fun k hk => (Fu81_ k hk).trans (Fs1 k hk)
    have Of15_u81 : u81 101 15 = τ 101 15 := Of15_u81_.trans Of15_s1
    have Of34_u81 : u81 101 34 = τ 101 34 := Of34_u81_.trans Of34_s1
    have Of1_u81 : u81 101 1 = τ 101 1 := Of1_u81_.trans Of1_s1
    have Of30_u81 : u81 101 30 = τ 101 30 := Of30_u81_.trans Of30_s1
    have Of18_u81 : u81 101 18 = τ 101 18 := Of18_u81_.trans Of18_s1
    replace p82_x0 : r80.toInt = (-1 : Int) := p82_x0
    exact sf_ret ⟨Iu81, Fu81, Of15_u81, Of34_u81, Of1_u81, Of30_u81, Of18_u81, trivial⟩
  have C77 : ¬ (0 : Int) = (0 : Int) := ti_ne c77
  exfalso; omega
