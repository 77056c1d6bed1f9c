set_option maxHeartbeats 4000000 in
set_option maxRecDepth 100000 in
theorem sl_X4_ahead_26 {F : Nat} (hF : 73786976294838206464 ≤ F) {x1 : Int32} {x2 : Int32} {τ : Mem} (x1_1 : 0 ≤ x1.toInt) (x1_2 : x1.toInt ≤ 4) (x2_1 : 0 ≤ x2.toInt) (x2_2 : x2.toInt ≤ 4) : ∀ (N : Nat) (x3 : Int32) (σ : Mem), wiM σ → (∀ k, k < 101 → σ k = τ k) → σ 101 15 = τ 101 15 → σ 101 34 = τ 101 34 → σ 101 1 = τ 101 1 → σ 101 30 = τ 101 30 → σ 101 18 = τ 101 18 → 1000 < x3.toInt + N → 0 ≤ x3.toInt → x3.toInt ≤ 1000 → sf (lp_X4_ahead_26 F x1 x2 N x3 σ) (fun r s => wiM s ∧ (∀ k, k < 101 → s k = τ k) ∧ s 101 15 = τ 101 15 ∧ s 101 34 = τ 101 34 ∧ s 101 1 = τ 101 1 ∧ s 101 30 = τ 101 30 ∧ s 101 18 = τ 101 18 ∧ -2147483648 ≤ r.toInt ∧ r.toInt ≤ 2147483647) := by
  intro N
  induction N with
  | zero => intro x3 σ hI Fσ Of15_σ Of34_σ Of1_σ Of30_σ Of18_σ hN x3_1 x3_2; exfalso; omega
  | succ N ih =>
    intro x3 σ hI Fσ Of15_σ Of34_σ Of1_σ Of30_σ Of18_σ hN x3_1 x3_2
    rw [lp_X4_ahead_26_s]
    refine sf_ite (fun c1 => ?_) (fun c1 => ?_)
    · have C1 : (999 : Int) < x3.toInt := ti_lt c1
      exact sf_ret ⟨hI, Fσ, Of15_σ, Of34_σ, Of1_σ, Of30_σ, Of18_σ, ti_lo _, ti_hi _⟩
    have C1 : x3.toInt ≤ (999 : Int) := ti_nlt c1
    refine sf_bnd (s_X4_worthIn hF hI (by omega) (by omega) (by omega) (by omega)) (fun r2 u3 p4 => ?_)
    obtain ⟨Iu3, Fu3_, Of15_u3_, Of34_u3_, Of1_u3_, Of30_u3_, Of18_u3_, p4_1, p4_2⟩ := p4
    have Fu3 : ∀ k, k < 101 → u3 k = τ k := fun k hk => (Fu3_ k hk).trans (Fσ k hk)
    have Of15_u3 : u3 101 15 = τ 101 15 := Of15_u3_.trans Of15_σ
    have Of34_u3 : u3 101 34 = τ 101 34 := Of34_u3_.trans Of34_σ
    have Of1_u3 : u3 101 1 = τ 101 1 := Of1_u3_.trans Of1_σ
    have Of30_u3 : u3 101 30 = τ 101 30 := Of30_u3_.trans Of30_σ
    have Of18_u3 : u3 101 18 = τ 101 18 := Of18_u3_.trans Of18_σ
    refine sf_bnd (s_X4_worthIn hF Iu3 (by omega) (by omega) (by omega) (by omega)) (fun r5 u6 p7 => ?_)
    obtain ⟨Iu6, Fu6_, Of15_u6_, Of34_u6_, Of1_u6_, Of30_u6_, Of18_u6_, p7_1, p7_2⟩ := p7
    have Fu6 : ∀ k, k < 101 → u6 k = τ k := fun k hk => (Fu6_ k hk).trans (Fu3 k hk)
    have Of15_u6 : u6 101 15 = τ 101 15 := Of15_u6_.trans Of15_u3
    have Of34_u6 : u6 101 34 = τ 101 34 := Of34_u6_.trans Of34_u3
    have Of1_u6 : u6 101 1 = τ 101 1 := Of1_u6_.trans Of1_u3
    have Of30_u6 : u6 101 30 = τ 101 30 := Of30_u6_.trans Of30_u3
    have Of18_u6 : u6 101 18 = τ 101 18 := Of18_u6_.trans Of18_u3
    have b8 := ti_lo r2
    have b9 := ti_hi r2
    have b10 := ti_lo r5
    have b11 := ti_hi r5
    refine sf_ite (fun c12 => ?_) (fun c12 => ?_)
    · have C12 : r2.toInt ≤ r5.toInt := ti_le c12
      have t13 : (x3 + (1 : Int32)).toInt = x3.toInt + (1 : Int) := ti_add (show -2147483648 ≤ x3.toInt + (1 : Int) by omega) (show x3.toInt + (1 : Int) ≤ 2147483647 by omega)
      exact ih _ _ Iu6 Fu6 Of15_u6 Of34_u6 Of1_u6 Of30_u6 Of18_u6 (by omega) (by omega) (by omega)
    have C12 : r5.toInt < r2.toInt := ti_nle c12
    exact sf_ret ⟨Iu6, Fu6, Of15_u6, Of34_u6, Of1_u6, Of30_u6, Of18_u6, ti_lo _, ti_hi _⟩
set_option maxHeartbeats 4000000 in
set_option maxRecDepth 100000 in
theorem s_X4_ahead {F : Nat} (hF : 73786976294838206464 ≤ F) {x1 : Int32} {x2 : Int32} {τ : Mem} (hI : wiM τ) : sf (f_X4_ahead F x1 x2 τ) (fun r s => wiM s ∧ (∀ k, k < 101 → s k = τ k) ∧ s 101 15 = τ 101 15 ∧ s 101 34 = τ 101 34 ∧ s 101 1 = τ 101 1 ∧ s 101 30 = τ 101 30 ∧ s 101 18 = τ 101 18 ∧ -2147483648 ≤ r.toInt ∧ r.toInt ≤ 2147483647) := by
  have Fτ : ∀ k, k < 101 → τ k = τ k := fun _ _ => rfl
  have Of15_τ : τ 101 15 = τ 101 15 := rfl
  have Of34_τ : τ 101 34 = τ 101 34 := rfl
  have Of1_τ : τ 101 1 = τ 101 1 := rfl
  have Of30_τ : τ 101 30 = τ 101 30 := rfl
  have Of18_τ : τ 101 18 = τ 101 18 := rfl
  rw [f_X4_ahead_e]
  refine sf_lt (fun s1 hs1 => ?_)
  have Is1 : wiM s1 := by rw [hs1]; exact wm_fld hI (by decide) (by decide) (by decide) (by decide) (by decide) (by decide) (by decide)
  have Fs1 : ∀ k, k < 101 → s1 k = τ k := fun k hk => (show s1 k = τ k by rw [hs1, up2_k (by omega)]).trans (Fτ k hk)
  have Of15_s1 : s1 101 15 = τ 101 15 := (show s1 101 15 = τ 101 15 by rw [hs1, up2_i (by decide)]).trans Of15_τ
  have Of34_s1 : s1 101 34 = τ 101 34 := (show s1 101 34 = τ 101 34 by rw [hs1, up2_i (by decide)]).trans Of34_τ
  have Of1_s1 : s1 101 1 = τ 101 1 := (show s1 101 1 = τ 101 1 by rw [hs1, up2_i (by decide)]).trans Of1_τ
  have Of30_s1 : s1 101 30 = τ 101 30 := (show s1 101 30 = τ 101 30 by rw [hs1, up2_i (by decide)]).trans Of30_τ
  have Of18_s1 : s1 101 18 = τ 101 18 := (show s1 101 18 = τ 101 18 by rw [hs1, up2_i (by decide)]).trans Of18_τ
  have b2 := ti_lo x1
  have b3 := ti_hi x1
  have b4 := ti_lo x2
  have b5 := ti_hi x2
  refine sf_bnd (s_X4_areTwo hF Is1) (fun r6 u7 p8 => ?_)
  obtain ⟨e9, p8⟩ := p8
  have e9 := e9.symm
  subst e9
  rcases p8 with ⟨rfl, q9, q10, q11, q12⟩ | p8
  · refine sf_ite (fun c13 => ?_) (fun c13 => ?_)
    · have C13 : (1 : Int) = (0 : Int) := ti_eq c13
      exfalso; omega
    have C13 : ¬ (1 : Int) = (0 : Int) := ti_ne c13
    refine sf_bnd (s_X4_layBrings hF Is1) (fun r14 u15 p16 => ?_)
    obtain ⟨Iu15, Fu15_, Of15_u15_, Of34_u15_, Of1_u15_, Of30_u15_, Of18_u15_, -⟩ := p16
    have Fu15 : ∀ k, k < 101 → u15 k = τ k := fun k hk => (Fu15_ k hk).trans (Fs1 k hk)
    have Of15_u15 : u15 101 15 = τ 101 15 := Of15_u15_.trans Of15_s1
    have Of34_u15 : u15 101 34 = τ 101 34 := Of34_u15_.trans Of34_s1
    have Of1_u15 : u15 101 1 = τ 101 1 := Of1_u15_.trans Of1_s1
    have Of30_u15 : u15 101 30 = τ 101 30 := Of30_u15_.trans Of30_s1
    have Of18_u15 : u15 101 18 = τ 101 18 := Of18_u15_.trans Of18_s1
    have l_0 : (0 : Int32).toInt = 0 := rfl
    exact sl_X4_ahead_26 hF (by omega) (by omega) (by omega) (by omega) _ _ _ Iu15 Fu15 Of15_u15 Of34_u15 Of1_u15 Of30_u15 Of18_u15 (by omega) (by decide) (by decide)
  obtain rfl := p8
  refine sf_ite (fun c17 => ?_) (fun c17 => ?_)
  · have C17 : (0 : Int) = (0 : Int) := ti_eq c17
    refine sf_bnd (s_X4_refuse hF Is1 (by decide) (by decide)) (fun r18 u19 p20 => ?_)
    obtain ⟨Iu19, Fu19_, Of15_u19_, Of34_u19_, Of1_u19_, Of30_u19_, Of18_u19_, p20_1, p20_2, p20_x0⟩ := p20
    have Fu19 : ∀ k, k < 101 → u19 k = τ k := fun k hk => (Fu19_ k hk).trans (Fs1 k hk)
    have Of15_u19 : u19 101 15 = τ 101 15 := Of15_u19_.trans Of15_s1
    have Of34_u19 : u19 101 34 = τ 101 34 := Of34_u19_.trans Of34_s1
    have Of1_u19 : u19 101 1 = τ 101 1 := Of1_u19_.trans Of1_s1
    have Of30_u19 : u19 101 30 = τ 101 30 := Of30_u19_.trans Of30_s1
    have Of18_u19 : u19 101 18 = τ 101 18 := Of18_u19_.trans Of18_s1
    replace p20_x0 : r18.toInt = (-1 : Int) := p20_x0
    exact sf_ret ⟨Iu19, Fu19, Of15_u19, Of34_u19, Of1_u19, Of30_u19, Of18_u19, ti_lo _, ti_hi _⟩
  have C17 : ¬ (0 : Int) = (0 : Int) := ti_ne c17
  exfalso; omega
set_option maxHeartbeats 4000000 in
set_option maxRecDepth 100000 in
theorem sl_X4_bestLaw_55 {F : Nat} (hF : 73786976294838206464 ≤ F) {x1 : Int32} {x2 : Int32} {x4 : Int32} {τ : Mem} (x1_1 : 0 ≤ x1.toInt) (x1_2 : x1.toInt ≤ 4) (x2_1 : 0 ≤ x2.toInt) (x2_2 : x2.toInt ≤ 999) : ∀ (N : Nat) (x5 : Int32) (x6 : Int32) (x7 : Int32) (σ : Mem), wiM σ → (∀ k, k < 101 → σ k = τ k) → σ 101 15 = τ 101 15 → σ 101 34 = τ 101 34 → σ 101 1 = τ 101 1 → σ 101 30 = τ 101 30 → σ 101 18 = τ 101 18 → 3 < x7.toInt + N → 0 ≤ x5.toInt → x5.toInt ≤ 2 → -1 ≤ x6.toInt → x6.toInt ≤ 2147483647 → 0 ≤ x7.toInt → x7.toInt ≤ 3 → sf (lp_X4_bestLaw_55 F x1 x2 x4 N x5 x6 x7 σ) (fun r s => wiM s ∧ (∀ k, k < 101 → s k = τ k) ∧ s 101 15 = τ 101 15 ∧ s 101 34 = τ 101 34 ∧ s 101 1 = τ 101 1 ∧ s 101 30 = τ 101 30 ∧ s 101 18 = τ 101 18 ∧ -2147483648 ≤ r.toInt ∧ r.toInt ≤ 2147483647) := by
  intro N
  induction N with
  | zero => intro x5 x6 x7 σ hI Fσ Of15_σ Of34_σ Of1_σ Of30_σ Of18_σ hN x5_1 x5_2 x6_1 x6_2 x7_1 x7_2; exfalso; omega
  | succ N ih =>
    intro x5 x6 x7 σ hI Fσ Of15_σ Of34_σ Of1_σ Of30_σ Of18_σ hN x5_1 x5_2 x6_1 x6_2 x7_1 x7_2
    rw [lp_X4_bestLaw_55_s]
    refine sf_ite (fun c1 => ?_) (fun c1 => ?_)
    · have C1 : (3 : Int) ≤ x7.toInt := ti_le c1
      refine sf_lt (fun s2 hs2 => ?_)
      have Is2 : wiM s2 := by rw [hs2]; exact wm_fld hI (by decide) (by decide) (by decide) (by decide) (by decide) (by decide) (by decide)
      have Fs2 : ∀ k, k < 101 → s2 k = τ k := fun k hk => (show s2 k = σ k by rw [hs2, up2_k (by omega)]).trans (Fσ k hk)
      have Of15_s2 : s2 101 15 = τ 101 15 := (show s2 101 15 = σ 101 15 by rw [hs2, up2_i (by decide)]).trans Of15_σ
      have Of34_s2 : s2 101 34 = τ 101 34 := (show s2 101 34 = σ 101 34 by rw [hs2, up2_i (by decide)]).trans Of34_σ
      have Of1_s2 : s2 101 1 = τ 101 1 := (show s2 101 1 = σ 101 1 by rw [hs2, up2_i (by decide)]).trans Of1_σ
      have Of30_s2 : s2 101 30 = τ 101 30 := (show s2 101 30 = σ 101 30 by rw [hs2, up2_i (by decide)]).trans Of30_σ
      have Of18_s2 : s2 101 18 = τ 101 18 := (show s2 101 18 = σ 101 18 by rw [hs2, up2_i (by decide)]).trans Of18_σ
      exact sf_ret ⟨Is2, Fs2, Of15_s2, Of34_s2, Of1_s2, Of30_s2, Of18_s2, ti_lo _, ti_hi _⟩
    have C1 : x7.toInt < (3 : Int) := ti_nle c1
    refine sf_lt (fun s3 hs3 => ?_)
    have Is3 : wiM s3 := by rw [hs3]; exact wm_fld hI (by decide) (by decide) (by decide) (by decide) (by decide) (by decide) (by decide)
    have Fs3 : ∀ k, k < 101 → s3 k = τ k := fun k hk => (show s3 k = σ k by rw [hs3, up2_k (by omega)]).trans (Fσ k hk)
    have Of15_s3 : s3 101 15 = τ 101 15 := (show s3 101 15 = σ 101 15 by rw [hs3, up2_i (by decide)]).trans Of15_σ
    have Of34_s3 : s3 101 34 = τ 101 34 := (show s3 101 34 = σ 101 34 by rw [hs3, up2_i (by decide)]).trans Of34_σ
    have Of1_s3 : s3 101 1 = τ 101 1 := (show s3 101 1 = σ 101 1 by rw [hs3, up2_i (by decide)]).trans Of1_σ
    have Of30_s3 : s3 101 30 = τ 101 30 := (show s3 101 30 = σ 101 30 by rw [hs3, up2_i (by decide)]).trans Of30_σ
    have Of18_s3 : s3 101 18 = τ 101 18 := (show s3 101 18 = σ 101 18 by rw [hs3, up2_i (by decide)]).trans Of18_σ
    refine sf_bnd (s_X4_worthIn hF Is3 (by omega) (by omega) (by omega) (by omega)) (fun r4 u5 p6 => ?_)
    obtain ⟨Iu5, Fu5_, Of15_u5_, Of34_u5_, Of1_u5_, Of30_u5_, Of18_u5_, p6_1, p6_2⟩ := p6
    have Fu5 : ∀ k, k < 101 → u5 k = τ k := fun k hk => (Fu5_ k hk).trans (Fs3 k hk)
    have Of15_u5 : u5 101 15 = τ 101 15 := Of15_u5_.trans Of15_s3
    have Of34_u5 : u5 101 34 = τ 101 34 := Of34_u5_.trans Of34_s3
    have Of1_u5 : u5 101 1 = τ 101 1 := Of1_u5_.trans Of1_s3
    have Of30_u5 : u5 101 30 = τ 101 30 := Of30_u5_.trans Of30_s3
    have Of18_u5 : u5 101 18 = τ 101 18 := Of18_u5_.trans Of18_s3
    have b7 := ti_lo r4
    have b8 := ti_hi r4
    have b9 := ti_lo x6
    have b10 := ti_hi x6
    refine sf_ite (fun c11 => ?_) (fun c11 => ?_)
    · have C11 : r4.toInt ≤ x6.toInt := ti_le c11
      rw [j_X4_bestLaw_89_e]
      refine sf_ite (fun c12 => ?_) (fun c12 => ?_)
      · have C12 : r4.toInt ≤ x6.toInt := ti_le c12
        rw [j_X4_bestLaw_105_e]
        have t13 : (x7 + (1 : Int32)).toInt = x7.toInt + (1 : Int) := ti_add (show -2147483648 ≤ x7.toInt + (1 : Int) by omega) (show x7.toInt + (1 : Int) ≤ 2147483647 by omega)
        exact ih _ _ _ _ Iu5 Fu5 Of15_u5 Of34_u5 Of1_u5 Of30_u5 Of18_u5 (by omega) (by omega) (by omega) (by omega) (by omega) (by omega) (by omega)
      have C12 : x6.toInt < r4.toInt := ti_nle c12
      rw [j_X4_bestLaw_105_e]
      have t14 : (x7 + (1 : Int32)).toInt = x7.toInt + (1 : Int) := ti_add (show -2147483648 ≤ x7.toInt + (1 : Int) by omega) (show x7.toInt + (1 : Int) ≤ 2147483647 by omega)
      exact ih _ _ _ _ Iu5 Fu5 Of15_u5 Of34_u5 Of1_u5 Of30_u5 Of18_u5 (by omega) (by omega) (by omega) (by omega) (by omega) (by omega) (by omega)
    have C11 : x6.toInt < r4.toInt := ti_nle c11
    rw [j_X4_bestLaw_89_e]
    refine sf_ite (fun c15 => ?_) (fun c15 => ?_)
    · have C15 : r4.toInt ≤ x6.toInt := ti_le c15
      rw [j_X4_bestLaw_105_e]
      have t16 : (x7 + (1 : Int32)).toInt = x7.toInt + (1 : Int) := ti_add (show -2147483648 ≤ x7.toInt + (1 : Int) by omega) (show x7.toInt + (1 : Int) ≤ 2147483647 by omega)
      exact ih _ _ _ _ Iu5 Fu5 Of15_u5 Of34_u5 Of1_u5 Of30_u5 Of18_u5 (by omega) (by omega) (by omega) (by omega) (by omega) (by omega) (by omega)
    have C15 : x6.toInt < r4.toInt := ti_nle c15
    rw [j_X4_bestLaw_105_e]
    have t17 : (x7 + (1 : Int32)).toInt = x7.toInt + (1 : Int) := ti_add (show -2147483648 ≤ x7.toInt + (1 : Int) by omega) (show x7.toInt + (1 : Int) ≤ 2147483647 by omega)
    exact ih _ _ _ _ Iu5 Fu5 Of15_u5 Of34_u5 Of1_u5 Of30_u5 Of18_u5 (by omega) (by omega) (by omega) (by omega) (by omega) (by omega) (by omega)
set_option maxHeartbeats 4000000 in
set_option maxRecDepth 100000 in
theorem s_X4_bestLaw {F : Nat} (hF : 73786976294838206464 ≤ F) {x1 : Int32} {x2 : Int32} {τ : Mem} (hI : wiM τ) : sf (f_X4_bestLaw F x1 x2 τ) (fun r s => wiM s ∧ (∀ k, k < 101 → s k = τ k) ∧ s 101 15 = τ 101 15 ∧ s 101 34 = τ 101 34 ∧ s 101 1 = τ 101 1 ∧ s 101 30 = τ 101 30 ∧ s 101 18 = τ 101 18 ∧ -2147483648 ≤ r.toInt ∧ r.toInt ≤ 2147483647) := by
  have Fτ : ∀ k, k < 101 → τ k = τ k := fun _ _ => rfl
  have Of15_τ : τ 101 15 = τ 101 15 := rfl
  have Of34_τ : τ 101 34 = τ 101 34 := rfl
  have Of1_τ : τ 101 1 = τ 101 1 := rfl
  have Of30_τ : τ 101 30 = τ 101 30 := rfl
  have Of18_τ : τ 101 18 = τ 101 18 := rfl
  rw [f_X4_bestLaw_e]
  refine sf_lt (fun s1 hs1 => ?_)
  have Is1 : wiM s1 := by rw [hs1]; exact wm_fld hI (by decide) (by decide) (by decide) (by decide) (by decide) (by decide) (by decide)
  have Fs1 : ∀ k, k < 101 → s1 k = τ k := fun k hk => (show s1 k = τ k by rw [hs1, up2_k (by omega)]).trans (Fτ k hk)
  have Of15_s1 : s1 101 15 = τ 101 15 := (show s1 101 15 = τ 101 15 by rw [hs1, up2_i (by decide)]).trans Of15_τ
  have Of34_s1 : s1 101 34 = τ 101 34 := (show s1 101 34 = τ 101 34 by rw [hs1, up2_i (by decide)]).trans Of34_τ
  have Of1_s1 : s1 101 1 = τ 101 1 := (show s1 101 1 = τ 101 1 by rw [hs1, up2_i (by decide)]).trans Of1_τ
  have Of30_s1 : s1 101 30 = τ 101 30 := (show s1 101 30 = τ 101 30 by rw [hs1, up2_i (by decide)]).trans Of30_τ
  have Of18_s1 : s1 101 18 = τ 101 18 := (show s1 101 18 = τ 101 18 by rw [hs1, up2_i (by decide)]).trans Of18_τ
  have b2 := ti_lo x1
  have b3 := ti_hi x1
  refine sf_bnd (s_X4_isLooker hF Is1) (fun r4 u5 p6 => ?_)
  obtain ⟨e9, p6⟩ := p6
  have e9 := e9.symm
  subst e9
  rcases p6 with ⟨rfl, q7, q8⟩ | p6
  · refine sf_ite (fun c9 => ?_) (fun c9 => ?_)
    · have C9 : (1 : Int) = (0 : Int) := ti_eq c9
      exfalso; omega
    have C9 : ¬ (1 : Int) = (0 : Int) := ti_ne c9
    refine sf_in ?_
    rw [f_X4_wrongNumber_e]
    have b10 := ti_lo x2
    have b11 := ti_hi x2
    refine sf_ite (fun c12 => ?_) (fun c12 => ?_)
    · have C12 : (0 : Int) ≤ x2.toInt := ti_le c12
      refine sf_ite (fun c13 => ?_) (fun c13 => ?_)
      · have C13 : x2.toInt ≤ (999 : Int) := ti_le c13
        refine sf_ret ?_
        rw [j_X4_bestLaw_25_e]
        refine sf_ite (fun c14 => ?_) (fun c14 => ?_)
        · have C14 : (0 : Int) ≤ (0 : Int) := ti_le c14
          refine sf_bnd (s_X4_layBrings hF Is1) (fun r15 u16 p17 => ?_)
          obtain ⟨Iu16, Fu16_, Of15_u16_, Of34_u16_, Of1_u16_, Of30_u16_, Of18_u16_, -⟩ := p17
          have Fu16 : ∀ k, k < 101 → u16 k = τ k := fun k hk => (Fu16_ k hk).trans (Fs1 k hk)
          have Of15_u16 : u16 101 15 = τ 101 15 := Of15_u16_.trans Of15_s1
          have Of34_u16 : u16 101 34 = τ 101 34 := Of34_u16_.trans Of34_s1
          have Of1_u16 : u16 101 1 = τ 101 1 := Of1_u16_.trans Of1_s1
          have Of30_u16 : u16 101 30 = τ 101 30 := Of30_u16_.trans Of30_s1
          have Of18_u16 : u16 101 18 = τ 101 18 := Of18_u16_.trans Of18_s1
          have b18 := ti_lo (u16 101 8)
          have b19 := ti_hi (u16 101 8)
          have l_0 : (0 : Int32).toInt = 0 := rfl
          exact sl_X4_bestLaw_55 hF (by omega) (by omega) (by omega) (by omega) _ _ _ _ _ Iu16 Fu16 Of15_u16 Of34_u16 Of1_u16 Of30_u16 Of18_u16 (by omega) (by decide) (by decide) (by decide) (by decide) (by decide) (by decide)
        have C14 : (0 : Int) < (0 : Int) := ti_nle c14
        exfalso; omega
      have C13 : (999 : Int) < x2.toInt := ti_nle c13
      refine sf_ret ?_
      rw [j_X4_bestLaw_25_e]
      refine sf_ite (fun c20 => ?_) (fun c20 => ?_)
      · have C20 : (0 : Int) ≤ (-6 : Int) := ti_le c20
        exfalso; omega
      have C20 : (-6 : Int) < (0 : Int) := ti_nle c20
      refine sf_bnd (s_X4_refuse hF Is1 (by decide) (by decide)) (fun r21 u22 p23 => ?_)
      obtain ⟨Iu22, Fu22_, Of15_u22_, Of34_u22_, Of1_u22_, Of30_u22_, Of18_u22_, p23_1, p23_2, p23_x0⟩ := p23
      have Fu22 : ∀ k, k < 101 → u22 k = τ k := fun k hk => (Fu22_ k hk).trans (Fs1 k hk)
      have Of15_u22 : u22 101 15 = τ 101 15 := Of15_u22_.trans Of15_s1
      have Of34_u22 : u22 101 34 = τ 101 34 := Of34_u22_.trans Of34_s1
      have Of1_u22 : u22 101 1 = τ 101 1 := Of1_u22_.trans Of1_s1
      have Of30_u22 : u22 101 30 = τ 101 30 := Of30_u22_.trans Of30_s1
      have Of18_u22 : u22 101 18 = τ 101 18 := Of18_u22_.trans Of18_s1
      replace p23_x0 : r21.toInt = (-6 : Int) := p23_x0
      exact sf_ret ⟨Iu22, Fu22, Of15_u22, Of34_u22, Of1_u22, Of30_u22, Of18_u22, ti_lo _, ti_hi _⟩
    have C12 : x2.toInt < (0 : Int) := ti_nle c12
    refine sf_ret ?_
    rw [j_X4_bestLaw_25_e]
    refine sf_ite (fun c24 => ?_) (fun c24 => ?_)
    · have C24 : (0 : Int) ≤ (-4 : Int) := ti_le c24
      exfalso; omega
    have C24 : (-4 : Int) < (0 : Int) := ti_nle c24
    refine sf_bnd (s_X4_refuse hF Is1 (by decide) (by decide)) (fun r25 u26 p27 => ?_)
    obtain ⟨Iu26, Fu26_, Of15_u26_, Of34_u26_, Of1_u26_, Of30_u26_, Of18_u26_, p27_1, p27_2, p27_x0⟩ := p27
    have Fu26 : ∀ k, k < 101 → u26 k = τ k := fun k hk => (Fu26_ k hk).trans (Fs1 k hk)
    have Of15_u26 : u26 101 15 = τ 101 15 := Of15_u26_.trans Of15_s1
    have Of34_u26 : u26 101 34 = τ 101 34 := Of34_u26_.trans Of34_s1
    have Of1_u26 : u26 101 1 = τ 101 1 := Of1_u26_.trans Of1_s1
    have Of30_u26 : u26 101 30 = τ 101 30 := Of30_u26_.trans Of30_s1
    have Of18_u26 : u26 101 18 = τ 101 18 := Of18_u26_.trans Of18_s1
    replace p27_x0 : r25.toInt = (-4 : Int) := p27_x0
    exact sf_ret ⟨Iu26, Fu26, Of15_u26, Of34_u26, Of1_u26, Of30_u26, Of18_u26, ti_lo _, ti_hi _⟩
  obtain rfl := p6
  refine sf_ite (fun c28 => ?_) (fun c28 => ?_)
  · have C28 : (0 : Int) = (0 : Int) := ti_eq c28
    rw [j_X4_bestLaw_25_e]
    refine sf_ite (fun c29 => ?_) (fun c29 => ?_)
    · have C29 : (0 : Int) ≤ (-1 : Int) := ti_le c29
      exfalso; omega
    have C29 : (-1 : Int) < (0 : Int) := ti_nle c29
    refine sf_bnd (s_X4_refuse hF Is1 (by decide) (by decide)) (fun r30 u31 p32 => ?_)
    obtain ⟨Iu31, Fu31_, Of15_u31_, Of34_u31_, Of1_u31_, Of30_u31_, Of18_u31_, p32_1, p32_2, p32_x0⟩ := p32
    have Fu31 : ∀ k, k < 101 → u31 k = τ k := fun k hk => (Fu31_ k hk).trans (Fs1 k hk)
    have Of15_u31 : u31 101 15 = τ 101 15 := Of15_u31_.trans Of15_s1
    have Of34_u31 : u31 101 34 = τ 101 34 := Of34_u31_.trans Of34_s1
    have Of1_u31 : u31 101 1 = τ 101 1 := Of1_u31_.trans Of1_s1
    have Of30_u31 : u31 101 30 = τ 101 30 := Of30_u31_.trans Of30_s1
    have Of18_u31 : u31 101 18 = τ 101 18 := Of18_u31_.trans Of18_s1
    replace p32_x0 : r30.toInt = (-1 : Int) := p32_x0
    exact sf_ret ⟨Iu31, Fu31, Of15_u31, Of34_u31, Of1_u31, Of30_u31, Of18_u31, ti_lo _, ti_hi _⟩
  have C28 : ¬ (0 : Int) = (0 : Int) := ti_ne c28
  exfalso; omega
set_option maxHeartbeats 4000000 in
set_option maxRecDepth 100000 in
theorem sl_X4_newcomer_130 {F : Nat} (hF : 73786976294838206464 ≤ F) {x3 : Int32} {x5 : Int32} {x8 : Int32} {k113 : Int32 → Int32 → Int32 → Mem → Option (Int32 × Mem)} {τ : Mem} (x3_1 : 0 ≤ x3.toInt) (x3_2 : x3.toInt ≤ 1) (x5_1 : 0 ≤ x5.toInt) (x5_2 : x5.toInt ≤ 4) (x8_1 : 0 ≤ x8.toInt) (x8_2 : x8.toInt ≤ 999) {N113 : Nat} (hM113 : 1000 < x8.toInt + (N113 + 1)) (hk113 : ∀ (x6 : Int32) (x7 : Int32) (x8 : Int32) (σ : Mem), wiM σ → (∀ k, k < 101 → σ k = τ k) → σ 101 15 = τ 101 15 → σ 101 34 = τ 101 34 → σ 101 30 = τ 101 30 → σ 101 18 = τ 101 18 → 1000 < x8.toInt + N113 → -9 ≤ x6.toInt → x6.toInt ≤ 7 → -9 ≤ x7.toInt → x7.toInt ≤ 999 → 0 ≤ x8.toInt → x8.toInt ≤ 1000 → sf (k113 x6 x7 x8 σ) (fun r s => wiM s ∧ (∀ k, k < 101 → s k = τ k) ∧ s 101 15 = τ 101 15 ∧ s 101 34 = τ 101 34 ∧ s 101 30 = τ 101 30 ∧ s 101 18 = τ 101 18 ∧ -2147483648 ≤ r.toInt ∧ r.toInt ≤ 2147483647)) : ∀ (N : Nat) (x6 : Int32) (x7 : Int32) (x9 : Int32) (σ : Mem), wiM σ → (∀ k, k < 101 → σ k = τ k) → σ 101 15 = τ 101 15 → σ 101 34 = τ 101 34 → σ 101 30 = τ 101 30 → σ 101 18 = τ 101 18 → x9.toInt + 1 < N → -9 ≤ x6.toInt → x6.toInt ≤ 7 → -9 ≤ x7.toInt → x7.toInt ≤ 999 → -1 ≤ x9.toInt → x9.toInt ≤ 7 → sf (lp_X4_newcomer_130 F k113 x3 x5 x8 N x6 x7 x9 σ) (fun r s => wiM s ∧ (∀ k, k < 101 → s k = τ k) ∧ s 101 15 = τ 101 15 ∧ s 101 34 = τ 101 34 ∧ s 101 30 = τ 101 30 ∧ s 101 18 = τ 101 18 ∧ -2147483648 ≤ r.toInt ∧ r.toInt ≤ 2147483647) := by
  intro N
  induction N with
  | zero => intro x6 x7 x9 σ hI Fσ Of15_σ Of34_σ Of30_σ Of18_σ hN x6_1 x6_2 x7_1 x7_2 x9_1 x9_2; exfalso; omega
  | succ N ih =>
    intro x6 x7 x9 σ hI Fσ Of15_σ Of34_σ Of30_σ Of18_σ hN x6_1 x6_2 x7_1 x7_2 x9_1 x9_2
    rw [lp_X4_newcomer_130_s]
    refine sf_ite (fun c1 => ?_) (fun c1 => ?_)
    · have C1 : x9.toInt < (0 : Int) := ti_lt c1
      have t2 : (x8 + (1 : Int32)).toInt = x8.toInt + (1 : Int) := ti_add (show -2147483648 ≤ x8.toInt + (1 : Int) by omega) (show x8.toInt + (1 : Int) ≤ 2147483647 by omega)
      exact hk113 _ _ _ _ hI Fσ Of15_σ Of34_σ Of30_σ Of18_σ (by omega) (by omega) (by omega) (by omega) (by omega) (by omega) (by omega)
    have C1 : (0 : Int) ≤ x9.toInt := ti_nlt c1
    refine sf_bnd (s_X4_ownerIn hF hI (by omega) (by omega) (by omega) (by omega)) (fun r3 u4 p5 => ?_)
    obtain ⟨Iu4, Fu4_, Of15_u4_, Of34_u4_, Of1_u4_, Of30_u4_, Of18_u4_, p5_1, p5_2⟩ := p5
    have Fu4 : ∀ k, k < 101 → u4 k = τ k := fun k hk => (Fu4_ k hk).trans (Fσ k hk)
    have Of15_u4 : u4 101 15 = τ 101 15 := Of15_u4_.trans Of15_σ
    have Of34_u4 : u4 101 34 = τ 101 34 := Of34_u4_.trans Of34_σ
    have Of30_u4 : u4 101 30 = τ 101 30 := Of30_u4_.trans Of30_σ
    have Of18_u4 : u4 101 18 = τ 101 18 := Of18_u4_.trans Of18_σ
    refine sf_ite (fun c6 => ?_) (fun c6 => ?_)
    · have C6 : r3.toInt = x5.toInt := ti_eq c6
      rw [j_X4_newcomer_153_e]
      refine sf_ite (fun c7 => ?_) (fun c7 => ?_)
      · have C7 : (1 : Int) = (0 : Int) := ti_eq c7
        exfalso; omega
      have C7 : ¬ (1 : Int) = (0 : Int) := ti_ne c7
      rw [j_X4_newcomer_167_e]
      refine sf_ite (fun c8 => ?_) (fun c8 => ?_)
      · have C8 : (1 : Int) = (0 : Int) := ti_eq c8
        exfalso; omega
      have C8 : ¬ (1 : Int) = (0 : Int) := ti_ne c8
      rw [j_X4_newcomer_181_e]
      have t20 := ti_m1 (x := x9) (by omega)
      generalize x9 + (-1 : Int32) = x99 at t20 ⊢
      exact ih _ _ _ _ Iu4 Fu4 Of15_u4 Of34_u4 Of30_u4 Of18_u4 (by omega) (by omega) (by omega) (by omega) (by omega) (by omega) (by omega)
    have C6 : ¬ r3.toInt = x5.toInt := ti_ne c6
    rw [j_X4_newcomer_153_e]
    refine sf_ite (fun c10 => ?_) (fun c10 => ?_)
    · have C10 : (0 : Int) = (0 : Int) := ti_eq c10
      rw [j_X4_newcomer_167_e]
      refine sf_ite (fun c11 => ?_) (fun c11 => ?_)
      · have C11 : (0 : Int) = (0 : Int) := ti_eq c11
        rw [j_X4_newcomer_181_e]
        have t20 := ti_m1 (x := x9) (by omega)
        generalize x9 + (-1 : Int32) = x99 at t20 ⊢
        exact ih _ _ _ _ Iu4 Fu4 Of15_u4 Of34_u4 Of30_u4 Of18_u4 (by omega) (by omega) (by omega) (by omega) (by omega) (by omega) (by omega)
      have C11 : ¬ (0 : Int) = (0 : Int) := ti_ne c11
      exfalso; omega
    have C10 : ¬ (0 : Int) = (0 : Int) := ti_ne c10
    exfalso; omega
set_option maxHeartbeats 4000000 in
set_option maxRecDepth 100000 in
theorem sl_X4_newcomer_113 {F : Nat} (hF : 73786976294838206464 ≤ F) {x3 : Int32} {x5 : Int32} {τ : Mem} (x3_1 : 0 ≤ x3.toInt) (x3_2 : x3.toInt ≤ 1) (x5_1 : 0 ≤ x5.toInt) (x5_2 : x5.toInt ≤ 4) : ∀ (N : Nat) (x6 : Int32) (x7 : Int32) (x8 : Int32) (σ : Mem), wiM σ → (∀ k, k < 101 → σ k = τ k) → σ 101 15 = τ 101 15 → σ 101 34 = τ 101 34 → σ 101 30 = τ 101 30 → σ 101 18 = τ 101 18 → 1000 < x8.toInt + N → -9 ≤ x6.toInt → x6.toInt ≤ 7 → -9 ≤ x7.toInt → x7.toInt ≤ 999 → 0 ≤ x8.toInt → x8.toInt ≤ 1000 → sf (lp_X4_newcomer_113 F x3 x5 N x6 x7 x8 σ) (fun r s => wiM s ∧ (∀ k, k < 101 → s k = τ k) ∧ s 101 15 = τ 101 15 ∧ s 101 34 = τ 101 34 ∧ s 101 30 = τ 101 30 ∧ s 101 18 = τ 101 18 ∧ -2147483648 ≤ r.toInt ∧ r.toInt ≤ 2147483647) := by
  intro N
  induction N with
  | zero => intro x6 x7 x8 σ hI Fσ Of15_σ Of34_σ Of30_σ Of18_σ hN x6_1 x6_2 x7_1 x7_2 x8_1 x8_2; exfalso; omega
  | succ N ih =>
    intro x6 x7 x8 σ hI Fσ Of15_σ Of34_σ Of30_σ Of18_σ hN x6_1 x6_2 x7_1 x7_2 x8_1 x8_2
    rw [lp_X4_newcomer_113_s]
    refine sf_ite (fun c1 => ?_) (fun c1 => ?_)
    · have C1 : (999 : Int) < x8.toInt := ti_lt c1
      rw [j_X4_newcomer_195_e]
      refine sf_bnd (s_X4_stand hF hI (by omega) (by omega) (by decide) (by decide) (by decide) (by decide) (by first | omega | decide)) (fun r2 u3 p4 => ?_)
      obtain ⟨Iu3, Fu3_, Of15_u3_, Of34_u3_, Of1_u3_, Of30_u3_, Of18_u3_, -⟩ := p4
      have Fu3 : ∀ k, k < 101 → u3 k = τ k := fun k hk => (Fu3_ k hk).trans (Fσ k hk)
      have Of15_u3 : u3 101 15 = τ 101 15 := Of15_u3_.trans Of15_σ
      have Of34_u3 : u3 101 34 = τ 101 34 := Of34_u3_.trans Of34_σ
      have Of30_u3 : u3 101 30 = τ 101 30 := Of30_u3_.trans Of30_σ
      have Of18_u3 : u3 101 18 = τ 101 18 := Of18_u3_.trans Of18_σ
      refine sf_bnd (s_X4_again hF Iu3) (fun r5 u6 p7 => ?_)
      obtain ⟨Iu6, Fu6_, Of15_u6_, Of34_u6_, Of30_u6_, Of18_u6_, -⟩ := p7
      have Fu6 : ∀ k, k < 101 → u6 k = τ k := fun k hk => (Fu6_ k hk).trans (Fu3 k hk)
      have Of15_u6 : u6 101 15 = τ 101 15 := Of15_u6_.trans Of15_u3
      have Of34_u6 : u6 101 34 = τ 101 34 := Of34_u6_.trans Of34_u3
      have Of30_u6 : u6 101 30 = τ 101 30 := Of30_u6_.trans Of30_u3
      have Of18_u6 : u6 101 18 = τ 101 18 := Of18_u6_.trans Of18_u3
      refine sf_ite (fun c8 => ?_) (fun c8 => ?_)
      · have C8 : x3.toInt = (0 : Int) := ti_eq c8
        exact sf_ret ⟨Iu6, Fu6, Of15_u6, Of34_u6, Of30_u6, Of18_u6, ti_lo _, ti_hi _⟩
      have C8 : ¬ x3.toInt = (0 : Int) := ti_ne c8
      exact sf_ret ⟨Iu6, Fu6, Of15_u6, Of34_u6, Of30_u6, Of18_u6, ti_lo _, ti_hi _⟩
    have C1 : x8.toInt ≤ (999 : Int) := ti_nlt c1
    refine sf_ite (fun c9 => ?_) (fun c9 => ?_)
    · have C9 : (0 : Int) ≤ x7.toInt := ti_le c9
      rw [j_X4_newcomer_195_e]
      refine sf_bnd (s_X4_stand hF hI (by omega) (by omega) (by decide) (by decide) (by decide) (by decide) (by first | omega | decide)) (fun r10 u11 p12 => ?_)
      obtain ⟨Iu11, Fu11_, Of15_u11_, Of34_u11_, Of1_u11_, Of30_u11_, Of18_u11_, -⟩ := p12
      have Fu11 : ∀ k, k < 101 → u11 k = τ k := fun k hk => (Fu11_ k hk).trans (Fσ k hk)
      have Of15_u11 : u11 101 15 = τ 101 15 := Of15_u11_.trans Of15_σ
      have Of34_u11 : u11 101 34 = τ 101 34 := Of34_u11_.trans Of34_σ
      have Of30_u11 : u11 101 30 = τ 101 30 := Of30_u11_.trans Of30_σ
      have Of18_u11 : u11 101 18 = τ 101 18 := Of18_u11_.trans Of18_σ
      refine sf_bnd (s_X4_again hF Iu11) (fun r13 u14 p15 => ?_)
      obtain ⟨Iu14, Fu14_, Of15_u14_, Of34_u14_, Of30_u14_, Of18_u14_, -⟩ := p15
      have Fu14 : ∀ k, k < 101 → u14 k = τ k := fun k hk => (Fu14_ k hk).trans (Fu11 k hk)
      have Of15_u14 : u14 101 15 = τ 101 15 := Of15_u14_.trans Of15_u11
      have Of34_u14 : u14 101 34 = τ 101 34 := Of34_u14_.trans Of34_u11
      have Of30_u14 : u14 101 30 = τ 101 30 := Of30_u14_.trans Of30_u11
      have Of18_u14 : u14 101 18 = τ 101 18 := Of18_u14_.trans Of18_u11
      refine sf_ite (fun c16 => ?_) (fun c16 => ?_)
      · have C16 : x3.toInt = (0 : Int) := ti_eq c16
        exact sf_ret ⟨Iu14, Fu14, Of15_u14, Of34_u14, Of30_u14, Of18_u14, ti_lo _, ti_hi _⟩
      have C16 : ¬ x3.toInt = (0 : Int) := ti_ne c16
      exact sf_ret ⟨Iu14, Fu14, Of15_u14, Of34_u14, Of30_u14, Of18_u14, ti_lo _, ti_hi _⟩
    have C9 : x7.toInt < (0 : Int) := ti_nle c9
    have l_7 : (7 : Int32).toInt = 7 := rfl
    exact sl_X4_newcomer_130 hF (by omega) (by omega) (by omega) (by omega) (by omega) (by omega) (by omega) ih _ _ _ _ _ hI Fσ Of15_σ Of34_σ Of30_σ Of18_σ (by omega) (by omega) (by omega) (by omega) (by omega) (by decide) (by decide)
set_option maxHeartbeats 4000000 in
set_option maxRecDepth 100000 in
theorem s_X4_newcomer {F : Nat} (hF : 73786976294838206464 ≤ F) {x1 : Int32} {x2 : Int32} {x3 : Int32} {τ : Mem} (hI : wiM τ) : sf (f_X4_newcomer F x1 x2 x3 τ) (fun r s => wiM s ∧ (∀ k, k < 101 → s k = τ k) ∧ s 101 15 = τ 101 15 ∧ s 101 34 = τ 101 34 ∧ s 101 30 = τ 101 30 ∧ s 101 18 = τ 101 18 ∧ -2147483648 ≤ r.toInt ∧ r.toInt ≤ 2147483647) := by
  have Fτ : ∀ k, k < 101 → τ k = τ k := fun _ _ => rfl
  have Of15_τ : τ 101 15 = τ 101 15 := rfl
  have Of34_τ : τ 101 34 = τ 101 34 := rfl
  have Of1_τ : τ 101 1 = τ 101 1 := rfl
  have Of30_τ : τ 101 30 = τ 101 30 := rfl
  have Of18_τ : τ 101 18 = τ 101 18 := rfl
  rw [f_X4_newcomer_e]
  refine sf_lt (fun s1 hs1 => ?_)
  have Is1 : wiM s1 := by rw [hs1]; exact wm_fld hI (by decide) (by decide) (by decide) (by decide) (by decide) (by decide) (by decide)
  have Fs1 : ∀ k, k < 101 → s1 k = τ k := fun k hk => (show s1 k = τ k by rw [hs1, up2_k (by omega)]).trans (Fτ k hk)
  have Of15_s1 : s1 101 15 = τ 101 15 := (show s1 101 15 = τ 101 15 by rw [hs1, up2_i (by decide)]).trans Of15_τ
  have Of34_s1 : s1 101 34 = τ 101 34 := (show s1 101 34 = τ 101 34 by rw [hs1, up2_i (by decide)]).trans Of34_τ
  have Of1_s1 : s1 101 1 = τ 101 1 := (show s1 101 1 = τ 101 1 by rw [hs1, up2_i (by decide)]).trans Of1_τ
  have Of30_s1 : s1 101 30 = τ 101 30 := (show s1 101 30 = τ 101 30 by rw [hs1, up2_i (by decide)]).trans Of30_τ
  have Of18_s1 : s1 101 18 = τ 101 18 := (show s1 101 18 = τ 101 18 by rw [hs1, up2_i (by decide)]).trans Of18_τ
  have b2 := ti_lo x2
  have b3 := ti_hi x2
  refine sf_bnd (s_X4_isPane hF Is1) (fun r4 u5 p6 => ?_)
  obtain ⟨e9, p6⟩ := p6
  have e9 := e9.symm
  subst e9
  rcases p6 with ⟨rfl, q7, q8⟩ | p6
  · refine sf_ite (fun c9 => ?_) (fun c9 => ?_)
    · have C9 : (1 : Int) = (0 : Int) := ti_eq c9
      exfalso; omega
    have C9 : ¬ (1 : Int) = (0 : Int) := ti_ne c9
    refine sf_in ?_
    rw [f_X4_in_e]
    have b10 := ti_lo x1
    have b11 := ti_hi x1
    have b12 := ti_lo (lg_cmp (Int32.toInt64 x1) (0 : Int64))
    have b13 := ti_hi (lg_cmp (Int32.toInt64 x1) (0 : Int64))
    refine sf_ite (fun c14 => ?_) (fun c14 => ?_)
    · have C14 : (lg_cmp (Int32.toInt64 x1) (0 : Int64)).toInt < (0 : Int) := ti_lt c14
      have L14 : x1.toInt < (0 : Int) := by have q := lg_ltl c14; (repeat (rw [Int32.toInt_toInt64] at q)); exact q
      rw [j_X4_in_17_e]
      refine sf_ret ?_
      refine sf_ite (fun c15 => ?_) (fun c15 => ?_)
      · have C15 : (0 : Int) = (0 : Int) := ti_eq c15
        rw [j_X4_newcomer_39_e]
        rw [j_X4_newcomer_58_e]
        refine sf_ite (fun c16 => ?_) (fun c16 => ?_)
        · have C16 : (0 : Int) ≤ (-2 : Int) := ti_le c16
          exfalso; omega
        have C16 : (-2 : Int) < (0 : Int) := ti_nle c16
        refine sf_bnd (s_X4_refuse hF Is1 (by decide) (by decide)) (fun r17 u18 p19 => ?_)
        obtain ⟨Iu18, Fu18_, Of15_u18_, Of34_u18_, Of1_u18_, Of30_u18_, Of18_u18_, p19_1, p19_2, p19_x0⟩ := p19
        have Fu18 : ∀ k, k < 101 → u18 k = τ k := fun k hk => (Fu18_ k hk).trans (Fs1 k hk)
        have Of15_u18 : u18 101 15 = τ 101 15 := Of15_u18_.trans Of15_s1
        have Of34_u18 : u18 101 34 = τ 101 34 := Of34_u18_.trans Of34_s1
        have Of1_u18 : u18 101 1 = τ 101 1 := Of1_u18_.trans Of1_s1
        have Of30_u18 : u18 101 30 = τ 101 30 := Of30_u18_.trans Of30_s1
        have Of18_u18 : u18 101 18 = τ 101 18 := Of18_u18_.trans Of18_s1
        replace p19_x0 : r17.toInt = (-2 : Int) := p19_x0
        exact sf_ret ⟨Iu18, Fu18, Of15_u18, Of34_u18, Of30_u18, Of18_u18, ti_lo _, ti_hi _⟩
      have C15 : ¬ (0 : Int) = (0 : Int) := ti_ne c15
      exfalso; omega
    have C14 : (0 : Int) ≤ (lg_cmp (Int32.toInt64 x1) (0 : Int64)).toInt := ti_nlt c14
    have L14 : (0 : Int) ≤ x1.toInt := by have q := lg_ltln c14; (repeat (rw [Int32.toInt_toInt64] at q)); exact q
    have b20 := ti_lo (lg_cmp (Int32.toInt64 x1) (5 : Int64))
    have b21 := ti_hi (lg_cmp (Int32.toInt64 x1) (5 : Int64))
    refine sf_ite (fun c22 => ?_) (fun c22 => ?_)
    · have C22 : (0 : Int) < (lg_cmp (Int32.toInt64 x1) (5 : Int64)).toInt := ti_lt c22
      have L22 : (5 : Int) < x1.toInt := by have q := lg_ltr c22; (repeat (rw [Int32.toInt_toInt64] at q)); exact q
      rw [j_X4_in_17_e]
      refine sf_ret ?_
      refine sf_ite (fun c23 => ?_) (fun c23 => ?_)
      · have C23 : (0 : Int) = (0 : Int) := ti_eq c23
        rw [j_X4_newcomer_39_e]
        rw [j_X4_newcomer_58_e]
        refine sf_ite (fun c24 => ?_) (fun c24 => ?_)
        · have C24 : (0 : Int) ≤ (-2 : Int) := ti_le c24
          exfalso; omega
        have C24 : (-2 : Int) < (0 : Int) := ti_nle c24
        refine sf_bnd (s_X4_refuse hF Is1 (by decide) (by decide)) (fun r25 u26 p27 => ?_)
        obtain ⟨Iu26, Fu26_, Of15_u26_, Of34_u26_, Of1_u26_, Of30_u26_, Of18_u26_, p27_1, p27_2, p27_x0⟩ := p27
        have Fu26 : ∀ k, k < 101 → u26 k = τ k := fun k hk => (Fu26_ k hk).trans (Fs1 k hk)
        have Of15_u26 : u26 101 15 = τ 101 15 := Of15_u26_.trans Of15_s1
        have Of34_u26 : u26 101 34 = τ 101 34 := Of34_u26_.trans Of34_s1
        have Of1_u26 : u26 101 1 = τ 101 1 := Of1_u26_.trans Of1_s1
        have Of30_u26 : u26 101 30 = τ 101 30 := Of30_u26_.trans Of30_s1
        have Of18_u26 : u26 101 18 = τ 101 18 := Of18_u26_.trans Of18_s1
        replace p27_x0 : r25.toInt = (-2 : Int) := p27_x0
        exact sf_ret ⟨Iu26, Fu26, Of15_u26, Of34_u26, Of30_u26, Of18_u26, ti_lo _, ti_hi _⟩
      have C23 : ¬ (0 : Int) = (0 : Int) := ti_ne c23
      exfalso; omega
    have C22 : (lg_cmp (Int32.toInt64 x1) (5 : Int64)).toInt ≤ (0 : Int) := ti_nlt c22
    have L22 : x1.toInt ≤ (5 : Int) := by have q := lg_ltrn c22; (repeat (rw [Int32.toInt_toInt64] at q)); exact q
    refine sf_ret ?_
    refine sf_ite (fun c28 => ?_) (fun c28 => ?_)
    · have C28 : (1 : Int) = (0 : Int) := ti_eq c28
      exfalso; omega
    have C28 : ¬ (1 : Int) = (0 : Int) := ti_ne c28
    refine sf_in ?_
    rw [f_X4_in_e]
    have b29 := ti_lo x3
    have b30 := ti_hi x3
    have b31 := ti_lo (lg_cmp (Int32.toInt64 x3) (0 : Int64))
    have b32 := ti_hi (lg_cmp (Int32.toInt64 x3) (0 : Int64))
    refine sf_ite (fun c33 => ?_) (fun c33 => ?_)
    · have C33 : (lg_cmp (Int32.toInt64 x3) (0 : Int64)).toInt < (0 : Int) := ti_lt c33
      have L33 : x3.toInt < (0 : Int) := by have q := lg_ltl c33; (repeat (rw [Int32.toInt_toInt64] at q)); exact q
      rw [j_X4_in_17_e]
      refine sf_ret ?_
      refine sf_ite (fun c34 => ?_) (fun c34 => ?_)
      · have C34 : (0 : Int) = (0 : Int) := ti_eq c34
        rw [j_X4_newcomer_39_e]
        rw [j_X4_newcomer_58_e]
        refine sf_ite (fun c35 => ?_) (fun c35 => ?_)
        · have C35 : (0 : Int) ≤ (-2 : Int) := ti_le c35
          exfalso; omega
        have C35 : (-2 : Int) < (0 : Int) := ti_nle c35
        refine sf_bnd (s_X4_refuse hF Is1 (by decide) (by decide)) (fun r36 u37 p38 => ?_)
        obtain ⟨Iu37, Fu37_, Of15_u37_, Of34_u37_, Of1_u37_, Of30_u37_, Of18_u37_, p38_1, p38_2, p38_x0⟩ := p38
        have Fu37 : ∀ k, k < 101 → u37 k = τ k := fun k hk => (Fu37_ k hk).trans (Fs1 k hk)
        have Of15_u37 : u37 101 15 = τ 101 15 := Of15_u37_.trans Of15_s1
        have Of34_u37 : u37 101 34 = τ 101 34 := Of34_u37_.trans Of34_s1
        have Of1_u37 : u37 101 1 = τ 101 1 := Of1_u37_.trans Of1_s1
        have Of30_u37 : u37 101 30 = τ 101 30 := Of30_u37_.trans Of30_s1
        have Of18_u37 : u37 101 18 = τ 101 18 := Of18_u37_.trans Of18_s1
        replace p38_x0 : r36.toInt = (-2 : Int) := p38_x0
        exact sf_ret ⟨Iu37, Fu37, Of15_u37, Of34_u37, Of30_u37, Of18_u37, ti_lo _, ti_hi _⟩
      have C34 : ¬ (0 : Int) = (0 : Int) := ti_ne c34
      exfalso; omega
    have C33 : (0 : Int) ≤ (lg_cmp (Int32.toInt64 x3) (0 : Int64)).toInt := ti_nlt c33
    have L33 : (0 : Int) ≤ x3.toInt := by have q := lg_ltln c33; (repeat (rw [Int32.toInt_toInt64] at q)); exact q
    have b39 := ti_lo (lg_cmp (Int32.toInt64 x3) (1 : Int64))
    have b40 := ti_hi (lg_cmp (Int32.toInt64 x3) (1 : Int64))
    refine sf_ite (fun c41 => ?_) (fun c41 => ?_)
    · have C41 : (0 : Int) < (lg_cmp (Int32.toInt64 x3) (1 : Int64)).toInt := ti_lt c41
      have L41 : (1 : Int) < x3.toInt := by have q := lg_ltr c41; (repeat (rw [Int32.toInt_toInt64] at q)); exact q
      rw [j_X4_in_17_e]
      refine sf_ret ?_
      refine sf_ite (fun c42 => ?_) (fun c42 => ?_)
      · have C42 : (0 : Int) = (0 : Int) := ti_eq c42
        rw [j_X4_newcomer_39_e]
        rw [j_X4_newcomer_58_e]
        refine sf_ite (fun c43 => ?_) (fun c43 => ?_)
        · have C43 : (0 : Int) ≤ (-2 : Int) := ti_le c43
          exfalso; omega
        have C43 : (-2 : Int) < (0 : Int) := ti_nle c43
        refine sf_bnd (s_X4_refuse hF Is1 (by decide) (by decide)) (fun r44 u45 p46 => ?_)
        obtain ⟨Iu45, Fu45_, Of15_u45_, Of34_u45_, Of1_u45_, Of30_u45_, Of18_u45_, p46_1, p46_2, p46_x0⟩ := p46
        have Fu45 : ∀ k, k < 101 → u45 k = τ k := fun k hk => (Fu45_ k hk).trans (Fs1 k hk)
        have Of15_u45 : u45 101 15 = τ 101 15 := Of15_u45_.trans Of15_s1
        have Of34_u45 : u45 101 34 = τ 101 34 := Of34_u45_.trans Of34_s1
        have Of1_u45 : u45 101 1 = τ 101 1 := Of1_u45_.trans Of1_s1
        have Of30_u45 : u45 101 30 = τ 101 30 := Of30_u45_.trans Of30_s1
        have Of18_u45 : u45 101 18 = τ 101 18 := Of18_u45_.trans Of18_s1
        replace p46_x0 : r44.toInt = (-2 : Int) := p46_x0
        exact sf_ret ⟨Iu45, Fu45, Of15_u45, Of34_u45, Of30_u45, Of18_u45, ti_lo _, ti_hi _⟩
      have C42 : ¬ (0 : Int) = (0 : Int) := ti_ne c42
      exfalso; omega
    have C41 : (lg_cmp (Int32.toInt64 x3) (1 : Int64)).toInt ≤ (0 : Int) := ti_nlt c41
    have L41 : x3.toInt ≤ (1 : Int) := by have q := lg_ltrn c41; (repeat (rw [Int32.toInt_toInt64] at q)); exact q
    refine sf_ret ?_
    refine sf_ite (fun c47 => ?_) (fun c47 => ?_)
    · have C47 : (1 : Int) = (0 : Int) := ti_eq c47
      exfalso; omega
    have C47 : ¬ (1 : Int) = (0 : Int) := ti_ne c47
    have m48 := wx_X4_3 Is1
    have m49 := wx_X4_3 hI
    have e50 : (s1 101 3).toInt = (τ 101 3).toInt := congrArg Int32.toInt (by rw [hs1, up2_i (by decide)])
    refine sf_ite (fun c51 => ?_) (fun c51 => ?_)
    · have C51 : (s1 101 3).toInt = (5 : Int) := ti_eq c51
      rw [j_X4_newcomer_58_e]
      refine sf_ite (fun c52 => ?_) (fun c52 => ?_)
      · have C52 : (0 : Int) ≤ (-3 : Int) := ti_le c52
        exfalso; omega
      have C52 : (-3 : Int) < (0 : Int) := ti_nle c52
      refine sf_bnd (s_X4_refuse hF Is1 (by decide) (by decide)) (fun r53 u54 p55 => ?_)
      obtain ⟨Iu54, Fu54_, Of15_u54_, Of34_u54_, Of1_u54_, Of30_u54_, Of18_u54_, p55_1, p55_2, p55_x0⟩ := p55
      have Fu54 : ∀ k, k < 101 → u54 k = τ k := fun k hk => (Fu54_ k hk).trans (Fs1 k hk)
      have Of15_u54 : u54 101 15 = τ 101 15 := Of15_u54_.trans Of15_s1
      have Of34_u54 : u54 101 34 = τ 101 34 := Of34_u54_.trans Of34_s1
      have Of1_u54 : u54 101 1 = τ 101 1 := Of1_u54_.trans Of1_s1
      have Of30_u54 : u54 101 30 = τ 101 30 := Of30_u54_.trans Of30_s1
      have Of18_u54 : u54 101 18 = τ 101 18 := Of18_u54_.trans Of18_s1
      replace p55_x0 : r53.toInt = (-3 : Int) := p55_x0
      exact sf_ret ⟨Iu54, Fu54, Of15_u54, Of34_u54, Of30_u54, Of18_u54, ti_lo _, ti_hi _⟩
    have C51 : ¬ (s1 101 3).toInt = (5 : Int) := ti_ne c51
    rw [j_X4_newcomer_58_e]
    refine sf_ite (fun c56 => ?_) (fun c56 => ?_)
    · have C56 : (0 : Int) ≤ (0 : Int) := ti_le c56
      have m57 := wx_X4_1 Is1
      have m58 := wx_X4_1 hI
      have e59 : (s1 101 1).toInt = (τ 101 1).toInt := congrArg Int32.toInt (by rw [hs1, up2_i (by decide)])
      refine sf_bnd (s_X4_think hF Is1) (fun r60 u61 p62 => ?_)
      obtain ⟨Iu61, Fu61_, Of15_u61_, Of34_u61_, Of30_u61_, Of18_u61_, -, p62_x0⟩ := p62
      have Fu61 : ∀ k, k < 101 → u61 k = τ k := fun k hk => (Fu61_ k hk).trans (Fs1 k hk)
      have Of15_u61 : u61 101 15 = τ 101 15 := Of15_u61_.trans Of15_s1
      have Of34_u61 : u61 101 34 = τ 101 34 := Of34_u61_.trans Of34_s1
      have Of30_u61 : u61 101 30 = τ 101 30 := Of30_u61_.trans Of30_s1
      have Of18_u61 : u61 101 18 = τ 101 18 := Of18_u61_.trans Of18_s1
      replace p62_x0 : (u61 101 1).toInt = (s1 101 1).toInt ∧ (u61 101 3).toInt = (s1 101 3).toInt := p62_x0
      have m63 := wx_X4_1 Iu61
      have m64 := wx_X4_3 Iu61
      refine sf_bnd (s_X4_lookerComes hF Iu61 (by omega) (by omega) (by decide) (by decide) (by first | omega | decide)) (fun r65 u66 p67 => ?_)
      obtain ⟨Iu66, Fu66_, Of15_u66_, Of34_u66_, Of1_u66_, Of30_u66_, Of18_u66_, -⟩ := p67
      have Fu66 : ∀ k, k < 101 → u66 k = τ k := fun k hk => (Fu66_ k hk).trans (Fu61 k hk)
      have Of15_u66 : u66 101 15 = τ 101 15 := Of15_u66_.trans Of15_u61
      have Of34_u66 : u66 101 34 = τ 101 34 := Of34_u66_.trans Of34_u61
      have Of30_u66 : u66 101 30 = τ 101 30 := Of30_u66_.trans Of30_u61
      have Of18_u66 : u66 101 18 = τ 101 18 := Of18_u66_.trans Of18_u61
      refine sf_bnd (s_X4_stand hF Iu66 (by omega) (by omega) (by decide) (by decide) (by decide) (by decide) (by first | omega | decide)) (fun r68 u69 p70 => ?_)
      obtain ⟨Iu69, Fu69_, Of15_u69_, Of34_u69_, Of1_u69_, Of30_u69_, Of18_u69_, -⟩ := p70
      have Fu69 : ∀ k, k < 101 → u69 k = τ k := fun k hk => (Fu69_ k hk).trans (Fu66 k hk)
      have Of15_u69 : u69 101 15 = τ 101 15 := Of15_u69_.trans Of15_u66
      have Of34_u69 : u69 101 34 = τ 101 34 := Of34_u69_.trans Of34_u66
      have Of30_u69 : u69 101 30 = τ 101 30 := Of30_u69_.trans Of30_u66
      have Of18_u69 : u69 101 18 = τ 101 18 := Of18_u69_.trans Of18_u66
      refine sf_bnd (s_X4_layBrings hF Iu69) (fun r71 u72 p73 => ?_)
      obtain ⟨Iu72, Fu72_, Of15_u72_, Of34_u72_, Of1_u72_, Of30_u72_, Of18_u72_, -⟩ := p73
      have Fu72 : ∀ k, k < 101 → u72 k = τ k := fun k hk => (Fu72_ k hk).trans (Fu69 k hk)
      have Of15_u72 : u72 101 15 = τ 101 15 := Of15_u72_.trans Of15_u69
      have Of34_u72 : u72 101 34 = τ 101 34 := Of34_u72_.trans Of34_u69
      have Of30_u72 : u72 101 30 = τ 101 30 := Of30_u72_.trans Of30_u69
      have Of18_u72 : u72 101 18 = τ 101 18 := Of18_u72_.trans Of18_u69
      have l_0 : (0 : Int32).toInt = 0 := rfl
      exact sl_X4_newcomer_113 hF (by omega) (by omega) (by omega) (by omega) _ _ _ _ _ Iu72 Fu72 Of15_u72 Of34_u72 Of30_u72 Of18_u72 (by omega) (by decide) (by decide) (by decide) (by decide) (by decide) (by decide)
    have C56 : (0 : Int) < (0 : Int) := ti_nle c56
    exfalso; omega
  obtain rfl := p6
  refine sf_ite (fun c74 => ?_) (fun c74 => ?_)
  · have C74 : (0 : Int) = (0 : Int) := ti_eq c74
    rw [j_X4_newcomer_58_e]
    refine sf_ite (fun c75 => ?_) (fun c75 => ?_)
    · have C75 : (0 : Int) ≤ (-1 : Int) := ti_le c75
      exfalso; omega
    have C75 : (-1 : Int) < (0 : Int) := ti_nle c75
    refine sf_bnd (s_X4_refuse hF Is1 (by decide) (by decide)) (fun r76 u77 p78 => ?_)
    obtain ⟨Iu77, Fu77_, Of15_u77_, Of34_u77_, Of1_u77_, Of30_u77_, Of18_u77_, p78_1, p78_2, p78_x0⟩ := p78
    have Fu77 : ∀ k, k < 101 → u77 k = τ k := fun k hk => (Fu77_ k hk).trans (Fs1 k hk)
    have Of15_u77 : u77 101 15 = τ 101 15 := Of15_u77_.trans Of15_s1
    have Of34_u77 : u77 101 34 = τ 101 34 := Of34_u77_.trans Of34_s1
    have Of1_u77 : u77 101 1 = τ 101 1 := Of1_u77_.trans Of1_s1
    have Of30_u77 : u77 101 30 = τ 101 30 := Of30_u77_.trans Of30_s1
    have Of18_u77 : u77 101 18 = τ 101 18 := Of18_u77_.trans Of18_s1
    replace p78_x0 : r76.toInt = (-1 : Int) := p78_x0
    exact sf_ret ⟨Iu77, Fu77, Of15_u77, Of34_u77, Of30_u77, Of18_u77, ti_lo _, ti_hi _⟩
  have C74 : ¬ (0 : Int) = (0 : Int) := ti_ne c74
  exfalso; omega
set_option maxHeartbeats 4000000 in
set_option maxRecDepth 100000 in
theorem sl_X4_broughtToAll_4 {F : Nat} (hF : 73786976294838206464 ≤ F) {x1 : Int32} {τ : Mem} (hI : wiM τ) (x1_1 : 0 ≤ x1.toInt) (x1_2 : x1.toInt ≤ 7) : ∀ (N : Nat) (x2 : Int32) (x3 : Int32) , 5 < x3.toInt + N → 0 ≤ x3.toInt → x3.toInt ≤ 5 → sf (lp_X4_broughtToAll_4 F x1 N x2 x3 τ) (fun r s => s = τ ∧ -2147483648 ≤ r.toInt ∧ r.toInt ≤ 2147483647) := by
  intro N
  induction N with
  | zero => intro x2 x3 hN x3_1 x3_2; exfalso; omega
  | succ N ih =>
    intro x2 x3 hN x3_1 x3_2
    rw [lp_X4_broughtToAll_4_s]
    have m1 := wx_X4_3 hI
    refine sf_ite (fun c2 => ?_) (fun c2 => ?_)
    · have C2 : (τ 101 3).toInt ≤ x3.toInt := ti_le c2
      have b3 := ti_lo x2
      have b4 := ti_hi x2
      exact sf_ret ⟨rfl, ti_lo _, ti_hi _⟩
    have C2 : x3.toInt < (τ 101 3).toInt := ti_nle c2
    have t5 : ((8 : Int32) * x3).toInt = (8 : Int) * x3.toInt := ti_mul (show -2147483648 ≤ (8 : Int) * x3.toInt by omega) (show (8 : Int) * x3.toInt ≤ 2147483647 by omega)
    have t6 : (((8 : Int32) * x3) + x1).toInt = ((8 : Int32) * x3).toInt + x1.toInt := ti_add (show -2147483648 ≤ ((8 : Int32) * x3).toInt + x1.toInt by omega) (show ((8 : Int32) * x3).toInt + x1.toInt ≤ 2147483647 by omega)
    refine sf_chk (ti_in (by omega) (by omega)) ?_
    have v7 : Int32.toNatClampNeg (((8 : Int32) * x3) + x1) = (((8 : Int32) * x3) + x1).toInt.toNat := rfl
    have b9 := ti_lo x2
    have b10 := ti_hi x2
    have b11 := ti_lo (τ 109 (Int32.toNatClampNeg (((8 : Int32) * x3) + x1)))
    have b12 := ti_hi (τ 109 (Int32.toNatClampNeg (((8 : Int32) * x3) + x1)))
    have b13 := ti_lo (x2 + (τ 109 (Int32.toNatClampNeg (((8 : Int32) * x3) + x1))))
    have b14 := ti_hi (x2 + (τ 109 (Int32.toNatClampNeg (((8 : Int32) * x3) + x1))))
    refine sf_lt (fun z8 hz8 => ?_)
    have hz8_ : z8.toInt = (x2 + (τ 109 (Int32.toNatClampNeg (((8 : Int32) * x3) + x1)))).toInt := (show z8.toInt = (x2 + (τ 109 (Int32.toNatClampNeg (((8 : Int32) * x3) + x1)))).toInt from congrArg Int32.toInt hz8)
    have b15 := ti_lo z8
    have b16 := ti_hi z8
    have t17 : (x3 + (1 : Int32)).toInt = x3.toInt + (1 : Int) := ti_add (show -2147483648 ≤ x3.toInt + (1 : Int) by omega) (show x3.toInt + (1 : Int) ≤ 2147483647 by omega)
    exact ih _ _ (by omega) (by omega) (by omega)
set_option maxHeartbeats 4000000 in
set_option maxRecDepth 100000 in
theorem s_X4_broughtToAll {F : Nat} (hF : 73786976294838206464 ≤ F) {x1 : Int32} {τ : Mem} (hI : wiM τ) (x1_1 : 0 ≤ x1.toInt) (x1_2 : x1.toInt ≤ 7) : sf (f_X4_broughtToAll F x1 τ) (fun r s => s = τ ∧ -2147483648 ≤ r.toInt ∧ r.toInt ≤ 2147483647) := by
  rw [f_X4_broughtToAll_e]
  have l_0 : (0 : Int32).toInt = 0 := rfl
  exact sl_X4_broughtToAll_4 hF hI (by omega) (by omega) _ _ _  (by omega) (by decide) (by decide)
set_option maxHeartbeats 4000000 in
set_option maxRecDepth 100000 in
theorem sl_X4_mostSeen_30 {F : Nat} (hF : 73786976294838206464 ≤ F) {x1 : Int32} {τ : Mem} (x1_1 : 0 ≤ x1.toInt) (x1_2 : x1.toInt ≤ 1) : ∀ (N : Nat) (x2 : Int32) (x3 : Int32) (σ : Mem), wiM σ → (∀ k, k < 101 → σ k = τ k) → σ 101 15 = τ 101 15 → σ 101 34 = τ 101 34 → σ 101 1 = τ 101 1 → σ 101 30 = τ 101 30 → σ 101 18 = τ 101 18 → 8 < x3.toInt + N → 0 ≤ x2.toInt → x2.toInt ≤ 7 → 1 ≤ x3.toInt → x3.toInt ≤ 8 → sf (lp_X4_mostSeen_30 F x1 N x2 x3 σ) (fun r s => wiM s ∧ (∀ k, k < 101 → s k = τ k) ∧ s 101 15 = τ 101 15 ∧ s 101 34 = τ 101 34 ∧ s 101 1 = τ 101 1 ∧ s 101 30 = τ 101 30 ∧ s 101 18 = τ 101 18 ∧ -2147483648 ≤ r.toInt ∧ r.toInt ≤ 2147483647) := by
  intro N
  induction N with
  | zero => intro x2 x3 σ hI Fσ Of15_σ Of34_σ Of1_σ Of30_σ Of18_σ hN x2_1 x2_2 x3_1 x3_2; exfalso; omega
  | succ N ih =>
    intro x2 x3 σ hI Fσ Of15_σ Of34_σ Of1_σ Of30_σ Of18_σ hN x2_1 x2_2 x3_1 x3_2
    rw [lp_X4_mostSeen_30_s]
    refine sf_ite (fun c1 => ?_) (fun c1 => ?_)
    · have C1 : (8 : Int) ≤ x3.toInt := ti_le c1
      refine sf_ite (fun c2 => ?_) (fun c2 => ?_)
      · have C2 : x1.toInt = (0 : Int) := ti_eq c2
        exact sf_ret ⟨hI, Fσ, Of15_σ, Of34_σ, Of1_σ, Of30_σ, Of18_σ, ti_lo _, ti_hi _⟩
      have C2 : ¬ x1.toInt = (0 : Int) := ti_ne c2
      refine sf_bnd (s_X4_broughtToAll hF hI (by omega) (by omega)) (fun r3 u4 p5 => ?_)
      obtain ⟨e9, p5_1, p5_2⟩ := p5
      have e9 := e9.symm
      subst e9
      have b6 := ti_lo r3
      have b7 := ti_hi r3
      exact sf_ret ⟨hI, Fσ, Of15_σ, Of34_σ, Of1_σ, Of30_σ, Of18_σ, ti_lo _, ti_hi _⟩
    have C1 : x3.toInt < (8 : Int) := ti_nle c1
    refine sf_bnd (s_X4_broughtToAll hF hI (by omega) (by omega)) (fun r8 u9 p10 => ?_)
    obtain ⟨e9, p10_1, p10_2⟩ := p10
    have e9 := e9.symm
    subst e9
    refine sf_bnd (s_X4_broughtToAll hF hI (by omega) (by omega)) (fun r11 u12 p13 => ?_)
    obtain ⟨e9, p13_1, p13_2⟩ := p13
    have e9 := e9.symm
    subst e9
    have b14 := ti_lo r8
    have b15 := ti_hi r8
    have b16 := ti_lo r11
    have b17 := ti_hi r11
    refine sf_ite (fun c18 => ?_) (fun c18 => ?_)
    · have C18 : r8.toInt ≤ r11.toInt := ti_le c18
      rw [j_X4_mostSeen_54_e]
      have t19 : (x3 + (1 : Int32)).toInt = x3.toInt + (1 : Int) := ti_add (show -2147483648 ≤ x3.toInt + (1 : Int) by omega) (show x3.toInt + (1 : Int) ≤ 2147483647 by omega)
      exact ih _ _ _ hI Fσ Of15_σ Of34_σ Of1_σ Of30_σ Of18_σ (by omega) (by omega) (by omega) (by omega) (by omega)
    have C18 : r11.toInt < r8.toInt := ti_nle c18
    rw [j_X4_mostSeen_54_e]
    have t20 : (x3 + (1 : Int32)).toInt = x3.toInt + (1 : Int) := ti_add (show -2147483648 ≤ x3.toInt + (1 : Int) by omega) (show x3.toInt + (1 : Int) ≤ 2147483647 by omega)
    exact ih _ _ _ hI Fσ Of15_σ Of34_σ Of1_σ Of30_σ Of18_σ (by omega) (by omega) (by omega) (by omega) (by omega)
set_option maxHeartbeats 4000000 in
set_option maxRecDepth 100000 in
theorem s_X4_mostSeen {F : Nat} (hF : 73786976294838206464 ≤ F) {x1 : Int32} {τ : Mem} (hI : wiM τ) : sf (f_X4_mostSeen F x1 τ) (fun r s => wiM s ∧ (∀ k, k < 101 → s k = τ k) ∧ s 101 15 = τ 101 15 ∧ s 101 34 = τ 101 34 ∧ s 101 1 = τ 101 1 ∧ s 101 30 = τ 101 30 ∧ s 101 18 = τ 101 18 ∧ -2147483648 ≤ r.toInt ∧ r.toInt ≤ 2147483647) := by
  have Fτ : ∀ k, k < 101 → τ k = τ k := fun _ _ => rfl
  have Of15_τ : τ 101 15 = τ 101 15 := rfl
  have Of34_τ : τ 101 34 = τ 101 34 := rfl
  have Of1_τ : τ 101 1 = τ 101 1 := rfl
  have Of30_τ : τ 101 30 = τ 101 30 := rfl
  have Of18_τ : τ 101 18 = τ 101 18 := rfl
  rw [f_X4_mostSeen_e]
  refine sf_lt (fun s1 hs1 => ?_)
  have Is1 : wiM s1 := by rw [hs1]; exact wm_fld hI (by decide) (by decide) (by decide) (by decide) (by decide) (by decide) (by decide)
  have Fs1 : ∀ k, k < 101 → s1 k = τ k := fun k hk => (show s1 k = τ k by rw [hs1, up2_k (by omega)]).trans (Fτ k hk)
  have Of15_s1 : s1 101 15 = τ 101 15 := (show s1 101 15 = τ 101 15 by rw [hs1, up2_i (by decide)]).trans Of15_τ
  have Of34_s1 : s1 101 34 = τ 101 34 := (show s1 101 34 = τ 101 34 by rw [hs1, up2_i (by decide)]).trans Of34_τ
  have Of1_s1 : s1 101 1 = τ 101 1 := (show s1 101 1 = τ 101 1 by rw [hs1, up2_i (by decide)]).trans Of1_τ
  have Of30_s1 : s1 101 30 = τ 101 30 := (show s1 101 30 = τ 101 30 by rw [hs1, up2_i (by decide)]).trans Of30_τ
  have Of18_s1 : s1 101 18 = τ 101 18 := (show s1 101 18 = τ 101 18 by rw [hs1, up2_i (by decide)]).trans Of18_τ
  refine sf_in ?_
  rw [f_X4_in_e]
  have b2 := ti_lo x1
  have b3 := ti_hi x1
  have b4 := ti_lo (lg_cmp (Int32.toInt64 x1) (0 : Int64))
  have b5 := ti_hi (lg_cmp (Int32.toInt64 x1) (0 : Int64))
  refine sf_ite (fun c6 => ?_) (fun c6 => ?_)
  · have C6 : (lg_cmp (Int32.toInt64 x1) (0 : Int64)).toInt < (0 : Int) := ti_lt c6
    have L6 : x1.toInt < (0 : Int) := by have q := lg_ltl c6; (repeat (rw [Int32.toInt_toInt64] at q)); exact q
    rw [j_X4_in_17_e]
    refine sf_ret ?_
    refine sf_ite (fun c7 => ?_) (fun c7 => ?_)
    · have C7 : (0 : Int) = (0 : Int) := ti_eq c7
      refine sf_bnd (s_X4_refuse hF Is1 (by decide) (by decide)) (fun r8 u9 p10 => ?_)
      obtain ⟨Iu9, Fu9_, Of15_u9_, Of34_u9_, Of1_u9_, Of30_u9_, Of18_u9_, p10_1, p10_2, p10_x0⟩ := p10
      have Fu9 : ∀ k, k < 101 → u9 k = τ k := fun k hk => (Fu9_ k hk).trans (Fs1 k hk)
      have Of15_u9 : u9 101 15 = τ 101 15 := Of15_u9_.trans Of15_s1
      have Of34_u9 : u9 101 34 = τ 101 34 := Of34_u9_.trans Of34_s1
      have Of1_u9 : u9 101 1 = τ 101 1 := Of1_u9_.trans Of1_s1
      have Of30_u9 : u9 101 30 = τ 101 30 := Of30_u9_.trans Of30_s1
      have Of18_u9 : u9 101 18 = τ 101 18 := Of18_u9_.trans Of18_s1
      replace p10_x0 : r8.toInt = (-2 : Int) := p10_x0
      exact sf_ret ⟨Iu9, Fu9, Of15_u9, Of34_u9, Of1_u9, Of30_u9, Of18_u9, ti_lo _, ti_hi _⟩
    have C7 : ¬ (0 : Int) = (0 : Int) := ti_ne c7
    exfalso; omega
  have C6 : (0 : Int) ≤ (lg_cmp (Int32.toInt64 x1) (0 : Int64)).toInt := ti_nlt c6
  have L6 : (0 : Int) ≤ x1.toInt := by have q := lg_ltln c6; (repeat (rw [Int32.toInt_toInt64] at q)); exact q
  have b11 := ti_lo (lg_cmp (Int32.toInt64 x1) (1 : Int64))
  have b12 := ti_hi (lg_cmp (Int32.toInt64 x1) (1 : Int64))
  refine sf_ite (fun c13 => ?_) (fun c13 => ?_)
  · have C13 : (0 : Int) < (lg_cmp (Int32.toInt64 x1) (1 : Int64)).toInt := ti_lt c13
    have L13 : (1 : Int) < x1.toInt := by have q := lg_ltr c13; (repeat (rw [Int32.toInt_toInt64] at q)); exact q
    rw [j_X4_in_17_e]
    refine sf_ret ?_
    refine sf_ite (fun c14 => ?_) (fun c14 => ?_)
    · have C14 : (0 : Int) = (0 : Int) := ti_eq c14
      refine sf_bnd (s_X4_refuse hF Is1 (by decide) (by decide)) (fun r15 u16 p17 => ?_)
      obtain ⟨Iu16, Fu16_, Of15_u16_, Of34_u16_, Of1_u16_, Of30_u16_, Of18_u16_, p17_1, p17_2, p17_x0⟩ := p17
      have Fu16 : ∀ k, k < 101 → u16 k = τ k := fun k hk => (Fu16_ k hk).trans (Fs1 k hk)
      have Of15_u16 : u16 101 15 = τ 101 15 := Of15_u16_.trans Of15_s1
      have Of34_u16 : u16 101 34 = τ 101 34 := Of34_u16_.trans Of34_s1
      have Of1_u16 : u16 101 1 = τ 101 1 := Of1_u16_.trans Of1_s1
      have Of30_u16 : u16 101 30 = τ 101 30 := Of30_u16_.trans Of30_s1
      have Of18_u16 : u16 101 18 = τ 101 18 := Of18_u16_.trans Of18_s1
      replace p17_x0 : r15.toInt = (-2 : Int) := p17_x0
      exact sf_ret ⟨Iu16, Fu16, Of15_u16, Of34_u16, Of1_u16, Of30_u16, Of18_u16, ti_lo _, ti_hi _⟩
    have C14 : ¬ (0 : Int) = (0 : Int) := ti_ne c14
    exfalso; omega
  have C13 : (lg_cmp (Int32.toInt64 x1) (1 : Int64)).toInt ≤ (0 : Int) := ti_nlt c13
  have L13 : x1.toInt ≤ (1 : Int) := by have q := lg_ltrn c13; (repeat (rw [Int32.toInt_toInt64] at q)); exact q
  refine sf_ret ?_
  refine sf_ite (fun c18 => ?_) (fun c18 => ?_)
  · have C18 : (1 : Int) = (0 : Int) := ti_eq c18
    exfalso; omega
  have C18 : ¬ (1 : Int) = (0 : Int) := ti_ne c18
  refine sf_bnd (s_X4_layBrings hF Is1) (fun r19 u20 p21 => ?_)
  obtain ⟨Iu20, Fu20_, Of15_u20_, Of34_u20_, Of1_u20_, Of30_u20_, Of18_u20_, -⟩ := p21
  have Fu20 : ∀ k, k < 101 → u20 k = τ k := fun k hk => (Fu20_ k hk).trans (Fs1 k hk)
  have Of15_u20 : u20 101 15 = τ 101 15 := Of15_u20_.trans Of15_s1
  have Of34_u20 : u20 101 34 = τ 101 34 := Of34_u20_.trans Of34_s1
  have Of1_u20 : u20 101 1 = τ 101 1 := Of1_u20_.trans Of1_s1
  have Of30_u20 : u20 101 30 = τ 101 30 := Of30_u20_.trans Of30_s1
  have Of18_u20 : u20 101 18 = τ 101 18 := Of18_u20_.trans Of18_s1
  have l_1 : (1 : Int32).toInt = 1 := rfl
  exact sl_X4_mostSeen_30 hF (by omega) (by omega) _ _ _ _ Iu20 Fu20 Of15_u20 Of34_u20 Of1_u20 Of30_u20 Of18_u20 (by omega) (by decide) (by decide) (by decide) (by decide)
set_option maxHeartbeats 4000000 in
set_option maxRecDepth 100000 in
theorem sl_X4_duels_25 {F : Nat} (hF : 73786976294838206464 ≤ F) {x1 : Int32} {x2 : Int32} {τ : Mem} (x1_1 : 0 ≤ x1.toInt) (x1_2 : x1.toInt ≤ 4) (x2_1 : 0 ≤ x2.toInt) (x2_2 : x2.toInt ≤ 4) : ∀ (N : Nat) (x3 : Int32) (x4 : Int32) (σ : Mem), wiM σ → (∀ k, k < 101 → σ k = τ k) → σ 101 15 = τ 101 15 → σ 101 34 = τ 101 34 → σ 101 1 = τ 101 1 → σ 101 30 = τ 101 30 → σ 101 18 = τ 101 18 → 8 < x4.toInt + N → 0 ≤ x4.toInt → x4.toInt ≤ 8 → sf (lp_X4_duels_25 F x1 x2 N x3 x4 σ) (fun r s => wiM s ∧ (∀ k, k < 101 → s k = τ k) ∧ s 101 15 = τ 101 15 ∧ s 101 34 = τ 101 34 ∧ s 101 1 = τ 101 1 ∧ s 101 30 = τ 101 30 ∧ s 101 18 = τ 101 18 ∧ -2147483648 ≤ r.toInt ∧ r.toInt ≤ 2147483647) := by
  intro N
  induction N with
  | zero => intro x3 x4 σ hI Fσ Of15_σ Of34_σ Of1_σ Of30_σ Of18_σ hN x4_1 x4_2; exfalso; omega
  | succ N ih =>
    intro x3 x4 σ hI Fσ Of15_σ Of34_σ Of1_σ Of30_σ Of18_σ hN x4_1 x4_2
    rw [lp_X4_duels_25_s]
    refine sf_ite (fun c1 => ?_) (fun c1 => ?_)
    · have C1 : (8 : Int) ≤ x4.toInt := ti_le c1
      have b2 := ti_lo x3
      have b3 := ti_hi x3
      exact sf_ret ⟨hI, Fσ, Of15_σ, Of34_σ, Of1_σ, Of30_σ, Of18_σ, ti_lo _, ti_hi _⟩
    have C1 : x4.toInt < (8 : Int) := ti_nle c1
    refine sf_bnd (s_X4_bringsOf hF hI (by omega) (by omega) (by omega) (by omega)) (fun r4 u5 p6 => ?_)
    obtain ⟨e9, p6_1, p6_2⟩ := p6
    have e9 := e9.symm
    subst e9
    have b7 := ti_lo r4
    have b8 := ti_hi r4
    refine sf_ite (fun c9 => ?_) (fun c9 => ?_)
    · have C9 : r4.toInt ≤ (0 : Int) := ti_le c9
      rw [j_X4_duels_57_e]
      rw [j_X4_duels_58_e]
      have b10 := ti_lo x3
      have b11 := ti_hi x3
      have t12 : (x3 + (0 : Int32)).toInt = x3.toInt + (0 : Int) := ti_add (show -2147483648 ≤ x3.toInt + (0 : Int) by omega) (show x3.toInt + (0 : Int) ≤ 2147483647 by omega)
      have t13 : (x4 + (1 : Int32)).toInt = x4.toInt + (1 : Int) := ti_add (show -2147483648 ≤ x4.toInt + (1 : Int) by omega) (show x4.toInt + (1 : Int) ≤ 2147483647 by omega)
      exact ih _ _ _ hI Fσ Of15_σ Of34_σ Of1_σ Of30_σ Of18_σ (by omega) (by omega) (by omega)
    have C9 : (0 : Int) < r4.toInt := ti_nle c9
    refine sf_bnd (s_X4_bringsOf hF hI (by omega) (by omega) (by omega) (by omega)) (fun r14 u15 p16 => ?_)
    obtain ⟨e9, p16_1, p16_2⟩ := p16
    have e9 := e9.symm
    subst e9
    have b17 := ti_lo r14
    have b18 := ti_hi r14
    refine sf_ite (fun c19 => ?_) (fun c19 => ?_)
    · have C19 : r14.toInt ≤ (0 : Int) := ti_le c19
      rw [j_X4_duels_57_e]
      rw [j_X4_duels_58_e]
      have b20 := ti_lo x3
      have b21 := ti_hi x3
      have t22 : (x3 + (0 : Int32)).toInt = x3.toInt + (0 : Int) := ti_add (show -2147483648 ≤ x3.toInt + (0 : Int) by omega) (show x3.toInt + (0 : Int) ≤ 2147483647 by omega)
      have t23 : (x4 + (1 : Int32)).toInt = x4.toInt + (1 : Int) := ti_add (show -2147483648 ≤ x4.toInt + (1 : Int) by omega) (show x4.toInt + (1 : Int) ≤ 2147483647 by omega)
      exact ih _ _ _ hI Fσ Of15_σ Of34_σ Of1_σ Of30_σ Of18_σ (by omega) (by omega) (by omega)
    have C19 : (0 : Int) < r14.toInt := ti_nle c19
    rw [j_X4_duels_58_e]
    have b24 := ti_lo x3
    have b25 := ti_hi x3
    have b26 := ti_lo (x3 + (1 : Int32))
    have b27 := ti_hi (x3 + (1 : Int32))
    have t28 : (x4 + (1 : Int32)).toInt = x4.toInt + (1 : Int) := ti_add (show -2147483648 ≤ x4.toInt + (1 : Int) by omega) (show x4.toInt + (1 : Int) ≤ 2147483647 by omega)
    exact ih _ _ _ hI Fσ Of15_σ Of34_σ Of1_σ Of30_σ Of18_σ (by omega) (by omega) (by omega)
set_option maxHeartbeats 4000000 in
set_option maxRecDepth 100000 in
theorem s_X4_duels {F : Nat} (hF : 73786976294838206464 ≤ F) {x1 : Int32} {x2 : Int32} {τ : Mem} (hI : wiM τ) : sf (f_X4_duels F x1 x2 τ) (fun r s => wiM s ∧ (∀ k, k < 101 → s k = τ k) ∧ s 101 15 = τ 101 15 ∧ s 101 34 = τ 101 34 ∧ s 101 1 = τ 101 1 ∧ s 101 30 = τ 101 30 ∧ s 101 18 = τ 101 18 ∧ -2147483648 ≤ r.toInt ∧ r.toInt ≤ 2147483647) := by
  have Fτ : ∀ k, k < 101 → τ k = τ k := fun _ _ => rfl
  have Of15_τ : τ 101 15 = τ 101 15 := rfl
  have Of34_τ : τ 101 34 = τ 101 34 := rfl
  have Of1_τ : τ 101 1 = τ 101 1 := rfl
  have Of30_τ : τ 101 30 = τ 101 30 := rfl
  have Of18_τ : τ 101 18 = τ 101 18 := rfl
  rw [f_X4_duels_e]
  refine sf_lt (fun s1 hs1 => ?_)
  have Is1 : wiM s1 := by rw [hs1]; exact wm_fld hI (by decide) (by decide) (by decide) (by decide) (by decide) (by decide) (by decide)
  have Fs1 : ∀ k, k < 101 → s1 k = τ k := fun k hk => (show s1 k = τ k by rw [hs1, up2_k (by omega)]).trans (Fτ k hk)
  have Of15_s1 : s1 101 15 = τ 101 15 := (show s1 101 15 = τ 101 15 by rw [hs1, up2_i (by decide)]).trans Of15_τ
  have Of34_s1 : s1 101 34 = τ 101 34 := (show s1 101 34 = τ 101 34 by rw [hs1, up2_i (by decide)]).trans Of34_τ
  have Of1_s1 : s1 101 1 = τ 101 1 := (show s1 101 1 = τ 101 1 by rw [hs1, up2_i (by decide)]).trans Of1_τ
  have Of30_s1 : s1 101 30 = τ 101 30 := (show s1 101 30 = τ 101 30 by rw [hs1, up2_i (by decide)]).trans Of30_τ
  have Of18_s1 : s1 101 18 = τ 101 18 := (show s1 101 18 = τ 101 18 by rw [hs1, up2_i (by decide)]).trans Of18_τ
  have b2 := ti_lo x1
  have b3 := ti_hi x1
  have b4 := ti_lo x2
  have b5 := ti_hi x2
  refine sf_bnd (s_X4_areTwo hF Is1) (fun r6 u7 p8 => ?_)
  obtain ⟨e9, p8⟩ := p8
  have e9 := e9.symm
  subst e9
  rcases p8 with ⟨rfl, q9, q10, q11, q12⟩ | p8
  · refine sf_ite (fun c13 => ?_) (fun c13 => ?_)
    · have C13 : (1 : Int) = (0 : Int) := ti_eq c13
      exfalso; omega
    have C13 : ¬ (1 : Int) = (0 : Int) := ti_ne c13
    have l_0 : (0 : Int32).toInt = 0 := rfl
    exact sl_X4_duels_25 hF (by omega) (by omega) (by omega) (by omega) _ _ _ _ Is1 Fs1 Of15_s1 Of34_s1 Of1_s1 Of30_s1 Of18_s1 (by omega) (by decide) (by decide)
  obtain rfl := p8
  refine sf_ite (fun c14 => ?_) (fun c14 => ?_)
  · have C14 : (0 : Int) = (0 : Int) := ti_eq c14
    refine sf_bnd (s_X4_refuse hF Is1 (by decide) (by decide)) (fun r15 u16 p17 => ?_)
    obtain ⟨Iu16, Fu16_, Of15_u16_, Of34_u16_, Of1_u16_, Of30_u16_, Of18_u16_, p17_1, p17_2, p17_x0⟩ := p17
    have Fu16 : ∀ k, k < 101 → u16 k = τ k := fun k hk => (Fu16_ k hk).trans (Fs1 k hk)
    have Of15_u16 : u16 101 15 = τ 101 15 := Of15_u16_.trans Of15_s1
    have Of34_u16 : u16 101 34 = τ 101 34 := Of34_u16_.trans Of34_s1
    have Of1_u16 : u16 101 1 = τ 101 1 := Of1_u16_.trans Of1_s1
    have Of30_u16 : u16 101 30 = τ 101 30 := Of30_u16_.trans Of30_s1
    have Of18_u16 : u16 101 18 = τ 101 18 := Of18_u16_.trans Of18_s1
    replace p17_x0 : r15.toInt = (-1 : Int) := p17_x0
    exact sf_ret ⟨Iu16, Fu16, Of15_u16, Of34_u16, Of1_u16, Of30_u16, Of18_u16, ti_lo _, ti_hi _⟩
  have C14 : ¬ (0 : Int) = (0 : Int) := ti_ne c14
  exfalso; omega
