set_option maxHeartbeats 4000000 in
set_option maxRecDepth 100000 in
theorem s_X4_clear {F : Nat} (hF : 73786976294838206464 ≤ F) {τ : Mem} (hI : wiM τ) : sf (f_X4_clear F τ) (fun r s => wiM s ∧ (∀ k, k < 101 → s k = τ k) ∧ s 101 15 = τ 101 15 ∧ s 101 1 = τ 101 1 ∧ s 101 30 = τ 101 30 ∧ s 101 18 = τ 101 18 ∧ 0 ≤ r.toInt ∧ r.toInt ≤ 12 ∧ (r.toInt = (τ 101 34).toInt ∧ (s 101 34).toInt = 0)) := by
  have Fτ : ∀ k, k < 101 → τ k = τ k := fun _ _ => rfl
  have Of15_τ : τ 101 15 = τ 101 15 := rfl
  have Of34_τ : τ 101 34 = τ 101 34 := rfl
  have Of1_τ : τ 101 1 = τ 101 1 := rfl
  have Of30_τ : τ 101 30 = τ 101 30 := rfl
  have Of18_τ : τ 101 18 = τ 101 18 := rfl
  rw [f_X4_clear_e]
  refine sf_lt (fun s1 hs1 => ?_)
  have Is1 : wiM s1 := by rw [hs1]; exact wm_fld hI (by decide) (by decide) (by decide) (by decide) (by decide) (by decide) (by decide)
  have Fs1 : ∀ k, k < 101 → s1 k = τ k := fun k hk => (show s1 k = τ k by rw [hs1, up2_k (by omega)]).trans (Fτ k hk)
  have Of15_s1 : s1 101 15 = τ 101 15 := (show s1 101 15 = τ 101 15 by rw [hs1, up2_i (by decide)]).trans Of15_τ
  have Of34_s1 : s1 101 34 = τ 101 34 := (show s1 101 34 = τ 101 34 by rw [hs1, up2_i (by decide)]).trans Of34_τ
  have Of1_s1 : s1 101 1 = τ 101 1 := (show s1 101 1 = τ 101 1 by rw [hs1, up2_i (by decide)]).trans Of1_τ
  have Of30_s1 : s1 101 30 = τ 101 30 := (show s1 101 30 = τ 101 30 by rw [hs1, up2_i (by decide)]).trans Of30_τ
  have Of18_s1 : s1 101 18 = τ 101 18 := (show s1 101 18 = τ 101 18 by rw [hs1, up2_i (by decide)]).trans Of18_τ
  refine sf_lt (fun s2 hs2 => ?_)
  have Is2 : wiM s2 := by rw [hs2]; exact wx_put_X4_34 Is1 (by decide) (by decide)
  have Fs2 : ∀ k, k < 101 → s2 k = τ k := fun k hk => (show s2 k = s1 k by rw [hs2, up2_k (by omega)]).trans (Fs1 k hk)
  have Of15_s2 : s2 101 15 = τ 101 15 := (show s2 101 15 = s1 101 15 by rw [hs2, up2_i (by decide)]).trans Of15_s1
  have Of1_s2 : s2 101 1 = τ 101 1 := (show s2 101 1 = s1 101 1 by rw [hs2, up2_i (by decide)]).trans Of1_s1
  have Of30_s2 : s2 101 30 = τ 101 30 := (show s2 101 30 = s1 101 30 by rw [hs2, up2_i (by decide)]).trans Of30_s1
  have Of18_s2 : s2 101 18 = τ 101 18 := (show s2 101 18 = s1 101 18 by rw [hs2, up2_i (by decide)]).trans Of18_s1
  have m3 := wx_X4_34 Is1
  have m4 := wx_X4_34 hI
  have e5 : (s1 101 34).toInt = (τ 101 34).toInt := congrArg Int32.toInt (by rw [hs1, up2_i (by decide)])
  have m6 := wx_X4_34 Is2
  have e7 : (s2 101 34).toInt = (0 : Int) := (show (s2 101 34).toInt = (0 : Int32).toInt from congrArg Int32.toInt (by rw [hs2, up2_s]))
  exact sf_ret ⟨Is2, Fs2, Of15_s2, Of1_s2, Of30_s2, Of18_s2, by omega, by omega, (show (s1 101 34).toInt = (τ 101 34).toInt ∧ (s2 101 34).toInt = 0 from by omega)⟩
set_option maxHeartbeats 4000000 in
set_option maxRecDepth 100000 in
theorem s_X4_drawBelow {F : Nat} (hF : 73786976294838206464 ≤ F) {x1 : Int32} {τ : Mem} (hI : wiM τ) (x1_1 : 0 ≤ x1.toInt) (x1_2 : x1.toInt ≤ 24) (xp0 : 1 ≤ x1.toInt) : sf (f_X4_drawBelow F x1 τ) (fun r s => wiM s ∧ (∀ k, k < 101 → s k = τ k) ∧ s 101 15 = τ 101 15 ∧ s 101 34 = τ 101 34 ∧ s 101 1 = τ 101 1 ∧ s 101 30 = τ 101 30 ∧ s 101 18 = τ 101 18 ∧ -2147483648 ≤ r.toInt ∧ r.toInt ≤ 2147483647 ∧ (0 ≤ r.toInt ∧ r.toInt < x1.toInt)) := by
  rw [f_X4_drawBelow_e]
  refine sf_lt (fun s1 h1 => ?_)
  refine sf_nz (fun q => by have q2 := ti_eq q; rw [show (0 : Int32).toInt = 0 from rfl] at q2; omega) ?_
  have a1 := wt_and31 (s1 101 35)
  have a2 : ((s1 101 35 &&& (2147483647 : Int32)) / (65536 : Int32)).toInt = (s1 101 35 &&& (2147483647 : Int32)).toInt / 65536 := ti_div a1 (by decide)
  have a3 : 0 ≤ ((s1 101 35 &&& (2147483647 : Int32)) / (65536 : Int32)).toInt := by rw [a2]; exact Int.ediv_nonneg a1 (by decide)
  generalize (s1 101 35 &&& (2147483647 : Int32)) / (65536 : Int32) = A at a3
  have a4 : (A - A / x1 * x1).toInt = A.toInt % x1.toInt := by rw [ti_rem, Int.tmod_eq_emod_of_nonneg a3]
  have a5 := Int.emod_nonneg A.toInt (show x1.toInt ≠ 0 by omega)
  have a6 := Int.emod_lt_of_pos A.toInt (show 0 < x1.toInt by omega)
  refine sf_ret ⟨by rw [h1]; exact wm_fld hI (by decide) (by decide) (by decide) (by decide) (by decide) (by decide) (by decide), fun k hk => by rw [h1, up2_k (by omega)], by rw [h1, up2_i (by decide)], by rw [h1, up2_i (by decide)], by rw [h1, up2_i (by decide)], by rw [h1, up2_i (by decide)], by rw [h1, up2_i (by decide)], by omega, by omega, by omega, by omega⟩
set_option maxHeartbeats 4000000 in
set_option maxRecDepth 100000 in
theorem sl_X4_lots_85 {F : Nat} (hF : 73786976294838206464 ≤ F) {x1 : Int32} {x3 : Int32} {x5 : Int32} {x6 : Int32} {x7 : Int32} {k46 : Int32 → Int32 → Mem → Option (Int32 × Mem)} {k62 : Int32 → Mem → Option (Int32 × Mem)} {τ : Mem} (x1_1 : 1 ≤ x1.toInt) (x1_2 : x1.toInt ≤ 20) (x3_1 : 0 ≤ x3.toInt) (x3_2 : x3.toInt ≤ 1) (x6_1 : 0 ≤ x6.toInt) (x6_2 : x6.toInt ≤ 20) (x7_1 : 0 ≤ x7.toInt) (x7_2 : x7.toInt ≤ 4) {N46 : Nat} (hM46 : 23 < x6.toInt + (N46 + 1)) (hk46 : ∀ (x5 : Int32) (x6 : Int32) (σ : Mem), wiM σ → (∀ k, k < 101 → σ k = τ k) → σ 101 15 = τ 101 15 → σ 101 34 = τ 101 34 → σ 101 30 = τ 101 30 → σ 101 18 = τ 101 18 → 23 < x6.toInt + N46 → 0 ≤ x6.toInt → x6.toInt ≤ 23 → sf (k46 x5 x6 σ) (fun r s => wiM s ∧ (∀ k, k < 101 → s k = τ k) ∧ s 101 15 = τ 101 15 ∧ s 101 34 = τ 101 34 ∧ s 101 30 = τ 101 30 ∧ s 101 18 = τ 101 18 ∧ -2147483648 ≤ r.toInt ∧ r.toInt ≤ 2147483647)) {N62 : Nat} (hM62 : 5 < x7.toInt + (N62 + 1)) (hk62 : ∀ (x7 : Int32) (σ : Mem), wiM σ → (∀ k, k < 101 → σ k = τ k) → σ 101 15 = τ 101 15 → σ 101 34 = τ 101 34 → σ 101 30 = τ 101 30 → σ 101 18 = τ 101 18 → 5 < x7.toInt + N62 → 0 ≤ x7.toInt → x7.toInt ≤ 5 → (1 ≤ (σ 101 1).toInt) → sf (k62 x7 σ) (fun r s => wiM s ∧ (∀ k, k < 101 → s k = τ k) ∧ s 101 15 = τ 101 15 ∧ s 101 34 = τ 101 34 ∧ s 101 30 = τ 101 30 ∧ s 101 18 = τ 101 18 ∧ -2147483648 ≤ r.toInt ∧ r.toInt ≤ 2147483647)) : ∀ (N : Nat) (x8 : Int32) (σ : Mem), wiM σ → (∀ k, k < 101 → σ k = τ k) → σ 101 15 = τ 101 15 → σ 101 34 = τ 101 34 → σ 101 30 = τ 101 30 → σ 101 18 = τ 101 18 → 4 < x8.toInt + N → 0 ≤ x8.toInt → x8.toInt ≤ 4 → (1 ≤ (σ 101 1).toInt) → sf (lp_X4_lots_85 F k46 k62 x1 x3 x5 x6 x7 N x8 σ) (fun r s => wiM s ∧ (∀ k, k < 101 → s k = τ k) ∧ s 101 15 = τ 101 15 ∧ s 101 34 = τ 101 34 ∧ s 101 30 = τ 101 30 ∧ s 101 18 = τ 101 18 ∧ -2147483648 ≤ r.toInt ∧ r.toInt ≤ 2147483647) := by
  intro N
  induction N with
  | zero => intro x8 σ hI Fσ Of15_σ Of34_σ Of30_σ Of18_σ hN x8_1 x8_2 xl0; exfalso; omega
  | succ N ih =>
    intro x8 σ hI Fσ Of15_σ Of34_σ Of30_σ Of18_σ hN x8_1 x8_2 xl0
    rw [lp_X4_lots_85_s]
    refine sf_ite (fun c1 => ?_) (fun c1 => ?_)
    · have C1 : (4 : Int) ≤ x8.toInt := ti_le c1
      have t2 : (x7 + (1 : Int32)).toInt = x7.toInt + (1 : Int) := ti_add (show -2147483648 ≤ x7.toInt + (1 : Int) by omega) (show x7.toInt + (1 : Int) ≤ 2147483647 by omega)
      have m3 := wx_X4_1 hI
      have b4 := ti_lo (τ 101 1)
      have b5 := ti_hi (τ 101 1)
      exact hk62 _ _ hI Fσ Of15_σ Of34_σ Of30_σ Of18_σ (by omega) (by omega) (by omega) (show 1 ≤ (σ 101 1).toInt from by omega)
    have C1 : x8.toInt < (4 : Int) := ti_nle c1
    refine sf_bnd (s_X4_drawBelow hF hI (by decide) (by decide) (by first | omega | decide)) (fun r6 u7 p8 => ?_)
    obtain ⟨Iu7, Fu7_, Of15_u7_, Of34_u7_, Of1_u7_, Of30_u7_, Of18_u7_, p8_1, p8_2, p8_x0⟩ := p8
    have Fu7 : ∀ k, k < 101 → u7 k = τ k := fun k hk => (Fu7_ k hk).trans (Fσ k hk)
    have Of15_u7 : u7 101 15 = τ 101 15 := Of15_u7_.trans Of15_σ
    have Of34_u7 : u7 101 34 = τ 101 34 := Of34_u7_.trans Of34_σ
    have Of30_u7 : u7 101 30 = τ 101 30 := Of30_u7_.trans Of30_σ
    have Of18_u7 : u7 101 18 = τ 101 18 := Of18_u7_.trans Of18_σ
    replace p8_x0 : 0 ≤ r6.toInt ∧ r6.toInt < (24 : Int) := p8_x0
    have b9 := ti_lo r6
    have b10 := ti_hi r6
    refine sf_ite (fun c11 => ?_) (fun c11 => ?_)
    · have C11 : r6.toInt ≤ (20 : Int) := ti_le c11
      rw [j_X4_lots_120_e]
      have m12 := wx_X4_1 Iu7
      have m13 := wx_X4_1 hI
      have e14 : (u7 101 1).toInt = (σ 101 1).toInt := congrArg Int32.toInt Of1_u7_
      refine sf_bnd (s_X4_drawBelow hF Iu7 (by omega) (by omega) (by first | omega | decide)) (fun r15 u16 p17 => ?_)
      obtain ⟨Iu16, Fu16_, Of15_u16_, Of34_u16_, Of1_u16_, Of30_u16_, Of18_u16_, p17_1, p17_2, p17_x0⟩ := p17
      have Fu16 : ∀ k, k < 101 → u16 k = τ k := fun k hk => (Fu16_ k hk).trans (Fu7 k hk)
      have Of15_u16 : u16 101 15 = τ 101 15 := Of15_u16_.trans Of15_u7
      have Of34_u16 : u16 101 34 = τ 101 34 := Of34_u16_.trans Of34_u7
      have Of30_u16 : u16 101 30 = τ 101 30 := Of30_u16_.trans Of30_u7
      have Of18_u16 : u16 101 18 = τ 101 18 := Of18_u16_.trans Of18_u7
      replace p17_x0 : 0 ≤ r15.toInt ∧ r15.toInt < (u7 101 1).toInt := p17_x0
      have t18 : (r6 + (3 : Int32)).toInt = r6.toInt + (3 : Int) := ti_add (show -2147483648 ≤ r6.toInt + (3 : Int) by omega) (show r6.toInt + (3 : Int) ≤ 2147483647 by omega)
      have b19 := ti_lo r15
      have b20 := ti_hi r15
      refine sf_bnd (s_X4_stand hF Iu16 (by omega) (by omega) (by omega) (by omega) (by omega) (by omega) (by first | omega | decide)) (fun r21 u22 p23 => ?_)
      obtain ⟨Iu22, Fu22_, Of15_u22_, Of34_u22_, Of1_u22_, Of30_u22_, Of18_u22_, -⟩ := p23
      have Fu22 : ∀ k, k < 101 → u22 k = τ k := fun k hk => (Fu22_ k hk).trans (Fu16 k hk)
      have Of15_u22 : u22 101 15 = τ 101 15 := Of15_u22_.trans Of15_u16
      have Of34_u22 : u22 101 34 = τ 101 34 := Of34_u22_.trans Of34_u16
      have Of30_u22 : u22 101 30 = τ 101 30 := Of30_u22_.trans Of30_u16
      have Of18_u22 : u22 101 18 = τ 101 18 := Of18_u22_.trans Of18_u16
      have t24 : (x8 + (1 : Int32)).toInt = x8.toInt + (1 : Int) := ti_add (show -2147483648 ≤ x8.toInt + (1 : Int) by omega) (show x8.toInt + (1 : Int) ≤ 2147483647 by omega)
      have m25 := wx_X4_1 Iu22
      have m26 := wx_X4_1 Iu16
      have e27 : (u16 101 1).toInt = (u7 101 1).toInt := congrArg Int32.toInt Of1_u16_
      have e28 : (u22 101 1).toInt = (u16 101 1).toInt := congrArg Int32.toInt Of1_u22_
      have b29 := ti_lo (τ 101 1)
      have b30 := ti_hi (τ 101 1)
      exact ih _ _ Iu22 Fu22 Of15_u22 Of34_u22 Of30_u22 Of18_u22 (by omega) (by omega) (by omega) (show 1 ≤ (u22 101 1).toInt from by omega)
    have C11 : (20 : Int) < r6.toInt := ti_nle c11
    rw [j_X4_lots_120_e]
    have m31 := wx_X4_1 Iu7
    have m32 := wx_X4_1 hI
    have e33 : (u7 101 1).toInt = (σ 101 1).toInt := congrArg Int32.toInt Of1_u7_
    refine sf_bnd (s_X4_drawBelow hF Iu7 (by omega) (by omega) (by first | omega | decide)) (fun r34 u35 p36 => ?_)
    obtain ⟨Iu35, Fu35_, Of15_u35_, Of34_u35_, Of1_u35_, Of30_u35_, Of18_u35_, p36_1, p36_2, p36_x0⟩ := p36
    have Fu35 : ∀ k, k < 101 → u35 k = τ k := fun k hk => (Fu35_ k hk).trans (Fu7 k hk)
    have Of15_u35 : u35 101 15 = τ 101 15 := Of15_u35_.trans Of15_u7
    have Of34_u35 : u35 101 34 = τ 101 34 := Of34_u35_.trans Of34_u7
    have Of30_u35 : u35 101 30 = τ 101 30 := Of30_u35_.trans Of30_u7
    have Of18_u35 : u35 101 18 = τ 101 18 := Of18_u35_.trans Of18_u7
    replace p36_x0 : 0 ≤ r34.toInt ∧ r34.toInt < (u7 101 1).toInt := p36_x0
    have b37 := ti_lo r34
    have b38 := ti_hi r34
    refine sf_bnd (s_X4_stand hF Iu35 (by omega) (by omega) (by omega) (by omega) (by decide) (by decide) (by first | omega | decide)) (fun r39 u40 p41 => ?_)
    obtain ⟨Iu40, Fu40_, Of15_u40_, Of34_u40_, Of1_u40_, Of30_u40_, Of18_u40_, -⟩ := p41
    have Fu40 : ∀ k, k < 101 → u40 k = τ k := fun k hk => (Fu40_ k hk).trans (Fu35 k hk)
    have Of15_u40 : u40 101 15 = τ 101 15 := Of15_u40_.trans Of15_u35
    have Of34_u40 : u40 101 34 = τ 101 34 := Of34_u40_.trans Of34_u35
    have Of30_u40 : u40 101 30 = τ 101 30 := Of30_u40_.trans Of30_u35
    have Of18_u40 : u40 101 18 = τ 101 18 := Of18_u40_.trans Of18_u35
    have t42 : (x8 + (1 : Int32)).toInt = x8.toInt + (1 : Int) := ti_add (show -2147483648 ≤ x8.toInt + (1 : Int) by omega) (show x8.toInt + (1 : Int) ≤ 2147483647 by omega)
    have m43 := wx_X4_1 Iu40
    have m44 := wx_X4_1 Iu35
    have e45 : (u35 101 1).toInt = (u7 101 1).toInt := congrArg Int32.toInt Of1_u35_
    have e46 : (u40 101 1).toInt = (u35 101 1).toInt := congrArg Int32.toInt Of1_u40_
    have b47 := ti_lo (τ 101 1)
    have b48 := ti_hi (τ 101 1)
    exact ih _ _ Iu40 Fu40 Of15_u40 Of34_u40 Of30_u40 Of18_u40 (by omega) (by omega) (by omega) (show 1 ≤ (u40 101 1).toInt from by omega)
set_option maxHeartbeats 4000000 in
set_option maxRecDepth 100000 in
theorem sl_X4_lots_62 {F : Nat} (hF : 73786976294838206464 ≤ F) {x1 : Int32} {x3 : Int32} {x5 : Int32} {x6 : Int32} {k46 : Int32 → Int32 → Mem → Option (Int32 × Mem)} {τ : Mem} (x1_1 : 1 ≤ x1.toInt) (x1_2 : x1.toInt ≤ 20) (x3_1 : 0 ≤ x3.toInt) (x3_2 : x3.toInt ≤ 1) (x6_1 : 0 ≤ x6.toInt) (x6_2 : x6.toInt ≤ 20) {N46 : Nat} (hM46 : 23 < x6.toInt + (N46 + 1)) (hk46 : ∀ (x5 : Int32) (x6 : Int32) (σ : Mem), wiM σ → (∀ k, k < 101 → σ k = τ k) → σ 101 15 = τ 101 15 → σ 101 34 = τ 101 34 → σ 101 30 = τ 101 30 → σ 101 18 = τ 101 18 → 23 < x6.toInt + N46 → 0 ≤ x6.toInt → x6.toInt ≤ 23 → sf (k46 x5 x6 σ) (fun r s => wiM s ∧ (∀ k, k < 101 → s k = τ k) ∧ s 101 15 = τ 101 15 ∧ s 101 34 = τ 101 34 ∧ s 101 30 = τ 101 30 ∧ s 101 18 = τ 101 18 ∧ -2147483648 ≤ r.toInt ∧ r.toInt ≤ 2147483647)) : ∀ (N : Nat) (x7 : Int32) (σ : Mem), wiM σ → (∀ k, k < 101 → σ k = τ k) → σ 101 15 = τ 101 15 → σ 101 34 = τ 101 34 → σ 101 30 = τ 101 30 → σ 101 18 = τ 101 18 → 5 < x7.toInt + N → 0 ≤ x7.toInt → x7.toInt ≤ 5 → (1 ≤ (σ 101 1).toInt) → sf (lp_X4_lots_62 F k46 x1 x3 x5 x6 N x7 σ) (fun r s => wiM s ∧ (∀ k, k < 101 → s k = τ k) ∧ s 101 15 = τ 101 15 ∧ s 101 34 = τ 101 34 ∧ s 101 30 = τ 101 30 ∧ s 101 18 = τ 101 18 ∧ -2147483648 ≤ r.toInt ∧ r.toInt ≤ 2147483647) := by
  intro N
  induction N with
  | zero => intro x7 σ hI Fσ Of15_σ Of34_σ Of30_σ Of18_σ hN x7_1 x7_2 xl0; exfalso; omega
  | succ N ih =>
    intro x7 σ hI Fσ Of15_σ Of34_σ Of30_σ Of18_σ hN x7_1 x7_2 xl0
    rw [lp_X4_lots_62_s]
    have m1 := wx_X4_3 hI
    refine sf_ite (fun c2 => ?_) (fun c2 => ?_)
    · have C2 : (σ 101 3).toInt ≤ x7.toInt := ti_le c2
      refine sf_bnd (s_X4_layBrings hF hI) (fun r3 u4 p5 => ?_)
      obtain ⟨Iu4, Fu4_, Of15_u4_, Of34_u4_, Of1_u4_, Of30_u4_, Of18_u4_, -⟩ := p5
      have Fu4 : ∀ k, k < 101 → u4 k = τ k := fun k hk => (Fu4_ k hk).trans (Fσ k hk)
      have Of15_u4 : u4 101 15 = τ 101 15 := Of15_u4_.trans Of15_σ
      have Of34_u4 : u4 101 34 = τ 101 34 := Of34_u4_.trans Of34_σ
      have Of30_u4 : u4 101 30 = τ 101 30 := Of30_u4_.trans Of30_σ
      have Of18_u4 : u4 101 18 = τ 101 18 := Of18_u4_.trans Of18_σ
      refine sf_bnd (s_X4_richestIn hF Iu4 (by decide) (by decide)) (fun r6 u7 p8 => ?_)
      obtain ⟨Iu7, Fu7_, Of15_u7_, Of34_u7_, Of1_u7_, Of30_u7_, Of18_u7_, p8_1, p8_2⟩ := p8
      have Fu7 : ∀ k, k < 101 → u7 k = τ k := fun k hk => (Fu7_ k hk).trans (Fu4 k hk)
      have Of15_u7 : u7 101 15 = τ 101 15 := Of15_u7_.trans Of15_u4
      have Of34_u7 : u7 101 34 = τ 101 34 := Of34_u7_.trans Of34_u4
      have Of30_u7 : u7 101 30 = τ 101 30 := Of30_u7_.trans Of30_u4
      have Of18_u7 : u7 101 18 = τ 101 18 := Of18_u7_.trans Of18_u4
      refine sf_ite (fun c9 => ?_) (fun c9 => ?_)
      · have C9 : x3.toInt = (0 : Int) := ti_eq c9
        refine sf_bnd (s_X4_viewsIn hF Iu7 (by decide) (by decide) (by decide) (by decide)) (fun r10 u11 p12 => ?_)
        obtain ⟨Iu11, Fu11_, Of15_u11_, Of34_u11_, Of1_u11_, Of30_u11_, Of18_u11_, p12_1, p12_2⟩ := p12
        have Fu11 : ∀ k, k < 101 → u11 k = τ k := fun k hk => (Fu11_ k hk).trans (Fu7 k hk)
        have Of15_u11 : u11 101 15 = τ 101 15 := Of15_u11_.trans Of15_u7
        have Of34_u11 : u11 101 34 = τ 101 34 := Of34_u11_.trans Of34_u7
        have Of30_u11 : u11 101 30 = τ 101 30 := Of30_u11_.trans Of30_u7
        have Of18_u11 : u11 101 18 = τ 101 18 := Of18_u11_.trans Of18_u7
        have b13 := ti_lo r10
        have b14 := ti_hi r10
        refine sf_bnd (s_X4_onesOf hF Iu11) (fun r15 u16 p17 => ?_)
        obtain ⟨e9, p17_1, p17_2⟩ := p17
        have e9 := e9.symm
        subst e9
        rw [j_X4_lots_195_e]
        have b18 := ti_lo x5
        have b19 := ti_hi x5
        have b20 := ti_lo r15
        have b21 := ti_hi r15
        have b22 := ti_lo ((8 : Int32) - r15)
        have b23 := ti_hi ((8 : Int32) - r15)
        have b24 := ti_lo (x5 + ((8 : Int32) - r15))
        have b25 := ti_hi (x5 + ((8 : Int32) - r15))
        have t26 : (x6 + (1 : Int32)).toInt = x6.toInt + (1 : Int) := ti_add (show -2147483648 ≤ x6.toInt + (1 : Int) by omega) (show x6.toInt + (1 : Int) ≤ 2147483647 by omega)
        exact hk46 _ _ _ Iu11 Fu11 Of15_u11 Of34_u11 Of30_u11 Of18_u11 (by omega) (by omega) (by omega)
      have C9 : ¬ x3.toInt = (0 : Int) := ti_ne c9
      refine sf_ite (fun c27 => ?_) (fun c27 => ?_)
      · have C27 : (0 : Int) ≤ r6.toInt := ti_le c27
        refine sf_bnd (s_X4_worthIn hF Iu7 (by omega) (by omega) (by decide) (by decide)) (fun r28 u29 p30 => ?_)
        obtain ⟨Iu29, Fu29_, Of15_u29_, Of34_u29_, Of1_u29_, Of30_u29_, Of18_u29_, p30_1, p30_2⟩ := p30
        have Fu29 : ∀ k, k < 101 → u29 k = τ k := fun k hk => (Fu29_ k hk).trans (Fu7 k hk)
        have Of15_u29 : u29 101 15 = τ 101 15 := Of15_u29_.trans Of15_u7
        have Of34_u29 : u29 101 34 = τ 101 34 := Of34_u29_.trans Of34_u7
        have Of30_u29 : u29 101 30 = τ 101 30 := Of30_u29_.trans Of30_u7
        have Of18_u29 : u29 101 18 = τ 101 18 := Of18_u29_.trans Of18_u7
        rw [j_X4_lots_195_e]
        have b31 := ti_lo x5
        have b32 := ti_hi x5
        have b33 := ti_lo r28
        have b34 := ti_hi r28
        have b35 := ti_lo (x5 + r28)
        have b36 := ti_hi (x5 + r28)
        have t37 : (x6 + (1 : Int32)).toInt = x6.toInt + (1 : Int) := ti_add (show -2147483648 ≤ x6.toInt + (1 : Int) by omega) (show x6.toInt + (1 : Int) ≤ 2147483647 by omega)
        exact hk46 _ _ _ Iu29 Fu29 Of15_u29 Of34_u29 Of30_u29 Of18_u29 (by omega) (by omega) (by omega)
      have C27 : r6.toInt < (0 : Int) := ti_nle c27
      rw [j_X4_lots_195_e]
      have b38 := ti_lo x5
      have b39 := ti_hi x5
      have t40 : (x5 + (0 : Int32)).toInt = x5.toInt + (0 : Int) := ti_add (show -2147483648 ≤ x5.toInt + (0 : Int) by omega) (show x5.toInt + (0 : Int) ≤ 2147483647 by omega)
      have t41 : (x6 + (1 : Int32)).toInt = x6.toInt + (1 : Int) := ti_add (show -2147483648 ≤ x6.toInt + (1 : Int) by omega) (show x6.toInt + (1 : Int) ≤ 2147483647 by omega)
      exact hk46 _ _ _ Iu7 Fu7 Of15_u7 Of34_u7 Of30_u7 Of18_u7 (by omega) (by omega) (by omega)
    have C2 : x7.toInt < (σ 101 3).toInt := ti_nle c2
    refine sf_bnd (s_X4_stand hF hI (by omega) (by omega) (by decide) (by decide) (by decide) (by decide) (by first | omega | decide)) (fun r42 u43 p44 => ?_)
    obtain ⟨Iu43, Fu43_, Of15_u43_, Of34_u43_, Of1_u43_, Of30_u43_, Of18_u43_, -⟩ := p44
    have Fu43 : ∀ k, k < 101 → u43 k = τ k := fun k hk => (Fu43_ k hk).trans (Fσ k hk)
    have Of15_u43 : u43 101 15 = τ 101 15 := Of15_u43_.trans Of15_σ
    have Of34_u43 : u43 101 34 = τ 101 34 := Of34_u43_.trans Of34_σ
    have Of30_u43 : u43 101 30 = τ 101 30 := Of30_u43_.trans Of30_σ
    have Of18_u43 : u43 101 18 = τ 101 18 := Of18_u43_.trans Of18_σ
    have b45 := ti_lo x5
    have b46 := ti_hi x5
    have m47 := wx_X4_1 Iu43
    have m48 := wx_X4_1 hI
    have e49 : (u43 101 1).toInt = (σ 101 1).toInt := congrArg Int32.toInt Of1_u43_
    have b50 := ti_lo (τ 101 1)
    have b51 := ti_hi (τ 101 1)
    have l_0 : (0 : Int32).toInt = 0 := rfl
    exact sl_X4_lots_85 hF (by omega) (by omega) (by omega) (by omega) (by omega) (by omega) (by omega) (by omega) (by omega) hk46 (by omega) ih _ _ _ Iu43 Fu43 Of15_u43 Of34_u43 Of30_u43 Of18_u43 (by omega) (by decide) (by decide) (show 1 ≤ (u43 101 1).toInt from by omega)
set_option maxHeartbeats 4000000 in
set_option maxRecDepth 100000 in
theorem sl_X4_lots_46 {F : Nat} (hF : 73786976294838206464 ≤ F) {x1 : Int32} {x3 : Int32} {τ : Mem} (x1_1 : 1 ≤ x1.toInt) (x1_2 : x1.toInt ≤ 20) (x3_1 : 0 ≤ x3.toInt) (x3_2 : x3.toInt ≤ 1) : ∀ (N : Nat) (x5 : Int32) (x6 : Int32) (σ : Mem), wiM σ → (∀ k, k < 101 → σ k = τ k) → σ 101 15 = τ 101 15 → σ 101 34 = τ 101 34 → σ 101 30 = τ 101 30 → σ 101 18 = τ 101 18 → 23 < x6.toInt + N → 0 ≤ x6.toInt → x6.toInt ≤ 23 → sf (lp_X4_lots_46 F x1 x3 N x5 x6 σ) (fun r s => wiM s ∧ (∀ k, k < 101 → s k = τ k) ∧ s 101 15 = τ 101 15 ∧ s 101 34 = τ 101 34 ∧ s 101 30 = τ 101 30 ∧ s 101 18 = τ 101 18 ∧ -2147483648 ≤ r.toInt ∧ r.toInt ≤ 2147483647) := by
  intro N
  induction N with
  | zero => intro x5 x6 σ hI Fσ Of15_σ Of34_σ Of30_σ Of18_σ hN x6_1 x6_2; exfalso; omega
  | succ N ih =>
    intro x5 x6 σ hI Fσ Of15_σ Of34_σ Of30_σ Of18_σ hN x6_1 x6_2
    rw [lp_X4_lots_46_s]
    refine sf_ite (fun c1 => ?_) (fun c1 => ?_)
    · have C1 : x1.toInt ≤ x6.toInt := ti_le c1
      rw [j_X4_lots_204_e]
      refine sf_bnd (s_X4_again hF hI) (fun r2 u3 p4 => ?_)
      obtain ⟨Iu3, Fu3_, Of15_u3_, Of34_u3_, Of30_u3_, Of18_u3_, -⟩ := p4
      have Fu3 : ∀ k, k < 101 → u3 k = τ k := fun k hk => (Fu3_ k hk).trans (Fσ k hk)
      have Of15_u3 : u3 101 15 = τ 101 15 := Of15_u3_.trans Of15_σ
      have Of34_u3 : u3 101 34 = τ 101 34 := Of34_u3_.trans Of34_σ
      have Of30_u3 : u3 101 30 = τ 101 30 := Of30_u3_.trans Of30_σ
      have Of18_u3 : u3 101 18 = τ 101 18 := Of18_u3_.trans Of18_σ
      have b5 := ti_lo x5
      have b6 := ti_hi x5
      exact sf_ret ⟨Iu3, Fu3, Of15_u3, Of34_u3, Of30_u3, Of18_u3, ti_lo _, ti_hi _⟩
    have C1 : x6.toInt < x1.toInt := ti_nle c1
    have m7 := wx_X4_1 hI
    refine sf_ite (fun c8 => ?_) (fun c8 => ?_)
    · have C8 : (σ 101 1).toInt ≤ (0 : Int) := ti_le c8
      rw [j_X4_lots_204_e]
      refine sf_bnd (s_X4_again hF hI) (fun r9 u10 p11 => ?_)
      obtain ⟨Iu10, Fu10_, Of15_u10_, Of34_u10_, Of30_u10_, Of18_u10_, -⟩ := p11
      have Fu10 : ∀ k, k < 101 → u10 k = τ k := fun k hk => (Fu10_ k hk).trans (Fσ k hk)
      have Of15_u10 : u10 101 15 = τ 101 15 := Of15_u10_.trans Of15_σ
      have Of34_u10 : u10 101 34 = τ 101 34 := Of34_u10_.trans Of34_σ
      have Of30_u10 : u10 101 30 = τ 101 30 := Of30_u10_.trans Of30_σ
      have Of18_u10 : u10 101 18 = τ 101 18 := Of18_u10_.trans Of18_σ
      have b12 := ti_lo x5
      have b13 := ti_hi x5
      exact sf_ret ⟨Iu10, Fu10, Of15_u10, Of34_u10, Of30_u10, Of18_u10, ti_lo _, ti_hi _⟩
    have C8 : (0 : Int) < (σ 101 1).toInt := ti_nle c8
    have b14 := ti_lo x5
    have b15 := ti_hi x5
    have b16 := ti_lo (τ 101 1)
    have b17 := ti_hi (τ 101 1)
    have l_0 : (0 : Int32).toInt = 0 := rfl
    exact sl_X4_lots_62 hF (by omega) (by omega) (by omega) (by omega) (by omega) (by omega) (by omega) ih _ _ _ hI Fσ Of15_σ Of34_σ Of30_σ Of18_σ (by omega) (by decide) (by decide) (show 1 ≤ (σ 101 1).toInt from by omega)
set_option maxHeartbeats 4000000 in
set_option maxRecDepth 100000 in
theorem s_X4_lots {F : Nat} (hF : 73786976294838206464 ≤ F) {x1 : Int32} {x2 : Int32} {x3 : Int32} {τ : Mem} (hI : wiM τ) : sf (f_X4_lots F x1 x2 x3 τ) (fun r s => wiM s ∧ (∀ k, k < 101 → s k = τ k) ∧ s 101 15 = τ 101 15 ∧ s 101 34 = τ 101 34 ∧ s 101 30 = τ 101 30 ∧ s 101 18 = τ 101 18 ∧ -2147483648 ≤ r.toInt ∧ r.toInt ≤ 2147483647) := by
  have Fτ : ∀ k, k < 101 → τ k = τ k := fun _ _ => rfl
  have Of15_τ : τ 101 15 = τ 101 15 := rfl
  have Of34_τ : τ 101 34 = τ 101 34 := rfl
  have Of1_τ : τ 101 1 = τ 101 1 := rfl
  have Of30_τ : τ 101 30 = τ 101 30 := rfl
  have Of18_τ : τ 101 18 = τ 101 18 := rfl
  rw [f_X4_lots_e]
  refine sf_lt (fun s1 hs1 => ?_)
  have Is1 : wiM s1 := by rw [hs1]; exact wm_fld hI (by decide) (by decide) (by decide) (by decide) (by decide) (by decide) (by decide)
  have Fs1 : ∀ k, k < 101 → s1 k = τ k := fun k hk => (show s1 k = τ k by rw [hs1, up2_k (by omega)]).trans (Fτ k hk)
  have Of15_s1 : s1 101 15 = τ 101 15 := (show s1 101 15 = τ 101 15 by rw [hs1, up2_i (by decide)]).trans Of15_τ
  have Of34_s1 : s1 101 34 = τ 101 34 := (show s1 101 34 = τ 101 34 by rw [hs1, up2_i (by decide)]).trans Of34_τ
  have Of1_s1 : s1 101 1 = τ 101 1 := (show s1 101 1 = τ 101 1 by rw [hs1, up2_i (by decide)]).trans Of1_τ
  have Of30_s1 : s1 101 30 = τ 101 30 := (show s1 101 30 = τ 101 30 by rw [hs1, up2_i (by decide)]).trans Of30_τ
  have Of18_s1 : s1 101 18 = τ 101 18 := (show s1 101 18 = τ 101 18 by rw [hs1, up2_i (by decide)]).trans Of18_τ
  refine sf_in ?_
  rw [f_X4_wrongNumber_e]
  have b2 := ti_lo x1
  have b3 := ti_hi x1
  refine sf_ite (fun c4 => ?_) (fun c4 => ?_)
  · have C4 : (1 : Int) ≤ x1.toInt := ti_le c4
    refine sf_ite (fun c5 => ?_) (fun c5 => ?_)
    · have C5 : x1.toInt ≤ (20 : Int) := ti_le c5
      refine sf_ret ?_
      refine sf_in ?_
      rw [f_X4_wrongBit_e]
      refine sf_ite (fun c6 => ?_) (fun c6 => ?_)
      · have C6 : (0 : Int) = (0 : Int) := ti_eq c6
        refine sf_in ?_
        rw [f_X4_in_e]
        have b7 := ti_lo x3
        have b8 := ti_hi x3
        have b9 := ti_lo (lg_cmp (Int32.toInt64 x3) (0 : Int64))
        have b10 := ti_hi (lg_cmp (Int32.toInt64 x3) (0 : Int64))
        refine sf_ite (fun c11 => ?_) (fun c11 => ?_)
        · have C11 : (lg_cmp (Int32.toInt64 x3) (0 : Int64)).toInt < (0 : Int) := ti_lt c11
          have L11 : x3.toInt < (0 : Int) := by have q := lg_ltl c11; (repeat (rw [Int32.toInt_toInt64] at q)); exact q
          rw [j_X4_in_17_e]
          refine sf_ret ?_
          refine sf_ite (fun c12 => ?_) (fun c12 => ?_)
          · have C12 : (0 : Int) = (0 : Int) := ti_eq c12
            refine sf_ret ?_
            refine sf_ite (fun c13 => ?_) (fun c13 => ?_)
            · have C13 : (0 : Int) ≤ (-2 : Int) := ti_le c13
              exfalso; omega
            have C13 : (-2 : Int) < (0 : Int) := ti_nle c13
            refine sf_bnd (s_X4_refuse hF Is1 (by decide) (by decide)) (fun r14 u15 p16 => ?_)
            obtain ⟨Iu15, Fu15_, Of15_u15_, Of34_u15_, Of1_u15_, Of30_u15_, Of18_u15_, p16_1, p16_2, p16_x0⟩ := p16
            have Fu15 : ∀ k, k < 101 → u15 k = τ k := fun k hk => (Fu15_ k hk).trans (Fs1 k hk)
            have Of15_u15 : u15 101 15 = τ 101 15 := Of15_u15_.trans Of15_s1
            have Of34_u15 : u15 101 34 = τ 101 34 := Of34_u15_.trans Of34_s1
            have Of1_u15 : u15 101 1 = τ 101 1 := Of1_u15_.trans Of1_s1
            have Of30_u15 : u15 101 30 = τ 101 30 := Of30_u15_.trans Of30_s1
            have Of18_u15 : u15 101 18 = τ 101 18 := Of18_u15_.trans Of18_s1
            replace p16_x0 : r14.toInt = (-2 : Int) := p16_x0
            exact sf_ret ⟨Iu15, Fu15, Of15_u15, Of34_u15, Of30_u15, Of18_u15, ti_lo _, ti_hi _⟩
          have C12 : ¬ (0 : Int) = (0 : Int) := ti_ne c12
          exfalso; omega
        have C11 : (0 : Int) ≤ (lg_cmp (Int32.toInt64 x3) (0 : Int64)).toInt := ti_nlt c11
        have L11 : (0 : Int) ≤ x3.toInt := by have q := lg_ltln c11; (repeat (rw [Int32.toInt_toInt64] at q)); exact q
        have b17 := ti_lo (lg_cmp (Int32.toInt64 x3) (Int32.toInt64 (1 : Int32)))
        have b18 := ti_hi (lg_cmp (Int32.toInt64 x3) (Int32.toInt64 (1 : Int32)))
        refine sf_ite (fun c19 => ?_) (fun c19 => ?_)
        · have C19 : (0 : Int) < (lg_cmp (Int32.toInt64 x3) (Int32.toInt64 (1 : Int32))).toInt := ti_lt c19
          have L19 : (1 : Int) < x3.toInt := by have q := lg_ltr c19; (repeat (rw [Int32.toInt_toInt64] at q)); exact q
          rw [j_X4_in_17_e]
          refine sf_ret ?_
          refine sf_ite (fun c20 => ?_) (fun c20 => ?_)
          · have C20 : (0 : Int) = (0 : Int) := ti_eq c20
            refine sf_ret ?_
            refine sf_ite (fun c21 => ?_) (fun c21 => ?_)
            · have C21 : (0 : Int) ≤ (-2 : Int) := ti_le c21
              exfalso; omega
            have C21 : (-2 : Int) < (0 : Int) := ti_nle c21
            refine sf_bnd (s_X4_refuse hF Is1 (by decide) (by decide)) (fun r22 u23 p24 => ?_)
            obtain ⟨Iu23, Fu23_, Of15_u23_, Of34_u23_, Of1_u23_, Of30_u23_, Of18_u23_, p24_1, p24_2, p24_x0⟩ := p24
            have Fu23 : ∀ k, k < 101 → u23 k = τ k := fun k hk => (Fu23_ k hk).trans (Fs1 k hk)
            have Of15_u23 : u23 101 15 = τ 101 15 := Of15_u23_.trans Of15_s1
            have Of34_u23 : u23 101 34 = τ 101 34 := Of34_u23_.trans Of34_s1
            have Of1_u23 : u23 101 1 = τ 101 1 := Of1_u23_.trans Of1_s1
            have Of30_u23 : u23 101 30 = τ 101 30 := Of30_u23_.trans Of30_s1
            have Of18_u23 : u23 101 18 = τ 101 18 := Of18_u23_.trans Of18_s1
            replace p24_x0 : r22.toInt = (-2 : Int) := p24_x0
            exact sf_ret ⟨Iu23, Fu23, Of15_u23, Of34_u23, Of30_u23, Of18_u23, ti_lo _, ti_hi _⟩
          have C20 : ¬ (0 : Int) = (0 : Int) := ti_ne c20
          exfalso; omega
        have C19 : (lg_cmp (Int32.toInt64 x3) (Int32.toInt64 (1 : Int32))).toInt ≤ (0 : Int) := ti_nlt c19
        have L19 : x3.toInt ≤ (1 : Int) := by have q := lg_ltrn c19; (repeat (rw [Int32.toInt_toInt64] at q)); exact q
        refine sf_ret ?_
        refine sf_ite (fun c25 => ?_) (fun c25 => ?_)
        · have C25 : (1 : Int) = (0 : Int) := ti_eq c25
          exfalso; omega
        have C25 : ¬ (1 : Int) = (0 : Int) := ti_ne c25
        rw [j_X4_wrongBit_20_e]
        refine sf_ret ?_
        refine sf_ite (fun c26 => ?_) (fun c26 => ?_)
        · have C26 : (0 : Int) ≤ (0 : Int) := ti_le c26
          refine sf_lt (fun s27 hs27 => ?_)
          have Is27 : wiM s27 := by rw [hs27]; exact wm_fld Is1 (by decide) (by decide) (by decide) (by decide) (by decide) (by decide) (by decide)
          have Fs27 : ∀ k, k < 101 → s27 k = τ k := fun k hk => (show s27 k = s1 k by rw [hs27, up2_k (by omega)]).trans (Fs1 k hk)
          have Of15_s27 : s27 101 15 = τ 101 15 := (show s27 101 15 = s1 101 15 by rw [hs27, up2_i (by decide)]).trans Of15_s1
          have Of34_s27 : s27 101 34 = τ 101 34 := (show s27 101 34 = s1 101 34 by rw [hs27, up2_i (by decide)]).trans Of34_s1
          have Of1_s27 : s27 101 1 = τ 101 1 := (show s27 101 1 = s1 101 1 by rw [hs27, up2_i (by decide)]).trans Of1_s1
          have Of30_s27 : s27 101 30 = τ 101 30 := (show s27 101 30 = s1 101 30 by rw [hs27, up2_i (by decide)]).trans Of30_s1
          have Of18_s27 : s27 101 18 = τ 101 18 := (show s27 101 18 = s1 101 18 by rw [hs27, up2_i (by decide)]).trans Of18_s1
          have m28 := wx_X4_1 Is27
          have m29 := wx_X4_1 Is1
          have m30 := wx_X4_1 hI
          have e31 : (s1 101 1).toInt = (τ 101 1).toInt := congrArg Int32.toInt (by rw [hs1, up2_i (by decide)])
          have e32 : (s27 101 1).toInt = (s1 101 1).toInt := congrArg Int32.toInt (by rw [hs27, up2_i (by decide)])
          have m33 := wx_X4_3 Is27
          have m34 := wx_X4_3 Is1
          have m35 := wx_X4_3 hI
          have e36 : (s1 101 3).toInt = (τ 101 3).toInt := congrArg Int32.toInt (by rw [hs1, up2_i (by decide)])
          have e37 : (s27 101 3).toInt = (s1 101 3).toInt := congrArg Int32.toInt (by rw [hs27, up2_i (by decide)])
          refine sf_bnd (s_X4_think hF Is27) (fun r38 u39 p40 => ?_)
          obtain ⟨Iu39, Fu39_, Of15_u39_, Of34_u39_, Of30_u39_, Of18_u39_, -, p40_x0⟩ := p40
          have Fu39 : ∀ k, k < 101 → u39 k = τ k := fun k hk => (Fu39_ k hk).trans (Fs27 k hk)
          have Of15_u39 : u39 101 15 = τ 101 15 := Of15_u39_.trans Of15_s27
          have Of34_u39 : u39 101 34 = τ 101 34 := Of34_u39_.trans Of34_s27
          have Of30_u39 : u39 101 30 = τ 101 30 := Of30_u39_.trans Of30_s27
          have Of18_u39 : u39 101 18 = τ 101 18 := Of18_u39_.trans Of18_s27
          replace p40_x0 : (u39 101 1).toInt = (s27 101 1).toInt ∧ (u39 101 3).toInt = (s27 101 3).toInt := p40_x0
          have m41 := wx_X4_1 Iu39
          have m42 := wx_X4_3 Iu39
          have l_0 : (0 : Int32).toInt = 0 := rfl
          exact sl_X4_lots_46 hF (by omega) (by omega) (by omega) (by omega) _ _ _ _ Iu39 Fu39 Of15_u39 Of34_u39 Of30_u39 Of18_u39 (by omega) (by decide) (by decide)
        have C26 : (0 : Int) < (0 : Int) := ti_nle c26
        exfalso; omega
      have C6 : ¬ (0 : Int) = (0 : Int) := ti_ne c6
      exfalso; omega
    have C5 : (20 : Int) < x1.toInt := ti_nle c5
    refine sf_ret ?_
    refine sf_in ?_
    rw [f_X4_wrongBit_e]
    refine sf_ite (fun c43 => ?_) (fun c43 => ?_)
    · have C43 : (-6 : Int) = (0 : Int) := ti_eq c43
      exfalso; omega
    have C43 : ¬ (-6 : Int) = (0 : Int) := ti_ne c43
    rw [j_X4_wrongBit_20_e]
    refine sf_ret ?_
    refine sf_ite (fun c44 => ?_) (fun c44 => ?_)
    · have C44 : (0 : Int) ≤ (-6 : Int) := ti_le c44
      exfalso; omega
    have C44 : (-6 : Int) < (0 : Int) := ti_nle c44
    refine sf_bnd (s_X4_refuse hF Is1 (by decide) (by decide)) (fun r45 u46 p47 => ?_)
    obtain ⟨Iu46, Fu46_, Of15_u46_, Of34_u46_, Of1_u46_, Of30_u46_, Of18_u46_, p47_1, p47_2, p47_x0⟩ := p47
    have Fu46 : ∀ k, k < 101 → u46 k = τ k := fun k hk => (Fu46_ k hk).trans (Fs1 k hk)
    have Of15_u46 : u46 101 15 = τ 101 15 := Of15_u46_.trans Of15_s1
    have Of34_u46 : u46 101 34 = τ 101 34 := Of34_u46_.trans Of34_s1
    have Of1_u46 : u46 101 1 = τ 101 1 := Of1_u46_.trans Of1_s1
    have Of30_u46 : u46 101 30 = τ 101 30 := Of30_u46_.trans Of30_s1
    have Of18_u46 : u46 101 18 = τ 101 18 := Of18_u46_.trans Of18_s1
    replace p47_x0 : r45.toInt = (-6 : Int) := p47_x0
    exact sf_ret ⟨Iu46, Fu46, Of15_u46, Of34_u46, Of30_u46, Of18_u46, ti_lo _, ti_hi _⟩
  have C4 : x1.toInt < (1 : Int) := ti_nle c4
  refine sf_ret ?_
  refine sf_in ?_
  rw [f_X4_wrongBit_e]
  refine sf_ite (fun c48 => ?_) (fun c48 => ?_)
  · have C48 : (-4 : Int) = (0 : Int) := ti_eq c48
    exfalso; omega
  have C48 : ¬ (-4 : Int) = (0 : Int) := ti_ne c48
  rw [j_X4_wrongBit_20_e]
  refine sf_ret ?_
  refine sf_ite (fun c49 => ?_) (fun c49 => ?_)
  · have C49 : (0 : Int) ≤ (-4 : Int) := ti_le c49
    exfalso; omega
  have C49 : (-4 : Int) < (0 : Int) := ti_nle c49
  refine sf_bnd (s_X4_refuse hF Is1 (by decide) (by decide)) (fun r50 u51 p52 => ?_)
  obtain ⟨Iu51, Fu51_, Of15_u51_, Of34_u51_, Of1_u51_, Of30_u51_, Of18_u51_, p52_1, p52_2, p52_x0⟩ := p52
  have Fu51 : ∀ k, k < 101 → u51 k = τ k := fun k hk => (Fu51_ k hk).trans (Fs1 k hk)
  have Of15_u51 : u51 101 15 = τ 101 15 := Of15_u51_.trans Of15_s1
  have Of34_u51 : u51 101 34 = τ 101 34 := Of34_u51_.trans Of34_s1
  have Of1_u51 : u51 101 1 = τ 101 1 := Of1_u51_.trans Of1_s1
  have Of30_u51 : u51 101 30 = τ 101 30 := Of30_u51_.trans Of30_s1
  have Of18_u51 : u51 101 18 = τ 101 18 := Of18_u51_.trans Of18_s1
  replace p52_x0 : r50.toInt = (-4 : Int) := p52_x0
  exact sf_ret ⟨Iu51, Fu51, Of15_u51, Of34_u51, Of30_u51, Of18_u51, ti_lo _, ti_hi _⟩
set_option maxHeartbeats 4000000 in
set_option maxRecDepth 100000 in
theorem sl_X4_count_99 {F : Nat} (hF : 73786976294838206464 ≤ F) {τ : Mem} : ∀ (N : Nat) (x2 : Int32) (x3 : Int32) (σ : Mem), wiM σ → (∀ k, k < 101 → σ k = τ k) → σ 101 15 = τ 101 15 → σ 101 34 = τ 101 34 → σ 101 1 = τ 101 1 → σ 101 30 = τ 101 30 → σ 101 18 = τ 101 18 → 5 < x3.toInt + N → 0 ≤ x3.toInt → x3.toInt ≤ 5 → sf (lp_X4_count_99 F N x2 x3 σ) (fun r s => wiM s ∧ (∀ k, k < 101 → s k = τ k) ∧ s 101 15 = τ 101 15 ∧ s 101 34 = τ 101 34 ∧ s 101 1 = τ 101 1 ∧ s 101 30 = τ 101 30 ∧ s 101 18 = τ 101 18 ∧ -2147483648 ≤ r.toInt ∧ r.toInt ≤ 2147483647) := by
  intro N
  induction N with
  | zero => intro x2 x3 σ hI Fσ Of15_σ Of34_σ Of1_σ Of30_σ Of18_σ hN x3_1 x3_2; exfalso; omega
  | succ N ih =>
    intro x2 x3 σ hI Fσ Of15_σ Of34_σ Of1_σ Of30_σ Of18_σ hN x3_1 x3_2
    rw [lp_X4_count_99_s]
    have m1 := wx_X4_3 hI
    refine sf_ite (fun c2 => ?_) (fun c2 => ?_)
    · have C2 : (σ 101 3).toInt ≤ x3.toInt := ti_le c2
      have b3 := ti_lo x2
      have b4 := ti_hi x2
      exact sf_ret ⟨hI, Fσ, Of15_σ, Of34_σ, Of1_σ, Of30_σ, Of18_σ, ti_lo _, ti_hi _⟩
    have C2 : x3.toInt < (σ 101 3).toInt := ti_nle c2
    refine sf_bnd (s_X4_hoursOf hF hI (by omega) (by omega)) (fun r5 u6 p7 => ?_)
    obtain ⟨e9, p7_1, p7_2⟩ := p7
    have e9 := e9.symm
    subst e9
    have b8 := ti_lo x2
    have b9 := ti_hi x2
    have b10 := ti_lo r5
    have b11 := ti_hi r5
    have b12 := ti_lo (x2 + r5)
    have b13 := ti_hi (x2 + r5)
    have t14 : (x3 + (1 : Int32)).toInt = x3.toInt + (1 : Int) := ti_add (show -2147483648 ≤ x3.toInt + (1 : Int) by omega) (show x3.toInt + (1 : Int) ≤ 2147483647 by omega)
    exact ih _ _ _ hI Fσ Of15_σ Of34_σ Of1_σ Of30_σ Of18_σ (by omega) (by omega) (by omega)
set_option maxHeartbeats 4000000 in
set_option maxRecDepth 100000 in
theorem s_X4_count {F : Nat} (hF : 73786976294838206464 ≤ F) {x1 : Int32} {τ : Mem} (hI : wiM τ) : sf (f_X4_count F x1 τ) (fun r s => wiM s ∧ (∀ k, k < 101 → s k = τ k) ∧ s 101 15 = τ 101 15 ∧ s 101 34 = τ 101 34 ∧ s 101 1 = τ 101 1 ∧ s 101 30 = τ 101 30 ∧ s 101 18 = τ 101 18 ∧ -2147483648 ≤ r.toInt ∧ r.toInt ≤ 2147483647) := by
  have Fτ : ∀ k, k < 101 → τ k = τ k := fun _ _ => rfl
  have Of15_τ : τ 101 15 = τ 101 15 := rfl
  have Of34_τ : τ 101 34 = τ 101 34 := rfl
  have Of1_τ : τ 101 1 = τ 101 1 := rfl
  have Of30_τ : τ 101 30 = τ 101 30 := rfl
  have Of18_τ : τ 101 18 = τ 101 18 := rfl
  rw [f_X4_count_e]
  refine sf_lt (fun s1 hs1 => ?_)
  have Is1 : wiM s1 := by rw [hs1]; exact wm_fld hI (by decide) (by decide) (by decide) (by decide) (by decide) (by decide) (by decide)
  have Fs1 : ∀ k, k < 101 → s1 k = τ k := fun k hk => (show s1 k = τ k by rw [hs1, up2_k (by omega)]).trans (Fτ k hk)
  have Of15_s1 : s1 101 15 = τ 101 15 := (show s1 101 15 = τ 101 15 by rw [hs1, up2_i (by decide)]).trans Of15_τ
  have Of34_s1 : s1 101 34 = τ 101 34 := (show s1 101 34 = τ 101 34 by rw [hs1, up2_i (by decide)]).trans Of34_τ
  have Of1_s1 : s1 101 1 = τ 101 1 := (show s1 101 1 = τ 101 1 by rw [hs1, up2_i (by decide)]).trans Of1_τ
  have Of30_s1 : s1 101 30 = τ 101 30 := (show s1 101 30 = τ 101 30 by rw [hs1, up2_i (by decide)]).trans Of30_τ
  have Of18_s1 : s1 101 18 = τ 101 18 := (show s1 101 18 = τ 101 18 by rw [hs1, up2_i (by decide)]).trans Of18_τ
  have b2 := ti_lo x1
  have b3 := ti_hi x1
  refine sf_ite (fun c4 => ?_) (fun c4 => ?_)
  · have C4 : x1.toInt = (0 : Int) := ti_eq c4
    have m5 := wx_X4_1 Is1
    have m6 := wx_X4_1 hI
    have e7 : (s1 101 1).toInt = (τ 101 1).toInt := congrArg Int32.toInt (by rw [hs1, up2_i (by decide)])
    exact sf_ret ⟨Is1, Fs1, Of15_s1, Of34_s1, Of1_s1, Of30_s1, Of18_s1, ti_lo _, ti_hi _⟩
  have C4 : ¬ x1.toInt = (0 : Int) := ti_ne c4
  refine sf_ite (fun c8 => ?_) (fun c8 => ?_)
  · have C8 : x1.toInt = (1 : Int) := ti_eq c8
    have m9 := wx_X4_3 Is1
    have m10 := wx_X4_3 hI
    have e11 : (s1 101 3).toInt = (τ 101 3).toInt := congrArg Int32.toInt (by rw [hs1, up2_i (by decide)])
    exact sf_ret ⟨Is1, Fs1, Of15_s1, Of34_s1, Of1_s1, Of30_s1, Of18_s1, ti_lo _, ti_hi _⟩
  have C8 : ¬ x1.toInt = (1 : Int) := ti_ne c8
  refine sf_ite (fun c12 => ?_) (fun c12 => ?_)
  · have C12 : x1.toInt = (2 : Int) := ti_eq c12
    have b13 := ti_lo (τ 101 9)
    have b14 := ti_hi (τ 101 9)
    have e15 : (s1 101 9).toInt = (τ 101 9).toInt := congrArg Int32.toInt (by rw [hs1, up2_i (by decide)])
    have b16 := ti_lo (s1 101 9)
    have b17 := ti_hi (s1 101 9)
    exact sf_ret ⟨Is1, Fs1, Of15_s1, Of34_s1, Of1_s1, Of30_s1, Of18_s1, ti_lo _, ti_hi _⟩
  have C12 : ¬ x1.toInt = (2 : Int) := ti_ne c12
  refine sf_ite (fun c18 => ?_) (fun c18 => ?_)
  · have C18 : x1.toInt = (3 : Int) := ti_eq c18
    have b19 := ti_lo (τ 101 8)
    have b20 := ti_hi (τ 101 8)
    have e21 : (s1 101 8).toInt = (τ 101 8).toInt := congrArg Int32.toInt (by rw [hs1, up2_i (by decide)])
    have b22 := ti_lo (s1 101 8)
    have b23 := ti_hi (s1 101 8)
    exact sf_ret ⟨Is1, Fs1, Of15_s1, Of34_s1, Of1_s1, Of30_s1, Of18_s1, ti_lo _, ti_hi _⟩
  have C18 : ¬ x1.toInt = (3 : Int) := ti_ne c18
  refine sf_ite (fun c24 => ?_) (fun c24 => ?_)
  · have C24 : x1.toInt = (4 : Int) := ti_eq c24
    refine sf_bnd (s_X4_owned hF Is1) (fun r25 u26 p27 => ?_)
    obtain ⟨Iu26, Fu26_, Of15_u26_, Of34_u26_, Of1_u26_, Of30_u26_, Of18_u26_, p27_1, p27_2⟩ := p27
    have Fu26 : ∀ k, k < 101 → u26 k = τ k := fun k hk => (Fu26_ k hk).trans (Fs1 k hk)
    have Of15_u26 : u26 101 15 = τ 101 15 := Of15_u26_.trans Of15_s1
    have Of34_u26 : u26 101 34 = τ 101 34 := Of34_u26_.trans Of34_s1
    have Of1_u26 : u26 101 1 = τ 101 1 := Of1_u26_.trans Of1_s1
    have Of30_u26 : u26 101 30 = τ 101 30 := Of30_u26_.trans Of30_s1
    have Of18_u26 : u26 101 18 = τ 101 18 := Of18_u26_.trans Of18_s1
    have b28 := ti_lo r25
    have b29 := ti_hi r25
    exact sf_ret ⟨Iu26, Fu26, Of15_u26, Of34_u26, Of1_u26, Of30_u26, Of18_u26, ti_lo _, ti_hi _⟩
  have C24 : ¬ x1.toInt = (4 : Int) := ti_ne c24
  refine sf_ite (fun c30 => ?_) (fun c30 => ?_)
  · have C30 : x1.toInt = (5 : Int) := ti_eq c30
    refine sf_bnd (s_X4_allShown hF Is1) (fun r31 u32 p33 => ?_)
    obtain ⟨e9, p33_1, p33_2⟩ := p33
    have e9 := e9.symm
    subst e9
    have b34 := ti_lo r31
    have b35 := ti_hi r31
    refine sf_bnd (s_X4_onesOf hF Is1) (fun r36 u37 p38 => ?_)
    obtain ⟨e9, p38_1, p38_2⟩ := p38
    have e9 := e9.symm
    subst e9
    have b39 := ti_lo r36
    have b40 := ti_hi r36
    exact sf_ret ⟨Is1, Fs1, Of15_s1, Of34_s1, Of1_s1, Of30_s1, Of18_s1, ti_lo _, ti_hi _⟩
  have C30 : ¬ x1.toInt = (5 : Int) := ti_ne c30
  refine sf_ite (fun c41 => ?_) (fun c41 => ?_)
  · have C41 : x1.toInt = (6 : Int) := ti_eq c41
    have l_0 : (0 : Int32).toInt = 0 := rfl
    exact sl_X4_count_99 hF _ _ _ _ Is1 Fs1 Of15_s1 Of34_s1 Of1_s1 Of30_s1 Of18_s1 (by omega) (by decide) (by decide)
  have C41 : ¬ x1.toInt = (6 : Int) := ti_ne c41
  refine sf_ite (fun c42 => ?_) (fun c42 => ?_)
  · have C42 : x1.toInt = (7 : Int) := ti_eq c42
    have m43 := wx_X4_15 Is1
    have m44 := wx_X4_15 hI
    have e45 : (s1 101 15).toInt = (τ 101 15).toInt := congrArg Int32.toInt (by rw [hs1, up2_i (by decide)])
    exact sf_ret ⟨Is1, Fs1, Of15_s1, Of34_s1, Of1_s1, Of30_s1, Of18_s1, ti_lo _, ti_hi _⟩
  have C42 : ¬ x1.toInt = (7 : Int) := ti_ne c42
  refine sf_ite (fun c46 => ?_) (fun c46 => ?_)
  · have C46 : x1.toInt = (8 : Int) := ti_eq c46
    have m47 := wx_X4_34 Is1
    have m48 := wx_X4_34 hI
    have e49 : (s1 101 34).toInt = (τ 101 34).toInt := congrArg Int32.toInt (by rw [hs1, up2_i (by decide)])
    exact sf_ret ⟨Is1, Fs1, Of15_s1, Of34_s1, Of1_s1, Of30_s1, Of18_s1, ti_lo _, ti_hi _⟩
  have C46 : ¬ x1.toInt = (8 : Int) := ti_ne c46
  refine sf_ite (fun c50 => ?_) (fun c50 => ?_)
  · have C50 : x1.toInt = (9 : Int) := ti_eq c50
    have m51 := wx_X4_30 Is1
    have m52 := wx_X4_30 hI
    have e53 : (s1 101 30).toInt = (τ 101 30).toInt := congrArg Int32.toInt (by rw [hs1, up2_i (by decide)])
    exact sf_ret ⟨Is1, Fs1, Of15_s1, Of34_s1, Of1_s1, Of30_s1, Of18_s1, ti_lo _, ti_hi _⟩
  have C50 : ¬ x1.toInt = (9 : Int) := ti_ne c50
  refine sf_in ?_
  rw [f_X4_in_e]
  have b54 := ti_lo (lg_cmp (Int32.toInt64 x1) (11 : Int64))
  have b55 := ti_hi (lg_cmp (Int32.toInt64 x1) (11 : Int64))
  refine sf_ite (fun c56 => ?_) (fun c56 => ?_)
  · have C56 : (lg_cmp (Int32.toInt64 x1) (11 : Int64)).toInt < (0 : Int) := ti_lt c56
    have L56 : x1.toInt < (11 : Int) := by have q := lg_ltl c56; (repeat (rw [Int32.toInt_toInt64] at q)); exact q
    rw [j_X4_in_17_e]
    refine sf_ret ?_
    refine sf_ite (fun c57 => ?_) (fun c57 => ?_)
    · have C57 : (0 : Int) = (0 : Int) := ti_eq c57
      exact sf_ret ⟨Is1, Fs1, Of15_s1, Of34_s1, Of1_s1, Of30_s1, Of18_s1, ti_lo _, ti_hi _⟩
    have C57 : ¬ (0 : Int) = (0 : Int) := ti_ne c57
    exfalso; omega
  have C56 : (0 : Int) ≤ (lg_cmp (Int32.toInt64 x1) (11 : Int64)).toInt := ti_nlt c56
  have L56 : (11 : Int) ≤ x1.toInt := by have q := lg_ltln c56; (repeat (rw [Int32.toInt_toInt64] at q)); exact q
  have b58 := ti_lo (lg_cmp (Int32.toInt64 x1) (16 : Int64))
  have b59 := ti_hi (lg_cmp (Int32.toInt64 x1) (16 : Int64))
  refine sf_ite (fun c60 => ?_) (fun c60 => ?_)
  · have C60 : (0 : Int) < (lg_cmp (Int32.toInt64 x1) (16 : Int64)).toInt := ti_lt c60
    have L60 : (16 : Int) < x1.toInt := by have q := lg_ltr c60; (repeat (rw [Int32.toInt_toInt64] at q)); exact q
    rw [j_X4_in_17_e]
    refine sf_ret ?_
    refine sf_ite (fun c61 => ?_) (fun c61 => ?_)
    · have C61 : (0 : Int) = (0 : Int) := ti_eq c61
      exact sf_ret ⟨Is1, Fs1, Of15_s1, Of34_s1, Of1_s1, Of30_s1, Of18_s1, ti_lo _, ti_hi _⟩
    have C61 : ¬ (0 : Int) = (0 : Int) := ti_ne c61
    exfalso; omega
  have C60 : (lg_cmp (Int32.toInt64 x1) (16 : Int64)).toInt ≤ (0 : Int) := ti_nlt c60
  have L60 : x1.toInt ≤ (16 : Int) := by have q := lg_ltrn c60; (repeat (rw [Int32.toInt_toInt64] at q)); exact q
  refine sf_ret ?_
  refine sf_ite (fun c62 => ?_) (fun c62 => ?_)
  · have C62 : (1 : Int) = (0 : Int) := ti_eq c62
    exfalso; omega
  have C62 : ¬ (1 : Int) = (0 : Int) := ti_ne c62
  have t63 : (x1 - (10 : Int32)).toInt = x1.toInt - (10 : Int) := ti_sub (show -2147483648 ≤ x1.toInt - (10 : Int) by omega) (show x1.toInt - (10 : Int) ≤ 2147483647 by omega)
  refine sf_chk (ti_in (by omega) (by omega)) ?_
  have v64 : Int32.toNatClampNeg (x1 - (10 : Int32)) = (x1 - (10 : Int32)).toInt.toNat := rfl
  have b65 := ti_lo (s1 108 (Int32.toNatClampNeg (x1 - (10 : Int32))))
  have b66 := ti_hi (s1 108 (Int32.toNatClampNeg (x1 - (10 : Int32))))
  exact sf_ret ⟨Is1, Fs1, Of15_s1, Of34_s1, Of1_s1, Of30_s1, Of18_s1, ti_lo _, ti_hi _⟩
