set_option maxHeartbeats 4000000 in
set_option maxRecDepth 100000 in
theorem sl_X4_terrace_79 {F : Nat} (hF : 73786976294838206464 ≤ F) {τ : Mem} : ∀ (N : Nat) (x1 : Int32) (σ : Mem), wiM σ → (∀ k, k < 101 → σ k = τ k) → σ 101 34 = τ 101 34 → 48 < x1.toInt + N → 0 ≤ x1.toInt → x1.toInt ≤ 48 → ((σ 101 15).toInt = 0) → sf (lp_X4_terrace_79 F N x1 σ) (fun r s => wiM s ∧ (∀ k, k < 101 → s k = τ k) ∧ s 101 34 = τ 101 34 ∧ -2147483648 ≤ r.toInt ∧ r.toInt ≤ 2147483647 ∧ ((s 101 15).toInt = 0)) := by
  intro N
  induction N with
  | zero => intro x1 σ hI Fσ Of34_σ hN x1_1 x1_2 xl0; exfalso; omega
  | succ N ih =>
    intro x1 σ hI Fσ Of34_σ hN x1_1 x1_2 xl0
    rw [lp_X4_terrace_79_s]
    have m1 := wx_X4_18 hI
    refine sf_ite (fun c2 => ?_) (fun c2 => ?_)
    · have C2 : (σ 101 18).toInt ≤ x1.toInt := ti_le c2
      refine sf_lt (fun s3 hs3 => ?_)
      have Is3 : wiM s3 := by rw [hs3]; exact wx_put_X4_30 hI (by decide) (by decide)
      have Fs3 : ∀ k, k < 101 → s3 k = τ k := fun k hk => (show s3 k = σ k by rw [hs3, up2_k (by omega)]).trans (Fσ k hk)
      have Of34_s3 : s3 101 34 = τ 101 34 := (show s3 101 34 = σ 101 34 by rw [hs3, up2_i (by decide)]).trans Of34_σ
      have m4 := wx_X4_18 Is3
      have e5 : (s3 101 18).toInt = (σ 101 18).toInt := congrArg Int32.toInt (by rw [hs3, up2_i (by decide)])
      have m6 := wx_X4_15 Is3
      have m7 := wx_X4_15 hI
      have e8 : (s3 101 15).toInt = (σ 101 15).toInt := congrArg Int32.toInt (by rw [hs3, up2_i (by decide)])
      have b9 := ti_lo (τ 101 15)
      have b10 := ti_hi (τ 101 15)
      exact sf_ret ⟨Is3, Fs3, Of34_s3, ti_lo _, ti_hi _, (show (s3 101 15).toInt = 0 from by omega)⟩
    have C2 : x1.toInt < (σ 101 18).toInt := ti_nle c2
    refine sf_bnd (s_X4_comesTold hF hI (by omega) (by omega)) (fun r11 u12 p13 => ?_)
    obtain ⟨Iu12, Fu12_, Of15_u12_, Of34_u12_, Of30_u12_, Of18_u12_, p13_1, p13_2⟩ := p13
    have Fu12 : ∀ k, k < 101 → u12 k = τ k := fun k hk => (Fu12_ k hk).trans (Fσ k hk)
    have Of34_u12 : u12 101 34 = τ 101 34 := Of34_u12_.trans Of34_σ
    have hb_r11 : r11 = 0 ∨ r11 = 1 := wi_bool p13_1 p13_2
    refine sf_ite (fun c14 => ?_) (fun c14 => ?_)
    · have C14 : r11.toInt = (0 : Int) := ti_eq c14
      refine sf_bnd (s_X4_again hF Iu12) (fun r15 u16 p17 => ?_)
      obtain ⟨Iu16, Fu16_, Of15_u16_, Of34_u16_, Of30_u16_, Of18_u16_, -⟩ := p17
      have Fu16 : ∀ k, k < 101 → u16 k = τ k := fun k hk => (Fu16_ k hk).trans (Fu12 k hk)
      have Of34_u16 : u16 101 34 = τ 101 34 := Of34_u16_.trans Of34_u12
      refine sf_chk (ti_in (by omega) (by omega)) ?_
      have v18 : Int32.toNatClampNeg x1 = x1.toInt.toNat := rfl
      have b19 := ti_lo (u16 112 (Int32.toNatClampNeg x1))
      have b20 := ti_hi (u16 112 (Int32.toNatClampNeg x1))
      have b21 := ti_lo ((-2000 : Int32) - (u16 112 (Int32.toNatClampNeg x1)))
      have b22 := ti_hi ((-2000 : Int32) - (u16 112 (Int32.toNatClampNeg x1)))
      have m23 := wx_X4_15 Iu16
      have m24 := wx_X4_15 Iu12
      have m25 := wx_X4_15 hI
      have e26 : (u12 101 15).toInt = (σ 101 15).toInt := congrArg Int32.toInt Of15_u12_
      have e27 : (u16 101 15).toInt = (u12 101 15).toInt := congrArg Int32.toInt Of15_u16_
      have b28 := ti_lo (τ 101 15)
      have b29 := ti_hi (τ 101 15)
      exact sf_ret ⟨Iu16, Fu16, Of34_u16, ti_lo _, ti_hi _, (show (u16 101 15).toInt = 0 from by omega)⟩
    have C14 : ¬ r11.toInt = (0 : Int) := ti_ne c14
    have t30 : (x1 + (1 : Int32)).toInt = x1.toInt + (1 : Int) := ti_add (show -2147483648 ≤ x1.toInt + (1 : Int) by omega) (show x1.toInt + (1 : Int) ≤ 2147483647 by omega)
    have m31 := wx_X4_15 Iu12
    have m32 := wx_X4_15 hI
    have e33 : (u12 101 15).toInt = (σ 101 15).toInt := congrArg Int32.toInt Of15_u12_
    have b34 := ti_lo (τ 101 15)
    have b35 := ti_hi (τ 101 15)
    exact ih _ _ Iu12 Fu12 Of34_u12 (by omega) (by omega) (by omega) (show (u12 101 15).toInt = 0 from by omega)
set_option maxHeartbeats 4000000 in
set_option maxRecDepth 100000 in
theorem sl_X4_terrace_20 {F : Nat} (hF : 73786976294838206464 ≤ F) {τ : Mem} : ∀ (N : Nat) (σ : Mem), wiM σ → (∀ k, k < 101 → σ k = τ k) → σ 101 34 = τ 101 34 → 48 < (σ 101 18).toInt + N → ((σ 101 18).toInt ≤ 32) → ((σ 101 17).toInt = 0 → 3 * (σ 101 18).toInt ≤ (σ 101 16).toInt) → sf (lp_X4_terrace_20 F N σ) (fun r s => wiM s ∧ (∀ k, k < 101 → s k = τ k) ∧ s 101 34 = τ 101 34 ∧ -2147483648 ≤ r.toInt ∧ r.toInt ≤ 2147483647 ∧ ((s 101 15).toInt = 0)) := by
  intro N
  induction N with
  | zero => intro σ hI Fσ Of34_σ hN xl0 xl1; exfalso; omega
  | succ N ih =>
    intro σ hI Fσ Of34_σ hN xl0 xl1
    rw [lp_X4_terrace_20_s]
    have b1 := ti_lo (σ 101 17)
    have b2 := ti_hi (σ 101 17)
    refine sf_ite (fun c3 => ?_) (fun c3 => ?_)
    · have C3 : (σ 101 17).toInt = (0 : Int) := ti_eq c3
      have m4 := wx_X4_18 hI
      refine sf_ite (fun c5 => ?_) (fun c5 => ?_)
      · have C5 : (σ 101 18).toInt = (0 : Int) := ti_eq c5
        rw [j_X4_terrace_45_e]
        have m6 := wx_X4_16 hI
        refine sf_bnd (s_X4_readStatement hF hI (by first | omega | decide)) (fun r7 u8 p9 => ?_)
        obtain ⟨Iu8, Fu8_, Of15_u8_, Of34_u8_, Of1_u8_, Of30_u8_, -, p9_x0, p9_x1⟩ := p9
        have Fu8 : ∀ k, k < 101 → u8 k = τ k := fun k hk => (Fu8_ k hk).trans (Fσ k hk)
        have Of34_u8 : u8 101 34 = τ 101 34 := Of34_u8_.trans Of34_σ
        replace p9_x0 : (u8 101 18).toInt = (σ 101 18).toInt + 1 := p9_x0
        replace p9_x1 : (u8 101 17).toInt = 0 → (σ 101 16).toInt + 3 ≤ (u8 101 16).toInt := p9_x1
        have m10 := wx_X4_18 Iu8
        have b11 := ti_lo (u8 101 17)
        have b12 := ti_hi (u8 101 17)
        have m13 := wx_X4_16 Iu8
        have b14 := ti_lo (τ 101 18)
        have b15 := ti_hi (τ 101 18)
        have b16 := ti_lo (τ 101 17)
        have b17 := ti_hi (τ 101 17)
        have b18 := ti_lo (τ 101 16)
        have b19 := ti_hi (τ 101 16)
        exact ih _ Iu8 Fu8 Of34_u8 (by omega) (show (u8 101 18).toInt ≤ 32 from by omega) (show (u8 101 17).toInt = 0 → 3 * (u8 101 18).toInt ≤ (u8 101 16).toInt from by omega)
      have C5 : ¬ (σ 101 18).toInt = (0 : Int) := ti_ne c5
      have m20 := wx_X4_15 hI
      have m21 := wx_X4_16 hI
      refine sf_ite (fun c22 => ?_) (fun c22 => ?_)
      · have C22 : (σ 101 15).toInt ≤ (σ 101 16).toInt := ti_le c22
        rw [j_X4_terrace_52_e]
        refine sf_lt (fun s23 hs23 => ?_)
        have Is23 : wiM s23 := by rw [hs23]; exact wx_put_X4_15 hI (by decide) (by decide)
        have Fs23 : ∀ k, k < 101 → s23 k = τ k := fun k hk => (show s23 k = σ k by rw [hs23, up2_k (by omega)]).trans (Fσ k hk)
        have Of34_s23 : s23 101 34 = τ 101 34 := (show s23 101 34 = σ 101 34 by rw [hs23, up2_i (by decide)]).trans Of34_σ
        have e24 : (s23 101 17).toInt = (σ 101 17).toInt := congrArg Int32.toInt (by rw [hs23, up2_i (by decide)])
        refine sf_ite (fun c25 => ?_) (fun c25 => ?_)
        · have C25 : (s23 101 17).toInt = (0 : Int) := ti_eq c25
          have m26 := wx_X4_1 Is23
          have m27 := wx_X4_1 hI
          have e28 : (s23 101 1).toInt = (σ 101 1).toInt := congrArg Int32.toInt (by rw [hs23, up2_i (by decide)])
          have m29 := wx_X4_3 Is23
          have m30 := wx_X4_3 hI
          have e31 : (s23 101 3).toInt = (σ 101 3).toInt := congrArg Int32.toInt (by rw [hs23, up2_i (by decide)])
          refine sf_bnd (s_X4_think hF Is23) (fun r32 u33 p34 => ?_)
          obtain ⟨Iu33, Fu33_, Of15_u33_, Of34_u33_, Of30_u33_, Of18_u33_, -, p34_x0⟩ := p34
          have Fu33 : ∀ k, k < 101 → u33 k = τ k := fun k hk => (Fu33_ k hk).trans (Fs23 k hk)
          have Of34_u33 : u33 101 34 = τ 101 34 := Of34_u33_.trans Of34_s23
          replace p34_x0 : (u33 101 1).toInt = (s23 101 1).toInt ∧ (u33 101 3).toInt = (s23 101 3).toInt := p34_x0
          have m35 := wx_X4_1 Iu33
          have m36 := wx_X4_3 Iu33
          have m37 := wx_X4_15 Iu33
          have m38 := wx_X4_15 Is23
          have e39 : (s23 101 15).toInt = (0 : Int) := (show (s23 101 15).toInt = (0 : Int32).toInt from congrArg Int32.toInt (by rw [hs23, up2_s]))
          have e40 : (u33 101 15).toInt = (s23 101 15).toInt := congrArg Int32.toInt Of15_u33_
          have b41 := ti_lo (τ 101 15)
          have b42 := ti_hi (τ 101 15)
          have l_0 : (0 : Int32).toInt = 0 := rfl
          exact sl_X4_terrace_79 hF _ _ _ Iu33 Fu33 Of34_u33 (by omega) (by decide) (by decide) (show (u33 101 15).toInt = 0 from by omega)
        have C25 : ¬ (s23 101 17).toInt = (0 : Int) := ti_ne c25
        exfalso; omega
      have C22 : (σ 101 16).toInt < (σ 101 15).toInt := ti_nle c22
      rw [j_X4_terrace_45_e]
      refine sf_bnd (s_X4_readStatement hF hI (by first | omega | decide)) (fun r43 u44 p45 => ?_)
      obtain ⟨Iu44, Fu44_, Of15_u44_, Of34_u44_, Of1_u44_, Of30_u44_, -, p45_x0, p45_x1⟩ := p45
      have Fu44 : ∀ k, k < 101 → u44 k = τ k := fun k hk => (Fu44_ k hk).trans (Fσ k hk)
      have Of34_u44 : u44 101 34 = τ 101 34 := Of34_u44_.trans Of34_σ
      replace p45_x0 : (u44 101 18).toInt = (σ 101 18).toInt + 1 := p45_x0
      replace p45_x1 : (u44 101 17).toInt = 0 → (σ 101 16).toInt + 3 ≤ (u44 101 16).toInt := p45_x1
      have m46 := wx_X4_18 Iu44
      have b47 := ti_lo (u44 101 17)
      have b48 := ti_hi (u44 101 17)
      have m49 := wx_X4_16 Iu44
      have b50 := ti_lo (τ 101 18)
      have b51 := ti_hi (τ 101 18)
      have b52 := ti_lo (τ 101 17)
      have b53 := ti_hi (τ 101 17)
      have b54 := ti_lo (τ 101 16)
      have b55 := ti_hi (τ 101 16)
      exact ih _ Iu44 Fu44 Of34_u44 (by omega) (show (u44 101 18).toInt ≤ 32 from by omega) (show (u44 101 17).toInt = 0 → 3 * (u44 101 18).toInt ≤ (u44 101 16).toInt from by omega)
    have C3 : ¬ (σ 101 17).toInt = (0 : Int) := ti_ne c3
    rw [j_X4_terrace_52_e]
    refine sf_lt (fun s56 hs56 => ?_)
    have Is56 : wiM s56 := by rw [hs56]; exact wx_put_X4_15 hI (by decide) (by decide)
    have Fs56 : ∀ k, k < 101 → s56 k = τ k := fun k hk => (show s56 k = σ k by rw [hs56, up2_k (by omega)]).trans (Fσ k hk)
    have Of34_s56 : s56 101 34 = τ 101 34 := (show s56 101 34 = σ 101 34 by rw [hs56, up2_i (by decide)]).trans Of34_σ
    have e57 : (s56 101 17).toInt = (σ 101 17).toInt := congrArg Int32.toInt (by rw [hs56, up2_i (by decide)])
    have b58 := ti_lo (s56 101 17)
    have b59 := ti_hi (s56 101 17)
    refine sf_ite (fun c60 => ?_) (fun c60 => ?_)
    · have C60 : (s56 101 17).toInt = (0 : Int) := ti_eq c60
      have m61 := wx_X4_1 Is56
      have m62 := wx_X4_1 hI
      have e63 : (s56 101 1).toInt = (σ 101 1).toInt := congrArg Int32.toInt (by rw [hs56, up2_i (by decide)])
      have m64 := wx_X4_3 Is56
      have m65 := wx_X4_3 hI
      have e66 : (s56 101 3).toInt = (σ 101 3).toInt := congrArg Int32.toInt (by rw [hs56, up2_i (by decide)])
      refine sf_bnd (s_X4_think hF Is56) (fun r67 u68 p69 => ?_)
      obtain ⟨Iu68, Fu68_, Of15_u68_, Of34_u68_, Of30_u68_, Of18_u68_, -, p69_x0⟩ := p69
      have Fu68 : ∀ k, k < 101 → u68 k = τ k := fun k hk => (Fu68_ k hk).trans (Fs56 k hk)
      have Of34_u68 : u68 101 34 = τ 101 34 := Of34_u68_.trans Of34_s56
      replace p69_x0 : (u68 101 1).toInt = (s56 101 1).toInt ∧ (u68 101 3).toInt = (s56 101 3).toInt := p69_x0
      have m70 := wx_X4_1 Iu68
      have m71 := wx_X4_3 Iu68
      have m72 := wx_X4_15 Iu68
      have m73 := wx_X4_15 Is56
      have e74 : (s56 101 15).toInt = (0 : Int) := (show (s56 101 15).toInt = (0 : Int32).toInt from congrArg Int32.toInt (by rw [hs56, up2_s]))
      have e75 : (u68 101 15).toInt = (s56 101 15).toInt := congrArg Int32.toInt Of15_u68_
      have b76 := ti_lo (τ 101 15)
      have b77 := ti_hi (τ 101 15)
      have l_0 : (0 : Int32).toInt = 0 := rfl
      exact sl_X4_terrace_79 hF _ _ _ Iu68 Fu68 Of34_u68 (by omega) (by decide) (by decide) (show (u68 101 15).toInt = 0 from by omega)
    have C60 : ¬ (s56 101 17).toInt = (0 : Int) := ti_ne c60
    have m78 := wx_X4_16 Is56
    have m79 := wx_X4_16 hI
    have e80 : (s56 101 16).toInt = (σ 101 16).toInt := congrArg Int32.toInt (by rw [hs56, up2_i (by decide)])
    have t81 : ((-1000 : Int32) - (s56 101 16)).toInt = (-1000 : Int) - (s56 101 16).toInt := ti_sub (show -2147483648 ≤ (-1000 : Int) - (s56 101 16).toInt by omega) (show (-1000 : Int) - (s56 101 16).toInt ≤ 2147483647 by omega)
    have m82 := wx_X4_15 Is56
    have e83 : (s56 101 15).toInt = (0 : Int) := (show (s56 101 15).toInt = (0 : Int32).toInt from congrArg Int32.toInt (by rw [hs56, up2_s]))
    have b84 := ti_lo (τ 101 15)
    have b85 := ti_hi (τ 101 15)
    exact sf_ret ⟨Is56, Fs56, Of34_s56, ti_lo _, ti_hi _, (show (s56 101 15).toInt = 0 from by omega)⟩
set_option maxHeartbeats 4000000 in
set_option maxRecDepth 100000 in
theorem s_X4_terrace {F : Nat} (hF : 73786976294838206464 ≤ F) {τ : Mem} (hI : wiM τ) : sf (f_X4_terrace F τ) (fun r s => wiM s ∧ (∀ k, k < 101 → s k = τ k) ∧ s 101 34 = τ 101 34 ∧ -2147483648 ≤ r.toInt ∧ r.toInt ≤ 2147483647 ∧ ((s 101 15).toInt = 0)) := by
  have Fτ : ∀ k, k < 101 → τ k = τ k := fun _ _ => rfl
  have Of15_τ : τ 101 15 = τ 101 15 := rfl
  have Of34_τ : τ 101 34 = τ 101 34 := rfl
  have Of1_τ : τ 101 1 = τ 101 1 := rfl
  have Of30_τ : τ 101 30 = τ 101 30 := rfl
  have Of18_τ : τ 101 18 = τ 101 18 := rfl
  rw [f_X4_terrace_e]
  refine sf_lt (fun s1 hs1 => ?_)
  have Is1 : wiM s1 := by rw [hs1]; exact wm_fld hI (by decide) (by decide) (by decide) (by decide) (by decide) (by decide) (by decide)
  have Fs1 : ∀ k, k < 101 → s1 k = τ k := fun k hk => (show s1 k = τ k by rw [hs1, up2_k (by omega)]).trans (Fτ k hk)
  have Of15_s1 : s1 101 15 = τ 101 15 := (show s1 101 15 = τ 101 15 by rw [hs1, up2_i (by decide)]).trans Of15_τ
  have Of34_s1 : s1 101 34 = τ 101 34 := (show s1 101 34 = τ 101 34 by rw [hs1, up2_i (by decide)]).trans Of34_τ
  have Of1_s1 : s1 101 1 = τ 101 1 := (show s1 101 1 = τ 101 1 by rw [hs1, up2_i (by decide)]).trans Of1_τ
  have Of30_s1 : s1 101 30 = τ 101 30 := (show s1 101 30 = τ 101 30 by rw [hs1, up2_i (by decide)]).trans Of30_τ
  have Of18_s1 : s1 101 18 = τ 101 18 := (show s1 101 18 = τ 101 18 by rw [hs1, up2_i (by decide)]).trans Of18_τ
  refine sf_lt (fun s2 hs2 => ?_)
  have Is2 : wiM s2 := by rw [hs2]; exact wx_put_X4_16 Is1 (by decide) (by decide)
  have Fs2 : ∀ k, k < 101 → s2 k = τ k := fun k hk => (show s2 k = s1 k by rw [hs2, up2_k (by omega)]).trans (Fs1 k hk)
  have Of15_s2 : s2 101 15 = τ 101 15 := (show s2 101 15 = s1 101 15 by rw [hs2, up2_i (by decide)]).trans Of15_s1
  have Of34_s2 : s2 101 34 = τ 101 34 := (show s2 101 34 = s1 101 34 by rw [hs2, up2_i (by decide)]).trans Of34_s1
  have Of1_s2 : s2 101 1 = τ 101 1 := (show s2 101 1 = s1 101 1 by rw [hs2, up2_i (by decide)]).trans Of1_s1
  have Of30_s2 : s2 101 30 = τ 101 30 := (show s2 101 30 = s1 101 30 by rw [hs2, up2_i (by decide)]).trans Of30_s1
  have Of18_s2 : s2 101 18 = τ 101 18 := (show s2 101 18 = s1 101 18 by rw [hs2, up2_i (by decide)]).trans Of18_s1
  refine sf_lt (fun s3 hs3 => ?_)
  have Is3 : wiM s3 := by rw [hs3]; exact wm_fld Is2 (by decide) (by decide) (by decide) (by decide) (by decide) (by decide) (by decide)
  have Fs3 : ∀ k, k < 101 → s3 k = τ k := fun k hk => (show s3 k = s2 k by rw [hs3, up2_k (by omega)]).trans (Fs2 k hk)
  have Of15_s3 : s3 101 15 = τ 101 15 := (show s3 101 15 = s2 101 15 by rw [hs3, up2_i (by decide)]).trans Of15_s2
  have Of34_s3 : s3 101 34 = τ 101 34 := (show s3 101 34 = s2 101 34 by rw [hs3, up2_i (by decide)]).trans Of34_s2
  have Of1_s3 : s3 101 1 = τ 101 1 := (show s3 101 1 = s2 101 1 by rw [hs3, up2_i (by decide)]).trans Of1_s2
  have Of30_s3 : s3 101 30 = τ 101 30 := (show s3 101 30 = s2 101 30 by rw [hs3, up2_i (by decide)]).trans Of30_s2
  have Of18_s3 : s3 101 18 = τ 101 18 := (show s3 101 18 = s2 101 18 by rw [hs3, up2_i (by decide)]).trans Of18_s2
  refine sf_lt (fun s4 hs4 => ?_)
  have Is4 : wiM s4 := by rw [hs4]; exact wx_put_X4_18 Is3 (by decide) (by decide)
  have Fs4 : ∀ k, k < 101 → s4 k = τ k := fun k hk => (show s4 k = s3 k by rw [hs4, up2_k (by omega)]).trans (Fs3 k hk)
  have Of15_s4 : s4 101 15 = τ 101 15 := (show s4 101 15 = s3 101 15 by rw [hs4, up2_i (by decide)]).trans Of15_s3
  have Of34_s4 : s4 101 34 = τ 101 34 := (show s4 101 34 = s3 101 34 by rw [hs4, up2_i (by decide)]).trans Of34_s3
  have Of1_s4 : s4 101 1 = τ 101 1 := (show s4 101 1 = s3 101 1 by rw [hs4, up2_i (by decide)]).trans Of1_s3
  have Of30_s4 : s4 101 30 = τ 101 30 := (show s4 101 30 = s3 101 30 by rw [hs4, up2_i (by decide)]).trans Of30_s3
  have m5 := wx_X4_18 Is4
  have e6 : (s4 101 18).toInt = (0 : Int) := (show (s4 101 18).toInt = (0 : Int32).toInt from congrArg Int32.toInt (by rw [hs4, up2_s]))
  have m7 := wx_X4_18 hI
  have e8 : (s3 101 17).toInt = (0 : Int) := (show (s3 101 17).toInt = (0 : Int32).toInt from congrArg Int32.toInt (by rw [hs3, up2_s]))
  have e9 : (s4 101 17).toInt = (s3 101 17).toInt := congrArg Int32.toInt (by rw [hs4, up2_i (by decide)])
  have m10 := wx_X4_16 Is4
  have m11 := wx_X4_16 Is3
  have m12 := wx_X4_16 Is2
  have e13 : (s2 101 16).toInt = (0 : Int) := (show (s2 101 16).toInt = (0 : Int32).toInt from congrArg Int32.toInt (by rw [hs2, up2_s]))
  have e14 : (s3 101 16).toInt = (s2 101 16).toInt := congrArg Int32.toInt (by rw [hs3, up2_i (by decide)])
  have e15 : (s4 101 16).toInt = (s3 101 16).toInt := congrArg Int32.toInt (by rw [hs4, up2_i (by decide)])
  have b16 := ti_lo (τ 101 17)
  have b17 := ti_hi (τ 101 17)
  have m18 := wx_X4_16 hI
  exact sl_X4_terrace_20 hF _ _ Is4 Fs4 Of34_s4 (by omega) (show (s4 101 18).toInt ≤ 32 from by omega) (show (s4 101 17).toInt = 0 → 3 * (s4 101 18).toInt ≤ (s4 101 16).toInt from by omega)
set_option maxHeartbeats 4000000 in
set_option maxRecDepth 100000 in
theorem s_X4_image {F : Nat} (hF : 73786976294838206464 ≤ F) {τ : Mem} (hI : wiM τ) : sf (f_X4_image F τ) (fun r s => wiM s ∧ (∀ k, k < 101 → s k = τ k) ∧ s 101 15 = τ 101 15 ∧ s 101 34 = τ 101 34 ∧ s 101 30 = τ 101 30 ∧ s 101 18 = τ 101 18 ∧ -2147483648 ≤ r.toInt ∧ r.toInt ≤ 2147483647) := by
  have Fτ : ∀ k, k < 101 → τ k = τ k := fun _ _ => rfl
  have Of15_τ : τ 101 15 = τ 101 15 := rfl
  have Of34_τ : τ 101 34 = τ 101 34 := rfl
  have Of1_τ : τ 101 1 = τ 101 1 := rfl
  have Of30_τ : τ 101 30 = τ 101 30 := rfl
  have Of18_τ : τ 101 18 = τ 101 18 := rfl
  rw [f_X4_image_e]
  refine sf_lt (fun s1 hs1 => ?_)
  have Is1 : wiM s1 := by rw [hs1]; exact wm_fld hI (by decide) (by decide) (by decide) (by decide) (by decide) (by decide) (by decide)
  have Fs1 : ∀ k, k < 101 → s1 k = τ k := fun k hk => (show s1 k = τ k by rw [hs1, up2_k (by omega)]).trans (Fτ k hk)
  have Of15_s1 : s1 101 15 = τ 101 15 := (show s1 101 15 = τ 101 15 by rw [hs1, up2_i (by decide)]).trans Of15_τ
  have Of34_s1 : s1 101 34 = τ 101 34 := (show s1 101 34 = τ 101 34 by rw [hs1, up2_i (by decide)]).trans Of34_τ
  have Of1_s1 : s1 101 1 = τ 101 1 := (show s1 101 1 = τ 101 1 by rw [hs1, up2_i (by decide)]).trans Of1_τ
  have Of30_s1 : s1 101 30 = τ 101 30 := (show s1 101 30 = τ 101 30 by rw [hs1, up2_i (by decide)]).trans Of30_τ
  have Of18_s1 : s1 101 18 = τ 101 18 := (show s1 101 18 = τ 101 18 by rw [hs1, up2_i (by decide)]).trans Of18_τ
  refine sf_lt (fun s2 hs2 => ?_)
  have Is2 : wiM s2 := by rw [hs2]; exact wm_fld Is1 (by decide) (by decide) (by decide) (by decide) (by decide) (by decide) (by decide)
  have Fs2 : ∀ k, k < 101 → s2 k = τ k := fun k hk => (show s2 k = s1 k by rw [hs2, up2_k (by omega)]).trans (Fs1 k hk)
  have Of15_s2 : s2 101 15 = τ 101 15 := (show s2 101 15 = s1 101 15 by rw [hs2, up2_i (by decide)]).trans Of15_s1
  have Of34_s2 : s2 101 34 = τ 101 34 := (show s2 101 34 = s1 101 34 by rw [hs2, up2_i (by decide)]).trans Of34_s1
  have Of1_s2 : s2 101 1 = τ 101 1 := (show s2 101 1 = s1 101 1 by rw [hs2, up2_i (by decide)]).trans Of1_s1
  have Of30_s2 : s2 101 30 = τ 101 30 := (show s2 101 30 = s1 101 30 by rw [hs2, up2_i (by decide)]).trans Of30_s1
  have Of18_s2 : s2 101 18 = τ 101 18 := (show s2 101 18 = s1 101 18 by rw [hs2, up2_i (by decide)]).trans Of18_s1
  have m3 := wx_X4_1 Is2
  have m4 := wx_X4_1 Is1
  have m5 := wx_X4_1 hI
  have e6 : (s1 101 1).toInt = (τ 101 1).toInt := congrArg Int32.toInt (by rw [hs1, up2_i (by decide)])
  have e7 : (s2 101 1).toInt = (s1 101 1).toInt := congrArg Int32.toInt (by rw [hs2, up2_i (by decide)])
  have m8 := wx_X4_3 Is2
  have m9 := wx_X4_3 Is1
  have m10 := wx_X4_3 hI
  have e11 : (s1 101 3).toInt = (τ 101 3).toInt := congrArg Int32.toInt (by rw [hs1, up2_i (by decide)])
  have e12 : (s2 101 3).toInt = (s1 101 3).toInt := congrArg Int32.toInt (by rw [hs2, up2_i (by decide)])
  refine sf_bnd (s_X4_carryAll hF (by unfold wiK; omega) Is2 (by decide) (by decide)) (fun r13 u14 p15 => ?_)
  obtain ⟨Iu14, Fu14_, Of15_u14_, Of34_u14_, Of30_u14_, Of18_u14_, -, p15_x0⟩ := p15
  have Fu14 : ∀ k, k < 101 → u14 k = τ k := fun k hk => (Fu14_ k hk).trans (Fs2 k hk)
  have Of15_u14 : u14 101 15 = τ 101 15 := Of15_u14_.trans Of15_s2
  have Of34_u14 : u14 101 34 = τ 101 34 := Of34_u14_.trans Of34_s2
  have Of30_u14 : u14 101 30 = τ 101 30 := Of30_u14_.trans Of30_s2
  have Of18_u14 : u14 101 18 = τ 101 18 := Of18_u14_.trans Of18_s2
  replace p15_x0 : ¬ (1 : Int) = 0 → ((u14 101 1).toInt = (s2 101 1).toInt ∧ (u14 101 3).toInt = (s2 101 3).toInt) := p15_x0
  have m16 := wx_X4_1 Iu14
  have m17 := wx_X4_3 Iu14
  have b18 := ti_lo (u14 101 9)
  have b19 := ti_hi (u14 101 9)
  exact sf_ret ⟨Iu14, Fu14, Of15_u14, Of34_u14, Of30_u14, Of18_u14, ti_lo _, ti_hi _⟩
set_option maxHeartbeats 4000000 in
set_option maxRecDepth 100000 in
theorem s_X4_restore {F : Nat} (hF : 73786976294838206464 ≤ F) {τ : Mem} (hI : wiM τ) : sf (f_X4_restore F τ) (fun r s => wiM s ∧ (∀ k, k < 101 → s k = τ k) ∧ s 101 15 = τ 101 15 ∧ s 101 34 = τ 101 34 ∧ s 101 18 = τ 101 18 ∧ -2147483648 ≤ r.toInt ∧ r.toInt ≤ 2147483647) := by
  have Fτ : ∀ k, k < 101 → τ k = τ k := fun _ _ => rfl
  have Of15_τ : τ 101 15 = τ 101 15 := rfl
  have Of34_τ : τ 101 34 = τ 101 34 := rfl
  have Of1_τ : τ 101 1 = τ 101 1 := rfl
  have Of30_τ : τ 101 30 = τ 101 30 := rfl
  have Of18_τ : τ 101 18 = τ 101 18 := rfl
  rw [f_X4_restore_e]
  refine sf_lt (fun s1 hs1 => ?_)
  have Is1 : wiM s1 := by rw [hs1]; exact wm_fld hI (by decide) (by decide) (by decide) (by decide) (by decide) (by decide) (by decide)
  have Fs1 : ∀ k, k < 101 → s1 k = τ k := fun k hk => (show s1 k = τ k by rw [hs1, up2_k (by omega)]).trans (Fτ k hk)
  have Of15_s1 : s1 101 15 = τ 101 15 := (show s1 101 15 = τ 101 15 by rw [hs1, up2_i (by decide)]).trans Of15_τ
  have Of34_s1 : s1 101 34 = τ 101 34 := (show s1 101 34 = τ 101 34 by rw [hs1, up2_i (by decide)]).trans Of34_τ
  have Of1_s1 : s1 101 1 = τ 101 1 := (show s1 101 1 = τ 101 1 by rw [hs1, up2_i (by decide)]).trans Of1_τ
  have Of30_s1 : s1 101 30 = τ 101 30 := (show s1 101 30 = τ 101 30 by rw [hs1, up2_i (by decide)]).trans Of30_τ
  have Of18_s1 : s1 101 18 = τ 101 18 := (show s1 101 18 = τ 101 18 by rw [hs1, up2_i (by decide)]).trans Of18_τ
  have b2 := ti_lo (τ 101 24)
  have b3 := ti_hi (τ 101 24)
  have e4 : (s1 101 24).toInt = (τ 101 24).toInt := congrArg Int32.toInt (by rw [hs1, up2_i (by decide)])
  have b5 := ti_lo (s1 101 24)
  have b6 := ti_hi (s1 101 24)
  refine sf_ite (fun c7 => ?_) (fun c7 => ?_)
  · have C7 : (s1 101 24).toInt = (0 : Int) := ti_eq c7
    refine sf_bnd (s_X4_refuse hF Is1 (by decide) (by decide)) (fun r8 u9 p10 => ?_)
    obtain ⟨Iu9, Fu9_, Of15_u9_, Of34_u9_, Of1_u9_, Of30_u9_, Of18_u9_, p10_1, p10_2, p10_x0⟩ := p10
    have Fu9 : ∀ k, k < 101 → u9 k = τ k := fun k hk => (Fu9_ k hk).trans (Fs1 k hk)
    have Of15_u9 : u9 101 15 = τ 101 15 := Of15_u9_.trans Of15_s1
    have Of34_u9 : u9 101 34 = τ 101 34 := Of34_u9_.trans Of34_s1
    have Of1_u9 : u9 101 1 = τ 101 1 := Of1_u9_.trans Of1_s1
    have Of30_u9 : u9 101 30 = τ 101 30 := Of30_u9_.trans Of30_s1
    have Of18_u9 : u9 101 18 = τ 101 18 := Of18_u9_.trans Of18_s1
    replace p10_x0 : r8.toInt = (-3 : Int) := p10_x0
    exact sf_ret ⟨Iu9, Fu9, Of15_u9, Of34_u9, Of18_u9, ti_lo _, ti_hi _⟩
  have C7 : ¬ (s1 101 24).toInt = (0 : Int) := ti_ne c7
  have m11 := wx_X4_1 Is1
  have m12 := wx_X4_1 hI
  have e13 : (s1 101 1).toInt = (τ 101 1).toInt := congrArg Int32.toInt (by rw [hs1, up2_i (by decide)])
  have m14 := wx_X4_3 Is1
  have m15 := wx_X4_3 hI
  have e16 : (s1 101 3).toInt = (τ 101 3).toInt := congrArg Int32.toInt (by rw [hs1, up2_i (by decide)])
  refine sf_bnd (s_X4_carryAll hF (by unfold wiK; omega) Is1 (by decide) (by decide)) (fun r17 u18 p19 => ?_)
  obtain ⟨Iu18, Fu18_, Of15_u18_, Of34_u18_, Of30_u18_, Of18_u18_, -, p19_x0⟩ := p19
  have Fu18 : ∀ k, k < 101 → u18 k = τ k := fun k hk => (Fu18_ k hk).trans (Fs1 k hk)
  have Of15_u18 : u18 101 15 = τ 101 15 := Of15_u18_.trans Of15_s1
  have Of34_u18 : u18 101 34 = τ 101 34 := Of34_u18_.trans Of34_s1
  have Of30_u18 : u18 101 30 = τ 101 30 := Of30_u18_.trans Of30_s1
  have Of18_u18 : u18 101 18 = τ 101 18 := Of18_u18_.trans Of18_s1
  replace p19_x0 : ¬ (0 : Int) = 0 → ((u18 101 1).toInt = (s1 101 1).toInt ∧ (u18 101 3).toInt = (s1 101 3).toInt) := p19_x0
  have m20 := wx_X4_1 Iu18
  have m21 := wx_X4_3 Iu18
  refine sf_lt (fun s22 hs22 => ?_)
  have Is22 : wiM s22 := by rw [hs22]; exact wx_put_X4_30 Iu18 (by decide) (by decide)
  have Fs22 : ∀ k, k < 101 → s22 k = τ k := fun k hk => (show s22 k = u18 k by rw [hs22, up2_k (by omega)]).trans (Fu18 k hk)
  have Of15_s22 : s22 101 15 = τ 101 15 := (show s22 101 15 = u18 101 15 by rw [hs22, up2_i (by decide)]).trans Of15_u18
  have Of34_s22 : s22 101 34 = τ 101 34 := (show s22 101 34 = u18 101 34 by rw [hs22, up2_i (by decide)]).trans Of34_u18
  have Of18_s22 : s22 101 18 = τ 101 18 := (show s22 101 18 = u18 101 18 by rw [hs22, up2_i (by decide)]).trans Of18_u18
  have b23 := ti_lo (u18 101 9)
  have b24 := ti_hi (u18 101 9)
  have e25 : (s22 101 9).toInt = (u18 101 9).toInt := congrArg Int32.toInt (by rw [hs22, up2_i (by decide)])
  have b26 := ti_lo (s22 101 9)
  have b27 := ti_hi (s22 101 9)
  exact sf_ret ⟨Is22, Fs22, Of15_s22, Of34_s22, Of18_s22, ti_lo _, ti_hi _⟩
set_option maxHeartbeats 4000000 in
set_option maxRecDepth 100000 in
theorem s_X4_keepTurn {F : Nat} (hF : 73786976294838206464 ≤ F) {τ : Mem} (hI : wiM τ) : sf (f_X4_keepTurn F τ) (fun _ s => wiM s ∧ (∀ k, k < 101 → s k = τ k) ∧ s 101 15 = τ 101 15 ∧ s 101 34 = τ 101 34 ∧ s 101 18 = τ 101 18 ∧ True) := by
  refine sf_mono (wt_keepTurn (by omega) hI) (fun _ s h => ?_)
  obtain ⟨t, d, h1, h2, h3, h4, h5, h6⟩ : ∃ t d, wtKeep τ s t d := by
    split at h
    · exact ⟨_, _, h⟩
    · exact ⟨_, _, h⟩
  exact ⟨h6, fun k hk => funext fun i => h2 k i (by omega) (by omega) (fun q => by have := q.1; omega) (by omega), h2 101 15 (by decide) (by decide) (fun q => by have := q.2; omega) (by omega), h2 101 34 (by decide) (by decide) (fun q => by have := q.2; omega) (by omega), h2 101 18 (by decide) (by decide) (fun q => by have := q.2; omega) (by omega), trivial⟩
set_option maxHeartbeats 4000000 in
set_option maxRecDepth 100000 in
theorem s_X4_back {F : Nat} (hF : 73786976294838206464 ≤ F) {τ : Mem} (hI : wiM τ) : sf (f_X4_back F τ) (fun r s => wiM s ∧ (∀ k, k < 101 → s k = τ k) ∧ s 101 15 = τ 101 15 ∧ s 101 34 = τ 101 34 ∧ s 101 18 = τ 101 18 ∧ -2147483648 ≤ r.toInt ∧ r.toInt ≤ 2147483647) := by
  have b := wx_X4_30 hI
  rw [f_X4_back_e]
  refine sf_lt (fun s6 h6 => ?_)
  have I6 : wiM s6 := by rw [h6]; exact wm_fld hI (by decide) (by decide) (by decide) (by decide) (by decide) (by decide) (by decide)
  have u6 : s6 101 30 = τ 101 30 := by rw [h6, up2_i (by decide)]
  have v6 : ∀ j i, ¬ (j = 101 ∧ i = 10) → s6 j i = τ j i := fun j i h => by rw [h6, wm_key, if_neg h]
  refine sf_ite (fun c => ?_) (fun c => ?_)
  · refine sf_bnd (s_X4_refuse hF I6 (by decide) (by decide)) (fun r s h => ?_)
    obtain ⟨i1, i2, i3, i4, i5, i6, i7, -⟩ := h
    exact sf_ret ⟨i1, fun k hk => (i2 k hk).trans (funext fun i => v6 k i (by omega)), i3.trans (v6 _ _ (by omega)), i4.trans (v6 _ _ (by omega)), i7.trans (v6 _ _ (by omega)), ti_lo _, ti_hi _⟩
  have c2 : ¬ (s6 101 30).toInt = 0 := ti_ne c
  rw [u6] at c2
  refine sf_lt (fun s7 h7 => ?_)
  have e7 : (s6 101 30 - 1).toInt = (τ 101 30).toInt - 1 := by rw [ti_sub] <;> rw [u6, show (1 : Int32).toInt = 1 from rfl] <;> omega
  refine sf_mono (wt_bk_31 (τ := s6) (t := (τ 101 30).toInt.toNat - 1) (by omega) (by omega) (by rw [h7, up2_s, e7]; omega) (fun j i h => by rw [h7, wm_key, if_neg h]) F 0 (0 : Int32) s7 rfl (by omega) (by omega) (by rw [h7]; exact wx_put_X4_30 I6 (by omega) (by omega)) (fun _ _ _ => rfl) (fun p hp => by omega)) (fun r s h => ?_)
  obtain ⟨-, -, -, h3, h4⟩ := h
  have hr : ∀ j i, j < 101 ∨ (j = 101 ∧ (i = 15 ∨ i = 34 ∨ i = 18)) → s j i = τ j i := fun j i h => by
    rw [h3 j i (by omega) (fun q => by have := q.1; have := q.2; omega) (by omega) (fun p hp q => by have := wtJ_101 p hp; have := wtI_fld p hp; omega)]
    exact v6 j i (by omega)
  exact ⟨h4, fun k hk => funext fun i => hr k i (Or.inl hk), hr _ _ (by omega), hr _ _ (by omega), hr _ _ (by omega), ti_lo _, ti_hi _⟩
set_option maxHeartbeats 4000000 in
set_option maxRecDepth 100000 in
theorem sl_X4_paneOf_47 {F : Nat} (hF : 73786976294838206464 ≤ F) {x1 : Int32} {x2 : Int32} {τ : Mem} (x1_1 : 0 ≤ x1.toInt) (x1_2 : x1.toInt ≤ 5) (x2_1 : 0 ≤ x2.toInt) (x2_2 : x2.toInt ≤ 1) : ∀ (N : Nat) (x3 : Int32) (x4 : Int32) (σ : Mem), wiM σ → (∀ k, k < 101 → σ k = τ k) → σ 101 15 = τ 101 15 → σ 101 34 = τ 101 34 → σ 101 1 = τ 101 1 → σ 101 30 = τ 101 30 → σ 101 18 = τ 101 18 → 120 < x4.toInt + N → 0 ≤ x4.toInt → x4.toInt ≤ 120 → sf (lp_X4_paneOf_47 F x1 x2 N x3 x4 σ) (fun r s => wiM s ∧ (∀ k, k < 101 → s k = τ k) ∧ s 101 15 = τ 101 15 ∧ s 101 34 = τ 101 34 ∧ s 101 1 = τ 101 1 ∧ s 101 30 = τ 101 30 ∧ s 101 18 = τ 101 18 ∧ -2147483648 ≤ r.toInt ∧ r.toInt ≤ 2147483647) := by
  intro N
  induction N with
  | zero => intro x3 x4 σ hI Fσ Of15_σ Of34_σ Of1_σ Of30_σ Of18_σ hN x4_1 x4_2; exfalso; omega
  | succ N ih =>
    intro x3 x4 σ hI Fσ Of15_σ Of34_σ Of1_σ Of30_σ Of18_σ hN x4_1 x4_2
    rw [lp_X4_paneOf_47_s]
    have m1 := wx_X4_3 hI
    have t2 : ((24 : Int32) * (σ 101 3)).toInt = (24 : Int) * (σ 101 3).toInt := ti_mul (show -2147483648 ≤ (24 : Int) * (σ 101 3).toInt by omega) (show (24 : Int) * (σ 101 3).toInt ≤ 2147483647 by omega)
    refine sf_ite (fun c3 => ?_) (fun c3 => ?_)
    · have C3 : ((24 : Int32) * (σ 101 3)).toInt ≤ x4.toInt := ti_le c3
      refine sf_ite (fun c4 => ?_) (fun c4 => ?_)
      · have C4 : x2.toInt = (0 : Int) := ti_eq c4
        refine sf_chk (ti_in (by omega) (by omega)) ?_
        have v5 : Int32.toNatClampNeg x1 = x1.toInt.toNat := rfl
        have b6 := ti_lo (σ 103 (Int32.toNatClampNeg x1))
        have b7 := ti_hi (σ 103 (Int32.toNatClampNeg x1))
        exact sf_ret ⟨hI, Fσ, Of15_σ, Of34_σ, Of1_σ, Of30_σ, Of18_σ, ti_lo _, ti_hi _⟩
      have C4 : ¬ x2.toInt = (0 : Int) := ti_ne c4
      have b8 := ti_lo x3
      have b9 := ti_hi x3
      exact sf_ret ⟨hI, Fσ, Of15_σ, Of34_σ, Of1_σ, Of30_σ, Of18_σ, ti_lo _, ti_hi _⟩
    have C3 : x4.toInt < ((24 : Int32) * (σ 101 3)).toInt := ti_nle c3
    refine sf_chk (ti_in (by omega) (by omega)) ?_
    have v10 : Int32.toNatClampNeg x4 = x4.toInt.toNat := rfl
    have m11 := wx_106 hI (Int32.toNatClampNeg x4)
    refine sf_ite (fun c12 => ?_) (fun c12 => ?_)
    · have C12 : (σ 106 (Int32.toNatClampNeg x4)).toInt = x1.toInt := ti_eq c12
      rw [j_X4_paneOf_76_e]
      have b13 := ti_lo x3
      have b14 := ti_hi x3
      have b15 := ti_lo (x3 + (1 : Int32))
      have b16 := ti_hi (x3 + (1 : Int32))
      have t17 : (x4 + (1 : Int32)).toInt = x4.toInt + (1 : Int) := ti_add (show -2147483648 ≤ x4.toInt + (1 : Int) by omega) (show x4.toInt + (1 : Int) ≤ 2147483647 by omega)
      exact ih _ _ _ hI Fσ Of15_σ Of34_σ Of1_σ Of30_σ Of18_σ (by omega) (by omega) (by omega)
    have C12 : ¬ (σ 106 (Int32.toNatClampNeg x4)).toInt = x1.toInt := ti_ne c12
    rw [j_X4_paneOf_76_e]
    have b18 := ti_lo x3
    have b19 := ti_hi x3
    have t20 : (x3 + (0 : Int32)).toInt = x3.toInt + (0 : Int) := ti_add (show -2147483648 ≤ x3.toInt + (0 : Int) by omega) (show x3.toInt + (0 : Int) ≤ 2147483647 by omega)
    have t21 : (x4 + (1 : Int32)).toInt = x4.toInt + (1 : Int) := ti_add (show -2147483648 ≤ x4.toInt + (1 : Int) by omega) (show x4.toInt + (1 : Int) ≤ 2147483647 by omega)
    exact ih _ _ _ hI Fσ Of15_σ Of34_σ Of1_σ Of30_σ Of18_σ (by omega) (by omega) (by omega)
set_option maxHeartbeats 4000000 in
set_option maxRecDepth 100000 in
theorem s_X4_paneOf {F : Nat} (hF : 73786976294838206464 ≤ F) {x1 : Int32} {x2 : Int32} {τ : Mem} (hI : wiM τ) : sf (f_X4_paneOf F x1 x2 τ) (fun r s => wiM s ∧ (∀ k, k < 101 → s k = τ k) ∧ s 101 15 = τ 101 15 ∧ s 101 34 = τ 101 34 ∧ s 101 1 = τ 101 1 ∧ s 101 30 = τ 101 30 ∧ s 101 18 = τ 101 18 ∧ -2147483648 ≤ r.toInt ∧ r.toInt ≤ 2147483647) := by
  have Fτ : ∀ k, k < 101 → τ k = τ k := fun _ _ => rfl
  have Of15_τ : τ 101 15 = τ 101 15 := rfl
  have Of34_τ : τ 101 34 = τ 101 34 := rfl
  have Of1_τ : τ 101 1 = τ 101 1 := rfl
  have Of30_τ : τ 101 30 = τ 101 30 := rfl
  have Of18_τ : τ 101 18 = τ 101 18 := rfl
  rw [f_X4_paneOf_e]
  refine sf_lt (fun s1 hs1 => ?_)
  have Is1 : wiM s1 := by rw [hs1]; exact wm_fld hI (by decide) (by decide) (by decide) (by decide) (by decide) (by decide) (by decide)
  have Fs1 : ∀ k, k < 101 → s1 k = τ k := fun k hk => (show s1 k = τ k by rw [hs1, up2_k (by omega)]).trans (Fτ k hk)
  have Of15_s1 : s1 101 15 = τ 101 15 := (show s1 101 15 = τ 101 15 by rw [hs1, up2_i (by decide)]).trans Of15_τ
  have Of34_s1 : s1 101 34 = τ 101 34 := (show s1 101 34 = τ 101 34 by rw [hs1, up2_i (by decide)]).trans Of34_τ
  have Of1_s1 : s1 101 1 = τ 101 1 := (show s1 101 1 = τ 101 1 by rw [hs1, up2_i (by decide)]).trans Of1_τ
  have Of30_s1 : s1 101 30 = τ 101 30 := (show s1 101 30 = τ 101 30 by rw [hs1, up2_i (by decide)]).trans Of30_τ
  have Of18_s1 : s1 101 18 = τ 101 18 := (show s1 101 18 = τ 101 18 by rw [hs1, up2_i (by decide)]).trans Of18_τ
  have b2 := ti_lo x1
  have b3 := ti_hi x1
  refine sf_bnd (s_X4_isPane hF Is1) (fun r4 u5 p6 => ?_)
  obtain ⟨e9, p6⟩ := p6
  have e9 := e9.symm
  subst e9
  rcases p6 with ⟨rfl, q7, q8⟩ | p6
  · refine sf_ite (fun c9 => ?_) (fun c9 => ?_)
    · have C9 : (1 : Int) = (0 : Int) := ti_eq c9
      exfalso; omega
    have C9 : ¬ (1 : Int) = (0 : Int) := ti_ne c9
    refine sf_in ?_
    rw [f_X4_in_e]
    have b10 := ti_lo x2
    have b11 := ti_hi x2
    have b12 := ti_lo (lg_cmp (Int32.toInt64 x2) (0 : Int64))
    have b13 := ti_hi (lg_cmp (Int32.toInt64 x2) (0 : Int64))
    refine sf_ite (fun c14 => ?_) (fun c14 => ?_)
    · have C14 : (lg_cmp (Int32.toInt64 x2) (0 : Int64)).toInt < (0 : Int) := ti_lt c14
      have L14 : x2.toInt < (0 : Int) := by have q := lg_ltl c14; (repeat (rw [Int32.toInt_toInt64] at q)); exact q
      rw [j_X4_in_17_e]
      refine sf_ret ?_
      refine sf_ite (fun c15 => ?_) (fun c15 => ?_)
      · have C15 : (0 : Int) = (0 : Int) := ti_eq c15
        rw [j_X4_paneOf_23_e]
        refine sf_bnd (s_X4_isPane hF Is1) (fun r16 u17 p18 => ?_)
        obtain ⟨e9, p18⟩ := p18
        have e9 := e9.symm
        subst e9
        rcases p18 with ⟨rfl, q19, q20⟩ | p18
        · refine sf_ite (fun c21 => ?_) (fun c21 => ?_)
          · have C21 : (1 : Int) = (0 : Int) := ti_eq c21
            exfalso; omega
          have C21 : ¬ (1 : Int) = (0 : Int) := ti_ne c21
          rw [j_X4_paneOf_38_e]
          refine sf_bnd (s_X4_refuse hF Is1 (by decide) (by decide)) (fun r22 u23 p24 => ?_)
          obtain ⟨Iu23, Fu23_, Of15_u23_, Of34_u23_, Of1_u23_, Of30_u23_, Of18_u23_, p24_1, p24_2, p24_x0⟩ := p24
          have Fu23 : ∀ k, k < 101 → u23 k = τ k := fun k hk => (Fu23_ k hk).trans (Fs1 k hk)
          have Of15_u23 : u23 101 15 = τ 101 15 := Of15_u23_.trans Of15_s1
          have Of34_u23 : u23 101 34 = τ 101 34 := Of34_u23_.trans Of34_s1
          have Of1_u23 : u23 101 1 = τ 101 1 := Of1_u23_.trans Of1_s1
          have Of30_u23 : u23 101 30 = τ 101 30 := Of30_u23_.trans Of30_s1
          have Of18_u23 : u23 101 18 = τ 101 18 := Of18_u23_.trans Of18_s1
          replace p24_x0 : r22.toInt = (-2 : Int) := p24_x0
          exact sf_ret ⟨Iu23, Fu23, Of15_u23, Of34_u23, Of1_u23, Of30_u23, Of18_u23, ti_lo _, ti_hi _⟩
        obtain rfl := p18
        refine sf_ite (fun c25 => ?_) (fun c25 => ?_)
        · have C25 : (0 : Int) = (0 : Int) := ti_eq c25
          rw [j_X4_paneOf_38_e]
          refine sf_bnd (s_X4_refuse hF Is1 (by decide) (by decide)) (fun r26 u27 p28 => ?_)
          obtain ⟨Iu27, Fu27_, Of15_u27_, Of34_u27_, Of1_u27_, Of30_u27_, Of18_u27_, p28_1, p28_2, p28_x0⟩ := p28
          have Fu27 : ∀ k, k < 101 → u27 k = τ k := fun k hk => (Fu27_ k hk).trans (Fs1 k hk)
          have Of15_u27 : u27 101 15 = τ 101 15 := Of15_u27_.trans Of15_s1
          have Of34_u27 : u27 101 34 = τ 101 34 := Of34_u27_.trans Of34_s1
          have Of1_u27 : u27 101 1 = τ 101 1 := Of1_u27_.trans Of1_s1
          have Of30_u27 : u27 101 30 = τ 101 30 := Of30_u27_.trans Of30_s1
          have Of18_u27 : u27 101 18 = τ 101 18 := Of18_u27_.trans Of18_s1
          replace p28_x0 : r26.toInt = (-1 : Int) := p28_x0
          exact sf_ret ⟨Iu27, Fu27, Of15_u27, Of34_u27, Of1_u27, Of30_u27, Of18_u27, ti_lo _, ti_hi _⟩
        have C25 : ¬ (0 : Int) = (0 : Int) := ti_ne c25
        exfalso; omega
      have C15 : ¬ (0 : Int) = (0 : Int) := ti_ne c15
      exfalso; omega
    have C14 : (0 : Int) ≤ (lg_cmp (Int32.toInt64 x2) (0 : Int64)).toInt := ti_nlt c14
    have L14 : (0 : Int) ≤ x2.toInt := by have q := lg_ltln c14; (repeat (rw [Int32.toInt_toInt64] at q)); exact q
    have b29 := ti_lo (lg_cmp (Int32.toInt64 x2) (1 : Int64))
    have b30 := ti_hi (lg_cmp (Int32.toInt64 x2) (1 : Int64))
    refine sf_ite (fun c31 => ?_) (fun c31 => ?_)
    · have C31 : (0 : Int) < (lg_cmp (Int32.toInt64 x2) (1 : Int64)).toInt := ti_lt c31
      have L31 : (1 : Int) < x2.toInt := by have q := lg_ltr c31; (repeat (rw [Int32.toInt_toInt64] at q)); exact q
      rw [j_X4_in_17_e]
      refine sf_ret ?_
      refine sf_ite (fun c32 => ?_) (fun c32 => ?_)
      · have C32 : (0 : Int) = (0 : Int) := ti_eq c32
        rw [j_X4_paneOf_23_e]
        refine sf_bnd (s_X4_isPane hF Is1) (fun r33 u34 p35 => ?_)
        obtain ⟨e9, p35⟩ := p35
        have e9 := e9.symm
        subst e9
        rcases p35 with ⟨rfl, q36, q37⟩ | p35
        · refine sf_ite (fun c38 => ?_) (fun c38 => ?_)
          · have C38 : (1 : Int) = (0 : Int) := ti_eq c38
            exfalso; omega
          have C38 : ¬ (1 : Int) = (0 : Int) := ti_ne c38
          rw [j_X4_paneOf_38_e]
          refine sf_bnd (s_X4_refuse hF Is1 (by decide) (by decide)) (fun r39 u40 p41 => ?_)
          obtain ⟨Iu40, Fu40_, Of15_u40_, Of34_u40_, Of1_u40_, Of30_u40_, Of18_u40_, p41_1, p41_2, p41_x0⟩ := p41
          have Fu40 : ∀ k, k < 101 → u40 k = τ k := fun k hk => (Fu40_ k hk).trans (Fs1 k hk)
          have Of15_u40 : u40 101 15 = τ 101 15 := Of15_u40_.trans Of15_s1
          have Of34_u40 : u40 101 34 = τ 101 34 := Of34_u40_.trans Of34_s1
          have Of1_u40 : u40 101 1 = τ 101 1 := Of1_u40_.trans Of1_s1
          have Of30_u40 : u40 101 30 = τ 101 30 := Of30_u40_.trans Of30_s1
          have Of18_u40 : u40 101 18 = τ 101 18 := Of18_u40_.trans Of18_s1
          replace p41_x0 : r39.toInt = (-2 : Int) := p41_x0
          exact sf_ret ⟨Iu40, Fu40, Of15_u40, Of34_u40, Of1_u40, Of30_u40, Of18_u40, ti_lo _, ti_hi _⟩
        obtain rfl := p35
        refine sf_ite (fun c42 => ?_) (fun c42 => ?_)
        · have C42 : (0 : Int) = (0 : Int) := ti_eq c42
          rw [j_X4_paneOf_38_e]
          refine sf_bnd (s_X4_refuse hF Is1 (by decide) (by decide)) (fun r43 u44 p45 => ?_)
          obtain ⟨Iu44, Fu44_, Of15_u44_, Of34_u44_, Of1_u44_, Of30_u44_, Of18_u44_, p45_1, p45_2, p45_x0⟩ := p45
          have Fu44 : ∀ k, k < 101 → u44 k = τ k := fun k hk => (Fu44_ k hk).trans (Fs1 k hk)
          have Of15_u44 : u44 101 15 = τ 101 15 := Of15_u44_.trans Of15_s1
          have Of34_u44 : u44 101 34 = τ 101 34 := Of34_u44_.trans Of34_s1
          have Of1_u44 : u44 101 1 = τ 101 1 := Of1_u44_.trans Of1_s1
          have Of30_u44 : u44 101 30 = τ 101 30 := Of30_u44_.trans Of30_s1
          have Of18_u44 : u44 101 18 = τ 101 18 := Of18_u44_.trans Of18_s1
          replace p45_x0 : r43.toInt = (-1 : Int) := p45_x0
          exact sf_ret ⟨Iu44, Fu44, Of15_u44, Of34_u44, Of1_u44, Of30_u44, Of18_u44, ti_lo _, ti_hi _⟩
        have C42 : ¬ (0 : Int) = (0 : Int) := ti_ne c42
        exfalso; omega
      have C32 : ¬ (0 : Int) = (0 : Int) := ti_ne c32
      exfalso; omega
    have C31 : (lg_cmp (Int32.toInt64 x2) (1 : Int64)).toInt ≤ (0 : Int) := ti_nlt c31
    have L31 : x2.toInt ≤ (1 : Int) := by have q := lg_ltrn c31; (repeat (rw [Int32.toInt_toInt64] at q)); exact q
    refine sf_ret ?_
    refine sf_ite (fun c46 => ?_) (fun c46 => ?_)
    · have C46 : (1 : Int) = (0 : Int) := ti_eq c46
      exfalso; omega
    have C46 : ¬ (1 : Int) = (0 : Int) := ti_ne c46
    have l_0 : (0 : Int32).toInt = 0 := rfl
    exact sl_X4_paneOf_47 hF (by omega) (by omega) (by omega) (by omega) _ _ _ _ Is1 Fs1 Of15_s1 Of34_s1 Of1_s1 Of30_s1 Of18_s1 (by omega) (by decide) (by decide)
  obtain rfl := p6
  refine sf_ite (fun c47 => ?_) (fun c47 => ?_)
  · have C47 : (0 : Int) = (0 : Int) := ti_eq c47
    rw [j_X4_paneOf_23_e]
    refine sf_bnd (s_X4_isPane hF Is1) (fun r48 u49 p50 => ?_)
    obtain ⟨e9, p50⟩ := p50
    have e9 := e9.symm
    subst e9
    rcases p50 with ⟨rfl, q51, q52⟩ | p50
    · refine sf_ite (fun c53 => ?_) (fun c53 => ?_)
      · have C53 : (1 : Int) = (0 : Int) := ti_eq c53
        exfalso; omega
      have C53 : ¬ (1 : Int) = (0 : Int) := ti_ne c53
      rw [j_X4_paneOf_38_e]
      refine sf_bnd (s_X4_refuse hF Is1 (by decide) (by decide)) (fun r54 u55 p56 => ?_)
      obtain ⟨Iu55, Fu55_, Of15_u55_, Of34_u55_, Of1_u55_, Of30_u55_, Of18_u55_, p56_1, p56_2, p56_x0⟩ := p56
      have Fu55 : ∀ k, k < 101 → u55 k = τ k := fun k hk => (Fu55_ k hk).trans (Fs1 k hk)
      have Of15_u55 : u55 101 15 = τ 101 15 := Of15_u55_.trans Of15_s1
      have Of34_u55 : u55 101 34 = τ 101 34 := Of34_u55_.trans Of34_s1
      have Of1_u55 : u55 101 1 = τ 101 1 := Of1_u55_.trans Of1_s1
      have Of30_u55 : u55 101 30 = τ 101 30 := Of30_u55_.trans Of30_s1
      have Of18_u55 : u55 101 18 = τ 101 18 := Of18_u55_.trans Of18_s1
      replace p56_x0 : r54.toInt = (-2 : Int) := p56_x0
      exact sf_ret ⟨Iu55, Fu55, Of15_u55, Of34_u55, Of1_u55, Of30_u55, Of18_u55, ti_lo _, ti_hi _⟩
    obtain rfl := p50
    refine sf_ite (fun c57 => ?_) (fun c57 => ?_)
    · have C57 : (0 : Int) = (0 : Int) := ti_eq c57
      rw [j_X4_paneOf_38_e]
      refine sf_bnd (s_X4_refuse hF Is1 (by decide) (by decide)) (fun r58 u59 p60 => ?_)
      obtain ⟨Iu59, Fu59_, Of15_u59_, Of34_u59_, Of1_u59_, Of30_u59_, Of18_u59_, p60_1, p60_2, p60_x0⟩ := p60
      have Fu59 : ∀ k, k < 101 → u59 k = τ k := fun k hk => (Fu59_ k hk).trans (Fs1 k hk)
      have Of15_u59 : u59 101 15 = τ 101 15 := Of15_u59_.trans Of15_s1
      have Of34_u59 : u59 101 34 = τ 101 34 := Of34_u59_.trans Of34_s1
      have Of1_u59 : u59 101 1 = τ 101 1 := Of1_u59_.trans Of1_s1
      have Of30_u59 : u59 101 30 = τ 101 30 := Of30_u59_.trans Of30_s1
      have Of18_u59 : u59 101 18 = τ 101 18 := Of18_u59_.trans Of18_s1
      replace p60_x0 : r58.toInt = (-1 : Int) := p60_x0
      exact sf_ret ⟨Iu59, Fu59, Of15_u59, Of34_u59, Of1_u59, Of30_u59, Of18_u59, ti_lo _, ti_hi _⟩
    have C57 : ¬ (0 : Int) = (0 : Int) := ti_ne c57
    exfalso; omega
  have C47 : ¬ (0 : Int) = (0 : Int) := ti_ne c47
  exfalso; omega
set_option maxHeartbeats 4000000 in
set_option maxRecDepth 100000 in
theorem s_X4_lookerOf {F : Nat} (hF : 73786976294838206464 ≤ F) {x1 : Int32} {x2 : Int32} {τ : Mem} (hI : wiM τ) : sf (f_X4_lookerOf F x1 x2 τ) (fun r s => wiM s ∧ (∀ k, k < 101 → s k = τ k) ∧ s 101 15 = τ 101 15 ∧ s 101 34 = τ 101 34 ∧ s 101 1 = τ 101 1 ∧ s 101 30 = τ 101 30 ∧ s 101 18 = τ 101 18 ∧ -2147483648 ≤ r.toInt ∧ r.toInt ≤ 2147483647) := by
  have Fτ : ∀ k, k < 101 → τ k = τ k := fun _ _ => rfl
  have Of15_τ : τ 101 15 = τ 101 15 := rfl
  have Of34_τ : τ 101 34 = τ 101 34 := rfl
  have Of1_τ : τ 101 1 = τ 101 1 := rfl
  have Of30_τ : τ 101 30 = τ 101 30 := rfl
  have Of18_τ : τ 101 18 = τ 101 18 := rfl
  rw [f_X4_lookerOf_e]
  refine sf_lt (fun s1 hs1 => ?_)
  have Is1 : wiM s1 := by rw [hs1]; exact wm_fld hI (by decide) (by decide) (by decide) (by decide) (by decide) (by decide) (by decide)
  have Fs1 : ∀ k, k < 101 → s1 k = τ k := fun k hk => (show s1 k = τ k by rw [hs1, up2_k (by omega)]).trans (Fτ k hk)
  have Of15_s1 : s1 101 15 = τ 101 15 := (show s1 101 15 = τ 101 15 by rw [hs1, up2_i (by decide)]).trans Of15_τ
  have Of34_s1 : s1 101 34 = τ 101 34 := (show s1 101 34 = τ 101 34 by rw [hs1, up2_i (by decide)]).trans Of34_τ
  have Of1_s1 : s1 101 1 = τ 101 1 := (show s1 101 1 = τ 101 1 by rw [hs1, up2_i (by decide)]).trans Of1_τ
  have Of30_s1 : s1 101 30 = τ 101 30 := (show s1 101 30 = τ 101 30 by rw [hs1, up2_i (by decide)]).trans Of30_τ
  have Of18_s1 : s1 101 18 = τ 101 18 := (show s1 101 18 = τ 101 18 by rw [hs1, up2_i (by decide)]).trans Of18_τ
  have b2 := ti_lo x1
  have b3 := ti_hi x1
  refine sf_bnd (s_X4_isLooker hF Is1) (fun r4 u5 p6 => ?_)
  obtain ⟨e9, p6⟩ := p6
  have e9 := e9.symm
  subst e9
  rcases p6 with ⟨rfl, q7, q8⟩ | p6
  · refine sf_ite (fun c9 => ?_) (fun c9 => ?_)
    · have C9 : (1 : Int) = (0 : Int) := ti_eq c9
      exfalso; omega
    have C9 : ¬ (1 : Int) = (0 : Int) := ti_ne c9
    refine sf_in ?_
    rw [f_X4_in_e]
    have b10 := ti_lo x2
    have b11 := ti_hi x2
    have b12 := ti_lo (lg_cmp (Int32.toInt64 x2) (0 : Int64))
    have b13 := ti_hi (lg_cmp (Int32.toInt64 x2) (0 : Int64))
    refine sf_ite (fun c14 => ?_) (fun c14 => ?_)
    · have C14 : (lg_cmp (Int32.toInt64 x2) (0 : Int64)).toInt < (0 : Int) := ti_lt c14
      have L14 : x2.toInt < (0 : Int) := by have q := lg_ltl c14; (repeat (rw [Int32.toInt_toInt64] at q)); exact q
      rw [j_X4_in_17_e]
      refine sf_ret ?_
      refine sf_ite (fun c15 => ?_) (fun c15 => ?_)
      · have C15 : (0 : Int) = (0 : Int) := ti_eq c15
        rw [j_X4_lookerOf_25_e]
        refine sf_bnd (s_X4_isLooker hF Is1) (fun r16 u17 p18 => ?_)
        obtain ⟨e9, p18⟩ := p18
        have e9 := e9.symm
        subst e9
        rcases p18 with ⟨rfl, q19, q20⟩ | p18
        · refine sf_ite (fun c21 => ?_) (fun c21 => ?_)
          · have C21 : (1 : Int) = (0 : Int) := ti_eq c21
            exfalso; omega
          have C21 : ¬ (1 : Int) = (0 : Int) := ti_ne c21
          rw [j_X4_lookerOf_40_e]
          refine sf_bnd (s_X4_refuse hF Is1 (by decide) (by decide)) (fun r22 u23 p24 => ?_)
          obtain ⟨Iu23, Fu23_, Of15_u23_, Of34_u23_, Of1_u23_, Of30_u23_, Of18_u23_, p24_1, p24_2, p24_x0⟩ := p24
          have Fu23 : ∀ k, k < 101 → u23 k = τ k := fun k hk => (Fu23_ k hk).trans (Fs1 k hk)
          have Of15_u23 : u23 101 15 = τ 101 15 := Of15_u23_.trans Of15_s1
          have Of34_u23 : u23 101 34 = τ 101 34 := Of34_u23_.trans Of34_s1
          have Of1_u23 : u23 101 1 = τ 101 1 := Of1_u23_.trans Of1_s1
          have Of30_u23 : u23 101 30 = τ 101 30 := Of30_u23_.trans Of30_s1
          have Of18_u23 : u23 101 18 = τ 101 18 := Of18_u23_.trans Of18_s1
          replace p24_x0 : r22.toInt = (-2 : Int) := p24_x0
          exact sf_ret ⟨Iu23, Fu23, Of15_u23, Of34_u23, Of1_u23, Of30_u23, Of18_u23, ti_lo _, ti_hi _⟩
        obtain rfl := p18
        refine sf_ite (fun c25 => ?_) (fun c25 => ?_)
        · have C25 : (0 : Int) = (0 : Int) := ti_eq c25
          rw [j_X4_lookerOf_40_e]
          refine sf_bnd (s_X4_refuse hF Is1 (by decide) (by decide)) (fun r26 u27 p28 => ?_)
          obtain ⟨Iu27, Fu27_, Of15_u27_, Of34_u27_, Of1_u27_, Of30_u27_, Of18_u27_, p28_1, p28_2, p28_x0⟩ := p28
          have Fu27 : ∀ k, k < 101 → u27 k = τ k := fun k hk => (Fu27_ k hk).trans (Fs1 k hk)
          have Of15_u27 : u27 101 15 = τ 101 15 := Of15_u27_.trans Of15_s1
          have Of34_u27 : u27 101 34 = τ 101 34 := Of34_u27_.trans Of34_s1
          have Of1_u27 : u27 101 1 = τ 101 1 := Of1_u27_.trans Of1_s1
          have Of30_u27 : u27 101 30 = τ 101 30 := Of30_u27_.trans Of30_s1
          have Of18_u27 : u27 101 18 = τ 101 18 := Of18_u27_.trans Of18_s1
          replace p28_x0 : r26.toInt = (-1 : Int) := p28_x0
          exact sf_ret ⟨Iu27, Fu27, Of15_u27, Of34_u27, Of1_u27, Of30_u27, Of18_u27, ti_lo _, ti_hi _⟩
        have C25 : ¬ (0 : Int) = (0 : Int) := ti_ne c25
        exfalso; omega
      have C15 : ¬ (0 : Int) = (0 : Int) := ti_ne c15
      exfalso; omega
    have C14 : (0 : Int) ≤ (lg_cmp (Int32.toInt64 x2) (0 : Int64)).toInt := ti_nlt c14
    have L14 : (0 : Int) ≤ x2.toInt := by have q := lg_ltln c14; (repeat (rw [Int32.toInt_toInt64] at q)); exact q
    have b29 := ti_lo (lg_cmp (Int32.toInt64 x2) (3 : Int64))
    have b30 := ti_hi (lg_cmp (Int32.toInt64 x2) (3 : Int64))
    refine sf_ite (fun c31 => ?_) (fun c31 => ?_)
    · have C31 : (0 : Int) < (lg_cmp (Int32.toInt64 x2) (3 : Int64)).toInt := ti_lt c31
      have L31 : (3 : Int) < x2.toInt := by have q := lg_ltr c31; (repeat (rw [Int32.toInt_toInt64] at q)); exact q
      rw [j_X4_in_17_e]
      refine sf_ret ?_
      refine sf_ite (fun c32 => ?_) (fun c32 => ?_)
      · have C32 : (0 : Int) = (0 : Int) := ti_eq c32
        rw [j_X4_lookerOf_25_e]
        refine sf_bnd (s_X4_isLooker hF Is1) (fun r33 u34 p35 => ?_)
        obtain ⟨e9, p35⟩ := p35
        have e9 := e9.symm
        subst e9
        rcases p35 with ⟨rfl, q36, q37⟩ | p35
        · refine sf_ite (fun c38 => ?_) (fun c38 => ?_)
          · have C38 : (1 : Int) = (0 : Int) := ti_eq c38
            exfalso; omega
          have C38 : ¬ (1 : Int) = (0 : Int) := ti_ne c38
          rw [j_X4_lookerOf_40_e]
          refine sf_bnd (s_X4_refuse hF Is1 (by decide) (by decide)) (fun r39 u40 p41 => ?_)
          obtain ⟨Iu40, Fu40_, Of15_u40_, Of34_u40_, Of1_u40_, Of30_u40_, Of18_u40_, p41_1, p41_2, p41_x0⟩ := p41
          have Fu40 : ∀ k, k < 101 → u40 k = τ k := fun k hk => (Fu40_ k hk).trans (Fs1 k hk)
          have Of15_u40 : u40 101 15 = τ 101 15 := Of15_u40_.trans Of15_s1
          have Of34_u40 : u40 101 34 = τ 101 34 := Of34_u40_.trans Of34_s1
          have Of1_u40 : u40 101 1 = τ 101 1 := Of1_u40_.trans Of1_s1
          have Of30_u40 : u40 101 30 = τ 101 30 := Of30_u40_.trans Of30_s1
          have Of18_u40 : u40 101 18 = τ 101 18 := Of18_u40_.trans Of18_s1
          replace p41_x0 : r39.toInt = (-2 : Int) := p41_x0
          exact sf_ret ⟨Iu40, Fu40, Of15_u40, Of34_u40, Of1_u40, Of30_u40, Of18_u40, ti_lo _, ti_hi _⟩
        obtain rfl := p35
        refine sf_ite (fun c42 => ?_) (fun c42 => ?_)
        · have C42 : (0 : Int) = (0 : Int) := ti_eq c42
          rw [j_X4_lookerOf_40_e]
          refine sf_bnd (s_X4_refuse hF Is1 (by decide) (by decide)) (fun r43 u44 p45 => ?_)
          obtain ⟨Iu44, Fu44_, Of15_u44_, Of34_u44_, Of1_u44_, Of30_u44_, Of18_u44_, p45_1, p45_2, p45_x0⟩ := p45
          have Fu44 : ∀ k, k < 101 → u44 k = τ k := fun k hk => (Fu44_ k hk).trans (Fs1 k hk)
          have Of15_u44 : u44 101 15 = τ 101 15 := Of15_u44_.trans Of15_s1
          have Of34_u44 : u44 101 34 = τ 101 34 := Of34_u44_.trans Of34_s1
          have Of1_u44 : u44 101 1 = τ 101 1 := Of1_u44_.trans Of1_s1
          have Of30_u44 : u44 101 30 = τ 101 30 := Of30_u44_.trans Of30_s1
          have Of18_u44 : u44 101 18 = τ 101 18 := Of18_u44_.trans Of18_s1
          replace p45_x0 : r43.toInt = (-1 : Int) := p45_x0
          exact sf_ret ⟨Iu44, Fu44, Of15_u44, Of34_u44, Of1_u44, Of30_u44, Of18_u44, ti_lo _, ti_hi _⟩
        have C42 : ¬ (0 : Int) = (0 : Int) := ti_ne c42
        exfalso; omega
      have C32 : ¬ (0 : Int) = (0 : Int) := ti_ne c32
      exfalso; omega
    have C31 : (lg_cmp (Int32.toInt64 x2) (3 : Int64)).toInt ≤ (0 : Int) := ti_nlt c31
    have L31 : x2.toInt ≤ (3 : Int) := by have q := lg_ltrn c31; (repeat (rw [Int32.toInt_toInt64] at q)); exact q
    refine sf_ret ?_
    refine sf_ite (fun c46 => ?_) (fun c46 => ?_)
    · have C46 : (1 : Int) = (0 : Int) := ti_eq c46
      exfalso; omega
    have C46 : ¬ (1 : Int) = (0 : Int) := ti_ne c46
    refine sf_bnd (s_X4_layBrings hF Is1) (fun r47 u48 p49 => ?_)
    obtain ⟨Iu48, Fu48_, Of15_u48_, Of34_u48_, Of1_u48_, Of30_u48_, Of18_u48_, -⟩ := p49
    have Fu48 : ∀ k, k < 101 → u48 k = τ k := fun k hk => (Fu48_ k hk).trans (Fs1 k hk)
    have Of15_u48 : u48 101 15 = τ 101 15 := Of15_u48_.trans Of15_s1
    have Of34_u48 : u48 101 34 = τ 101 34 := Of34_u48_.trans Of34_s1
    have Of1_u48 : u48 101 1 = τ 101 1 := Of1_u48_.trans Of1_s1
    have Of30_u48 : u48 101 30 = τ 101 30 := Of30_u48_.trans Of30_s1
    have Of18_u48 : u48 101 18 = τ 101 18 := Of18_u48_.trans Of18_s1
    refine sf_ite (fun c50 => ?_) (fun c50 => ?_)
    · have C50 : x2.toInt = (0 : Int) := ti_eq c50
      refine sf_chk (ti_in (by omega) (by omega)) ?_
      have v51 : Int32.toNatClampNeg x1 = x1.toInt.toNat := rfl
      have b52 := ti_lo (u48 104 (Int32.toNatClampNeg x1))
      have b53 := ti_hi (u48 104 (Int32.toNatClampNeg x1))
      exact sf_ret ⟨Iu48, Fu48, Of15_u48, Of34_u48, Of1_u48, Of30_u48, Of18_u48, ti_lo _, ti_hi _⟩
    have C50 : ¬ x2.toInt = (0 : Int) := ti_ne c50
    refine sf_ite (fun c54 => ?_) (fun c54 => ?_)
    · have C54 : x2.toInt = (1 : Int) := ti_eq c54
      refine sf_chk (ti_in (by omega) (by omega)) ?_
      have v55 : Int32.toNatClampNeg x1 = x1.toInt.toNat := rfl
      have b56 := ti_lo (u48 105 (Int32.toNatClampNeg x1))
      have b57 := ti_hi (u48 105 (Int32.toNatClampNeg x1))
      exact sf_ret ⟨Iu48, Fu48, Of15_u48, Of34_u48, Of1_u48, Of30_u48, Of18_u48, ti_lo _, ti_hi _⟩
    have C54 : ¬ x2.toInt = (1 : Int) := ti_ne c54
    refine sf_ite (fun c58 => ?_) (fun c58 => ?_)
    · have C58 : x2.toInt = (2 : Int) := ti_eq c58
      refine sf_bnd (s_X4_hoursOf hF Iu48 (by omega) (by omega)) (fun r59 u60 p61 => ?_)
      obtain ⟨e9, p61_1, p61_2⟩ := p61
      have e9 := e9.symm
      subst e9
      have b62 := ti_lo r59
      have b63 := ti_hi r59
      exact sf_ret ⟨Iu48, Fu48, Of15_u48, Of34_u48, Of1_u48, Of30_u48, Of18_u48, ti_lo _, ti_hi _⟩
    have C58 : ¬ x2.toInt = (2 : Int) := ti_ne c58
    refine sf_bnd (s_X4_viewsIn hF Iu48 (by omega) (by omega) (by decide) (by decide)) (fun r64 u65 p66 => ?_)
    obtain ⟨Iu65, Fu65_, Of15_u65_, Of34_u65_, Of1_u65_, Of30_u65_, Of18_u65_, p66_1, p66_2⟩ := p66
    have Fu65 : ∀ k, k < 101 → u65 k = τ k := fun k hk => (Fu65_ k hk).trans (Fu48 k hk)
    have Of15_u65 : u65 101 15 = τ 101 15 := Of15_u65_.trans Of15_u48
    have Of34_u65 : u65 101 34 = τ 101 34 := Of34_u65_.trans Of34_u48
    have Of1_u65 : u65 101 1 = τ 101 1 := Of1_u65_.trans Of1_u48
    have Of30_u65 : u65 101 30 = τ 101 30 := Of30_u65_.trans Of30_u48
    have Of18_u65 : u65 101 18 = τ 101 18 := Of18_u65_.trans Of18_u48
    have b67 := ti_lo r64
    have b68 := ti_hi r64
    exact sf_ret ⟨Iu65, Fu65, Of15_u65, Of34_u65, Of1_u65, Of30_u65, Of18_u65, ti_lo _, ti_hi _⟩
  obtain rfl := p6
  refine sf_ite (fun c69 => ?_) (fun c69 => ?_)
  · have C69 : (0 : Int) = (0 : Int) := ti_eq c69
    rw [j_X4_lookerOf_25_e]
    refine sf_bnd (s_X4_isLooker hF Is1) (fun r70 u71 p72 => ?_)
    obtain ⟨e9, p72⟩ := p72
    have e9 := e9.symm
    subst e9
    rcases p72 with ⟨rfl, q73, q74⟩ | p72
    · refine sf_ite (fun c75 => ?_) (fun c75 => ?_)
      · have C75 : (1 : Int) = (0 : Int) := ti_eq c75
        exfalso; omega
      have C75 : ¬ (1 : Int) = (0 : Int) := ti_ne c75
      rw [j_X4_lookerOf_40_e]
      refine sf_bnd (s_X4_refuse hF Is1 (by decide) (by decide)) (fun r76 u77 p78 => ?_)
      obtain ⟨Iu77, Fu77_, Of15_u77_, Of34_u77_, Of1_u77_, Of30_u77_, Of18_u77_, p78_1, p78_2, p78_x0⟩ := p78
      have Fu77 : ∀ k, k < 101 → u77 k = τ k := fun k hk => (Fu77_ k hk).trans (Fs1 k hk)
      have Of15_u77 : u77 101 15 = τ 101 15 := Of15_u77_.trans Of15_s1
      have Of34_u77 : u77 101 34 = τ 101 34 := Of34_u77_.trans Of34_s1
      have Of1_u77 : u77 101 1 = τ 101 1 := Of1_u77_.trans Of1_s1
      have Of30_u77 : u77 101 30 = τ 101 30 := Of30_u77_.trans Of30_s1
      have Of18_u77 : u77 101 18 = τ 101 18 := Of18_u77_.trans Of18_s1
      replace p78_x0 : r76.toInt = (-2 : Int) := p78_x0
      exact sf_ret ⟨Iu77, Fu77, Of15_u77, Of34_u77, Of1_u77, Of30_u77, Of18_u77, ti_lo _, ti_hi _⟩
    obtain rfl := p72
    refine sf_ite (fun c79 => ?_) (fun c79 => ?_)
    · have C79 : (0 : Int) = (0 : Int) := ti_eq c79
      rw [j_X4_lookerOf_40_e]
      refine sf_bnd (s_X4_refuse hF Is1 (by decide) (by decide)) (fun r80 u81 p82 => ?_)
      obtain ⟨Iu81, Fu81_, Of15_u81_, Of34_u81_, Of1_u81_, Of30_u81_, Of18_u81_, p82_1, p82_2, p82_x0⟩ := p82
      have Fu81 : ∀ k, k < 101 → u81 k = τ k := fun k hk => (Fu81_ k hk).trans (Fs1 k hk)
      have Of15_u81 : u81 101 15 = τ 101 15 := Of15_u81_.trans Of15_s1
      have Of34_u81 : u81 101 34 = τ 101 34 := Of34_u81_.trans Of34_s1
      have Of1_u81 : u81 101 1 = τ 101 1 := Of1_u81_.trans Of1_s1
      have Of30_u81 : u81 101 30 = τ 101 30 := Of30_u81_.trans Of30_s1
      have Of18_u81 : u81 101 18 = τ 101 18 := Of18_u81_.trans Of18_s1
      replace p82_x0 : r80.toInt = (-1 : Int) := p82_x0
      exact sf_ret ⟨Iu81, Fu81, Of15_u81, Of34_u81, Of1_u81, Of30_u81, Of18_u81, ti_lo _, ti_hi _⟩
    have C79 : ¬ (0 : Int) = (0 : Int) := ti_ne c79
    exfalso; omega
  have C69 : ¬ (0 : Int) = (0 : Int) := ti_ne c69
  exfalso; omega
set_option maxHeartbeats 4000000 in
set_option maxRecDepth 100000 in
theorem s_X4_pane {F : Nat} (hF : 73786976294838206464 ≤ F) {x1 : Int32} {τ : Mem} (hI : wiM τ) : sf (f_X4_pane F x1 τ) (fun r s => wiM s ∧ (∀ k, k < 101 → s k = τ k) ∧ s 101 15 = τ 101 15 ∧ s 101 34 = τ 101 34 ∧ s 101 18 = τ 101 18 ∧ -2147483648 ≤ r.toInt ∧ r.toInt ≤ 2147483647) := by
  have Fτ : ∀ k, k < 101 → τ k = τ k := fun _ _ => rfl
  have Of15_τ : τ 101 15 = τ 101 15 := rfl
  have Of34_τ : τ 101 34 = τ 101 34 := rfl
  have Of1_τ : τ 101 1 = τ 101 1 := rfl
  have Of30_τ : τ 101 30 = τ 101 30 := rfl
  have Of18_τ : τ 101 18 = τ 101 18 := rfl
  rw [f_X4_pane_e]
  refine sf_lt (fun s1 hs1 => ?_)
  have Is1 : wiM s1 := by rw [hs1]; exact wm_fld hI (by decide) (by decide) (by decide) (by decide) (by decide) (by decide) (by decide)
  have Fs1 : ∀ k, k < 101 → s1 k = τ k := fun k hk => (show s1 k = τ k by rw [hs1, up2_k (by omega)]).trans (Fτ k hk)
  have Of15_s1 : s1 101 15 = τ 101 15 := (show s1 101 15 = τ 101 15 by rw [hs1, up2_i (by decide)]).trans Of15_τ
  have Of34_s1 : s1 101 34 = τ 101 34 := (show s1 101 34 = τ 101 34 by rw [hs1, up2_i (by decide)]).trans Of34_τ
  have Of1_s1 : s1 101 1 = τ 101 1 := (show s1 101 1 = τ 101 1 by rw [hs1, up2_i (by decide)]).trans Of1_τ
  have Of30_s1 : s1 101 30 = τ 101 30 := (show s1 101 30 = τ 101 30 by rw [hs1, up2_i (by decide)]).trans Of30_τ
  have Of18_s1 : s1 101 18 = τ 101 18 := (show s1 101 18 = τ 101 18 by rw [hs1, up2_i (by decide)]).trans Of18_τ
  refine sf_in ?_
  rw [f_X4_wrongNumber_e]
  have b2 := ti_lo x1
  have b3 := ti_hi x1
  refine sf_ite (fun c4 => ?_) (fun c4 => ?_)
  · have C4 : (0 : Int) ≤ x1.toInt := ti_le c4
    refine sf_ite (fun c5 => ?_) (fun c5 => ?_)
    · have C5 : x1.toInt ≤ (255 : Int) := ti_le c5
      refine sf_ret ?_
      refine sf_ite (fun c6 => ?_) (fun c6 => ?_)
      · have C6 : (0 : Int) = (0 : Int) := ti_eq c6
        have m7 := wx_X4_1 Is1
        have m8 := wx_X4_1 hI
        have e9 : (s1 101 1).toInt = (τ 101 1).toInt := congrArg Int32.toInt (by rw [hs1, up2_i (by decide)])
        refine sf_ite (fun c10 => ?_) (fun c10 => ?_)
        · have C10 : (s1 101 1).toInt = (6 : Int) := ti_eq c10
          rw [j_X4_pane_33_e]
          refine sf_ite (fun c11 => ?_) (fun c11 => ?_)
          · have C11 : (0 : Int) ≤ (-6 : Int) := ti_le c11
            exfalso; omega
          have C11 : (-6 : Int) < (0 : Int) := ti_nle c11
          refine sf_bnd (s_X4_refuse hF Is1 (by decide) (by decide)) (fun r12 u13 p14 => ?_)
          obtain ⟨Iu13, Fu13_, Of15_u13_, Of34_u13_, Of1_u13_, Of30_u13_, Of18_u13_, p14_1, p14_2, p14_x0⟩ := p14
          have Fu13 : ∀ k, k < 101 → u13 k = τ k := fun k hk => (Fu13_ k hk).trans (Fs1 k hk)
          have Of15_u13 : u13 101 15 = τ 101 15 := Of15_u13_.trans Of15_s1
          have Of34_u13 : u13 101 34 = τ 101 34 := Of34_u13_.trans Of34_s1
          have Of1_u13 : u13 101 1 = τ 101 1 := Of1_u13_.trans Of1_s1
          have Of30_u13 : u13 101 30 = τ 101 30 := Of30_u13_.trans Of30_s1
          have Of18_u13 : u13 101 18 = τ 101 18 := Of18_u13_.trans Of18_s1
          replace p14_x0 : r12.toInt = (-6 : Int) := p14_x0
          exact sf_ret ⟨Iu13, Fu13, Of15_u13, Of34_u13, Of18_u13, ti_lo _, ti_hi _⟩
        have C10 : ¬ (s1 101 1).toInt = (6 : Int) := ti_ne c10
        rw [j_X4_pane_32_e]
        rw [j_X4_pane_33_e]
        refine sf_ite (fun c15 => ?_) (fun c15 => ?_)
        · have C15 : (0 : Int) ≤ (0 : Int) := ti_le c15
          refine sf_chk (ti_in (by omega) (by omega)) ?_
          have v16 : Int32.toNatClampNeg (s1 101 1) = (s1 101 1).toInt.toNat := rfl
          refine sf_lt (fun s17 hs17 => ?_)
          have Is17 : wiM s17 := by rw [hs17]; exact wm_oth Is1 (by decide) (by decide) (by decide) (by decide)
          have Fs17 : ∀ k, k < 101 → s17 k = τ k := fun k hk => (show s17 k = s1 k by rw [hs17, up2_k (by omega)]).trans (Fs1 k hk)
          have Of15_s17 : s17 101 15 = τ 101 15 := (show s17 101 15 = s1 101 15 by rw [hs17, up2_k (by omega)]).trans Of15_s1
          have Of34_s17 : s17 101 34 = τ 101 34 := (show s17 101 34 = s1 101 34 by rw [hs17, up2_k (by omega)]).trans Of34_s1
          have Of1_s17 : s17 101 1 = τ 101 1 := (show s17 101 1 = s1 101 1 by rw [hs17, up2_k (by omega)]).trans Of1_s1
          have Of30_s17 : s17 101 30 = τ 101 30 := (show s17 101 30 = s1 101 30 by rw [hs17, up2_k (by omega)]).trans Of30_s1
          have Of18_s17 : s17 101 18 = τ 101 18 := (show s17 101 18 = s1 101 18 by rw [hs17, up2_k (by omega)]).trans Of18_s1
          refine sf_lt (fun s18 hs18 => ?_)
          have m19 := wx_X4_1 Is17
          have e20 : (s17 101 1).toInt = (s1 101 1).toInt := congrArg Int32.toInt (by rw [hs17, up2_k (by omega)])
          have t21 : ((s17 101 1) + (1 : Int32)).toInt = (s17 101 1).toInt + (1 : Int) := ti_add (show -2147483648 ≤ (s17 101 1).toInt + (1 : Int) by omega) (show (s17 101 1).toInt + (1 : Int) ≤ 2147483647 by omega)
          have Is18 : wiM s18 := by rw [hs18]; exact wx_put_X4_1 Is17 (by omega) (by omega)
          have Fs18 : ∀ k, k < 101 → s18 k = τ k := fun k hk => (show s18 k = s17 k by rw [hs18, up2_k (by omega)]).trans (Fs17 k hk)
          have Of15_s18 : s18 101 15 = τ 101 15 := (show s18 101 15 = s17 101 15 by rw [hs18, up2_i (by decide)]).trans Of15_s17
          have Of34_s18 : s18 101 34 = τ 101 34 := (show s18 101 34 = s17 101 34 by rw [hs18, up2_i (by decide)]).trans Of34_s17
          have Of30_s18 : s18 101 30 = τ 101 30 := (show s18 101 30 = s17 101 30 by rw [hs18, up2_i (by decide)]).trans Of30_s17
          have Of18_s18 : s18 101 18 = τ 101 18 := (show s18 101 18 = s17 101 18 by rw [hs18, up2_i (by decide)]).trans Of18_s17
          refine sf_lt (fun s22 hs22 => ?_)
          have Is22 : wiM s22 := by rw [hs22]; exact wx_put_X4_30 Is18 (by decide) (by decide)
          have Fs22 : ∀ k, k < 101 → s22 k = τ k := fun k hk => (show s22 k = s18 k by rw [hs22, up2_k (by omega)]).trans (Fs18 k hk)
          have Of15_s22 : s22 101 15 = τ 101 15 := (show s22 101 15 = s18 101 15 by rw [hs22, up2_i (by decide)]).trans Of15_s18
          have Of34_s22 : s22 101 34 = τ 101 34 := (show s22 101 34 = s18 101 34 by rw [hs22, up2_i (by decide)]).trans Of34_s18
          have Of18_s22 : s22 101 18 = τ 101 18 := (show s22 101 18 = s18 101 18 by rw [hs22, up2_i (by decide)]).trans Of18_s18
          have m23 := wx_X4_1 Is22
          have m24 := wx_X4_1 Is18
          have e25 : (s18 101 1).toInt = ((s17 101 1) + (1 : Int32)).toInt := (show (s18 101 1).toInt = ((s17 101 1) + (1 : Int32)).toInt from congrArg Int32.toInt (by rw [hs18, up2_s]))
          have e26 : (s22 101 1).toInt = (s18 101 1).toInt := congrArg Int32.toInt (by rw [hs22, up2_i (by decide)])
          have t27 : ((s22 101 1) - (1 : Int32)).toInt = (s22 101 1).toInt - (1 : Int) := ti_sub (show -2147483648 ≤ (s22 101 1).toInt - (1 : Int) by omega) (show (s22 101 1).toInt - (1 : Int) ≤ 2147483647 by omega)
          exact sf_ret ⟨Is22, Fs22, Of15_s22, Of34_s22, Of18_s22, ti_lo _, ti_hi _⟩
        have C15 : (0 : Int) < (0 : Int) := ti_nle c15
        exfalso; omega
      have C6 : ¬ (0 : Int) = (0 : Int) := ti_ne c6
      exfalso; omega
    have C5 : (255 : Int) < x1.toInt := ti_nle c5
    refine sf_ret ?_
    refine sf_ite (fun c28 => ?_) (fun c28 => ?_)
    · have C28 : (-6 : Int) = (0 : Int) := ti_eq c28
      exfalso; omega
    have C28 : ¬ (-6 : Int) = (0 : Int) := ti_ne c28
    rw [j_X4_pane_32_e]
    rw [j_X4_pane_33_e]
    refine sf_ite (fun c29 => ?_) (fun c29 => ?_)
    · have C29 : (0 : Int) ≤ (-6 : Int) := ti_le c29
      exfalso; omega
    have C29 : (-6 : Int) < (0 : Int) := ti_nle c29
    refine sf_bnd (s_X4_refuse hF Is1 (by decide) (by decide)) (fun r30 u31 p32 => ?_)
    obtain ⟨Iu31, Fu31_, Of15_u31_, Of34_u31_, Of1_u31_, Of30_u31_, Of18_u31_, p32_1, p32_2, p32_x0⟩ := p32
    have Fu31 : ∀ k, k < 101 → u31 k = τ k := fun k hk => (Fu31_ k hk).trans (Fs1 k hk)
    have Of15_u31 : u31 101 15 = τ 101 15 := Of15_u31_.trans Of15_s1
    have Of34_u31 : u31 101 34 = τ 101 34 := Of34_u31_.trans Of34_s1
    have Of1_u31 : u31 101 1 = τ 101 1 := Of1_u31_.trans Of1_s1
    have Of30_u31 : u31 101 30 = τ 101 30 := Of30_u31_.trans Of30_s1
    have Of18_u31 : u31 101 18 = τ 101 18 := Of18_u31_.trans Of18_s1
    replace p32_x0 : r30.toInt = (-6 : Int) := p32_x0
    exact sf_ret ⟨Iu31, Fu31, Of15_u31, Of34_u31, Of18_u31, ti_lo _, ti_hi _⟩
  have C4 : x1.toInt < (0 : Int) := ti_nle c4
  refine sf_ret ?_
  refine sf_ite (fun c33 => ?_) (fun c33 => ?_)
  · have C33 : (-4 : Int) = (0 : Int) := ti_eq c33
    exfalso; omega
  have C33 : ¬ (-4 : Int) = (0 : Int) := ti_ne c33
  rw [j_X4_pane_32_e]
  rw [j_X4_pane_33_e]
  refine sf_ite (fun c34 => ?_) (fun c34 => ?_)
  · have C34 : (0 : Int) ≤ (-4 : Int) := ti_le c34
    exfalso; omega
  have C34 : (-4 : Int) < (0 : Int) := ti_nle c34
  refine sf_bnd (s_X4_refuse hF Is1 (by decide) (by decide)) (fun r35 u36 p37 => ?_)
  obtain ⟨Iu36, Fu36_, Of15_u36_, Of34_u36_, Of1_u36_, Of30_u36_, Of18_u36_, p37_1, p37_2, p37_x0⟩ := p37
  have Fu36 : ∀ k, k < 101 → u36 k = τ k := fun k hk => (Fu36_ k hk).trans (Fs1 k hk)
  have Of15_u36 : u36 101 15 = τ 101 15 := Of15_u36_.trans Of15_s1
  have Of34_u36 : u36 101 34 = τ 101 34 := Of34_u36_.trans Of34_s1
  have Of1_u36 : u36 101 1 = τ 101 1 := Of1_u36_.trans Of1_s1
  have Of30_u36 : u36 101 30 = τ 101 30 := Of30_u36_.trans Of30_s1
  have Of18_u36 : u36 101 18 = τ 101 18 := Of18_u36_.trans Of18_s1
  replace p37_x0 : r35.toInt = (-4 : Int) := p37_x0
  exact sf_ret ⟨Iu36, Fu36, Of15_u36, Of34_u36, Of18_u36, ti_lo _, ti_hi _⟩
set_option maxHeartbeats 4000000 in
set_option maxRecDepth 100000 in
theorem s_X4_looker {F : Nat} (hF : 73786976294838206464 ≤ F) {x1 : Int32} {x2 : Int32} {τ : Mem} (hI : wiM τ) : sf (f_X4_looker F x1 x2 τ) (fun r s => wiM s ∧ (∀ k, k < 101 → s k = τ k) ∧ s 101 15 = τ 101 15 ∧ s 101 34 = τ 101 34 ∧ s 101 1 = τ 101 1 ∧ s 101 18 = τ 101 18 ∧ -2147483648 ≤ r.toInt ∧ r.toInt ≤ 2147483647) := by
  have Fτ : ∀ k, k < 101 → τ k = τ k := fun _ _ => rfl
  have Of15_τ : τ 101 15 = τ 101 15 := rfl
  have Of34_τ : τ 101 34 = τ 101 34 := rfl
  have Of1_τ : τ 101 1 = τ 101 1 := rfl
  have Of30_τ : τ 101 30 = τ 101 30 := rfl
  have Of18_τ : τ 101 18 = τ 101 18 := rfl
  rw [f_X4_looker_e]
  refine sf_lt (fun s1 hs1 => ?_)
  have Is1 : wiM s1 := by rw [hs1]; exact wm_fld hI (by decide) (by decide) (by decide) (by decide) (by decide) (by decide) (by decide)
  have Fs1 : ∀ k, k < 101 → s1 k = τ k := fun k hk => (show s1 k = τ k by rw [hs1, up2_k (by omega)]).trans (Fτ k hk)
  have Of15_s1 : s1 101 15 = τ 101 15 := (show s1 101 15 = τ 101 15 by rw [hs1, up2_i (by decide)]).trans Of15_τ
  have Of34_s1 : s1 101 34 = τ 101 34 := (show s1 101 34 = τ 101 34 by rw [hs1, up2_i (by decide)]).trans Of34_τ
  have Of1_s1 : s1 101 1 = τ 101 1 := (show s1 101 1 = τ 101 1 by rw [hs1, up2_i (by decide)]).trans Of1_τ
  have Of30_s1 : s1 101 30 = τ 101 30 := (show s1 101 30 = τ 101 30 by rw [hs1, up2_i (by decide)]).trans Of30_τ
  have Of18_s1 : s1 101 18 = τ 101 18 := (show s1 101 18 = τ 101 18 by rw [hs1, up2_i (by decide)]).trans Of18_τ
  refine sf_in ?_
  rw [f_X4_in_e]
  have b2 := ti_lo x1
  have b3 := ti_hi x1
  have b4 := ti_lo (lg_cmp (Int32.toInt64 x1) (0 : Int64))
  have b5 := ti_hi (lg_cmp (Int32.toInt64 x1) (0 : Int64))
  refine sf_ite (fun c6 => ?_) (fun c6 => ?_)
  · have C6 : (lg_cmp (Int32.toInt64 x1) (0 : Int64)).toInt < (0 : Int) := ti_lt c6
    have L6 : x1.toInt < (0 : Int) := by have q := lg_ltl c6; (repeat (rw [Int32.toInt_toInt64] at q)); exact q
    rw [j_X4_in_17_e]
    refine sf_ret ?_
    refine sf_ite (fun c7 => ?_) (fun c7 => ?_)
    · have C7 : (0 : Int) = (0 : Int) := ti_eq c7
      rw [j_X4_looker_29_e]
      refine sf_ite (fun c8 => ?_) (fun c8 => ?_)
      · have C8 : (-2 : Int) = (0 : Int) := ti_eq c8
        exfalso; omega
      have C8 : ¬ (-2 : Int) = (0 : Int) := ti_ne c8
      rw [j_X4_looker_47_e]
      rw [j_X4_looker_48_e]
      refine sf_ite (fun c9 => ?_) (fun c9 => ?_)
      · have C9 : (0 : Int) ≤ (-2 : Int) := ti_le c9
        exfalso; omega
      have C9 : (-2 : Int) < (0 : Int) := ti_nle c9
      refine sf_bnd (s_X4_refuse hF Is1 (by decide) (by decide)) (fun r10 u11 p12 => ?_)
      obtain ⟨Iu11, Fu11_, Of15_u11_, Of34_u11_, Of1_u11_, Of30_u11_, Of18_u11_, p12_1, p12_2, p12_x0⟩ := p12
      have Fu11 : ∀ k, k < 101 → u11 k = τ k := fun k hk => (Fu11_ k hk).trans (Fs1 k hk)
      have Of15_u11 : u11 101 15 = τ 101 15 := Of15_u11_.trans Of15_s1
      have Of34_u11 : u11 101 34 = τ 101 34 := Of34_u11_.trans Of34_s1
      have Of1_u11 : u11 101 1 = τ 101 1 := Of1_u11_.trans Of1_s1
      have Of30_u11 : u11 101 30 = τ 101 30 := Of30_u11_.trans Of30_s1
      have Of18_u11 : u11 101 18 = τ 101 18 := Of18_u11_.trans Of18_s1
      replace p12_x0 : r10.toInt = (-2 : Int) := p12_x0
      exact sf_ret ⟨Iu11, Fu11, Of15_u11, Of34_u11, Of1_u11, Of18_u11, ti_lo _, ti_hi _⟩
    have C7 : ¬ (0 : Int) = (0 : Int) := ti_ne c7
    exfalso; omega
  have C6 : (0 : Int) ≤ (lg_cmp (Int32.toInt64 x1) (0 : Int64)).toInt := ti_nlt c6
  have L6 : (0 : Int) ≤ x1.toInt := by have q := lg_ltln c6; (repeat (rw [Int32.toInt_toInt64] at q)); exact q
  have b13 := ti_lo (lg_cmp (Int32.toInt64 x1) (5 : Int64))
  have b14 := ti_hi (lg_cmp (Int32.toInt64 x1) (5 : Int64))
  refine sf_ite (fun c15 => ?_) (fun c15 => ?_)
  · have C15 : (0 : Int) < (lg_cmp (Int32.toInt64 x1) (5 : Int64)).toInt := ti_lt c15
    have L15 : (5 : Int) < x1.toInt := by have q := lg_ltr c15; (repeat (rw [Int32.toInt_toInt64] at q)); exact q
    rw [j_X4_in_17_e]
    refine sf_ret ?_
    refine sf_ite (fun c16 => ?_) (fun c16 => ?_)
    · have C16 : (0 : Int) = (0 : Int) := ti_eq c16
      rw [j_X4_looker_29_e]
      refine sf_ite (fun c17 => ?_) (fun c17 => ?_)
      · have C17 : (-2 : Int) = (0 : Int) := ti_eq c17
        exfalso; omega
      have C17 : ¬ (-2 : Int) = (0 : Int) := ti_ne c17
      rw [j_X4_looker_47_e]
      rw [j_X4_looker_48_e]
      refine sf_ite (fun c18 => ?_) (fun c18 => ?_)
      · have C18 : (0 : Int) ≤ (-2 : Int) := ti_le c18
        exfalso; omega
      have C18 : (-2 : Int) < (0 : Int) := ti_nle c18
      refine sf_bnd (s_X4_refuse hF Is1 (by decide) (by decide)) (fun r19 u20 p21 => ?_)
      obtain ⟨Iu20, Fu20_, Of15_u20_, Of34_u20_, Of1_u20_, Of30_u20_, Of18_u20_, p21_1, p21_2, p21_x0⟩ := p21
      have Fu20 : ∀ k, k < 101 → u20 k = τ k := fun k hk => (Fu20_ k hk).trans (Fs1 k hk)
      have Of15_u20 : u20 101 15 = τ 101 15 := Of15_u20_.trans Of15_s1
      have Of34_u20 : u20 101 34 = τ 101 34 := Of34_u20_.trans Of34_s1
      have Of1_u20 : u20 101 1 = τ 101 1 := Of1_u20_.trans Of1_s1
      have Of30_u20 : u20 101 30 = τ 101 30 := Of30_u20_.trans Of30_s1
      have Of18_u20 : u20 101 18 = τ 101 18 := Of18_u20_.trans Of18_s1
      replace p21_x0 : r19.toInt = (-2 : Int) := p21_x0
      exact sf_ret ⟨Iu20, Fu20, Of15_u20, Of34_u20, Of1_u20, Of18_u20, ti_lo _, ti_hi _⟩
    have C16 : ¬ (0 : Int) = (0 : Int) := ti_ne c16
    exfalso; omega
  have C15 : (lg_cmp (Int32.toInt64 x1) (5 : Int64)).toInt ≤ (0 : Int) := ti_nlt c15
  have L15 : x1.toInt ≤ (5 : Int) := by have q := lg_ltrn c15; (repeat (rw [Int32.toInt_toInt64] at q)); exact q
  refine sf_ret ?_
  refine sf_ite (fun c22 => ?_) (fun c22 => ?_)
  · have C22 : (1 : Int) = (0 : Int) := ti_eq c22
    exfalso; omega
  have C22 : ¬ (1 : Int) = (0 : Int) := ti_ne c22
  refine sf_in ?_
  rw [f_X4_wrongNumber_e]
  have b23 := ti_lo x2
  have b24 := ti_hi x2
  refine sf_ite (fun c25 => ?_) (fun c25 => ?_)
  · have C25 : (0 : Int) ≤ x2.toInt := ti_le c25
    refine sf_ite (fun c26 => ?_) (fun c26 => ?_)
    · have C26 : x2.toInt ≤ (9 : Int) := ti_le c26
      refine sf_ret ?_
      rw [j_X4_looker_29_e]
      refine sf_ite (fun c27 => ?_) (fun c27 => ?_)
      · have C27 : (0 : Int) = (0 : Int) := ti_eq c27
        have m28 := wx_X4_3 Is1
        have m29 := wx_X4_3 hI
        have e30 : (s1 101 3).toInt = (τ 101 3).toInt := congrArg Int32.toInt (by rw [hs1, up2_i (by decide)])
        refine sf_ite (fun c31 => ?_) (fun c31 => ?_)
        · have C31 : (s1 101 3).toInt = (5 : Int) := ti_eq c31
          rw [j_X4_looker_48_e]
          refine sf_ite (fun c32 => ?_) (fun c32 => ?_)
          · have C32 : (0 : Int) ≤ (-6 : Int) := ti_le c32
            exfalso; omega
          have C32 : (-6 : Int) < (0 : Int) := ti_nle c32
          refine sf_bnd (s_X4_refuse hF Is1 (by decide) (by decide)) (fun r33 u34 p35 => ?_)
          obtain ⟨Iu34, Fu34_, Of15_u34_, Of34_u34_, Of1_u34_, Of30_u34_, Of18_u34_, p35_1, p35_2, p35_x0⟩ := p35
          have Fu34 : ∀ k, k < 101 → u34 k = τ k := fun k hk => (Fu34_ k hk).trans (Fs1 k hk)
          have Of15_u34 : u34 101 15 = τ 101 15 := Of15_u34_.trans Of15_s1
          have Of34_u34 : u34 101 34 = τ 101 34 := Of34_u34_.trans Of34_s1
          have Of1_u34 : u34 101 1 = τ 101 1 := Of1_u34_.trans Of1_s1
          have Of30_u34 : u34 101 30 = τ 101 30 := Of30_u34_.trans Of30_s1
          have Of18_u34 : u34 101 18 = τ 101 18 := Of18_u34_.trans Of18_s1
          replace p35_x0 : r33.toInt = (-6 : Int) := p35_x0
          exact sf_ret ⟨Iu34, Fu34, Of15_u34, Of34_u34, Of1_u34, Of18_u34, ti_lo _, ti_hi _⟩
        have C31 : ¬ (s1 101 3).toInt = (5 : Int) := ti_ne c31
        rw [j_X4_looker_47_e]
        rw [j_X4_looker_48_e]
        refine sf_ite (fun c36 => ?_) (fun c36 => ?_)
        · have C36 : (0 : Int) ≤ (0 : Int) := ti_le c36
          refine sf_bnd (s_X4_lookerComes hF Is1 (by omega) (by omega) (by omega) (by omega) (by first | omega | decide)) (fun r37 u38 p39 => ?_)
          obtain ⟨Iu38, Fu38_, Of15_u38_, Of34_u38_, Of1_u38_, Of30_u38_, Of18_u38_, -⟩ := p39
          have Fu38 : ∀ k, k < 101 → u38 k = τ k := fun k hk => (Fu38_ k hk).trans (Fs1 k hk)
          have Of15_u38 : u38 101 15 = τ 101 15 := Of15_u38_.trans Of15_s1
          have Of34_u38 : u38 101 34 = τ 101 34 := Of34_u38_.trans Of34_s1
          have Of1_u38 : u38 101 1 = τ 101 1 := Of1_u38_.trans Of1_s1
          have Of30_u38 : u38 101 30 = τ 101 30 := Of30_u38_.trans Of30_s1
          have Of18_u38 : u38 101 18 = τ 101 18 := Of18_u38_.trans Of18_s1
          refine sf_lt (fun s40 hs40 => ?_)
          have Is40 : wiM s40 := by rw [hs40]; exact wx_put_X4_30 Iu38 (by decide) (by decide)
          have Fs40 : ∀ k, k < 101 → s40 k = τ k := fun k hk => (show s40 k = u38 k by rw [hs40, up2_k (by omega)]).trans (Fu38 k hk)
          have Of15_s40 : s40 101 15 = τ 101 15 := (show s40 101 15 = u38 101 15 by rw [hs40, up2_i (by decide)]).trans Of15_u38
          have Of34_s40 : s40 101 34 = τ 101 34 := (show s40 101 34 = u38 101 34 by rw [hs40, up2_i (by decide)]).trans Of34_u38
          have Of1_s40 : s40 101 1 = τ 101 1 := (show s40 101 1 = u38 101 1 by rw [hs40, up2_i (by decide)]).trans Of1_u38
          have Of18_s40 : s40 101 18 = τ 101 18 := (show s40 101 18 = u38 101 18 by rw [hs40, up2_i (by decide)]).trans Of18_u38
          have m41 := wx_X4_3 Is40
          have m42 := wx_X4_3 Iu38
          have e43 : (s40 101 3).toInt = (u38 101 3).toInt := congrArg Int32.toInt (by rw [hs40, up2_i (by decide)])
          have t44 : ((s40 101 3) - (1 : Int32)).toInt = (s40 101 3).toInt - (1 : Int) := ti_sub (show -2147483648 ≤ (s40 101 3).toInt - (1 : Int) by omega) (show (s40 101 3).toInt - (1 : Int) ≤ 2147483647 by omega)
          exact sf_ret ⟨Is40, Fs40, Of15_s40, Of34_s40, Of1_s40, Of18_s40, ti_lo _, ti_hi _⟩
        have C36 : (0 : Int) < (0 : Int) := ti_nle c36
        exfalso; omega
      have C27 : ¬ (0 : Int) = (0 : Int) := ti_ne c27
      exfalso; omega
    have C26 : (9 : Int) < x2.toInt := ti_nle c26
    refine sf_ret ?_
    rw [j_X4_looker_29_e]
    refine sf_ite (fun c45 => ?_) (fun c45 => ?_)
    · have C45 : (-6 : Int) = (0 : Int) := ti_eq c45
      exfalso; omega
    have C45 : ¬ (-6 : Int) = (0 : Int) := ti_ne c45
    rw [j_X4_looker_47_e]
    rw [j_X4_looker_48_e]
    refine sf_ite (fun c46 => ?_) (fun c46 => ?_)
    · have C46 : (0 : Int) ≤ (-6 : Int) := ti_le c46
      exfalso; omega
    have C46 : (-6 : Int) < (0 : Int) := ti_nle c46
    refine sf_bnd (s_X4_refuse hF Is1 (by decide) (by decide)) (fun r47 u48 p49 => ?_)
    obtain ⟨Iu48, Fu48_, Of15_u48_, Of34_u48_, Of1_u48_, Of30_u48_, Of18_u48_, p49_1, p49_2, p49_x0⟩ := p49
    have Fu48 : ∀ k, k < 101 → u48 k = τ k := fun k hk => (Fu48_ k hk).trans (Fs1 k hk)
    have Of15_u48 : u48 101 15 = τ 101 15 := Of15_u48_.trans Of15_s1
    have Of34_u48 : u48 101 34 = τ 101 34 := Of34_u48_.trans Of34_s1
    have Of1_u48 : u48 101 1 = τ 101 1 := Of1_u48_.trans Of1_s1
    have Of30_u48 : u48 101 30 = τ 101 30 := Of30_u48_.trans Of30_s1
    have Of18_u48 : u48 101 18 = τ 101 18 := Of18_u48_.trans Of18_s1
    replace p49_x0 : r47.toInt = (-6 : Int) := p49_x0
    exact sf_ret ⟨Iu48, Fu48, Of15_u48, Of34_u48, Of1_u48, Of18_u48, ti_lo _, ti_hi _⟩
  have C25 : x2.toInt < (0 : Int) := ti_nle c25
  refine sf_ret ?_
  rw [j_X4_looker_29_e]
  refine sf_ite (fun c50 => ?_) (fun c50 => ?_)
  · have C50 : (-4 : Int) = (0 : Int) := ti_eq c50
    exfalso; omega
  have C50 : ¬ (-4 : Int) = (0 : Int) := ti_ne c50
  rw [j_X4_looker_47_e]
  rw [j_X4_looker_48_e]
  refine sf_ite (fun c51 => ?_) (fun c51 => ?_)
  · have C51 : (0 : Int) ≤ (-4 : Int) := ti_le c51
    exfalso; omega
  have C51 : (-4 : Int) < (0 : Int) := ti_nle c51
  refine sf_bnd (s_X4_refuse hF Is1 (by decide) (by decide)) (fun r52 u53 p54 => ?_)
  obtain ⟨Iu53, Fu53_, Of15_u53_, Of34_u53_, Of1_u53_, Of30_u53_, Of18_u53_, p54_1, p54_2, p54_x0⟩ := p54
  have Fu53 : ∀ k, k < 101 → u53 k = τ k := fun k hk => (Fu53_ k hk).trans (Fs1 k hk)
  have Of15_u53 : u53 101 15 = τ 101 15 := Of15_u53_.trans Of15_s1
  have Of34_u53 : u53 101 34 = τ 101 34 := Of34_u53_.trans Of34_s1
  have Of1_u53 : u53 101 1 = τ 101 1 := Of1_u53_.trans Of1_s1
  have Of30_u53 : u53 101 30 = τ 101 30 := Of30_u53_.trans Of30_s1
  have Of18_u53 : u53 101 18 = τ 101 18 := Of18_u53_.trans Of18_s1
  replace p54_x0 : r52.toInt = (-4 : Int) := p54_x0
  exact sf_ret ⟨Iu53, Fu53, Of15_u53, Of34_u53, Of1_u53, Of18_u53, ti_lo _, ti_hi _⟩
set_option maxHeartbeats 4000000 in
set_option maxRecDepth 100000 in
theorem s_X4_stands {F : Nat} (hF : 73786976294838206464 ≤ F) {x1 : Int32} {x2 : Int32} {x3 : Int32} {x4 : Int32} {τ : Mem} (hI : wiM τ) : sf (f_X4_stands F x1 x2 x3 x4 τ) (fun r s => wiM s ∧ (∀ k, k < 101 → s k = τ k) ∧ s 101 15 = τ 101 15 ∧ s 101 34 = τ 101 34 ∧ s 101 18 = τ 101 18 ∧ -2147483648 ≤ r.toInt ∧ r.toInt ≤ 2147483647) := by
  have Fτ : ∀ k, k < 101 → τ k = τ k := fun _ _ => rfl
  have Of15_τ : τ 101 15 = τ 101 15 := rfl
  have Of34_τ : τ 101 34 = τ 101 34 := rfl
  have Of1_τ : τ 101 1 = τ 101 1 := rfl
  have Of30_τ : τ 101 30 = τ 101 30 := rfl
  have Of18_τ : τ 101 18 = τ 101 18 := rfl
  rw [f_X4_stands_e]
  refine sf_lt (fun s1 hs1 => ?_)
  have Is1 : wiM s1 := by rw [hs1]; exact wm_fld hI (by decide) (by decide) (by decide) (by decide) (by decide) (by decide) (by decide)
  have Fs1 : ∀ k, k < 101 → s1 k = τ k := fun k hk => (show s1 k = τ k by rw [hs1, up2_k (by omega)]).trans (Fτ k hk)
  have Of15_s1 : s1 101 15 = τ 101 15 := (show s1 101 15 = τ 101 15 by rw [hs1, up2_i (by decide)]).trans Of15_τ
  have Of34_s1 : s1 101 34 = τ 101 34 := (show s1 101 34 = τ 101 34 by rw [hs1, up2_i (by decide)]).trans Of34_τ
  have Of1_s1 : s1 101 1 = τ 101 1 := (show s1 101 1 = τ 101 1 by rw [hs1, up2_i (by decide)]).trans Of1_τ
  have Of30_s1 : s1 101 30 = τ 101 30 := (show s1 101 30 = τ 101 30 by rw [hs1, up2_i (by decide)]).trans Of30_τ
  have Of18_s1 : s1 101 18 = τ 101 18 := (show s1 101 18 = τ 101 18 by rw [hs1, up2_i (by decide)]).trans Of18_τ
  have b2 := ti_lo x1
  have b3 := ti_hi x1
  refine sf_bnd (s_X4_isLooker hF Is1) (fun r4 u5 p6 => ?_)
  obtain ⟨e9, p6⟩ := p6
  have e9 := e9.symm
  subst e9
  rcases p6 with ⟨rfl, q7, q8⟩ | p6
  · refine sf_ite (fun c9 => ?_) (fun c9 => ?_)
    · have C9 : (1 : Int) = (0 : Int) := ti_eq c9
      exfalso; omega
    have C9 : ¬ (1 : Int) = (0 : Int) := ti_ne c9
    have b10 := ti_lo x2
    have b11 := ti_hi x2
    refine sf_bnd (s_X4_isHour hF Is1) (fun r12 u13 p14 => ?_)
    obtain ⟨e9, p14⟩ := p14
    have e9 := e9.symm
    subst e9
    rcases p14 with ⟨rfl, q15, q16⟩ | p14
    · refine sf_ite (fun c17 => ?_) (fun c17 => ?_)
      · have C17 : (1 : Int) = (0 : Int) := ti_eq c17
        exfalso; omega
      have C17 : ¬ (1 : Int) = (0 : Int) := ti_ne c17
      have b18 := ti_lo x3
      have b19 := ti_hi x3
      refine sf_bnd (s_X4_isHour hF Is1) (fun r20 u21 p22 => ?_)
      obtain ⟨e9, p22⟩ := p22
      have e9 := e9.symm
      subst e9
      rcases p22 with ⟨rfl, q23, q24⟩ | p22
      · refine sf_ite (fun c25 => ?_) (fun c25 => ?_)
        · have C25 : (1 : Int) = (0 : Int) := ti_eq c25
          exfalso; omega
        have C25 : ¬ (1 : Int) = (0 : Int) := ti_ne c25
        have b26 := ti_lo x4
        have b27 := ti_hi x4
        refine sf_ite (fun c28 => ?_) (fun c28 => ?_)
        · have C28 : x4.toInt = (9 : Int) := ti_eq c28
          rw [j_X4_stands_43_e]
          refine sf_ite (fun c29 => ?_) (fun c29 => ?_)
          · have C29 : x2.toInt ≤ x3.toInt := ti_le c29
            rw [j_X4_stands_58_e]
            refine sf_ite (fun c30 => ?_) (fun c30 => ?_)
            · have C30 : (0 : Int) ≤ (0 : Int) := ti_le c30
              refine sf_bnd (s_X4_keepTurn hF Is1) (fun r31 u32 p33 => ?_)
              obtain ⟨Iu32, Fu32_, Of15_u32_, Of34_u32_, Of18_u32_, -⟩ := p33
              have Fu32 : ∀ k, k < 101 → u32 k = τ k := fun k hk => (Fu32_ k hk).trans (Fs1 k hk)
              have Of15_u32 : u32 101 15 = τ 101 15 := Of15_u32_.trans Of15_s1
              have Of34_u32 : u32 101 34 = τ 101 34 := Of34_u32_.trans Of34_s1
              have Of18_u32 : u32 101 18 = τ 101 18 := Of18_u32_.trans Of18_s1
              refine sf_bnd (s_X4_stand hF Iu32 (by omega) (by omega) (by omega) (by omega) (by omega) (by omega) (by first | omega | decide)) (fun r34 u35 p36 => ?_)
              obtain ⟨Iu35, Fu35_, Of15_u35_, Of34_u35_, Of1_u35_, Of30_u35_, Of18_u35_, -⟩ := p36
              have Fu35 : ∀ k, k < 101 → u35 k = τ k := fun k hk => (Fu35_ k hk).trans (Fu32 k hk)
              have Of15_u35 : u35 101 15 = τ 101 15 := Of15_u35_.trans Of15_u32
              have Of34_u35 : u35 101 34 = τ 101 34 := Of34_u35_.trans Of34_u32
              have Of18_u35 : u35 101 18 = τ 101 18 := Of18_u35_.trans Of18_u32
              refine sf_bnd (s_X4_hoursOf hF Iu35 (by omega) (by omega)) (fun r37 u38 p39 => ?_)
              obtain ⟨e9, p39_1, p39_2⟩ := p39
              have e9 := e9.symm
              subst e9
              have b40 := ti_lo r37
              have b41 := ti_hi r37
              exact sf_ret ⟨Iu35, Fu35, Of15_u35, Of34_u35, Of18_u35, ti_lo _, ti_hi _⟩
            have C30 : (0 : Int) < (0 : Int) := ti_nle c30
            exfalso; omega
          have C29 : x3.toInt < x2.toInt := ti_nle c29
          rw [j_X4_stands_58_e]
          refine sf_ite (fun c42 => ?_) (fun c42 => ?_)
          · have C42 : (0 : Int) ≤ (-3 : Int) := ti_le c42
            exfalso; omega
          have C42 : (-3 : Int) < (0 : Int) := ti_nle c42
          refine sf_bnd (s_X4_refuse hF Is1 (by decide) (by decide)) (fun r43 u44 p45 => ?_)
          obtain ⟨Iu44, Fu44_, Of15_u44_, Of34_u44_, Of1_u44_, Of30_u44_, Of18_u44_, p45_1, p45_2, p45_x0⟩ := p45
          have Fu44 : ∀ k, k < 101 → u44 k = τ k := fun k hk => (Fu44_ k hk).trans (Fs1 k hk)
          have Of15_u44 : u44 101 15 = τ 101 15 := Of15_u44_.trans Of15_s1
          have Of34_u44 : u44 101 34 = τ 101 34 := Of34_u44_.trans Of34_s1
          have Of1_u44 : u44 101 1 = τ 101 1 := Of1_u44_.trans Of1_s1
          have Of30_u44 : u44 101 30 = τ 101 30 := Of30_u44_.trans Of30_s1
          have Of18_u44 : u44 101 18 = τ 101 18 := Of18_u44_.trans Of18_s1
          replace p45_x0 : r43.toInt = (-3 : Int) := p45_x0
          exact sf_ret ⟨Iu44, Fu44, Of15_u44, Of34_u44, Of18_u44, ti_lo _, ti_hi _⟩
        have C28 : ¬ x4.toInt = (9 : Int) := ti_ne c28
        refine sf_bnd (s_X4_isPane hF Is1) (fun r46 u47 p48 => ?_)
        obtain ⟨e9, p48⟩ := p48
        have e9 := e9.symm
        subst e9
        rcases p48 with ⟨rfl, q49, q50⟩ | p48
        · refine sf_ite (fun c51 => ?_) (fun c51 => ?_)
          · have C51 : (1 : Int) = (0 : Int) := ti_eq c51
            exfalso; omega
          have C51 : ¬ (1 : Int) = (0 : Int) := ti_ne c51
          rw [j_X4_stands_43_e]
          refine sf_ite (fun c52 => ?_) (fun c52 => ?_)
          · have C52 : x2.toInt ≤ x3.toInt := ti_le c52
            rw [j_X4_stands_58_e]
            refine sf_ite (fun c53 => ?_) (fun c53 => ?_)
            · have C53 : (0 : Int) ≤ (0 : Int) := ti_le c53
              refine sf_bnd (s_X4_keepTurn hF Is1) (fun r54 u55 p56 => ?_)
              obtain ⟨Iu55, Fu55_, Of15_u55_, Of34_u55_, Of18_u55_, -⟩ := p56
              have Fu55 : ∀ k, k < 101 → u55 k = τ k := fun k hk => (Fu55_ k hk).trans (Fs1 k hk)
              have Of15_u55 : u55 101 15 = τ 101 15 := Of15_u55_.trans Of15_s1
              have Of34_u55 : u55 101 34 = τ 101 34 := Of34_u55_.trans Of34_s1
              have Of18_u55 : u55 101 18 = τ 101 18 := Of18_u55_.trans Of18_s1
              refine sf_bnd (s_X4_stand hF Iu55 (by omega) (by omega) (by omega) (by omega) (by omega) (by omega) (by first | omega | decide)) (fun r57 u58 p59 => ?_)
              obtain ⟨Iu58, Fu58_, Of15_u58_, Of34_u58_, Of1_u58_, Of30_u58_, Of18_u58_, -⟩ := p59
              have Fu58 : ∀ k, k < 101 → u58 k = τ k := fun k hk => (Fu58_ k hk).trans (Fu55 k hk)
              have Of15_u58 : u58 101 15 = τ 101 15 := Of15_u58_.trans Of15_u55
              have Of34_u58 : u58 101 34 = τ 101 34 := Of34_u58_.trans Of34_u55
              have Of18_u58 : u58 101 18 = τ 101 18 := Of18_u58_.trans Of18_u55
              refine sf_bnd (s_X4_hoursOf hF Iu58 (by omega) (by omega)) (fun r60 u61 p62 => ?_)
              obtain ⟨e9, p62_1, p62_2⟩ := p62
              have e9 := e9.symm
              subst e9
              have b63 := ti_lo r60
              have b64 := ti_hi r60
              exact sf_ret ⟨Iu58, Fu58, Of15_u58, Of34_u58, Of18_u58, ti_lo _, ti_hi _⟩
            have C53 : (0 : Int) < (0 : Int) := ti_nle c53
            exfalso; omega
          have C52 : x3.toInt < x2.toInt := ti_nle c52
          rw [j_X4_stands_58_e]
          refine sf_ite (fun c65 => ?_) (fun c65 => ?_)
          · have C65 : (0 : Int) ≤ (-3 : Int) := ti_le c65
            exfalso; omega
          have C65 : (-3 : Int) < (0 : Int) := ti_nle c65
          refine sf_bnd (s_X4_refuse hF Is1 (by decide) (by decide)) (fun r66 u67 p68 => ?_)
          obtain ⟨Iu67, Fu67_, Of15_u67_, Of34_u67_, Of1_u67_, Of30_u67_, Of18_u67_, p68_1, p68_2, p68_x0⟩ := p68
          have Fu67 : ∀ k, k < 101 → u67 k = τ k := fun k hk => (Fu67_ k hk).trans (Fs1 k hk)
          have Of15_u67 : u67 101 15 = τ 101 15 := Of15_u67_.trans Of15_s1
          have Of34_u67 : u67 101 34 = τ 101 34 := Of34_u67_.trans Of34_s1
          have Of1_u67 : u67 101 1 = τ 101 1 := Of1_u67_.trans Of1_s1
          have Of30_u67 : u67 101 30 = τ 101 30 := Of30_u67_.trans Of30_s1
          have Of18_u67 : u67 101 18 = τ 101 18 := Of18_u67_.trans Of18_s1
          replace p68_x0 : r66.toInt = (-3 : Int) := p68_x0
          exact sf_ret ⟨Iu67, Fu67, Of15_u67, Of34_u67, Of18_u67, ti_lo _, ti_hi _⟩
        obtain rfl := p48
        refine sf_ite (fun c69 => ?_) (fun c69 => ?_)
        · have C69 : (0 : Int) = (0 : Int) := ti_eq c69
          rw [j_X4_stands_57_e]
          rw [j_X4_stands_58_e]
          refine sf_ite (fun c70 => ?_) (fun c70 => ?_)
          · have C70 : (0 : Int) ≤ (-1 : Int) := ti_le c70
            exfalso; omega
          have C70 : (-1 : Int) < (0 : Int) := ti_nle c70
          refine sf_bnd (s_X4_refuse hF Is1 (by decide) (by decide)) (fun r71 u72 p73 => ?_)
          obtain ⟨Iu72, Fu72_, Of15_u72_, Of34_u72_, Of1_u72_, Of30_u72_, Of18_u72_, p73_1, p73_2, p73_x0⟩ := p73
          have Fu72 : ∀ k, k < 101 → u72 k = τ k := fun k hk => (Fu72_ k hk).trans (Fs1 k hk)
          have Of15_u72 : u72 101 15 = τ 101 15 := Of15_u72_.trans Of15_s1
          have Of34_u72 : u72 101 34 = τ 101 34 := Of34_u72_.trans Of34_s1
          have Of1_u72 : u72 101 1 = τ 101 1 := Of1_u72_.trans Of1_s1
          have Of30_u72 : u72 101 30 = τ 101 30 := Of30_u72_.trans Of30_s1
          have Of18_u72 : u72 101 18 = τ 101 18 := Of18_u72_.trans Of18_s1
          replace p73_x0 : r71.toInt = (-1 : Int) := p73_x0
          exact sf_ret ⟨Iu72, Fu72, Of15_u72, Of34_u72, Of18_u72, ti_lo _, ti_hi _⟩
        have C69 : ¬ (0 : Int) = (0 : Int) := ti_ne c69
        exfalso; omega
      obtain ⟨rfl, q74⟩ := p22
      refine sf_ite (fun c75 => ?_) (fun c75 => ?_)
      · have C75 : (0 : Int) = (0 : Int) := ti_eq c75
        rw [j_X4_stands_57_e]
        rw [j_X4_stands_58_e]
        refine sf_ite (fun c76 => ?_) (fun c76 => ?_)
        · have C76 : (0 : Int) ≤ (-1 : Int) := ti_le c76
          exfalso; omega
        have C76 : (-1 : Int) < (0 : Int) := ti_nle c76
        refine sf_bnd (s_X4_refuse hF Is1 (by decide) (by decide)) (fun r77 u78 p79 => ?_)
        obtain ⟨Iu78, Fu78_, Of15_u78_, Of34_u78_, Of1_u78_, Of30_u78_, Of18_u78_, p79_1, p79_2, p79_x0⟩ := p79
        have Fu78 : ∀ k, k < 101 → u78 k = τ k := fun k hk => (Fu78_ k hk).trans (Fs1 k hk)
        have Of15_u78 : u78 101 15 = τ 101 15 := Of15_u78_.trans Of15_s1
        have Of34_u78 : u78 101 34 = τ 101 34 := Of34_u78_.trans Of34_s1
        have Of1_u78 : u78 101 1 = τ 101 1 := Of1_u78_.trans Of1_s1
        have Of30_u78 : u78 101 30 = τ 101 30 := Of30_u78_.trans Of30_s1
        have Of18_u78 : u78 101 18 = τ 101 18 := Of18_u78_.trans Of18_s1
        replace p79_x0 : r77.toInt = (-1 : Int) := p79_x0
        exact sf_ret ⟨Iu78, Fu78, Of15_u78, Of34_u78, Of18_u78, ti_lo _, ti_hi _⟩
      have C75 : ¬ (0 : Int) = (0 : Int) := ti_ne c75
      exfalso; omega
    obtain ⟨rfl, q80⟩ := p14
    refine sf_ite (fun c81 => ?_) (fun c81 => ?_)
    · have C81 : (0 : Int) = (0 : Int) := ti_eq c81
      rw [j_X4_stands_57_e]
      rw [j_X4_stands_58_e]
      refine sf_ite (fun c82 => ?_) (fun c82 => ?_)
      · have C82 : (0 : Int) ≤ (-1 : Int) := ti_le c82
        exfalso; omega
      have C82 : (-1 : Int) < (0 : Int) := ti_nle c82
      refine sf_bnd (s_X4_refuse hF Is1 (by decide) (by decide)) (fun r83 u84 p85 => ?_)
      obtain ⟨Iu84, Fu84_, Of15_u84_, Of34_u84_, Of1_u84_, Of30_u84_, Of18_u84_, p85_1, p85_2, p85_x0⟩ := p85
      have Fu84 : ∀ k, k < 101 → u84 k = τ k := fun k hk => (Fu84_ k hk).trans (Fs1 k hk)
      have Of15_u84 : u84 101 15 = τ 101 15 := Of15_u84_.trans Of15_s1
      have Of34_u84 : u84 101 34 = τ 101 34 := Of34_u84_.trans Of34_s1
      have Of1_u84 : u84 101 1 = τ 101 1 := Of1_u84_.trans Of1_s1
      have Of30_u84 : u84 101 30 = τ 101 30 := Of30_u84_.trans Of30_s1
      have Of18_u84 : u84 101 18 = τ 101 18 := Of18_u84_.trans Of18_s1
      replace p85_x0 : r83.toInt = (-1 : Int) := p85_x0
      exact sf_ret ⟨Iu84, Fu84, Of15_u84, Of34_u84, Of18_u84, ti_lo _, ti_hi _⟩
    have C81 : ¬ (0 : Int) = (0 : Int) := ti_ne c81
    exfalso; omega
  obtain rfl := p6
  refine sf_ite (fun c86 => ?_) (fun c86 => ?_)
  · have C86 : (0 : Int) = (0 : Int) := ti_eq c86
    rw [j_X4_stands_57_e]
    rw [j_X4_stands_58_e]
    refine sf_ite (fun c87 => ?_) (fun c87 => ?_)
    · have C87 : (0 : Int) ≤ (-1 : Int) := ti_le c87
      exfalso; omega
    have C87 : (-1 : Int) < (0 : Int) := ti_nle c87
    refine sf_bnd (s_X4_refuse hF Is1 (by decide) (by decide)) (fun r88 u89 p90 => ?_)
    obtain ⟨Iu89, Fu89_, Of15_u89_, Of34_u89_, Of1_u89_, Of30_u89_, Of18_u89_, p90_1, p90_2, p90_x0⟩ := p90
    have Fu89 : ∀ k, k < 101 → u89 k = τ k := fun k hk => (Fu89_ k hk).trans (Fs1 k hk)
    have Of15_u89 : u89 101 15 = τ 101 15 := Of15_u89_.trans Of15_s1
    have Of34_u89 : u89 101 34 = τ 101 34 := Of34_u89_.trans Of34_s1
    have Of1_u89 : u89 101 1 = τ 101 1 := Of1_u89_.trans Of1_s1
    have Of30_u89 : u89 101 30 = τ 101 30 := Of30_u89_.trans Of30_s1
    have Of18_u89 : u89 101 18 = τ 101 18 := Of18_u89_.trans Of18_s1
    replace p90_x0 : r88.toInt = (-1 : Int) := p90_x0
    exact sf_ret ⟨Iu89, Fu89, Of15_u89, Of34_u89, Of18_u89, ti_lo _, ti_hi _⟩
  have C86 : ¬ (0 : Int) = (0 : Int) := ti_ne c86
  exfalso; omega
set_option maxHeartbeats 4000000 in
set_option maxRecDepth 100000 in
theorem s_X4_roster {F : Nat} (hF : 73786976294838206464 ≤ F) {x1 : Int32} {x2 : Int32} {τ : Mem} (hI : wiM τ) : sf (f_X4_roster F x1 x2 τ) (fun r s => wiM s ∧ (∀ k, k < 101 → s k = τ k) ∧ s 101 15 = τ 101 15 ∧ s 101 34 = τ 101 34 ∧ s 101 1 = τ 101 1 ∧ s 101 30 = τ 101 30 ∧ s 101 18 = τ 101 18 ∧ -2147483648 ≤ r.toInt ∧ r.toInt ≤ 2147483647) := by
  have Fτ : ∀ k, k < 101 → τ k = τ k := fun _ _ => rfl
  have Of15_τ : τ 101 15 = τ 101 15 := rfl
  have Of34_τ : τ 101 34 = τ 101 34 := rfl
  have Of1_τ : τ 101 1 = τ 101 1 := rfl
  have Of30_τ : τ 101 30 = τ 101 30 := rfl
  have Of18_τ : τ 101 18 = τ 101 18 := rfl
  rw [f_X4_roster_e]
  refine sf_lt (fun s1 hs1 => ?_)
  have Is1 : wiM s1 := by rw [hs1]; exact wm_fld hI (by decide) (by decide) (by decide) (by decide) (by decide) (by decide) (by decide)
  have Fs1 : ∀ k, k < 101 → s1 k = τ k := fun k hk => (show s1 k = τ k by rw [hs1, up2_k (by omega)]).trans (Fτ k hk)
  have Of15_s1 : s1 101 15 = τ 101 15 := (show s1 101 15 = τ 101 15 by rw [hs1, up2_i (by decide)]).trans Of15_τ
  have Of34_s1 : s1 101 34 = τ 101 34 := (show s1 101 34 = τ 101 34 by rw [hs1, up2_i (by decide)]).trans Of34_τ
  have Of1_s1 : s1 101 1 = τ 101 1 := (show s1 101 1 = τ 101 1 by rw [hs1, up2_i (by decide)]).trans Of1_τ
  have Of30_s1 : s1 101 30 = τ 101 30 := (show s1 101 30 = τ 101 30 by rw [hs1, up2_i (by decide)]).trans Of30_τ
  have Of18_s1 : s1 101 18 = τ 101 18 := (show s1 101 18 = τ 101 18 by rw [hs1, up2_i (by decide)]).trans Of18_τ
  have b2 := ti_lo x1
  have b3 := ti_hi x1
  refine sf_bnd (s_X4_isLooker hF Is1) (fun r4 u5 p6 => ?_)
  obtain ⟨e9, p6⟩ := p6
  have e9 := e9.symm
  subst e9
  rcases p6 with ⟨rfl, q7, q8⟩ | p6
  · refine sf_ite (fun c9 => ?_) (fun c9 => ?_)
    · have C9 : (1 : Int) = (0 : Int) := ti_eq c9
      exfalso; omega
    have C9 : ¬ (1 : Int) = (0 : Int) := ti_ne c9
    have b10 := ti_lo x2
    have b11 := ti_hi x2
    refine sf_bnd (s_X4_isHour hF Is1) (fun r12 u13 p14 => ?_)
    obtain ⟨e9, p14⟩ := p14
    have e9 := e9.symm
    subst e9
    rcases p14 with ⟨rfl, q15, q16⟩ | p14
    · refine sf_ite (fun c17 => ?_) (fun c17 => ?_)
      · have C17 : (1 : Int) = (0 : Int) := ti_eq c17
        exfalso; omega
      have C17 : ¬ (1 : Int) = (0 : Int) := ti_ne c17
      have t18 : ((24 : Int32) * x1).toInt = (24 : Int) * x1.toInt := ti_mul (show -2147483648 ≤ (24 : Int) * x1.toInt by omega) (show (24 : Int) * x1.toInt ≤ 2147483647 by omega)
      have t19 : (((24 : Int32) * x1) + x2).toInt = ((24 : Int32) * x1).toInt + x2.toInt := ti_add (show -2147483648 ≤ ((24 : Int32) * x1).toInt + x2.toInt by omega) (show ((24 : Int32) * x1).toInt + x2.toInt ≤ 2147483647 by omega)
      refine sf_chk (ti_in (by omega) (by omega)) ?_
      have v20 : Int32.toNatClampNeg (((24 : Int32) * x1) + x2) = (((24 : Int32) * x1) + x2).toInt.toNat := rfl
      have m21 := wx_106 Is1 (Int32.toNatClampNeg (((24 : Int32) * x1) + x2))
      exact sf_ret ⟨Is1, Fs1, Of15_s1, Of34_s1, Of1_s1, Of30_s1, Of18_s1, ti_lo _, ti_hi _⟩
    obtain ⟨rfl, q22⟩ := p14
    refine sf_ite (fun c23 => ?_) (fun c23 => ?_)
    · have C23 : (0 : Int) = (0 : Int) := ti_eq c23
      rw [j_X4_roster_34_e]
      refine sf_bnd (s_X4_refuse hF Is1 (by decide) (by decide)) (fun r24 u25 p26 => ?_)
      obtain ⟨Iu25, Fu25_, Of15_u25_, Of34_u25_, Of1_u25_, Of30_u25_, Of18_u25_, p26_1, p26_2, p26_x0⟩ := p26
      have Fu25 : ∀ k, k < 101 → u25 k = τ k := fun k hk => (Fu25_ k hk).trans (Fs1 k hk)
      have Of15_u25 : u25 101 15 = τ 101 15 := Of15_u25_.trans Of15_s1
      have Of34_u25 : u25 101 34 = τ 101 34 := Of34_u25_.trans Of34_s1
      have Of1_u25 : u25 101 1 = τ 101 1 := Of1_u25_.trans Of1_s1
      have Of30_u25 : u25 101 30 = τ 101 30 := Of30_u25_.trans Of30_s1
      have Of18_u25 : u25 101 18 = τ 101 18 := Of18_u25_.trans Of18_s1
      replace p26_x0 : r24.toInt = (-1 : Int) := p26_x0
      exact sf_ret ⟨Iu25, Fu25, Of15_u25, Of34_u25, Of1_u25, Of30_u25, Of18_u25, ti_lo _, ti_hi _⟩
    have C23 : ¬ (0 : Int) = (0 : Int) := ti_ne c23
    exfalso; omega
  obtain rfl := p6
  refine sf_ite (fun c27 => ?_) (fun c27 => ?_)
  · have C27 : (0 : Int) = (0 : Int) := ti_eq c27
    rw [j_X4_roster_34_e]
    refine sf_bnd (s_X4_refuse hF Is1 (by decide) (by decide)) (fun r28 u29 p30 => ?_)
    obtain ⟨Iu29, Fu29_, Of15_u29_, Of34_u29_, Of1_u29_, Of30_u29_, Of18_u29_, p30_1, p30_2, p30_x0⟩ := p30
    have Fu29 : ∀ k, k < 101 → u29 k = τ k := fun k hk => (Fu29_ k hk).trans (Fs1 k hk)
    have Of15_u29 : u29 101 15 = τ 101 15 := Of15_u29_.trans Of15_s1
    have Of34_u29 : u29 101 34 = τ 101 34 := Of34_u29_.trans Of34_s1
    have Of1_u29 : u29 101 1 = τ 101 1 := Of1_u29_.trans Of1_s1
    have Of30_u29 : u29 101 30 = τ 101 30 := Of30_u29_.trans Of30_s1
    have Of18_u29 : u29 101 18 = τ 101 18 := Of18_u29_.trans Of18_s1
    replace p30_x0 : r28.toInt = (-1 : Int) := p30_x0
    exact sf_ret ⟨Iu29, Fu29, Of15_u29, Of34_u29, Of1_u29, Of30_u29, Of18_u29, ti_lo _, ti_hi _⟩
  have C27 : ¬ (0 : Int) = (0 : Int) := ti_ne c27
  exfalso; omega
set_option maxHeartbeats 4000000 in
set_option maxRecDepth 100000 in
theorem s_X4_wall {F : Nat} (hF : 73786976294838206464 ≤ F) {x1 : Int32} {x2 : Int32} {τ : Mem} (hI : wiM τ) : sf (f_X4_wall F x1 x2 τ) (fun r s => wiM s ∧ (∀ k, k < 101 → s k = τ k) ∧ s 101 15 = τ 101 15 ∧ s 101 34 = τ 101 34 ∧ s 101 18 = τ 101 18 ∧ -2147483648 ≤ r.toInt ∧ r.toInt ≤ 2147483647) := by
  have Fτ : ∀ k, k < 101 → τ k = τ k := fun _ _ => rfl
  have Of15_τ : τ 101 15 = τ 101 15 := rfl
  have Of34_τ : τ 101 34 = τ 101 34 := rfl
  have Of1_τ : τ 101 1 = τ 101 1 := rfl
  have Of30_τ : τ 101 30 = τ 101 30 := rfl
  have Of18_τ : τ 101 18 = τ 101 18 := rfl
  rw [f_X4_wall_e]
  refine sf_lt (fun s1 hs1 => ?_)
  have Is1 : wiM s1 := by rw [hs1]; exact wm_fld hI (by decide) (by decide) (by decide) (by decide) (by decide) (by decide) (by decide)
  have Fs1 : ∀ k, k < 101 → s1 k = τ k := fun k hk => (show s1 k = τ k by rw [hs1, up2_k (by omega)]).trans (Fτ k hk)
  have Of15_s1 : s1 101 15 = τ 101 15 := (show s1 101 15 = τ 101 15 by rw [hs1, up2_i (by decide)]).trans Of15_τ
  have Of34_s1 : s1 101 34 = τ 101 34 := (show s1 101 34 = τ 101 34 by rw [hs1, up2_i (by decide)]).trans Of34_τ
  have Of1_s1 : s1 101 1 = τ 101 1 := (show s1 101 1 = τ 101 1 by rw [hs1, up2_i (by decide)]).trans Of1_τ
  have Of30_s1 : s1 101 30 = τ 101 30 := (show s1 101 30 = τ 101 30 by rw [hs1, up2_i (by decide)]).trans Of30_τ
  have Of18_s1 : s1 101 18 = τ 101 18 := (show s1 101 18 = τ 101 18 by rw [hs1, up2_i (by decide)]).trans Of18_τ
  have b2 := ti_lo x1
  have b3 := ti_hi x1
  refine sf_bnd (s_X4_isPane hF Is1) (fun r4 u5 p6 => ?_)
  obtain ⟨e9, p6⟩ := p6
  have e9 := e9.symm
  subst e9
  rcases p6 with ⟨rfl, q7, q8⟩ | p6
  · refine sf_ite (fun c9 => ?_) (fun c9 => ?_)
    · have C9 : (1 : Int) = (0 : Int) := ti_eq c9
      exfalso; omega
    have C9 : ¬ (1 : Int) = (0 : Int) := ti_ne c9
    have b10 := ti_lo x2
    have b11 := ti_hi x2
    refine sf_bnd (s_X4_isView hF Is1) (fun r12 u13 p14 => ?_)
    obtain ⟨e9, p14⟩ := p14
    have e9 := e9.symm
    subst e9
    rcases p14 with ⟨rfl, q15, q16⟩ | p14
    · refine sf_ite (fun c17 => ?_) (fun c17 => ?_)
      · have C17 : (1 : Int) = (0 : Int) := ti_eq c17
        exfalso; omega
      have C17 : ¬ (1 : Int) = (0 : Int) := ti_ne c17
      refine sf_bnd (s_X4_keepTurn hF Is1) (fun r18 u19 p20 => ?_)
      obtain ⟨Iu19, Fu19_, Of15_u19_, Of34_u19_, Of18_u19_, -⟩ := p20
      have Fu19 : ∀ k, k < 101 → u19 k = τ k := fun k hk => (Fu19_ k hk).trans (Fs1 k hk)
      have Of15_u19 : u19 101 15 = τ 101 15 := Of15_u19_.trans Of15_s1
      have Of34_u19 : u19 101 34 = τ 101 34 := Of34_u19_.trans Of34_s1
      have Of18_u19 : u19 101 18 = τ 101 18 := Of18_u19_.trans Of18_s1
      refine sf_chk (ti_in (by omega) (by omega)) ?_
      have v21 : Int32.toNatClampNeg x1 = x1.toInt.toNat := rfl
      refine sf_lt (fun s22 hs22 => ?_)
      have Is22 : wiM s22 := by rw [hs22]; exact wm_oth Iu19 (by decide) (by decide) (by decide) (by decide)
      have Fs22 : ∀ k, k < 101 → s22 k = τ k := fun k hk => (show s22 k = u19 k by rw [hs22, up2_k (by omega)]).trans (Fu19 k hk)
      have Of15_s22 : s22 101 15 = τ 101 15 := (show s22 101 15 = u19 101 15 by rw [hs22, up2_k (by omega)]).trans Of15_u19
      have Of34_s22 : s22 101 34 = τ 101 34 := (show s22 101 34 = u19 101 34 by rw [hs22, up2_k (by omega)]).trans Of34_u19
      have Of18_s22 : s22 101 18 = τ 101 18 := (show s22 101 18 = u19 101 18 by rw [hs22, up2_k (by omega)]).trans Of18_u19
      have b23 := ti_lo (((s22 103 (Int32.toNatClampNeg x1)) >>> (x2 &&& 31)) &&& (1 : Int32))
      have b24 := ti_hi (((s22 103 (Int32.toNatClampNeg x1)) >>> (x2 &&& 31)) &&& (1 : Int32))
      exact sf_ret ⟨Is22, Fs22, Of15_s22, Of34_s22, Of18_s22, ti_lo _, ti_hi _⟩
    obtain ⟨rfl, q25⟩ := p14
    refine sf_ite (fun c26 => ?_) (fun c26 => ?_)
    · have C26 : (0 : Int) = (0 : Int) := ti_eq c26
      rw [j_X4_wall_20_e]
      refine sf_bnd (s_X4_refuse hF Is1 (by decide) (by decide)) (fun r27 u28 p29 => ?_)
      obtain ⟨Iu28, Fu28_, Of15_u28_, Of34_u28_, Of1_u28_, Of30_u28_, Of18_u28_, p29_1, p29_2, p29_x0⟩ := p29
      have Fu28 : ∀ k, k < 101 → u28 k = τ k := fun k hk => (Fu28_ k hk).trans (Fs1 k hk)
      have Of15_u28 : u28 101 15 = τ 101 15 := Of15_u28_.trans Of15_s1
      have Of34_u28 : u28 101 34 = τ 101 34 := Of34_u28_.trans Of34_s1
      have Of1_u28 : u28 101 1 = τ 101 1 := Of1_u28_.trans Of1_s1
      have Of30_u28 : u28 101 30 = τ 101 30 := Of30_u28_.trans Of30_s1
      have Of18_u28 : u28 101 18 = τ 101 18 := Of18_u28_.trans Of18_s1
      replace p29_x0 : r27.toInt = (-1 : Int) := p29_x0
      exact sf_ret ⟨Iu28, Fu28, Of15_u28, Of34_u28, Of18_u28, ti_lo _, ti_hi _⟩
    have C26 : ¬ (0 : Int) = (0 : Int) := ti_ne c26
    exfalso; omega
  obtain rfl := p6
  refine sf_ite (fun c30 => ?_) (fun c30 => ?_)
  · have C30 : (0 : Int) = (0 : Int) := ti_eq c30
    rw [j_X4_wall_20_e]
    refine sf_bnd (s_X4_refuse hF Is1 (by decide) (by decide)) (fun r31 u32 p33 => ?_)
    obtain ⟨Iu32, Fu32_, Of15_u32_, Of34_u32_, Of1_u32_, Of30_u32_, Of18_u32_, p33_1, p33_2, p33_x0⟩ := p33
    have Fu32 : ∀ k, k < 101 → u32 k = τ k := fun k hk => (Fu32_ k hk).trans (Fs1 k hk)
    have Of15_u32 : u32 101 15 = τ 101 15 := Of15_u32_.trans Of15_s1
    have Of34_u32 : u32 101 34 = τ 101 34 := Of34_u32_.trans Of34_s1
    have Of1_u32 : u32 101 1 = τ 101 1 := Of1_u32_.trans Of1_s1
    have Of30_u32 : u32 101 30 = τ 101 30 := Of30_u32_.trans Of30_s1
    have Of18_u32 : u32 101 18 = τ 101 18 := Of18_u32_.trans Of18_s1
    replace p33_x0 : r31.toInt = (-1 : Int) := p33_x0
    exact sf_ret ⟨Iu32, Fu32, Of15_u32, Of34_u32, Of18_u32, ti_lo _, ti_hi _⟩
  have C30 : ¬ (0 : Int) = (0 : Int) := ti_ne c30
  exfalso; omega
set_option maxHeartbeats 4000000 in
set_option maxRecDepth 100000 in
theorem s_X4_worth {F : Nat} (hF : 73786976294838206464 ≤ F) {x1 : Int32} {x2 : Int32} {τ : Mem} (hI : wiM τ) : sf (f_X4_worth F x1 x2 τ) (fun r s => wiM s ∧ (∀ k, k < 101 → s k = τ k) ∧ s 101 15 = τ 101 15 ∧ s 101 34 = τ 101 34 ∧ s 101 18 = τ 101 18 ∧ -2147483648 ≤ r.toInt ∧ r.toInt ≤ 2147483647) := by
  have Fτ : ∀ k, k < 101 → τ k = τ k := fun _ _ => rfl
  have Of15_τ : τ 101 15 = τ 101 15 := rfl
  have Of34_τ : τ 101 34 = τ 101 34 := rfl
  have Of1_τ : τ 101 1 = τ 101 1 := rfl
  have Of30_τ : τ 101 30 = τ 101 30 := rfl
  have Of18_τ : τ 101 18 = τ 101 18 := rfl
  rw [f_X4_worth_e]
  refine sf_lt (fun s1 hs1 => ?_)
  have Is1 : wiM s1 := by rw [hs1]; exact wm_fld hI (by decide) (by decide) (by decide) (by decide) (by decide) (by decide) (by decide)
  have Fs1 : ∀ k, k < 101 → s1 k = τ k := fun k hk => (show s1 k = τ k by rw [hs1, up2_k (by omega)]).trans (Fτ k hk)
  have Of15_s1 : s1 101 15 = τ 101 15 := (show s1 101 15 = τ 101 15 by rw [hs1, up2_i (by decide)]).trans Of15_τ
  have Of34_s1 : s1 101 34 = τ 101 34 := (show s1 101 34 = τ 101 34 by rw [hs1, up2_i (by decide)]).trans Of34_τ
  have Of1_s1 : s1 101 1 = τ 101 1 := (show s1 101 1 = τ 101 1 by rw [hs1, up2_i (by decide)]).trans Of1_τ
  have Of30_s1 : s1 101 30 = τ 101 30 := (show s1 101 30 = τ 101 30 by rw [hs1, up2_i (by decide)]).trans Of30_τ
  have Of18_s1 : s1 101 18 = τ 101 18 := (show s1 101 18 = τ 101 18 by rw [hs1, up2_i (by decide)]).trans Of18_τ
  have b2 := ti_lo x1
  have b3 := ti_hi x1
  refine sf_bnd (s_X4_isView hF Is1) (fun r4 u5 p6 => ?_)
  obtain ⟨e9, p6⟩ := p6
  have e9 := e9.symm
  subst e9
  rcases p6 with ⟨rfl, q7, q8⟩ | p6
  · refine sf_ite (fun c9 => ?_) (fun c9 => ?_)
    · have C9 : (1 : Int) = (0 : Int) := ti_eq c9
      exfalso; omega
    have C9 : ¬ (1 : Int) = (0 : Int) := ti_ne c9
    refine sf_in ?_
    rw [f_X4_wrongNumber_e]
    have b10 := ti_lo x2
    have b11 := ti_hi x2
    refine sf_ite (fun c12 => ?_) (fun c12 => ?_)
    · have C12 : (0 : Int) ≤ x2.toInt := ti_le c12
      refine sf_ite (fun c13 => ?_) (fun c13 => ?_)
      · have C13 : x2.toInt ≤ (9 : Int) := ti_le c13
        refine sf_ret ?_
        rw [j_X4_worth_23_e]
        refine sf_ite (fun c14 => ?_) (fun c14 => ?_)
        · have C14 : (0 : Int) ≤ (0 : Int) := ti_le c14
          refine sf_bnd (s_X4_keepTurn hF Is1) (fun r15 u16 p17 => ?_)
          obtain ⟨Iu16, Fu16_, Of15_u16_, Of34_u16_, Of18_u16_, -⟩ := p17
          have Fu16 : ∀ k, k < 101 → u16 k = τ k := fun k hk => (Fu16_ k hk).trans (Fs1 k hk)
          have Of15_u16 : u16 101 15 = τ 101 15 := Of15_u16_.trans Of15_s1
          have Of34_u16 : u16 101 34 = τ 101 34 := Of34_u16_.trans Of34_s1
          have Of18_u16 : u16 101 18 = τ 101 18 := Of18_u16_.trans Of18_s1
          refine sf_chk (ti_in (by omega) (by omega)) ?_
          have v18 : Int32.toNatClampNeg x1 = x1.toInt.toNat := rfl
          have b20 := ti_lo (u16 102 (Int32.toNatClampNeg x1))
          have b21 := ti_hi (u16 102 (Int32.toNatClampNeg x1))
          refine sf_lt (fun z19 hz19 => ?_)
          have hz19_ : z19.toInt = (u16 102 (Int32.toNatClampNeg x1)).toInt := (show z19.toInt = (u16 102 (Int32.toNatClampNeg x1)).toInt from congrArg Int32.toInt hz19)
          refine sf_lt (fun s22 hs22 => ?_)
          have Is22 : wiM s22 := by rw [hs22]; exact wm_oth Iu16 (by decide) (by decide) (by decide) (by decide)
          have Fs22 : ∀ k, k < 101 → s22 k = τ k := fun k hk => (show s22 k = u16 k by rw [hs22, up2_k (by omega)]).trans (Fu16 k hk)
          have Of15_s22 : s22 101 15 = τ 101 15 := (show s22 101 15 = u16 101 15 by rw [hs22, up2_k (by omega)]).trans Of15_u16
          have Of34_s22 : s22 101 34 = τ 101 34 := (show s22 101 34 = u16 101 34 by rw [hs22, up2_k (by omega)]).trans Of34_u16
          have Of18_s22 : s22 101 18 = τ 101 18 := (show s22 101 18 = u16 101 18 by rw [hs22, up2_k (by omega)]).trans Of18_u16
          have b23 := ti_lo z19
          have b24 := ti_hi z19
          exact sf_ret ⟨Is22, Fs22, Of15_s22, Of34_s22, Of18_s22, ti_lo _, ti_hi _⟩
        have C14 : (0 : Int) < (0 : Int) := ti_nle c14
        exfalso; omega
      have C13 : (9 : Int) < x2.toInt := ti_nle c13
      refine sf_ret ?_
      rw [j_X4_worth_23_e]
      refine sf_ite (fun c25 => ?_) (fun c25 => ?_)
      · have C25 : (0 : Int) ≤ (-6 : Int) := ti_le c25
        exfalso; omega
      have C25 : (-6 : Int) < (0 : Int) := ti_nle c25
      refine sf_bnd (s_X4_refuse hF Is1 (by decide) (by decide)) (fun r26 u27 p28 => ?_)
      obtain ⟨Iu27, Fu27_, Of15_u27_, Of34_u27_, Of1_u27_, Of30_u27_, Of18_u27_, p28_1, p28_2, p28_x0⟩ := p28
      have Fu27 : ∀ k, k < 101 → u27 k = τ k := fun k hk => (Fu27_ k hk).trans (Fs1 k hk)
      have Of15_u27 : u27 101 15 = τ 101 15 := Of15_u27_.trans Of15_s1
      have Of34_u27 : u27 101 34 = τ 101 34 := Of34_u27_.trans Of34_s1
      have Of1_u27 : u27 101 1 = τ 101 1 := Of1_u27_.trans Of1_s1
      have Of30_u27 : u27 101 30 = τ 101 30 := Of30_u27_.trans Of30_s1
      have Of18_u27 : u27 101 18 = τ 101 18 := Of18_u27_.trans Of18_s1
      replace p28_x0 : r26.toInt = (-6 : Int) := p28_x0
      exact sf_ret ⟨Iu27, Fu27, Of15_u27, Of34_u27, Of18_u27, ti_lo _, ti_hi _⟩
    have C12 : x2.toInt < (0 : Int) := ti_nle c12
    refine sf_ret ?_
    rw [j_X4_worth_23_e]
    refine sf_ite (fun c29 => ?_) (fun c29 => ?_)
    · have C29 : (0 : Int) ≤ (-4 : Int) := ti_le c29
      exfalso; omega
    have C29 : (-4 : Int) < (0 : Int) := ti_nle c29
    refine sf_bnd (s_X4_refuse hF Is1 (by decide) (by decide)) (fun r30 u31 p32 => ?_)
    obtain ⟨Iu31, Fu31_, Of15_u31_, Of34_u31_, Of1_u31_, Of30_u31_, Of18_u31_, p32_1, p32_2, p32_x0⟩ := p32
    have Fu31 : ∀ k, k < 101 → u31 k = τ k := fun k hk => (Fu31_ k hk).trans (Fs1 k hk)
    have Of15_u31 : u31 101 15 = τ 101 15 := Of15_u31_.trans Of15_s1
    have Of34_u31 : u31 101 34 = τ 101 34 := Of34_u31_.trans Of34_s1
    have Of1_u31 : u31 101 1 = τ 101 1 := Of1_u31_.trans Of1_s1
    have Of30_u31 : u31 101 30 = τ 101 30 := Of30_u31_.trans Of30_s1
    have Of18_u31 : u31 101 18 = τ 101 18 := Of18_u31_.trans Of18_s1
    replace p32_x0 : r30.toInt = (-4 : Int) := p32_x0
    exact sf_ret ⟨Iu31, Fu31, Of15_u31, Of34_u31, Of18_u31, ti_lo _, ti_hi _⟩
  obtain ⟨rfl, q33⟩ := p6
  refine sf_ite (fun c34 => ?_) (fun c34 => ?_)
  · have C34 : (0 : Int) = (0 : Int) := ti_eq c34
    rw [j_X4_worth_23_e]
    refine sf_ite (fun c35 => ?_) (fun c35 => ?_)
    · have C35 : (0 : Int) ≤ (-1 : Int) := ti_le c35
      exfalso; omega
    have C35 : (-1 : Int) < (0 : Int) := ti_nle c35
    refine sf_bnd (s_X4_refuse hF Is1 (by decide) (by decide)) (fun r36 u37 p38 => ?_)
    obtain ⟨Iu37, Fu37_, Of15_u37_, Of34_u37_, Of1_u37_, Of30_u37_, Of18_u37_, p38_1, p38_2, p38_x0⟩ := p38
    have Fu37 : ∀ k, k < 101 → u37 k = τ k := fun k hk => (Fu37_ k hk).trans (Fs1 k hk)
    have Of15_u37 : u37 101 15 = τ 101 15 := Of15_u37_.trans Of15_s1
    have Of34_u37 : u37 101 34 = τ 101 34 := Of34_u37_.trans Of34_s1
    have Of1_u37 : u37 101 1 = τ 101 1 := Of1_u37_.trans Of1_s1
    have Of30_u37 : u37 101 30 = τ 101 30 := Of30_u37_.trans Of30_s1
    have Of18_u37 : u37 101 18 = τ 101 18 := Of18_u37_.trans Of18_s1
    replace p38_x0 : r36.toInt = (-1 : Int) := p38_x0
    exact sf_ret ⟨Iu37, Fu37, Of15_u37, Of34_u37, Of18_u37, ti_lo _, ti_hi _⟩
  have C34 : ¬ (0 : Int) = (0 : Int) := ti_ne c34
  exfalso; omega
set_option maxHeartbeats 4000000 in
set_option maxRecDepth 100000 in
theorem s_X4_law {F : Nat} (hF : 73786976294838206464 ≤ F) {x1 : Int32} {τ : Mem} (hI : wiM τ) : sf (f_X4_law F x1 τ) (fun r s => wiM s ∧ (∀ k, k < 101 → s k = τ k) ∧ s 101 15 = τ 101 15 ∧ s 101 34 = τ 101 34 ∧ s 101 18 = τ 101 18 ∧ -2147483648 ≤ r.toInt ∧ r.toInt ≤ 2147483647) := by
  have Fτ : ∀ k, k < 101 → τ k = τ k := fun _ _ => rfl
  have Of15_τ : τ 101 15 = τ 101 15 := rfl
  have Of34_τ : τ 101 34 = τ 101 34 := rfl
  have Of1_τ : τ 101 1 = τ 101 1 := rfl
  have Of30_τ : τ 101 30 = τ 101 30 := rfl
  have Of18_τ : τ 101 18 = τ 101 18 := rfl
  rw [f_X4_law_e]
  refine sf_lt (fun s1 hs1 => ?_)
  have Is1 : wiM s1 := by rw [hs1]; exact wm_fld hI (by decide) (by decide) (by decide) (by decide) (by decide) (by decide) (by decide)
  have Fs1 : ∀ k, k < 101 → s1 k = τ k := fun k hk => (show s1 k = τ k by rw [hs1, up2_k (by omega)]).trans (Fτ k hk)
  have Of15_s1 : s1 101 15 = τ 101 15 := (show s1 101 15 = τ 101 15 by rw [hs1, up2_i (by decide)]).trans Of15_τ
  have Of34_s1 : s1 101 34 = τ 101 34 := (show s1 101 34 = τ 101 34 by rw [hs1, up2_i (by decide)]).trans Of34_τ
  have Of1_s1 : s1 101 1 = τ 101 1 := (show s1 101 1 = τ 101 1 by rw [hs1, up2_i (by decide)]).trans Of1_τ
  have Of30_s1 : s1 101 30 = τ 101 30 := (show s1 101 30 = τ 101 30 by rw [hs1, up2_i (by decide)]).trans Of30_τ
  have Of18_s1 : s1 101 18 = τ 101 18 := (show s1 101 18 = τ 101 18 by rw [hs1, up2_i (by decide)]).trans Of18_τ
  refine sf_in ?_
  rw [f_X4_in_e]
  have b2 := ti_lo x1
  have b3 := ti_hi x1
  have b4 := ti_lo (lg_cmp (Int32.toInt64 x1) (0 : Int64))
  have b5 := ti_hi (lg_cmp (Int32.toInt64 x1) (0 : Int64))
  refine sf_ite (fun c6 => ?_) (fun c6 => ?_)
  · have C6 : (lg_cmp (Int32.toInt64 x1) (0 : Int64)).toInt < (0 : Int) := ti_lt c6
    have L6 : x1.toInt < (0 : Int) := by have q := lg_ltl c6; (repeat (rw [Int32.toInt_toInt64] at q)); exact q
    rw [j_X4_in_17_e]
    refine sf_ret ?_
    refine sf_ite (fun c7 => ?_) (fun c7 => ?_)
    · have C7 : (0 : Int) = (0 : Int) := ti_eq c7
      refine sf_bnd (s_X4_refuse hF Is1 (by decide) (by decide)) (fun r8 u9 p10 => ?_)
      obtain ⟨Iu9, Fu9_, Of15_u9_, Of34_u9_, Of1_u9_, Of30_u9_, Of18_u9_, p10_1, p10_2, p10_x0⟩ := p10
      have Fu9 : ∀ k, k < 101 → u9 k = τ k := fun k hk => (Fu9_ k hk).trans (Fs1 k hk)
      have Of15_u9 : u9 101 15 = τ 101 15 := Of15_u9_.trans Of15_s1
      have Of34_u9 : u9 101 34 = τ 101 34 := Of34_u9_.trans Of34_s1
      have Of1_u9 : u9 101 1 = τ 101 1 := Of1_u9_.trans Of1_s1
      have Of30_u9 : u9 101 30 = τ 101 30 := Of30_u9_.trans Of30_s1
      have Of18_u9 : u9 101 18 = τ 101 18 := Of18_u9_.trans Of18_s1
      replace p10_x0 : r8.toInt = (-2 : Int) := p10_x0
      exact sf_ret ⟨Iu9, Fu9, Of15_u9, Of34_u9, Of18_u9, ti_lo _, ti_hi _⟩
    have C7 : ¬ (0 : Int) = (0 : Int) := ti_ne c7
    exfalso; omega
  have C6 : (0 : Int) ≤ (lg_cmp (Int32.toInt64 x1) (0 : Int64)).toInt := ti_nlt c6
  have L6 : (0 : Int) ≤ x1.toInt := by have q := lg_ltln c6; (repeat (rw [Int32.toInt_toInt64] at q)); exact q
  have b11 := ti_lo (lg_cmp (Int32.toInt64 x1) (2 : Int64))
  have b12 := ti_hi (lg_cmp (Int32.toInt64 x1) (2 : Int64))
  refine sf_ite (fun c13 => ?_) (fun c13 => ?_)
  · have C13 : (0 : Int) < (lg_cmp (Int32.toInt64 x1) (2 : Int64)).toInt := ti_lt c13
    have L13 : (2 : Int) < x1.toInt := by have q := lg_ltr c13; (repeat (rw [Int32.toInt_toInt64] at q)); exact q
    rw [j_X4_in_17_e]
    refine sf_ret ?_
    refine sf_ite (fun c14 => ?_) (fun c14 => ?_)
    · have C14 : (0 : Int) = (0 : Int) := ti_eq c14
      refine sf_bnd (s_X4_refuse hF Is1 (by decide) (by decide)) (fun r15 u16 p17 => ?_)
      obtain ⟨Iu16, Fu16_, Of15_u16_, Of34_u16_, Of1_u16_, Of30_u16_, Of18_u16_, p17_1, p17_2, p17_x0⟩ := p17
      have Fu16 : ∀ k, k < 101 → u16 k = τ k := fun k hk => (Fu16_ k hk).trans (Fs1 k hk)
      have Of15_u16 : u16 101 15 = τ 101 15 := Of15_u16_.trans Of15_s1
      have Of34_u16 : u16 101 34 = τ 101 34 := Of34_u16_.trans Of34_s1
      have Of1_u16 : u16 101 1 = τ 101 1 := Of1_u16_.trans Of1_s1
      have Of30_u16 : u16 101 30 = τ 101 30 := Of30_u16_.trans Of30_s1
      have Of18_u16 : u16 101 18 = τ 101 18 := Of18_u16_.trans Of18_s1
      replace p17_x0 : r15.toInt = (-2 : Int) := p17_x0
      exact sf_ret ⟨Iu16, Fu16, Of15_u16, Of34_u16, Of18_u16, ti_lo _, ti_hi _⟩
    have C14 : ¬ (0 : Int) = (0 : Int) := ti_ne c14
    exfalso; omega
  have C13 : (lg_cmp (Int32.toInt64 x1) (2 : Int64)).toInt ≤ (0 : Int) := ti_nlt c13
  have L13 : x1.toInt ≤ (2 : Int) := by have q := lg_ltrn c13; (repeat (rw [Int32.toInt_toInt64] at q)); exact q
  refine sf_ret ?_
  refine sf_ite (fun c18 => ?_) (fun c18 => ?_)
  · have C18 : (1 : Int) = (0 : Int) := ti_eq c18
    exfalso; omega
  have C18 : ¬ (1 : Int) = (0 : Int) := ti_ne c18
  refine sf_bnd (s_X4_keepTurn hF Is1) (fun r19 u20 p21 => ?_)
  obtain ⟨Iu20, Fu20_, Of15_u20_, Of34_u20_, Of18_u20_, -⟩ := p21
  have Fu20 : ∀ k, k < 101 → u20 k = τ k := fun k hk => (Fu20_ k hk).trans (Fs1 k hk)
  have Of15_u20 : u20 101 15 = τ 101 15 := Of15_u20_.trans Of15_s1
  have Of34_u20 : u20 101 34 = τ 101 34 := Of34_u20_.trans Of34_s1
  have Of18_u20 : u20 101 18 = τ 101 18 := Of18_u20_.trans Of18_s1
  refine sf_lt (fun s22 hs22 => ?_)
  have Is22 : wiM s22 := by rw [hs22]; exact wm_fld Iu20 (by decide) (by decide) (by decide) (by decide) (by decide) (by decide) (by decide)
  have Fs22 : ∀ k, k < 101 → s22 k = τ k := fun k hk => (show s22 k = u20 k by rw [hs22, up2_k (by omega)]).trans (Fu20 k hk)
  have Of15_s22 : s22 101 15 = τ 101 15 := (show s22 101 15 = u20 101 15 by rw [hs22, up2_i (by decide)]).trans Of15_u20
  have Of34_s22 : s22 101 34 = τ 101 34 := (show s22 101 34 = u20 101 34 by rw [hs22, up2_i (by decide)]).trans Of34_u20
  have Of18_s22 : s22 101 18 = τ 101 18 := (show s22 101 18 = u20 101 18 by rw [hs22, up2_i (by decide)]).trans Of18_u20
  have b23 := ti_lo (u20 101 8)
  have b24 := ti_hi (u20 101 8)
  exact sf_ret ⟨Is22, Fs22, Of15_s22, Of34_s22, Of18_s22, ti_lo _, ti_hi _⟩
set_option maxHeartbeats 4000000 in
set_option maxRecDepth 100000 in
theorem s_X4_days {F : Nat} (hF : 73786976294838206464 ≤ F) {x1 : Int32} {τ : Mem} (hI : wiM τ) : sf (f_X4_days F x1 τ) (fun r s => wiM s ∧ (∀ k, k < 101 → s k = τ k) ∧ s 101 15 = τ 101 15 ∧ s 101 34 = τ 101 34 ∧ s 101 1 = τ 101 1 ∧ s 101 18 = τ 101 18 ∧ -2147483648 ≤ r.toInt ∧ r.toInt ≤ 2147483647) := by
  have Fτ : ∀ k, k < 101 → τ k = τ k := fun _ _ => rfl
  have Of15_τ : τ 101 15 = τ 101 15 := rfl
  have Of34_τ : τ 101 34 = τ 101 34 := rfl
  have Of1_τ : τ 101 1 = τ 101 1 := rfl
  have Of30_τ : τ 101 30 = τ 101 30 := rfl
  have Of18_τ : τ 101 18 = τ 101 18 := rfl
  rw [f_X4_days_e]
  refine sf_lt (fun s1 hs1 => ?_)
  have Is1 : wiM s1 := by rw [hs1]; exact wm_fld hI (by decide) (by decide) (by decide) (by decide) (by decide) (by decide) (by decide)
  have Fs1 : ∀ k, k < 101 → s1 k = τ k := fun k hk => (show s1 k = τ k by rw [hs1, up2_k (by omega)]).trans (Fτ k hk)
  have Of15_s1 : s1 101 15 = τ 101 15 := (show s1 101 15 = τ 101 15 by rw [hs1, up2_i (by decide)]).trans Of15_τ
  have Of34_s1 : s1 101 34 = τ 101 34 := (show s1 101 34 = τ 101 34 by rw [hs1, up2_i (by decide)]).trans Of34_τ
  have Of1_s1 : s1 101 1 = τ 101 1 := (show s1 101 1 = τ 101 1 by rw [hs1, up2_i (by decide)]).trans Of1_τ
  have Of30_s1 : s1 101 30 = τ 101 30 := (show s1 101 30 = τ 101 30 by rw [hs1, up2_i (by decide)]).trans Of30_τ
  have Of18_s1 : s1 101 18 = τ 101 18 := (show s1 101 18 = τ 101 18 by rw [hs1, up2_i (by decide)]).trans Of18_τ
  refine sf_in ?_
  rw [f_X4_wrongNumber_e]
  have b2 := ti_lo x1
  have b3 := ti_hi x1
  refine sf_ite (fun c4 => ?_) (fun c4 => ?_)
  · have C4 : (1 : Int) ≤ x1.toInt := ti_le c4
    refine sf_ite (fun c5 => ?_) (fun c5 => ?_)
    · have C5 : x1.toInt ≤ (99 : Int) := ti_le c5
      refine sf_ret ?_
      refine sf_ite (fun c6 => ?_) (fun c6 => ?_)
      · have C6 : (0 : Int) = (0 : Int) := ti_eq c6
        have b7 := ti_lo (τ 101 9)
        have b8 := ti_hi (τ 101 9)
        have e9 : (s1 101 9).toInt = (τ 101 9).toInt := congrArg Int32.toInt (by rw [hs1, up2_i (by decide)])
        have b10 := ti_lo (s1 101 9)
        have b11 := ti_hi (s1 101 9)
        have b12 := ti_lo ((s1 101 9) + x1)
        have b13 := ti_hi ((s1 101 9) + x1)
        refine sf_ite (fun c14 => ?_) (fun c14 => ?_)
        · have C14 : ((s1 101 9) + x1).toInt ≤ (9999 : Int) := ti_le c14
          rw [j_X4_days_34_e]
          rw [j_X4_days_35_e]
          refine sf_ite (fun c15 => ?_) (fun c15 => ?_)
          · have C15 : (0 : Int) ≤ (0 : Int) := ti_le c15
            refine sf_bnd (s_X4_goDays hF Is1 (by omega) (by omega)) (fun r16 u17 p18 => ?_)
            obtain ⟨Iu17, Fu17_, Of15_u17_, Of34_u17_, Of1_u17_, Of30_u17_, Of18_u17_, -⟩ := p18
            have Fu17 : ∀ k, k < 101 → u17 k = τ k := fun k hk => (Fu17_ k hk).trans (Fs1 k hk)
            have Of15_u17 : u17 101 15 = τ 101 15 := Of15_u17_.trans Of15_s1
            have Of34_u17 : u17 101 34 = τ 101 34 := Of34_u17_.trans Of34_s1
            have Of1_u17 : u17 101 1 = τ 101 1 := Of1_u17_.trans Of1_s1
            have Of30_u17 : u17 101 30 = τ 101 30 := Of30_u17_.trans Of30_s1
            have Of18_u17 : u17 101 18 = τ 101 18 := Of18_u17_.trans Of18_s1
            refine sf_lt (fun s19 hs19 => ?_)
            have Is19 : wiM s19 := by rw [hs19]; exact wx_put_X4_30 Iu17 (by decide) (by decide)
            have Fs19 : ∀ k, k < 101 → s19 k = τ k := fun k hk => (show s19 k = u17 k by rw [hs19, up2_k (by omega)]).trans (Fu17 k hk)
            have Of15_s19 : s19 101 15 = τ 101 15 := (show s19 101 15 = u17 101 15 by rw [hs19, up2_i (by decide)]).trans Of15_u17
            have Of34_s19 : s19 101 34 = τ 101 34 := (show s19 101 34 = u17 101 34 by rw [hs19, up2_i (by decide)]).trans Of34_u17
            have Of1_s19 : s19 101 1 = τ 101 1 := (show s19 101 1 = u17 101 1 by rw [hs19, up2_i (by decide)]).trans Of1_u17
            have Of18_s19 : s19 101 18 = τ 101 18 := (show s19 101 18 = u17 101 18 by rw [hs19, up2_i (by decide)]).trans Of18_u17
            refine sf_bnd (s_X4_owned hF Is19) (fun r20 u21 p22 => ?_)
            obtain ⟨Iu21, Fu21_, Of15_u21_, Of34_u21_, Of1_u21_, Of30_u21_, Of18_u21_, p22_1, p22_2⟩ := p22
            have Fu21 : ∀ k, k < 101 → u21 k = τ k := fun k hk => (Fu21_ k hk).trans (Fs19 k hk)
            have Of15_u21 : u21 101 15 = τ 101 15 := Of15_u21_.trans Of15_s19
            have Of34_u21 : u21 101 34 = τ 101 34 := Of34_u21_.trans Of34_s19
            have Of1_u21 : u21 101 1 = τ 101 1 := Of1_u21_.trans Of1_s19
            have Of18_u21 : u21 101 18 = τ 101 18 := Of18_u21_.trans Of18_s19
            have b23 := ti_lo r20
            have b24 := ti_hi r20
            exact sf_ret ⟨Iu21, Fu21, Of15_u21, Of34_u21, Of1_u21, Of18_u21, ti_lo _, ti_hi _⟩
          have C15 : (0 : Int) < (0 : Int) := ti_nle c15
          exfalso; omega
        have C14 : (9999 : Int) < ((s1 101 9) + x1).toInt := ti_nle c14
        rw [j_X4_days_35_e]
        refine sf_ite (fun c25 => ?_) (fun c25 => ?_)
        · have C25 : (0 : Int) ≤ (-6 : Int) := ti_le c25
          exfalso; omega
        have C25 : (-6 : Int) < (0 : Int) := ti_nle c25
        refine sf_bnd (s_X4_refuse hF Is1 (by decide) (by decide)) (fun r26 u27 p28 => ?_)
        obtain ⟨Iu27, Fu27_, Of15_u27_, Of34_u27_, Of1_u27_, Of30_u27_, Of18_u27_, p28_1, p28_2, p28_x0⟩ := p28
        have Fu27 : ∀ k, k < 101 → u27 k = τ k := fun k hk => (Fu27_ k hk).trans (Fs1 k hk)
        have Of15_u27 : u27 101 15 = τ 101 15 := Of15_u27_.trans Of15_s1
        have Of34_u27 : u27 101 34 = τ 101 34 := Of34_u27_.trans Of34_s1
        have Of1_u27 : u27 101 1 = τ 101 1 := Of1_u27_.trans Of1_s1
        have Of30_u27 : u27 101 30 = τ 101 30 := Of30_u27_.trans Of30_s1
        have Of18_u27 : u27 101 18 = τ 101 18 := Of18_u27_.trans Of18_s1
        replace p28_x0 : r26.toInt = (-6 : Int) := p28_x0
        exact sf_ret ⟨Iu27, Fu27, Of15_u27, Of34_u27, Of1_u27, Of18_u27, ti_lo _, ti_hi _⟩
      have C6 : ¬ (0 : Int) = (0 : Int) := ti_ne c6
      exfalso; omega
    have C5 : (99 : Int) < x1.toInt := ti_nle c5
    refine sf_ret ?_
    refine sf_ite (fun c29 => ?_) (fun c29 => ?_)
    · have C29 : (-6 : Int) = (0 : Int) := ti_eq c29
      exfalso; omega
    have C29 : ¬ (-6 : Int) = (0 : Int) := ti_ne c29
    rw [j_X4_days_34_e]
    rw [j_X4_days_35_e]
    refine sf_ite (fun c30 => ?_) (fun c30 => ?_)
    · have C30 : (0 : Int) ≤ (-6 : Int) := ti_le c30
      exfalso; omega
    have C30 : (-6 : Int) < (0 : Int) := ti_nle c30
    refine sf_bnd (s_X4_refuse hF Is1 (by decide) (by decide)) (fun r31 u32 p33 => ?_)
    obtain ⟨Iu32, Fu32_, Of15_u32_, Of34_u32_, Of1_u32_, Of30_u32_, Of18_u32_, p33_1, p33_2, p33_x0⟩ := p33
    have Fu32 : ∀ k, k < 101 → u32 k = τ k := fun k hk => (Fu32_ k hk).trans (Fs1 k hk)
    have Of15_u32 : u32 101 15 = τ 101 15 := Of15_u32_.trans Of15_s1
    have Of34_u32 : u32 101 34 = τ 101 34 := Of34_u32_.trans Of34_s1
    have Of1_u32 : u32 101 1 = τ 101 1 := Of1_u32_.trans Of1_s1
    have Of30_u32 : u32 101 30 = τ 101 30 := Of30_u32_.trans Of30_s1
    have Of18_u32 : u32 101 18 = τ 101 18 := Of18_u32_.trans Of18_s1
    replace p33_x0 : r31.toInt = (-6 : Int) := p33_x0
    exact sf_ret ⟨Iu32, Fu32, Of15_u32, Of34_u32, Of1_u32, Of18_u32, ti_lo _, ti_hi _⟩
  have C4 : x1.toInt < (1 : Int) := ti_nle c4
  refine sf_ret ?_
  refine sf_ite (fun c34 => ?_) (fun c34 => ?_)
  · have C34 : (-4 : Int) = (0 : Int) := ti_eq c34
    exfalso; omega
  have C34 : ¬ (-4 : Int) = (0 : Int) := ti_ne c34
  rw [j_X4_days_34_e]
  rw [j_X4_days_35_e]
  refine sf_ite (fun c35 => ?_) (fun c35 => ?_)
  · have C35 : (0 : Int) ≤ (-4 : Int) := ti_le c35
    exfalso; omega
  have C35 : (-4 : Int) < (0 : Int) := ti_nle c35
  refine sf_bnd (s_X4_refuse hF Is1 (by decide) (by decide)) (fun r36 u37 p38 => ?_)
  obtain ⟨Iu37, Fu37_, Of15_u37_, Of34_u37_, Of1_u37_, Of30_u37_, Of18_u37_, p38_1, p38_2, p38_x0⟩ := p38
  have Fu37 : ∀ k, k < 101 → u37 k = τ k := fun k hk => (Fu37_ k hk).trans (Fs1 k hk)
  have Of15_u37 : u37 101 15 = τ 101 15 := Of15_u37_.trans Of15_s1
  have Of34_u37 : u37 101 34 = τ 101 34 := Of34_u37_.trans Of34_s1
  have Of1_u37 : u37 101 1 = τ 101 1 := Of1_u37_.trans Of1_s1
  have Of30_u37 : u37 101 30 = τ 101 30 := Of30_u37_.trans Of30_s1
  have Of18_u37 : u37 101 18 = τ 101 18 := Of18_u37_.trans Of18_s1
  replace p38_x0 : r36.toInt = (-4 : Int) := p38_x0
  exact sf_ret ⟨Iu37, Fu37, Of15_u37, Of34_u37, Of1_u37, Of18_u37, ti_lo _, ti_hi _⟩
