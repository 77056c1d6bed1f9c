set_option maxHeartbeats 4000000 in
set_option maxRecDepth 100000 in
theorem sl_X4_freeHours_54 {F : Nat} (hF : 73786976294838206464 ≤ F) {x1 : Int32} {x2 : Int32} {x4 : Int32} {τ : Mem} (x1_1 : 0 ≤ x1.toInt) (x1_2 : x1.toInt ≤ 4) (x2_1 : 0 ≤ x2.toInt) (x2_2 : x2.toInt ≤ 999) : ∀ (N : Nat) (x5 : Int32) (x6 : Int32) (σ : Mem), wiM σ → (∀ k, k < 101 → σ k = τ k) → σ 101 15 = τ 101 15 → σ 101 34 = τ 101 34 → σ 101 1 = τ 101 1 → σ 101 30 = τ 101 30 → σ 101 18 = τ 101 18 → 24 < x6.toInt + N → 0 ≤ x6.toInt → x6.toInt ≤ 24 → sf (lp_X4_freeHours_54 F x1 x2 x4 N x5 x6 σ) (fun r s => wiM s ∧ (∀ k, k < 101 → s k = τ k) ∧ s 101 15 = τ 101 15 ∧ s 101 34 = τ 101 34 ∧ s 101 1 = τ 101 1 ∧ s 101 30 = τ 101 30 ∧ s 101 18 = τ 101 18 ∧ -2147483648 ≤ r.toInt ∧ r.toInt ≤ 2147483647) := by
  intro N
  induction N with
  | zero => intro x5 x6 σ hI Fσ Of15_σ Of34_σ Of1_σ Of30_σ Of18_σ hN x6_1 x6_2; exfalso; omega
  | succ N ih =>
    intro x5 x6 σ hI Fσ Of15_σ Of34_σ Of1_σ Of30_σ Of18_σ hN x6_1 x6_2
    rw [lp_X4_freeHours_54_s]
    refine sf_ite (fun c1 => ?_) (fun c1 => ?_)
    · have C1 : (24 : Int) ≤ x6.toInt := ti_le c1
      have b2 := ti_lo x5
      have b3 := ti_hi x5
      exact sf_ret ⟨hI, Fσ, Of15_σ, Of34_σ, Of1_σ, Of30_σ, Of18_σ, ti_lo _, ti_hi _⟩
    have C1 : x6.toInt < (24 : Int) := ti_nle c1
    have t4 : ((24 : Int32) * x1).toInt = (24 : Int) * x1.toInt := ti_mul (show -2147483648 ≤ (24 : Int) * x1.toInt by omega) (show (24 : Int) * x1.toInt ≤ 2147483647 by omega)
    have t5 : (((24 : Int32) * x1) + x6).toInt = ((24 : Int32) * x1).toInt + x6.toInt := ti_add (show -2147483648 ≤ ((24 : Int32) * x1).toInt + x6.toInt by omega) (show ((24 : Int32) * x1).toInt + x6.toInt ≤ 2147483647 by omega)
    refine sf_chk (ti_in (by omega) (by omega)) ?_
    have v6 : Int32.toNatClampNeg (((24 : Int32) * x1) + x6) = (((24 : Int32) * x1) + x6).toInt.toNat := rfl
    have m8 := wx_106 hI (Int32.toNatClampNeg (((24 : Int32) * x1) + x6))
    refine sf_lt (fun z7 hz7 => ?_)
    have hz7_ : z7.toInt = (σ 106 (Int32.toNatClampNeg (((24 : Int32) * x1) + x6))).toInt := (show z7.toInt = (σ 106 (Int32.toNatClampNeg (((24 : Int32) * x1) + x6))).toInt from congrArg Int32.toInt hz7)
    refine sf_lt (fun s9 hs9 => ?_)
    have Is9 : wiM s9 := by rw [hs9]; exact wx_put_106 hI (by decide) (by decide)
    have Fs9 : ∀ k, k < 101 → s9 k = τ k := fun k hk => (show s9 k = σ k by rw [hs9, up2_k (by omega)]).trans (Fσ k hk)
    have Of15_s9 : s9 101 15 = τ 101 15 := (show s9 101 15 = σ 101 15 by rw [hs9, up2_k (by omega)]).trans Of15_σ
    have Of34_s9 : s9 101 34 = τ 101 34 := (show s9 101 34 = σ 101 34 by rw [hs9, up2_k (by omega)]).trans Of34_σ
    have Of1_s9 : s9 101 1 = τ 101 1 := (show s9 101 1 = σ 101 1 by rw [hs9, up2_k (by omega)]).trans Of1_σ
    have Of30_s9 : s9 101 30 = τ 101 30 := (show s9 101 30 = σ 101 30 by rw [hs9, up2_k (by omega)]).trans Of30_σ
    have Of18_s9 : s9 101 18 = τ 101 18 := (show s9 101 18 = σ 101 18 by rw [hs9, up2_k (by omega)]).trans Of18_σ
    refine sf_bnd (s_X4_layBrings hF Is9) (fun r10 u11 p12 => ?_)
    obtain ⟨Iu11, Fu11_, Of15_u11_, Of34_u11_, Of1_u11_, Of30_u11_, Of18_u11_, -⟩ := p12
    have Fu11 : ∀ k, k < 101 → u11 k = τ k := fun k hk => (Fu11_ k hk).trans (Fs9 k hk)
    have Of15_u11 : u11 101 15 = τ 101 15 := Of15_u11_.trans Of15_s9
    have Of34_u11 : u11 101 34 = τ 101 34 := Of34_u11_.trans Of34_s9
    have Of1_u11 : u11 101 1 = τ 101 1 := Of1_u11_.trans Of1_s9
    have Of30_u11 : u11 101 30 = τ 101 30 := Of30_u11_.trans Of30_s9
    have Of18_u11 : u11 101 18 = τ 101 18 := Of18_u11_.trans Of18_s9
    refine sf_ite (fun c13 => ?_) (fun c13 => ?_)
    · have C13 : z7.toInt < (0 : Int) := ti_lt c13
      rw [j_X4_freeHours_118_e]
      rw [j_X4_freeHours_119_e]
      refine sf_chk (ti_in (by omega) (by omega)) ?_
      have v14 : Int32.toNatClampNeg (((24 : Int32) * x1) + x6) = (((24 : Int32) * x1) + x6).toInt.toNat := rfl
      refine sf_lt (fun s15 hs15 => ?_)
      have Is15 : wiM s15 := by rw [hs15]; exact wx_put_106 Iu11 (by omega) (by omega)
      have Fs15 : ∀ k, k < 101 → s15 k = τ k := fun k hk => (show s15 k = u11 k by rw [hs15, up2_k (by omega)]).trans (Fu11 k hk)
      have Of15_s15 : s15 101 15 = τ 101 15 := (show s15 101 15 = u11 101 15 by rw [hs15, up2_k (by omega)]).trans Of15_u11
      have Of34_s15 : s15 101 34 = τ 101 34 := (show s15 101 34 = u11 101 34 by rw [hs15, up2_k (by omega)]).trans Of34_u11
      have Of1_s15 : s15 101 1 = τ 101 1 := (show s15 101 1 = u11 101 1 by rw [hs15, up2_k (by omega)]).trans Of1_u11
      have Of30_s15 : s15 101 30 = τ 101 30 := (show s15 101 30 = u11 101 30 by rw [hs15, up2_k (by omega)]).trans Of30_u11
      have Of18_s15 : s15 101 18 = τ 101 18 := (show s15 101 18 = u11 101 18 by rw [hs15, up2_k (by omega)]).trans Of18_u11
      have b16 := ti_lo (x5 ||| (0 : Int32))
      have b17 := ti_hi (x5 ||| (0 : Int32))
      have t18 : (x6 + (1 : Int32)).toInt = x6.toInt + (1 : Int) := ti_add (show -2147483648 ≤ x6.toInt + (1 : Int) by omega) (show x6.toInt + (1 : Int) ≤ 2147483647 by omega)
      exact ih _ _ _ Is15 Fs15 Of15_s15 Of34_s15 Of1_s15 Of30_s15 Of18_s15 (by omega) (by omega) (by omega)
    have C13 : (0 : Int) ≤ z7.toInt := ti_nlt c13
    refine sf_bnd (s_X4_viewsIn hF Iu11 (by omega) (by omega) (by omega) (by omega)) (fun r19 u20 p21 => ?_)
    obtain ⟨Iu20, Fu20_, Of15_u20_, Of34_u20_, Of1_u20_, Of30_u20_, Of18_u20_, p21_1, p21_2⟩ := p21
    have Fu20 : ∀ k, k < 101 → u20 k = τ k := fun k hk => (Fu20_ k hk).trans (Fu11 k hk)
    have Of15_u20 : u20 101 15 = τ 101 15 := Of15_u20_.trans Of15_u11
    have Of34_u20 : u20 101 34 = τ 101 34 := Of34_u20_.trans Of34_u11
    have Of1_u20 : u20 101 1 = τ 101 1 := Of1_u20_.trans Of1_u11
    have Of30_u20 : u20 101 30 = τ 101 30 := Of30_u20_.trans Of30_u11
    have Of18_u20 : u20 101 18 = τ 101 18 := Of18_u20_.trans Of18_u11
    have b22 := ti_lo r19
    have b23 := ti_hi r19
    have b24 := ti_lo x4
    have b25 := ti_hi x4
    refine sf_ite (fun c26 => ?_) (fun c26 => ?_)
    · have C26 : r19.toInt = x4.toInt := ti_eq c26
      rw [j_X4_freeHours_119_e]
      refine sf_chk (ti_in (by omega) (by omega)) ?_
      have v27 : Int32.toNatClampNeg (((24 : Int32) * x1) + x6) = (((24 : Int32) * x1) + x6).toInt.toNat := rfl
      refine sf_lt (fun s28 hs28 => ?_)
      have Is28 : wiM s28 := by rw [hs28]; exact wx_put_106 Iu20 (by omega) (by omega)
      have Fs28 : ∀ k, k < 101 → s28 k = τ k := fun k hk => (show s28 k = u20 k by rw [hs28, up2_k (by omega)]).trans (Fu20 k hk)
      have Of15_s28 : s28 101 15 = τ 101 15 := (show s28 101 15 = u20 101 15 by rw [hs28, up2_k (by omega)]).trans Of15_u20
      have Of34_s28 : s28 101 34 = τ 101 34 := (show s28 101 34 = u20 101 34 by rw [hs28, up2_k (by omega)]).trans Of34_u20
      have Of1_s28 : s28 101 1 = τ 101 1 := (show s28 101 1 = u20 101 1 by rw [hs28, up2_k (by omega)]).trans Of1_u20
      have Of30_s28 : s28 101 30 = τ 101 30 := (show s28 101 30 = u20 101 30 by rw [hs28, up2_k (by omega)]).trans Of30_u20
      have Of18_s28 : s28 101 18 = τ 101 18 := (show s28 101 18 = u20 101 18 by rw [hs28, up2_k (by omega)]).trans Of18_u20
      have b29 := ti_lo (x5 ||| ((1 : Int32) <<< (x6 &&& 31)))
      have b30 := ti_hi (x5 ||| ((1 : Int32) <<< (x6 &&& 31)))
      have t31 : (x6 + (1 : Int32)).toInt = x6.toInt + (1 : Int) := ti_add (show -2147483648 ≤ x6.toInt + (1 : Int) by omega) (show x6.toInt + (1 : Int) ≤ 2147483647 by omega)
      exact ih _ _ _ Is28 Fs28 Of15_s28 Of34_s28 Of1_s28 Of30_s28 Of18_s28 (by omega) (by omega) (by omega)
    have C26 : ¬ r19.toInt = x4.toInt := ti_ne c26
    rw [j_X4_freeHours_118_e]
    rw [j_X4_freeHours_119_e]
    refine sf_chk (ti_in (by omega) (by omega)) ?_
    have v32 : Int32.toNatClampNeg (((24 : Int32) * x1) + x6) = (((24 : Int32) * x1) + x6).toInt.toNat := rfl
    refine sf_lt (fun s33 hs33 => ?_)
    have Is33 : wiM s33 := by rw [hs33]; exact wx_put_106 Iu20 (by omega) (by omega)
    have Fs33 : ∀ k, k < 101 → s33 k = τ k := fun k hk => (show s33 k = u20 k by rw [hs33, up2_k (by omega)]).trans (Fu20 k hk)
    have Of15_s33 : s33 101 15 = τ 101 15 := (show s33 101 15 = u20 101 15 by rw [hs33, up2_k (by omega)]).trans Of15_u20
    have Of34_s33 : s33 101 34 = τ 101 34 := (show s33 101 34 = u20 101 34 by rw [hs33, up2_k (by omega)]).trans Of34_u20
    have Of1_s33 : s33 101 1 = τ 101 1 := (show s33 101 1 = u20 101 1 by rw [hs33, up2_k (by omega)]).trans Of1_u20
    have Of30_s33 : s33 101 30 = τ 101 30 := (show s33 101 30 = u20 101 30 by rw [hs33, up2_k (by omega)]).trans Of30_u20
    have Of18_s33 : s33 101 18 = τ 101 18 := (show s33 101 18 = u20 101 18 by rw [hs33, up2_k (by omega)]).trans Of18_u20
    have b34 := ti_lo (x5 ||| (0 : Int32))
    have b35 := ti_hi (x5 ||| (0 : Int32))
    have t36 : (x6 + (1 : Int32)).toInt = x6.toInt + (1 : Int) := ti_add (show -2147483648 ≤ x6.toInt + (1 : Int) by omega) (show x6.toInt + (1 : Int) ≤ 2147483647 by omega)
    exact ih _ _ _ Is33 Fs33 Of15_s33 Of34_s33 Of1_s33 Of30_s33 Of18_s33 (by omega) (by omega) (by omega)
set_option maxHeartbeats 4000000 in
set_option maxRecDepth 100000 in
theorem s_X4_freeHours {F : Nat} (hF : 73786976294838206464 ≤ F) {x1 : Int32} {x2 : Int32} {τ : Mem} (hI : wiM τ) : sf (f_X4_freeHours F x1 x2 τ) (fun r s => wiM s ∧ (∀ k, k < 101 → s k = τ k) ∧ s 101 15 = τ 101 15 ∧ s 101 34 = τ 101 34 ∧ s 101 1 = τ 101 1 ∧ s 101 30 = τ 101 30 ∧ s 101 18 = τ 101 18 ∧ -2147483648 ≤ r.toInt ∧ r.toInt ≤ 2147483647) := by
  have Fτ : ∀ k, k < 101 → τ k = τ k := fun _ _ => rfl
  have Of15_τ : τ 101 15 = τ 101 15 := rfl
  have Of34_τ : τ 101 34 = τ 101 34 := rfl
  have Of1_τ : τ 101 1 = τ 101 1 := rfl
  have Of30_τ : τ 101 30 = τ 101 30 := rfl
  have Of18_τ : τ 101 18 = τ 101 18 := rfl
  rw [f_X4_freeHours_e]
  refine sf_lt (fun s1 hs1 => ?_)
  have Is1 : wiM s1 := by rw [hs1]; exact wm_fld hI (by decide) (by decide) (by decide) (by decide) (by decide) (by decide) (by decide)
  have Fs1 : ∀ k, k < 101 → s1 k = τ k := fun k hk => (show s1 k = τ k by rw [hs1, up2_k (by omega)]).trans (Fτ k hk)
  have Of15_s1 : s1 101 15 = τ 101 15 := (show s1 101 15 = τ 101 15 by rw [hs1, up2_i (by decide)]).trans Of15_τ
  have Of34_s1 : s1 101 34 = τ 101 34 := (show s1 101 34 = τ 101 34 by rw [hs1, up2_i (by decide)]).trans Of34_τ
  have Of1_s1 : s1 101 1 = τ 101 1 := (show s1 101 1 = τ 101 1 by rw [hs1, up2_i (by decide)]).trans Of1_τ
  have Of30_s1 : s1 101 30 = τ 101 30 := (show s1 101 30 = τ 101 30 by rw [hs1, up2_i (by decide)]).trans Of30_τ
  have Of18_s1 : s1 101 18 = τ 101 18 := (show s1 101 18 = τ 101 18 by rw [hs1, up2_i (by decide)]).trans Of18_τ
  have b2 := ti_lo x1
  have b3 := ti_hi x1
  refine sf_bnd (s_X4_isLooker hF Is1) (fun r4 u5 p6 => ?_)
  obtain ⟨e9, p6⟩ := p6
  have e9 := e9.symm
  subst e9
  rcases p6 with ⟨rfl, q7, q8⟩ | p6
  · refine sf_ite (fun c9 => ?_) (fun c9 => ?_)
    · have C9 : (1 : Int) = (0 : Int) := ti_eq c9
      exfalso; omega
    have C9 : ¬ (1 : Int) = (0 : Int) := ti_ne c9
    refine sf_in ?_
    rw [f_X4_wrongNumber_e]
    have b10 := ti_lo x2
    have b11 := ti_hi x2
    refine sf_ite (fun c12 => ?_) (fun c12 => ?_)
    · have C12 : (0 : Int) ≤ x2.toInt := ti_le c12
      refine sf_ite (fun c13 => ?_) (fun c13 => ?_)
      · have C13 : x2.toInt ≤ (999 : Int) := ti_le c13
        refine sf_ret ?_
        rw [j_X4_freeHours_25_e]
        refine sf_ite (fun c14 => ?_) (fun c14 => ?_)
        · have C14 : (0 : Int) ≤ (0 : Int) := ti_le c14
          refine sf_bnd (s_X4_layBrings hF Is1) (fun r15 u16 p17 => ?_)
          obtain ⟨Iu16, Fu16_, Of15_u16_, Of34_u16_, Of1_u16_, Of30_u16_, Of18_u16_, -⟩ := p17
          have Fu16 : ∀ k, k < 101 → u16 k = τ k := fun k hk => (Fu16_ k hk).trans (Fs1 k hk)
          have Of15_u16 : u16 101 15 = τ 101 15 := Of15_u16_.trans Of15_s1
          have Of34_u16 : u16 101 34 = τ 101 34 := Of34_u16_.trans Of34_s1
          have Of1_u16 : u16 101 1 = τ 101 1 := Of1_u16_.trans Of1_s1
          have Of30_u16 : u16 101 30 = τ 101 30 := Of30_u16_.trans Of30_s1
          have Of18_u16 : u16 101 18 = τ 101 18 := Of18_u16_.trans Of18_s1
          refine sf_bnd (s_X4_viewsIn hF Iu16 (by omega) (by omega) (by omega) (by omega)) (fun r18 u19 p20 => ?_)
          obtain ⟨Iu19, Fu19_, Of15_u19_, Of34_u19_, Of1_u19_, Of30_u19_, Of18_u19_, p20_1, p20_2⟩ := p20
          have Fu19 : ∀ k, k < 101 → u19 k = τ k := fun k hk => (Fu19_ k hk).trans (Fu16 k hk)
          have Of15_u19 : u19 101 15 = τ 101 15 := Of15_u19_.trans Of15_u16
          have Of34_u19 : u19 101 34 = τ 101 34 := Of34_u19_.trans Of34_u16
          have Of1_u19 : u19 101 1 = τ 101 1 := Of1_u19_.trans Of1_u16
          have Of30_u19 : u19 101 30 = τ 101 30 := Of30_u19_.trans Of30_u16
          have Of18_u19 : u19 101 18 = τ 101 18 := Of18_u19_.trans Of18_u16
          have b21 := ti_lo r18
          have b22 := ti_hi r18
          have l_0 : (0 : Int32).toInt = 0 := rfl
          exact sl_X4_freeHours_54 hF (by omega) (by omega) (by omega) (by omega) _ _ _ _ Iu19 Fu19 Of15_u19 Of34_u19 Of1_u19 Of30_u19 Of18_u19 (by omega) (by decide) (by decide)
        have C14 : (0 : Int) < (0 : Int) := ti_nle c14
        exfalso; omega
      have C13 : (999 : Int) < x2.toInt := ti_nle c13
      refine sf_ret ?_
      rw [j_X4_freeHours_25_e]
      refine sf_ite (fun c23 => ?_) (fun c23 => ?_)
      · have C23 : (0 : Int) ≤ (-6 : Int) := ti_le c23
        exfalso; omega
      have C23 : (-6 : Int) < (0 : Int) := ti_nle c23
      refine sf_bnd (s_X4_refuse hF Is1 (by decide) (by decide)) (fun r24 u25 p26 => ?_)
      obtain ⟨Iu25, Fu25_, Of15_u25_, Of34_u25_, Of1_u25_, Of30_u25_, Of18_u25_, p26_1, p26_2, p26_x0⟩ := p26
      have Fu25 : ∀ k, k < 101 → u25 k = τ k := fun k hk => (Fu25_ k hk).trans (Fs1 k hk)
      have Of15_u25 : u25 101 15 = τ 101 15 := Of15_u25_.trans Of15_s1
      have Of34_u25 : u25 101 34 = τ 101 34 := Of34_u25_.trans Of34_s1
      have Of1_u25 : u25 101 1 = τ 101 1 := Of1_u25_.trans Of1_s1
      have Of30_u25 : u25 101 30 = τ 101 30 := Of30_u25_.trans Of30_s1
      have Of18_u25 : u25 101 18 = τ 101 18 := Of18_u25_.trans Of18_s1
      replace p26_x0 : r24.toInt = (-6 : Int) := p26_x0
      exact sf_ret ⟨Iu25, Fu25, Of15_u25, Of34_u25, Of1_u25, Of30_u25, Of18_u25, ti_lo _, ti_hi _⟩
    have C12 : x2.toInt < (0 : Int) := ti_nle c12
    refine sf_ret ?_
    rw [j_X4_freeHours_25_e]
    refine sf_ite (fun c27 => ?_) (fun c27 => ?_)
    · have C27 : (0 : Int) ≤ (-4 : Int) := ti_le c27
      exfalso; omega
    have C27 : (-4 : Int) < (0 : Int) := ti_nle c27
    refine sf_bnd (s_X4_refuse hF Is1 (by decide) (by decide)) (fun r28 u29 p30 => ?_)
    obtain ⟨Iu29, Fu29_, Of15_u29_, Of34_u29_, Of1_u29_, Of30_u29_, Of18_u29_, p30_1, p30_2, p30_x0⟩ := p30
    have Fu29 : ∀ k, k < 101 → u29 k = τ k := fun k hk => (Fu29_ k hk).trans (Fs1 k hk)
    have Of15_u29 : u29 101 15 = τ 101 15 := Of15_u29_.trans Of15_s1
    have Of34_u29 : u29 101 34 = τ 101 34 := Of34_u29_.trans Of34_s1
    have Of1_u29 : u29 101 1 = τ 101 1 := Of1_u29_.trans Of1_s1
    have Of30_u29 : u29 101 30 = τ 101 30 := Of30_u29_.trans Of30_s1
    have Of18_u29 : u29 101 18 = τ 101 18 := Of18_u29_.trans Of18_s1
    replace p30_x0 : r28.toInt = (-4 : Int) := p30_x0
    exact sf_ret ⟨Iu29, Fu29, Of15_u29, Of34_u29, Of1_u29, Of30_u29, Of18_u29, ti_lo _, ti_hi _⟩
  obtain rfl := p6
  refine sf_ite (fun c31 => ?_) (fun c31 => ?_)
  · have C31 : (0 : Int) = (0 : Int) := ti_eq c31
    rw [j_X4_freeHours_25_e]
    refine sf_ite (fun c32 => ?_) (fun c32 => ?_)
    · have C32 : (0 : Int) ≤ (-1 : Int) := ti_le c32
      exfalso; omega
    have C32 : (-1 : Int) < (0 : Int) := ti_nle c32
    refine sf_bnd (s_X4_refuse hF Is1 (by decide) (by decide)) (fun r33 u34 p35 => ?_)
    obtain ⟨Iu34, Fu34_, Of15_u34_, Of34_u34_, Of1_u34_, Of30_u34_, Of18_u34_, p35_1, p35_2, p35_x0⟩ := p35
    have Fu34 : ∀ k, k < 101 → u34 k = τ k := fun k hk => (Fu34_ k hk).trans (Fs1 k hk)
    have Of15_u34 : u34 101 15 = τ 101 15 := Of15_u34_.trans Of15_s1
    have Of34_u34 : u34 101 34 = τ 101 34 := Of34_u34_.trans Of34_s1
    have Of1_u34 : u34 101 1 = τ 101 1 := Of1_u34_.trans Of1_s1
    have Of30_u34 : u34 101 30 = τ 101 30 := Of30_u34_.trans Of30_s1
    have Of18_u34 : u34 101 18 = τ 101 18 := Of18_u34_.trans Of18_s1
    replace p35_x0 : r33.toInt = (-1 : Int) := p35_x0
    exact sf_ret ⟨Iu34, Fu34, Of15_u34, Of34_u34, Of1_u34, Of30_u34, Of18_u34, ti_lo _, ti_hi _⟩
  have C31 : ¬ (0 : Int) = (0 : Int) := ti_ne c31
  exfalso; omega
