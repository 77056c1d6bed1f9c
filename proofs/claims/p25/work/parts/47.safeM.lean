set_option maxHeartbeats 4000000 in
set_option maxRecDepth 100000 in
theorem sl_X4_freeHours_54 {F : Nat} (hF : 73786976294838206464 ≤ F) {x1 : Int32} {x2 : Int32} {x4 : Int32} {τ : Mem} (x1_1 : 0 ≤ x1.toInt) (x1_2 : x1.toInt ≤ 4) (x2_1 : 0 ≤ x2.toInt) (x2_2 : x2.toInt ≤ 999) : ∀ (N : Nat) (x5 : Int32) (x6 : Int32) (σ : Mem), wiM σ → (∀ k, k < 101 → σ k = τ k) → σ 101 15 = τ 101 15 → σ 101 34 = τ 101 34 → σ 101 1 = τ 101 1 → σ 101 30 = τ 101 30 → σ 101 18 = τ 101 18 → 24 < x6.toInt + N → 0 ≤ x6.toInt → x6.toInt ≤ 24 → sf (lp_X4_freeHours_54 F x1 x2 x4 N x5 x6 σ) (fun r s => wiM s ∧ (∀ k, k < 101 → s k = τ k) ∧ s 101 15 = τ 101 15 ∧ s 101 34 = τ 101 34 ∧ s 101 1 = τ 101 1 ∧ s 101 30 = τ 101 30 ∧ s 101 18 = τ 101 18 ∧ -2147483648 ≤ r.toInt ∧ r.toInt ≤ 2147483647) := by
  intro N
  induction N with
  | zero => intro x5 x6 σ hI Fσ Of15_σ Of34_σ Of1_σ Of30_σ Of18_σ hN x6_1 x6_2; exfalso; omega
  | succ N ih =>
    intro x5 x6 σ hI Fσ Of15_σ Of34_σ Of1_σ Of30_σ Of18_σ hN x6_1 x6_2
    rw [lp_X4_freeHours_54_s]
    refine sf_ite (fun c1 => ?_) (fun c1 => ?_)
    · have C1 : (24 : Int) ≤ x6.toInt := ti_le c1
      have b2 := ti_lo x5
      have b3 := ti_hi x5
      exact sf_ret ⟨hI, Fσ, Of15_σ, Of34_σ, Of1_σ, Of30_σ, Of18_σ, ti_lo _, ti_hi _⟩
    have C1 : x6.toInt < (24 : Int) := ti_nle c1
    have t4 : ((24 : Int32) * x1).toInt = (24 : Int) * x1.toInt := ti_mul (show -2147483648 ≤ (24 : Int) * x1.toInt by omega) (show (24 : Int) * x1.toInt ≤ 2147483647 by omega)
    have t5 : (((24 : Int32) * x1) + x6).toInt = ((24 : Int32) * x1).toInt + x6.toInt := ti_add (show -2147483648 ≤ ((24 : Int32) * x1).toInt + x6.toInt by omega) (show ((24 : Int32) * x1).toInt + x6.toInt ≤ 2147483647 by omega)
    refine sf_chk (ti_in (by omega) (by omega)) ?_
    have v6 : Int32.toNatClampNeg (((24 : Int32) * x1) + x6) = (((24 : Int32) * x1) + x6).toInt.toNat := rfl
    have m8 := wx_106 hI (Int32.toNatClampNeg (((24 : Int32) * x1) + x6))
    refine sf_lt (fun z7 hz7 => ?_)
    have hz7_ : z7.toInt = (σ 106 (Int32.toNatClampNeg (((24 : Int32) * x1) + x6))).toInt := (show z7.toInt = (σ 106 (Int32.toNatClampNeg (((24 : Int32) * x1) + x6))).toInt from congrArg Int32.toInt hz7)
    refine sf_lt (fun s9 hs9 => ?_)
    have Is9 : wiM s9 := by rw [hs9]; exact wx_put_106 hI (by decide) (by decide)
    have Fs9 : ∀ k, k < 101 → s9 k = τ k := fun k hk => (show s9 k = σ k by rw [hs9, up2_k (by omega)]).trans (Fσ k hk)
    have Of15_s9 : s9 101 15 = τ 101 15 := (show s9 101 15 = σ 101 15 by rw [hs9, up2_k (by omega)]).trans Of15_σ
    have Of34_s9 : s9 101 34 = τ 101 34 := (show s9 101 34 = σ 101 34 by rw [hs9, up2_k (by omega)]).trans Of34_σ
    have Of1_s9 : s9 101 1 = τ 101 1 := (show s9 101 1 = σ 101 1 by rw [hs9, up2_k (by omega)]).trans Of1_σ
    have Of30_s9 : s9 101 30 = τ 101 30 := (show s9 101 30 = σ 101 30 by rw [hs9, up2_k (by omega)]).trans Of30_σ
    have Of18_s9 : s9 101 18 = τ 101 18 := (show s9 101 18 = σ 101 18 by rw [hs9, up2_k (by omega)]).trans Of18_σ
    refine sf_bnd (s_X4_layBrings hF Is9) (fun r10 u11 p12 => ?_)
    obtain ⟨Iu11, Fu11_, Of15_u11_, Of34_u11_, Of1_u11_, Of30_u11_, Of18_u11_, -⟩ := p12
    have Fu11 : ∀ k, k < 101 → u11 k = τ k := fun k hk => (Fu11_ k hk).trans (Fs9 k hk)
    have Of15_u11 : u11 101 15 = τ 101 15 := Of15_u11_.trans Of15_s9
    have Of34_u11 : u11 101 34 = τ 101 34 := Of34_u11_.trans Of34_s9
    have Of1_u11 : u11 101 1 = τ 101 1 := Of1_u11_.trans Of1_s9
    have Of30_u11 : u11 101 30 = τ 101 30 := Of30_u11_.trans Of30_s9
    have Of18_u11 : u11 101 18 = τ 101 18 := Of18_u11_.trans Of18_s9
    refine sf_ite (fun c13 => ?_) (fun c13 => ?_)
    · have C13 : z7.toInt < (0 : Int) := ti_lt c13
      rw [j_X4_freeHours_118_e]
      rw [j_X4_freeHours_119_e]
      refine sf_chk (ti_in (by omega) (by omega)) ?_
      have v14 : Int32.toNatClampNeg (((24 : Int32) * x1) + x6) = (((24 : Int32) * x1) + x6).toInt.toNat := rfl
      refine sf_lt (fun s15 hs15 => ?_)
      have Is15 : wiM s15 := by rw [hs15]; exact wx_put_106 Iu11 (by omega) (by omega)
      have Fs15 : ∀ k, k < 101 → s15 k = τ k := fun k hk => (show s15 k = u11 k by rw [hs15, up2_k (by omega)]).trans (Fu11 k hk)
      have Of15_s15 : s15 101 15 = τ 101 15 := (show s15 101 15 = u11 101 15 by rw [hs15, up2_k (by omega)]).trans Of15_u11
      have Of34_s15 : s15 101 34 = τ 101 34 := (show s15 101 34 = u11 101 34 by rw [hs15, up2_k (by omega)]).trans Of34_u11
      have Of1_s15 : s15 101 1 = τ 101 1 := (show s15 101 1 = u11 101 1 by rw [hs15, up2_k (by omega)]).trans Of1_u11
      have Of30_s15 : s15 101 30 = τ 101 30 := (show s15 101 30 = u11 101 30 by rw [hs15, up2_k (by omega)]).trans Of30_u11
      have Of18_s15 : s15 101 18 = τ 101 18 := (show s15 101 18 = u11 101 18 by rw [hs15, up2_k (by omega)]).trans Of18_u11
      have b16 := ti_lo (x5 ||| (0 : Int32))
      have b17 := ti_hi (x5 ||| (0 : Int32))
      have t18 : (x6 + (1 : Int32)).toInt = x6.toInt + (1 : Int) := ti_add (show -2147483648 ≤ x6.toInt + (1 : Int) by omega) (show x6.toInt + (1 : Int) ≤ 2147483647 by omega)
      exact ih _ _ _ Is15 Fs15 Of15_s15 Of34_s15 Of1_s15 Of30_s15 Of18_s15 (by omega) (by omega) (by omega)
    have C13 : (0 : Int) ≤ z7.toInt := ti_nlt c13
    refine sf_bnd (s_X4_viewsIn hF Iu11 (by omega) (by omega) (by omega) (by omega)) (fun r19 u20 p21 => ?_)
    obtain ⟨Iu20, Fu20_, Of15_u20_, Of34_u20_, Of1_u20_, Of30_u20_, Of18_u20_, p21_1, p21_2⟩ := p21
    have Fu20 : ∀ k, k < 101 → u20 k = τ k := fun k hk => (Fu20_ k hk).trans (Fu11 k hk)
    have Of15_u20 : u20 101 15 = τ 101 15 := Of15_u20_.trans Of15_u11
    have Of34_u20 : u20 101 34 = τ 101 34 := Of34_u20_.trans Of34_u11
    have Of1_u20 : u20 101 1 = τ 101 1 := Of1_u20_.trans Of1_u11
    have Of30_u20 : u20 101 30 = τ 101 30 := Of30_u20_.trans Of30_u11
    have Of18_u20 : u20 101 18 = τ 101 18 := Of18_u20_.trans Of18_u11
    have b22 := ti_lo r19
    have b23 := ti_hi r19
    have b24 := ti_lo x4
    have b25 := ti_hi x4
    refine sf_ite (fun c26 => ?_) (fun c26 => ?_)
    · have C26 : r19.toInt = x4.toInt := ti_eq c26
      rw [j_X4_freeHours_119_e]
      refine sf_chk (ti_in (by omega) (by omega)) ?_
      have v27 : Int32.toNatClampNeg (((24 : Int32) * x1) + x6) = (((24 : Int32) * x1) + x6).toInt.toNat := rfl
      refine sf_lt (fun s28 hs28 => ?_)
      have Is28 : wiM s28 := by rw [hs28]; exact wx_put_106 Iu20 (by omega) (by omega)
      have Fs28 : ∀ k, k < 101 → s28 k = τ k := fun k hk => (show s28 k = u20 k by rw [hs28, up2_k (by omega)]).trans (Fu20 k hk)
      have Of15_s28 : s28 101 15 = τ 101 15 := (show s28 101 15 = u20 101 15 by rw [hs28, up2_k (by omega)]).trans Of15_u20
      have Of34_s28 : s28 101 34 = τ 101 34 := (show s28 101 34 = u20 101 34 by rw [hs28, up2_k (by omega)]).trans Of34_u20
      have Of1_s28 : s28 101 1 = τ 101 1 := (show s28 101 1 = u20 101 1 by rw [hs28, up2_k (by omega)]).trans Of1_u20
      have Of30_s28 : s28 101 30 = τ 101 30 := (show s28 101 30 = u20 101 30 by rw [hs28, up2_k (by omega)]).trans Of30_u20
      have Of18_s28 : s28 101 18 = τ 101 18 := (show s28 101 18 = u20 101 18 by rw [hs28, up2_k (by omega)]).trans Of18_u20
      have b29 := ti_lo (x5 ||| ((1 : Int32) <<< (x6 &&& 31)))
      have b30 := ti_hi (x5 ||| ((1 : Int32) <<< (x6 &&& 31)))
      have t31 : (x6 + (1 : Int32)).toInt = x6.toInt + (1 : Int) := ti_add (show -2147483648 ≤ x6.toInt + (1 : Int) by omega) (show x6.toInt + (1 : Int) ≤ 2147483647 by omega)
      exact ih _ _ _ Is28 Fs28 Of15_s28 Of34_s28 Of1_s28 Of30_s28 Of18_s28 (by omega) (by omega) (by omega)
    have C26 : ¬ r19.toInt = x4.toInt := ti_ne c26
    rw [j_X4_freeHours_118_e]
    rw [j_X4_freeHours_119_e]
    refine sf_chk (ti_in (by omega) (by omega)) ?_
    have v32 : Int32.toNatClampNeg (((24 : Int32) * x1) + x6) = (((24 : Int32) * x1) + x6).toInt.toNat := rfl
    refine sf_lt (fun s33 hs33 => ?_)
    have Is33 : wiM s33 := by rw [hs33]; exact wx_put_106 Iu20 (by omega) (by omega)
    have Fs33 : ∀ k, k < 101 → s33 k = τ k := fun k hk => (show s33 k = u20 k by rw [hs33, up2_k (by omega)]).trans (Fu20 k hk)
    have Of15_s33 : s33 101 15 = τ 101 15 := (show s33 101 15 = u20 101 15 by rw [hs33, up2_k (by omega)]).trans Of15_u20
    have Of34_s33 : s33 101 34 = τ 101 34 := (show s33 101 34 = u20 101 34 by rw [hs33, up2_k (by omega)]).trans Of34_u20
    have Of1_s33 : s33 101 1 = τ 101 1 := (show s33 101 1 = u20 101 1 by rw [hs33, up2_k (by omega)]).trans Of1_u20
    have Of30_s33 : s33 101 30 = τ 101 30 := (show s33 101 30 = u20 101 30 by rw [hs33, up2_k (by omega)]).trans Of30_u20
    have Of18_s33 : s33 101 18 = τ 101 18 := (show s33 101 18 = u20 101 18 by rw [hs33, up2_k (by omega)]).trans Of18_u20
    have b34 := ti_lo (x5 ||| (0 : Int32))
    have b35 := ti_hi (x5 ||| (0 : Int32))
    have t36 : (x6 + (1 : Int32)).toInt = x6.toInt + (1 : Int) := ti_add (show -2147483648 ≤ x6.toInt + (1 : Int) by omega) (show x6.toInt + (1 : Int) ≤ 2147483647 by omega)
    exact ih _ _ _ Is33 Fs33 Of15_s33 Of34_s33 Of1_s33 Of30_s33 Of18_s33 (by omega) (by omega) (by omega)
set_option maxHeartbeats 4000000 in
set_option maxRecDepth 100000 in
theorem s_X4_freeHours {F : Nat} (hF : 73786976294838206464 ≤ F) {x1 : Int32} {x2 : Int32} {τ : Mem} (hI : wiM τ) : sf (f_X4_freeHours F x1 x2 τ) (fun r s => wiM s ∧ (∀ k, k < 101 → s k = τ k) ∧ s 101 15 = τ 101 15 ∧ s 101 34 = τ 101 34 ∧ s 101 1 = τ 101 1 ∧ s 101 30 = τ 101 30 ∧ s 101 18 = τ 101 18 ∧ -2147483648 ≤ r.toInt ∧ r.toInt ≤ 2147483647) := by
  have Fτ : ∀ k, k < 101 → τ k = τ k := fun _ _ => rfl
  have Of15_τ : τ 101 15 = τ 101 15 := rfl
  have Of34_τ : τ 101 34 = τ 101 34 := rfl
  have Of1_τ : τ 101 1 = τ 101 1 := rfl
  have Of30_τ : τ 101 30 = τ 101 30 := rfl
  have Of18_τ : τ 101 18 = τ 101 18 := rfl
  rw [f_X4_freeHours_e]
  refine sf_lt (fun s1 hs1 => ?_)
  have Is1 : wiM s1 := by rw [hs1]; exact wm_fld hI (by decide) (by decide) (by decide) (by decide) (by decide) (by decide) (by decide)
  have Fs1 : ∀ k, k < 101 → s1 k = τ k := fun k hk => (show s1 k = τ k by rw [hs1, up2_k (by omega)]).trans (Fτ k hk)
  have Of15_s1 : s1 101 15 = τ 101 15 := (show s1 101 15 = τ 101 15 by rw [hs1, up2_i (by decide)]).trans Of15_τ
  have Of34_s1 : s1 101 34 = τ 101 34 := (show s1 101 34 = τ 101 34 by rw [hs1, up2_i (by decide)]).trans Of34_τ
  have Of1_s1 : s1 101 1 = τ 101 1 := (show s1 101 1 = τ 101 1 by rw [hs1, up2_i (by decide)]).trans Of1_τ
  have Of30_s1 : s1 101 30 = τ 101 30 := (show s1 101 30 = τ 101 30 by rw [hs1, up2_i (by decide)]).trans Of30_τ
  have Of18_s1 : s1 101 18 = τ 101 18 := (show s1 101 18 = τ 101 18 by rw [hs1, up2_i (by decide)]).trans Of18_τ
  have b2 := ti_lo x1
  have b3 := ti_hi x1
  refine sf_bnd (s_X4_isLooker hF Is1) (fun r4 u5 p6 => ?_)
  obtain ⟨e9, p6⟩ := p6
  have e9 := e9.symm
  subst e9
  rcases p6 with ⟨rfl, q7, q8⟩ | p6
  · refine sf_ite (fun c9 => ?_) (fun c9 => ?_)
    · have C9 : (1 : Int) = (0 : Int) := ti_eq c9
      exfalso; omega
    have C9 : ¬ (1 : Int) = (0 : Int) := ti_ne c9
    refine sf_in ?_
    rw [f_X4_wrongNumber_e]
    have b10 := ti_lo x2
    have b11 := ti_hi x2
    refine sf_ite (fun c12 => ?_) (fun c12 => ?_)
    · have C12 : (0 : Int) ≤ x2.toInt := ti_le c12
      refine sf_ite (fun c13 => ?_) (fun c13 => ?_)
      · have C13 : x2.toInt ≤ (999 : Int) := ti_le c13
        refine sf_ret ?_
        rw [j_X4_freeHours_25_e]
        refine sf_ite (fun c14 => ?_) (fun c14 => ?_)
        · have C14 : (0 : Int) ≤ (0 : Int) := ti_le c14
          refine sf_bnd (s_X4_layBrings hF Is1) (fun r15 u16 p17 => ?_)
          obtain ⟨Iu16, Fu16_, Of15_u16_, Of34_u16_, Of1_u16_, Of30_u16_, Of18_u16_, -⟩ := p17
          have Fu16 : ∀ k, k < 101 → u16 k = τ k := fun k hk => (Fu16_ k hk).trans (Fs1 k hk)
          have Of15_u16 : u16 101 15 = τ 101 15 := Of15_u16_.trans Of15_s1
          have Of34_u16 : u16 101 34 = τ 101 34 := Of34_u16_.trans Of34_s1
          have Of1_u16 : u16 101 1 = τ 101 1 := Of1_u16_.trans Of1_s1
          have Of30_u16 : u16 101 30 = τ 101 30 := Of30_u16_.trans Of30_s1
          have Of18_u16 : u16 101 18 = τ 101 18 := Of18_u16_.trans Of18_s1
          refine sf_bnd (s_X4_viewsIn hF Iu16 (by omega) (by omega) (by omega) (by omega)) (fun r18 u19 p20 => ?_)
          obtain ⟨Iu19, Fu19_, Of15_u19_, Of34_u19_, Of1_u19_, Of30_u19_, Of18_u19_, p20_1, p20_2⟩ := p20
          have Fu19 : ∀ k, k < 101 → u19 k = τ k := fun k hk => (Fu19_ k hk).trans (Fu16 k hk)
          have Of15_u19 : u19 101 15 = τ 101 15 := Of15_u19_.trans Of15_u16
          have Of34_u19 : u19 101 34 = τ 101 34 := Of34_u19_.trans Of34_u16
          have Of1_u19 : u19 101 1 = τ 101 1 := Of1_u19_.trans Of1_u16
          have Of30_u19 : u19 101 30 = τ 101 30 := Of30_u19_.trans Of30_u16
          have Of18_u19 : u19 101 18 = τ 101 18 := Of18_u19_.trans Of18_u16
          have b21 := ti_lo r18
          have b22 := ti_hi r18
          have l_0 : (0 : Int32).toInt = 0 := rfl
          exact sl_X4_freeHours_54 hF (by omega) (by omega) (by omega) (by omega) _ _ _ _ Iu19 Fu19 Of15_u19 Of34_u19 Of1_u19 Of30_u19 Of18_u19 (by omega) (by decide) (by decide)
        have C14 : (0 : Int) < (0 : Int) := ti_nle c14
        exfalso; omega
      have C13 : (999 : Int) < x2.toInt := ti_nle c13
      refine sf_ret ?_
      rw [j_X4_freeHours_25_e]
      refine sf_ite (fun c23 => ?_) (fun c23 => ?_)
      · have C23 : (0 : Int) ≤ (-6 : Int) := ti_le c23
        exfalso; omega
      have C23 : (-6 : Int) < (0 : Int) := ti_nle c23
      refine sf_bnd (s_X4_refuse hF Is1 (by decide) (by decide)) (fun r24 u25 p26 => ?_)
      obtain ⟨Iu25, Fu25_, Of15_u25_, Of34_u25_, Of1_u25_, Of30_u25_, Of18_u25_, p26_1, p26_2, p26_x0⟩ := p26
      have Fu25 : ∀ k, k < 101 → u25 k = τ k := fun k hk => (Fu25_ k hk).trans (Fs1 k hk)
      have Of15_u25 : u25 101 15 = τ 101 15 := Of15_u25_.trans Of15_s1
      have Of34_u25 : u25 101 34 = τ 101 34 := Of34_u25_.trans Of34_s1
      have Of1_u25 : u25 101 1 = τ 101 1 := Of1_u25_.trans Of1_s1
      have Of30_u25 : u25 101 30 = τ 101 30 := Of30_u25_.trans Of30_s1
      have Of18_u25 : u25 101 18 = τ 101 18 := Of18_u25_.trans Of18_s1
      replace p26_x0 : r24.toInt = (-6 : Int) := p26_x0
      exact sf_ret ⟨Iu25, Fu25, Of15_u25, Of34_u25, Of1_u25, Of30_u25, Of18_u25, ti_lo _, ti_hi _⟩
    have C12 : x2.toInt < (0 : Int) := ti_nle c12
    refine sf_ret ?_
    rw [j_X4_freeHours_25_e]
    refine sf_ite (fun c27 => ?_) (fun c27 => ?_)
    · have C27 : (0 : Int) ≤ (-4 : Int) := ti_le c27
      exfalso; omega
    have C27 : (-4 : Int) < (0 : Int) := ti_nle c27
    refine sf_bnd (s_X4_refuse hF Is1 (by decide) (by decide)) (fun r28 u29 p30 => ?_)
    obtain ⟨Iu29, Fu29_, Of15_u29_, Of34_u29_, Of1_u29_, Of30_u29_, Of18_u29_, p30_1, p30_2, p30_x0⟩ := p30
    have Fu29 : ∀ k, k < 101 → u29 k = τ k := fun k hk => (Fu29_ k hk).trans (Fs1 k hk)
    have Of15_u29 : u29 101 15 = τ 101 15 := Of15_u29_.trans Of15_s1
    have Of34_u29 : u29 101 34 = τ 101 34 := Of34_u29_.trans Of34_s1
    have Of1_u29 : u29 101 1 = τ 101 1 := Of1_u29_.trans Of1_s1
    have Of30_u29 : u29 101 30 = τ 101 30 := Of30_u29_.trans Of30_s1
    have Of18_u29 : u29 101 18 = τ 101 18 := Of18_u29_.trans Of18_s1
    replace p30_x0 : r28.toInt = (-4 : Int) := p30_x0
    exact sf_ret ⟨Iu29, Fu29, Of15_u29, Of34_u29, Of1_u29, Of30_u29, Of18_u29, ti_lo _, ti_hi _⟩
  obtain rfl := p6
  refine sf_ite (fun c31 => ?_) (fun c31 => ?_)
  · have C31 : (0 : Int) = (0 : Int) := ti_eq c31
    rw [j_X4_freeHours_25_e]
    refine sf_ite (fun c32 => ?_) (fun c32 => ?_)
    · have C32 : (0 : Int) ≤ (-1 : Int) := ti_le c32
      exfalso; omega
    have C32 : (-1 : Int) < (0 : Int) := ti_nle c32
    refine sf_bnd (s_X4_refuse hF Is1 (by decide) (by decide)) (fun r33 u34 p35 => ?_)
    obtain ⟨Iu34, Fu34_, Of15_u34_, Of34_u34_, Of1_u34_, Of30_u34_, Of18_u34_, p35_1, p35_2, p35_x0⟩ := p35
    have Fu34 : ∀ k, k < 101 → u34 k = τ k := fun k hk => (Fu34_ k hk).trans (Fs1 k hk)
    have Of15_u34 : u34 101 15 = τ 101 15 := Of15_u34_.trans Of15_s1
    have Of34_u34 : u34 101 34 = τ 101 34 := Of34_u34_.trans Of34_s1
    have Of1_u34 : u34 101 1 = τ 101 1 := Of1_u34_.trans Of1_s1
    have Of30_u34 : u34 101 30 = τ 101 30 := Of30_u34_.trans Of30_s1
    have Of18_u34 : u34 101 18 = τ 101 18 := Of18_u34_.trans Of18_s1
    replace p35_x0 : r33.toInt = (-1 : Int) := p35_x0
    exact sf_ret ⟨Iu34, Fu34, Of15_u34, Of34_u34, Of1_u34, Of30_u34, Of18_u34, ti_lo _, ti_hi _⟩
  have C31 : ¬ (0 : Int) = (0 : Int) := ti_ne c31
  exfalso; omega
set_option maxHeartbeats 4000000 in
set_option maxRecDepth 100000 in
theorem sl_X4_cover_31 {F : Nat} (hF : 73786976294838206464 ≤ F) {x1 : Int32} {x2 : Int32} {x3 : Int32} {k21 : Int32 → Int32 → Mem → Option (Int32 × Mem)} {τ : Mem} (x2_1 : 0 ≤ x2.toInt) (x2_2 : x2.toInt ≤ 63) (x3_1 : 0 ≤ x3.toInt) (x3_2 : x3.toInt ≤ 63) {N21 : Nat} (hM21 : x3.toInt + 1 < (N21 + 1)) (hk21 : ∀ (x2 : Int32) (x3 : Int32) (σ : Mem), wiM σ → (∀ k, k < 101 → σ k = τ k) → σ 101 15 = τ 101 15 → σ 101 34 = τ 101 34 → σ 101 1 = τ 101 1 → σ 101 30 = τ 101 30 → σ 101 18 = τ 101 18 → x3.toInt + 1 < N21 → 0 ≤ x2.toInt → x2.toInt ≤ 63 → -1 ≤ x3.toInt → x3.toInt ≤ 63 → sf (k21 x2 x3 σ) (fun r s => wiM s ∧ (∀ k, k < 101 → s k = τ k) ∧ s 101 15 = τ 101 15 ∧ s 101 34 = τ 101 34 ∧ s 101 1 = τ 101 1 ∧ s 101 30 = τ 101 30 ∧ s 101 18 = τ 101 18 ∧ 0 ≤ r.toInt ∧ r.toInt ≤ 63)) : ∀ (N : Nat) (x4 : Int32) (x5 : Int32) (σ : Mem), wiM σ → (∀ k, k < 101 → σ k = τ k) → σ 101 15 = τ 101 15 → σ 101 34 = τ 101 34 → σ 101 1 = τ 101 1 → σ 101 30 = τ 101 30 → σ 101 18 = τ 101 18 → 6 < x5.toInt + N → 0 ≤ x5.toInt → x5.toInt ≤ 6 → sf (lp_X4_cover_31 F k21 x1 x2 x3 N x4 x5 σ) (fun r s => wiM s ∧ (∀ k, k < 101 → s k = τ k) ∧ s 101 15 = τ 101 15 ∧ s 101 34 = τ 101 34 ∧ s 101 1 = τ 101 1 ∧ s 101 30 = τ 101 30 ∧ s 101 18 = τ 101 18 ∧ 0 ≤ r.toInt ∧ r.toInt ≤ 63) := by
  intro N
  induction N with
  | zero => intro x4 x5 σ hI Fσ Of15_σ Of34_σ Of1_σ Of30_σ Of18_σ hN x5_1 x5_2; exfalso; omega
  | succ N ih =>
    intro x4 x5 σ hI Fσ Of15_σ Of34_σ Of1_σ Of30_σ Of18_σ hN x5_1 x5_2
    rw [lp_X4_cover_31_s]
    have m1 := wx_X4_1 hI
    have e2 : (σ 101 1).toInt = (τ 101 1).toInt := congrArg Int32.toInt Of1_σ
    refine sf_ite (fun c3 => ?_) (fun c3 => ?_)
    · have C3 : (σ 101 1).toInt ≤ x5.toInt := ti_le c3
      have b4 := ti_lo x4
      have b5 := ti_hi x4
      have b6 := ti_lo x1
      have b7 := ti_hi x1
      refine sf_ite (fun c8 => ?_) (fun c8 => ?_)
      · have C8 : x4.toInt = x1.toInt := ti_eq c8
        refine sf_bnd (s_X4_onesOf hF hI) (fun r9 u10 p11 => ?_)
        obtain ⟨e9, p11_1, p11_2⟩ := p11
        have e9 := e9.symm
        subst e9
        refine sf_bnd (s_X4_onesOf hF hI) (fun r12 u13 p14 => ?_)
        obtain ⟨e9, p14_1, p14_2⟩ := p14
        have e9 := e9.symm
        subst e9
        have b15 := ti_lo r12
        have b16 := ti_hi r12
        have b17 := ti_lo r9
        have b18 := ti_hi r9
        refine sf_ite (fun c19 => ?_) (fun c19 => ?_)
        · have C19 : r12.toInt < r9.toInt := ti_lt c19
          rw [j_X4_cover_92_e]
          rw [j_X4_cover_93_e]
          have t20 := ti_m1 (x := x3) (by omega)
          generalize x3 + (-1 : Int32) = x99 at t20 ⊢
          exact hk21 _ _ _ hI Fσ Of15_σ Of34_σ Of1_σ Of30_σ Of18_σ (by omega) (by omega) (by omega) (by omega) (by omega)
        have C19 : r9.toInt ≤ r12.toInt := ti_nlt c19
        rw [j_X4_cover_93_e]
        have t20 := ti_m1 (x := x3) (by omega)
        generalize x3 + (-1 : Int32) = x99 at t20 ⊢
        exact hk21 _ _ _ hI Fσ Of15_σ Of34_σ Of1_σ Of30_σ Of18_σ (by omega) (by omega) (by omega) (by omega) (by omega)
      have C8 : ¬ x4.toInt = x1.toInt := ti_ne c8
      rw [j_X4_cover_92_e]
      rw [j_X4_cover_93_e]
      have t20 := ti_m1 (x := x3) (by omega)
      generalize x3 + (-1 : Int32) = x99 at t20 ⊢
      exact hk21 _ _ _ hI Fσ Of15_σ Of34_σ Of1_σ Of30_σ Of18_σ (by omega) (by omega) (by omega) (by omega) (by omega)
    have C3 : x5.toInt < (σ 101 1).toInt := ti_nle c3
    refine sf_bnd (s_X4_hasBit hF hI (by omega) (by omega)) (fun r23 u24 p25 => ?_)
    obtain ⟨e9, p25_1, p25_2⟩ := p25
    have e9 := e9.symm
    subst e9
    have hb_r23 : r23 = 0 ∨ r23 = 1 := wi_bool p25_1 p25_2
    refine sf_ite (fun c26 => ?_) (fun c26 => ?_)
    · have C26 : r23.toInt = (0 : Int) := ti_eq c26
      rw [j_X4_cover_62_e]
      have b27 := ti_lo (x4 ||| (0 : Int32))
      have b28 := ti_hi (x4 ||| (0 : Int32))
      have t29 : (x5 + (1 : Int32)).toInt = x5.toInt + (1 : Int) := ti_add (show -2147483648 ≤ x5.toInt + (1 : Int) by omega) (show x5.toInt + (1 : Int) ≤ 2147483647 by omega)
      exact ih _ _ _ hI Fσ Of15_σ Of34_σ Of1_σ Of30_σ Of18_σ (by omega) (by omega) (by omega)
    have C26 : ¬ r23.toInt = (0 : Int) := ti_ne c26
    refine sf_chk (ti_in (by omega) (by omega)) ?_
    have v30 : Int32.toNatClampNeg x5 = x5.toInt.toNat := rfl
    rw [j_X4_cover_62_e]
    have b31 := ti_lo (x4 ||| (σ 103 (Int32.toNatClampNeg x5)))
    have b32 := ti_hi (x4 ||| (σ 103 (Int32.toNatClampNeg x5)))
    have t33 : (x5 + (1 : Int32)).toInt = x5.toInt + (1 : Int) := ti_add (show -2147483648 ≤ x5.toInt + (1 : Int) by omega) (show x5.toInt + (1 : Int) ≤ 2147483647 by omega)
    exact ih _ _ _ hI Fσ Of15_σ Of34_σ Of1_σ Of30_σ Of18_σ (by omega) (by omega) (by omega)
set_option maxHeartbeats 4000000 in
set_option maxRecDepth 100000 in
theorem sl_X4_cover_21 {F : Nat} (hF : 73786976294838206464 ≤ F) {x1 : Int32} {τ : Mem} : ∀ (N : Nat) (x2 : Int32) (x3 : Int32) (σ : Mem), wiM σ → (∀ k, k < 101 → σ k = τ k) → σ 101 15 = τ 101 15 → σ 101 34 = τ 101 34 → σ 101 1 = τ 101 1 → σ 101 30 = τ 101 30 → σ 101 18 = τ 101 18 → x3.toInt + 1 < N → 0 ≤ x2.toInt → x2.toInt ≤ 63 → -1 ≤ x3.toInt → x3.toInt ≤ 63 → sf (lp_X4_cover_21 F x1 N x2 x3 σ) (fun r s => wiM s ∧ (∀ k, k < 101 → s k = τ k) ∧ s 101 15 = τ 101 15 ∧ s 101 34 = τ 101 34 ∧ s 101 1 = τ 101 1 ∧ s 101 30 = τ 101 30 ∧ s 101 18 = τ 101 18 ∧ 0 ≤ r.toInt ∧ r.toInt ≤ 63) := by
  intro N
  induction N with
  | zero => intro x2 x3 σ hI Fσ Of15_σ Of34_σ Of1_σ Of30_σ Of18_σ hN x2_1 x2_2 x3_1 x3_2; exfalso; omega
  | succ N ih =>
    intro x2 x3 σ hI Fσ Of15_σ Of34_σ Of1_σ Of30_σ Of18_σ hN x2_1 x2_2 x3_1 x3_2
    rw [lp_X4_cover_21_s]
    refine sf_ite (fun c1 => ?_) (fun c1 => ?_)
    · have C1 : x3.toInt < (0 : Int) := ti_lt c1
      exact sf_ret ⟨hI, Fσ, Of15_σ, Of34_σ, Of1_σ, Of30_σ, Of18_σ, by omega, by omega⟩
    have C1 : (0 : Int) ≤ x3.toInt := ti_nlt c1
    have b2 := ti_lo x1
    have b3 := ti_hi x1
    have l_0 : (0 : Int32).toInt = 0 := rfl
    exact sl_X4_cover_31 hF (by omega) (by omega) (by omega) (by omega) (by omega) ih _ _ _ _ hI Fσ Of15_σ Of34_σ Of1_σ Of30_σ Of18_σ (by omega) (by decide) (by decide)
set_option maxHeartbeats 4000000 in
set_option maxRecDepth 100000 in
theorem s_X4_cover {F : Nat} (hF : 73786976294838206464 ≤ F) {τ : Mem} (hI : wiM τ) : sf (f_X4_cover F τ) (fun r s => wiM s ∧ (∀ k, k < 101 → s k = τ k) ∧ s 101 15 = τ 101 15 ∧ s 101 34 = τ 101 34 ∧ s 101 1 = τ 101 1 ∧ s 101 30 = τ 101 30 ∧ s 101 18 = τ 101 18 ∧ 0 ≤ r.toInt ∧ r.toInt ≤ 63) := by
  have Fτ : ∀ k, k < 101 → τ k = τ k := fun _ _ => rfl
  have Of15_τ : τ 101 15 = τ 101 15 := rfl
  have Of34_τ : τ 101 34 = τ 101 34 := rfl
  have Of1_τ : τ 101 1 = τ 101 1 := rfl
  have Of30_τ : τ 101 30 = τ 101 30 := rfl
  have Of18_τ : τ 101 18 = τ 101 18 := rfl
  rw [f_X4_cover_e]
  refine sf_lt (fun s1 hs1 => ?_)
  have Is1 : wiM s1 := by rw [hs1]; exact wm_fld hI (by decide) (by decide) (by decide) (by decide) (by decide) (by decide) (by decide)
  have Fs1 : ∀ k, k < 101 → s1 k = τ k := fun k hk => (show s1 k = τ k by rw [hs1, up2_k (by omega)]).trans (Fτ k hk)
  have Of15_s1 : s1 101 15 = τ 101 15 := (show s1 101 15 = τ 101 15 by rw [hs1, up2_i (by decide)]).trans Of15_τ
  have Of34_s1 : s1 101 34 = τ 101 34 := (show s1 101 34 = τ 101 34 by rw [hs1, up2_i (by decide)]).trans Of34_τ
  have Of1_s1 : s1 101 1 = τ 101 1 := (show s1 101 1 = τ 101 1 by rw [hs1, up2_i (by decide)]).trans Of1_τ
  have Of30_s1 : s1 101 30 = τ 101 30 := (show s1 101 30 = τ 101 30 by rw [hs1, up2_i (by decide)]).trans Of30_τ
  have Of18_s1 : s1 101 18 = τ 101 18 := (show s1 101 18 = τ 101 18 by rw [hs1, up2_i (by decide)]).trans Of18_τ
  refine sf_bnd (s_X4_allShown hF Is1) (fun r2 u3 p4 => ?_)
  obtain ⟨e9, p4_1, p4_2⟩ := p4
  have e9 := e9.symm
  subst e9
  have m6 := wx_X4_1 Is1
  have m7 := wx_X4_1 hI
  have e8 : (s1 101 1).toInt = (τ 101 1).toInt := congrArg Int32.toInt (by rw [hs1, up2_i (by decide)])
  obtain ⟨w9_1, w9_2⟩ := wi_shl (s1 101 1) (by omega) (by omega)
  have t10 : (((1 : Int32) <<< ((s1 101 1) &&& 31)) - (1 : Int32)).toInt = ((1 : Int32) <<< ((s1 101 1) &&& 31)).toInt - (1 : Int) := ti_sub (show -2147483648 ≤ ((1 : Int32) <<< ((s1 101 1) &&& 31)).toInt - (1 : Int) by omega) (show ((1 : Int32) <<< ((s1 101 1) &&& 31)).toInt - (1 : Int) ≤ 2147483647 by omega)
  refine sf_lt (fun z5 hz5 => ?_)
  have hz5_ : z5.toInt = (((1 : Int32) <<< ((s1 101 1) &&& 31)) - (1 : Int32)).toInt := (show z5.toInt = (((1 : Int32) <<< ((s1 101 1) &&& 31)) - (1 : Int32)).toInt from congrArg Int32.toInt hz5)
  have b11 := ti_lo r2
  have b12 := ti_hi r2
  exact sl_X4_cover_21 hF _ _ _ _ Is1 Fs1 Of15_s1 Of34_s1 Of1_s1 Of30_s1 Of18_s1 (by omega) (by omega) (by omega) (by omega) (by omega)
set_option maxHeartbeats 4000000 in
set_option maxRecDepth 100000 in
theorem sl_X4_shown_22 {F : Nat} (hF : 73786976294838206464 ≤ F) {x1 : Int32} {τ : Mem} (x1_1 : 0 ≤ x1.toInt) (x1_2 : x1.toInt ≤ 7) : ∀ (N : Nat) (x2 : Int32) (x3 : Int32) (σ : Mem), wiM σ → (∀ k, k < 101 → σ k = τ k) → σ 101 15 = τ 101 15 → σ 101 34 = τ 101 34 → σ 101 1 = τ 101 1 → σ 101 30 = τ 101 30 → σ 101 18 = τ 101 18 → 6 < x3.toInt + N → 0 ≤ x3.toInt → x3.toInt ≤ 6 → sf (lp_X4_shown_22 F x1 N x2 x3 σ) (fun r s => wiM s ∧ (∀ k, k < 101 → s k = τ k) ∧ s 101 15 = τ 101 15 ∧ s 101 34 = τ 101 34 ∧ s 101 1 = τ 101 1 ∧ s 101 30 = τ 101 30 ∧ s 101 18 = τ 101 18 ∧ -2147483648 ≤ r.toInt ∧ r.toInt ≤ 2147483647) := by
  intro N
  induction N with
  | zero => intro x2 x3 σ hI Fσ Of15_σ Of34_σ Of1_σ Of30_σ Of18_σ hN x3_1 x3_2; exfalso; omega
  | succ N ih =>
    intro x2 x3 σ hI Fσ Of15_σ Of34_σ Of1_σ Of30_σ Of18_σ hN x3_1 x3_2
    rw [lp_X4_shown_22_s]
    have m1 := wx_X4_1 hI
    have e2 : (σ 101 1).toInt = (τ 101 1).toInt := congrArg Int32.toInt Of1_σ
    refine sf_ite (fun c3 => ?_) (fun c3 => ?_)
    · have C3 : (σ 101 1).toInt ≤ x3.toInt := ti_le c3
      have b4 := ti_lo x2
      have b5 := ti_hi x2
      exact sf_ret ⟨hI, Fσ, Of15_σ, Of34_σ, Of1_σ, Of30_σ, Of18_σ, ti_lo _, ti_hi _⟩
    have C3 : x3.toInt < (σ 101 1).toInt := ti_nle c3
    refine sf_chk (ti_in (by omega) (by omega)) ?_
    have v6 : Int32.toNatClampNeg x3 = x3.toInt.toNat := rfl
    have b7 := ti_lo (σ 103 (Int32.toNatClampNeg x3))
    have b8 := ti_hi (σ 103 (Int32.toNatClampNeg x3))
    refine sf_bnd (s_X4_hasBit hF hI (by omega) (by omega)) (fun r9 u10 p11 => ?_)
    obtain ⟨e9, p11_1, p11_2⟩ := p11
    have e9 := e9.symm
    subst e9
    have hb_r9 : r9 = 0 ∨ r9 = 1 := wi_bool p11_1 p11_2
    refine sf_ite (fun c12 => ?_) (fun c12 => ?_)
    · have C12 : r9.toInt = (0 : Int) := ti_eq c12
      rw [j_X4_shown_49_e]
      have b13 := ti_lo x2
      have b14 := ti_hi x2
      have t15 : (x2 + (0 : Int32)).toInt = x2.toInt + (0 : Int) := ti_add (show -2147483648 ≤ x2.toInt + (0 : Int) by omega) (show x2.toInt + (0 : Int) ≤ 2147483647 by omega)
      have t16 : (x3 + (1 : Int32)).toInt = x3.toInt + (1 : Int) := ti_add (show -2147483648 ≤ x3.toInt + (1 : Int) by omega) (show x3.toInt + (1 : Int) ≤ 2147483647 by omega)
      exact ih _ _ _ hI Fσ Of15_σ Of34_σ Of1_σ Of30_σ Of18_σ (by omega) (by omega) (by omega)
    have C12 : ¬ r9.toInt = (0 : Int) := ti_ne c12
    rw [j_X4_shown_49_e]
    have b17 := ti_lo x2
    have b18 := ti_hi x2
    have b19 := ti_lo (x2 + (1 : Int32))
    have b20 := ti_hi (x2 + (1 : Int32))
    have t21 : (x3 + (1 : Int32)).toInt = x3.toInt + (1 : Int) := ti_add (show -2147483648 ≤ x3.toInt + (1 : Int) by omega) (show x3.toInt + (1 : Int) ≤ 2147483647 by omega)
    exact ih _ _ _ hI Fσ Of15_σ Of34_σ Of1_σ Of30_σ Of18_σ (by omega) (by omega) (by omega)
set_option maxHeartbeats 4000000 in
set_option maxRecDepth 100000 in
theorem s_X4_shown {F : Nat} (hF : 73786976294838206464 ≤ F) {x1 : Int32} {τ : Mem} (hI : wiM τ) : sf (f_X4_shown F x1 τ) (fun r s => wiM s ∧ (∀ k, k < 101 → s k = τ k) ∧ s 101 15 = τ 101 15 ∧ s 101 34 = τ 101 34 ∧ s 101 1 = τ 101 1 ∧ s 101 30 = τ 101 30 ∧ s 101 18 = τ 101 18 ∧ -2147483648 ≤ r.toInt ∧ r.toInt ≤ 2147483647) := by
  have Fτ : ∀ k, k < 101 → τ k = τ k := fun _ _ => rfl
  have Of15_τ : τ 101 15 = τ 101 15 := rfl
  have Of34_τ : τ 101 34 = τ 101 34 := rfl
  have Of1_τ : τ 101 1 = τ 101 1 := rfl
  have Of30_τ : τ 101 30 = τ 101 30 := rfl
  have Of18_τ : τ 101 18 = τ 101 18 := rfl
  rw [f_X4_shown_e]
  refine sf_lt (fun s1 hs1 => ?_)
  have Is1 : wiM s1 := by rw [hs1]; exact wm_fld hI (by decide) (by decide) (by decide) (by decide) (by decide) (by decide) (by decide)
  have Fs1 : ∀ k, k < 101 → s1 k = τ k := fun k hk => (show s1 k = τ k by rw [hs1, up2_k (by omega)]).trans (Fτ k hk)
  have Of15_s1 : s1 101 15 = τ 101 15 := (show s1 101 15 = τ 101 15 by rw [hs1, up2_i (by decide)]).trans Of15_τ
  have Of34_s1 : s1 101 34 = τ 101 34 := (show s1 101 34 = τ 101 34 by rw [hs1, up2_i (by decide)]).trans Of34_τ
  have Of1_s1 : s1 101 1 = τ 101 1 := (show s1 101 1 = τ 101 1 by rw [hs1, up2_i (by decide)]).trans Of1_τ
  have Of30_s1 : s1 101 30 = τ 101 30 := (show s1 101 30 = τ 101 30 by rw [hs1, up2_i (by decide)]).trans Of30_τ
  have Of18_s1 : s1 101 18 = τ 101 18 := (show s1 101 18 = τ 101 18 by rw [hs1, up2_i (by decide)]).trans Of18_τ
  have b2 := ti_lo x1
  have b3 := ti_hi x1
  refine sf_bnd (s_X4_isView hF Is1) (fun r4 u5 p6 => ?_)
  obtain ⟨e9, p6⟩ := p6
  have e9 := e9.symm
  subst e9
  rcases p6 with ⟨rfl, q7, q8⟩ | p6
  · refine sf_ite (fun c9 => ?_) (fun c9 => ?_)
    · have C9 : (1 : Int) = (0 : Int) := ti_eq c9
      exfalso; omega
    have C9 : ¬ (1 : Int) = (0 : Int) := ti_ne c9
    have l_0 : (0 : Int32).toInt = 0 := rfl
    exact sl_X4_shown_22 hF (by omega) (by omega) _ _ _ _ Is1 Fs1 Of15_s1 Of34_s1 Of1_s1 Of30_s1 Of18_s1 (by omega) (by decide) (by decide)
  obtain ⟨rfl, q10⟩ := p6
  refine sf_ite (fun c11 => ?_) (fun c11 => ?_)
  · have C11 : (0 : Int) = (0 : Int) := ti_eq c11
    refine sf_bnd (s_X4_refuse hF Is1 (by decide) (by decide)) (fun r12 u13 p14 => ?_)
    obtain ⟨Iu13, Fu13_, Of15_u13_, Of34_u13_, Of1_u13_, Of30_u13_, Of18_u13_, p14_1, p14_2, p14_x0⟩ := p14
    have Fu13 : ∀ k, k < 101 → u13 k = τ k := fun k hk => (Fu13_ k hk).trans (Fs1 k hk)
    have Of15_u13 : u13 101 15 = τ 101 15 := Of15_u13_.trans Of15_s1
    have Of34_u13 : u13 101 34 = τ 101 34 := Of34_u13_.trans Of34_s1
    have Of1_u13 : u13 101 1 = τ 101 1 := Of1_u13_.trans Of1_s1
    have Of30_u13 : u13 101 30 = τ 101 30 := Of30_u13_.trans Of30_s1
    have Of18_u13 : u13 101 18 = τ 101 18 := Of18_u13_.trans Of18_s1
    replace p14_x0 : r12.toInt = (-1 : Int) := p14_x0
    exact sf_ret ⟨Iu13, Fu13, Of15_u13, Of34_u13, Of1_u13, Of30_u13, Of18_u13, ti_lo _, ti_hi _⟩
  have C11 : ¬ (0 : Int) = (0 : Int) := ti_ne c11
  exfalso; omega
set_option maxHeartbeats 4000000 in
set_option maxRecDepth 100000 in
theorem sl_X4_walls_74 {F : Nat} (hF : 73786976294838206464 ≤ F) {x1 : Int32} {x2 : Int32} {x3 : Int32} {x5 : Int32} {x8 : Int32} {k62 : Int32 → Int32 → Int32 → Mem → Option (Int32 × Mem)} {τ : Mem} (x1_1 : 0 ≤ x1.toInt) (x1_2 : x1.toInt ≤ 4) (x2_1 : 0 ≤ x2.toInt) (x2_2 : x2.toInt ≤ 999) (x3_1 : 0 ≤ x3.toInt) (x3_2 : x3.toInt ≤ 1) (x8_1 : 0 ≤ x8.toInt) (x8_2 : x8.toInt ≤ 5) {N62 : Nat} (hM62 : 6 < x8.toInt + (N62 + 1)) (hk62 : ∀ (x6 : Int32) (x7 : Int32) (x8 : Int32) (σ : Mem), wiM σ → (∀ k, k < 101 → σ k = τ k) → σ 101 15 = τ 101 15 → σ 101 34 = τ 101 34 → σ 101 1 = τ 101 1 → σ 101 30 = τ 101 30 → σ 101 18 = τ 101 18 → 6 < x8.toInt + N62 → -9 ≤ x6.toInt → x6.toInt ≤ 63 → 0 ≤ x7.toInt → x7.toInt ≤ 2147483647 → 0 ≤ x8.toInt → x8.toInt ≤ 6 → sf (k62 x6 x7 x8 σ) (fun r s => wiM s ∧ (∀ k, k < 101 → s k = τ k) ∧ s 101 15 = τ 101 15 ∧ s 101 34 = τ 101 34 ∧ s 101 1 = τ 101 1 ∧ s 101 30 = τ 101 30 ∧ s 101 18 = τ 101 18 ∧ -2147483648 ≤ r.toInt ∧ r.toInt ≤ 2147483647)) : ∀ (N : Nat) (x6 : Int32) (x7 : Int32) (x9 : Int32) (σ : Mem), wiM σ → (∀ k, k < 101 → σ k = τ k) → σ 101 15 = τ 101 15 → σ 101 34 = τ 101 34 → σ 101 1 = τ 101 1 → σ 101 30 = τ 101 30 → σ 101 18 = τ 101 18 → 8 < x9.toInt + N → -9 ≤ x6.toInt → x6.toInt ≤ 63 → 0 ≤ x7.toInt → x7.toInt ≤ 2147483647 → 0 ≤ x9.toInt → x9.toInt ≤ 8 → sf (lp_X4_walls_74 F k62 x1 x2 x3 x5 x8 N x6 x7 x9 σ) (fun r s => wiM s ∧ (∀ k, k < 101 → s k = τ k) ∧ s 101 15 = τ 101 15 ∧ s 101 34 = τ 101 34 ∧ s 101 1 = τ 101 1 ∧ s 101 30 = τ 101 30 ∧ s 101 18 = τ 101 18 ∧ -2147483648 ≤ r.toInt ∧ r.toInt ≤ 2147483647) := by
  intro N
  induction N with
  | zero => intro x6 x7 x9 σ hI Fσ Of15_σ Of34_σ Of1_σ Of30_σ Of18_σ hN x6_1 x6_2 x7_1 x7_2 x9_1 x9_2; exfalso; omega
  | succ N ih =>
    intro x6 x7 x9 σ hI Fσ Of15_σ Of34_σ Of1_σ Of30_σ Of18_σ hN x6_1 x6_2 x7_1 x7_2 x9_1 x9_2
    rw [lp_X4_walls_74_s]
    refine sf_ite (fun c1 => ?_) (fun c1 => ?_)
    · have C1 : (8 : Int) ≤ x9.toInt := ti_le c1
      have b2 := ti_lo x7
      have b3 := ti_hi x7
      have t4 : (x8 + (1 : Int32)).toInt = x8.toInt + (1 : Int) := ti_add (show -2147483648 ≤ x8.toInt + (1 : Int) by omega) (show x8.toInt + (1 : Int) ≤ 2147483647 by omega)
      exact hk62 _ _ _ _ hI Fσ Of15_σ Of34_σ Of1_σ Of30_σ Of18_σ (by omega) (by omega) (by omega) (by omega) (by omega) (by omega) (by omega)
    have C1 : x9.toInt < (8 : Int) := ti_nle c1
    refine sf_chk (ti_in (by omega) (by omega)) ?_
    have v5 : Int32.toNatClampNeg x8 = x8.toInt.toNat := rfl
    have b6 := ti_lo (σ 103 (Int32.toNatClampNeg x8))
    have b7 := ti_hi (σ 103 (Int32.toNatClampNeg x8))
    refine sf_bnd (s_X4_hasBit hF hI (by omega) (by omega)) (fun r8 u9 p10 => ?_)
    obtain ⟨e9, p10_1, p10_2⟩ := p10
    have e9 := e9.symm
    subst e9
    have hb_r8 : r8 = 0 ∨ r8 = 1 := wi_bool p10_1 p10_2
    refine sf_ite (fun c11 => ?_) (fun c11 => ?_)
    · have C11 : r8.toInt = (0 : Int) := ti_eq c11
      rw [j_X4_walls_173_e]
      have b12 := ti_lo x7
      have b13 := ti_hi x7
      have t14 : (x9 + (1 : Int32)).toInt = x9.toInt + (1 : Int) := ti_add (show -2147483648 ≤ x9.toInt + (1 : Int) by omega) (show x9.toInt + (1 : Int) ≤ 2147483647 by omega)
      exact ih _ _ _ _ hI Fσ Of15_σ Of34_σ Of1_σ Of30_σ Of18_σ (by omega) (by omega) (by omega) (by omega) (by omega) (by omega) (by omega)
    have C11 : ¬ r8.toInt = (0 : Int) := ti_ne c11
    refine sf_lt (fun s15 hs15 => ?_)
    have Is15 : wiM s15 := by rw [hs15]; exact wm_oth hI (by decide) (by decide) (by decide) (by decide)
    have Fs15 : ∀ k, k < 101 → s15 k = τ k := fun k hk => (show s15 k = σ k by rw [hs15, up2_k (by omega)]).trans (Fσ k hk)
    have Of15_s15 : s15 101 15 = τ 101 15 := (show s15 101 15 = σ 101 15 by rw [hs15, up2_k (by omega)]).trans Of15_σ
    have Of34_s15 : s15 101 34 = τ 101 34 := (show s15 101 34 = σ 101 34 by rw [hs15, up2_k (by omega)]).trans Of34_σ
    have Of1_s15 : s15 101 1 = τ 101 1 := (show s15 101 1 = σ 101 1 by rw [hs15, up2_k (by omega)]).trans Of1_σ
    have Of30_s15 : s15 101 30 = τ 101 30 := (show s15 101 30 = σ 101 30 by rw [hs15, up2_k (by omega)]).trans Of30_σ
    have Of18_s15 : s15 101 18 = τ 101 18 := (show s15 101 18 = σ 101 18 by rw [hs15, up2_k (by omega)]).trans Of18_σ
    refine sf_bnd (s_X4_worthAnew hF Is15 (by omega) (by omega) (by omega) (by omega)) (fun r16 u17 p18 => ?_)
    obtain ⟨Iu17, Fu17_, Of15_u17_, Of34_u17_, Of1_u17_, Of30_u17_, Of18_u17_, p18_1, p18_2⟩ := p18
    have Fu17 : ∀ k, k < 101 → u17 k = τ k := fun k hk => (Fu17_ k hk).trans (Fs15 k hk)
    have Of15_u17 : u17 101 15 = τ 101 15 := Of15_u17_.trans Of15_s15
    have Of34_u17 : u17 101 34 = τ 101 34 := Of34_u17_.trans Of34_s15
    have Of1_u17 : u17 101 1 = τ 101 1 := Of1_u17_.trans Of1_s15
    have Of30_u17 : u17 101 30 = τ 101 30 := Of30_u17_.trans Of30_s15
    have Of18_u17 : u17 101 18 = τ 101 18 := Of18_u17_.trans Of18_s15
    refine sf_lt (fun s19 hs19 => ?_)
    have Is19 : wiM s19 := by rw [hs19]; exact wm_oth Iu17 (by decide) (by decide) (by decide) (by decide)
    have Fs19 : ∀ k, k < 101 → s19 k = τ k := fun k hk => (show s19 k = u17 k by rw [hs19, up2_k (by omega)]).trans (Fu17 k hk)
    have Of15_s19 : s19 101 15 = τ 101 15 := (show s19 101 15 = u17 101 15 by rw [hs19, up2_k (by omega)]).trans Of15_u17
    have Of34_s19 : s19 101 34 = τ 101 34 := (show s19 101 34 = u17 101 34 by rw [hs19, up2_k (by omega)]).trans Of34_u17
    have Of1_s19 : s19 101 1 = τ 101 1 := (show s19 101 1 = u17 101 1 by rw [hs19, up2_k (by omega)]).trans Of1_u17
    have Of30_s19 : s19 101 30 = τ 101 30 := (show s19 101 30 = u17 101 30 by rw [hs19, up2_k (by omega)]).trans Of30_u17
    have Of18_s19 : s19 101 18 = τ 101 18 := (show s19 101 18 = u17 101 18 by rw [hs19, up2_k (by omega)]).trans Of18_u17
    have b20 := ti_lo x5
    have b21 := ti_hi x5
    have b22 := ti_lo r16
    have b23 := ti_hi r16
    have b24 := ti_lo (x5 - r16)
    have b25 := ti_hi (x5 - r16)
    have b26 := ti_lo x7
    have b27 := ti_hi x7
    refine sf_ite (fun c28 => ?_) (fun c28 => ?_)
    · have C28 : (x5 - r16).toInt ≤ x7.toInt := ti_le c28
      rw [j_X4_walls_155_e]
      refine sf_ite (fun c29 => ?_) (fun c29 => ?_)
      · have C29 : (x5 - r16).toInt ≤ x7.toInt := ti_le c29
        rw [j_X4_walls_171_e]
        rw [j_X4_walls_173_e]
        have t30 : (x9 + (1 : Int32)).toInt = x9.toInt + (1 : Int) := ti_add (show -2147483648 ≤ x9.toInt + (1 : Int) by omega) (show x9.toInt + (1 : Int) ≤ 2147483647 by omega)
        exact ih _ _ _ _ Is19 Fs19 Of15_s19 Of34_s19 Of1_s19 Of30_s19 Of18_s19 (by omega) (by omega) (by omega) (by omega) (by omega) (by omega) (by omega)
      have C29 : x7.toInt < (x5 - r16).toInt := ti_nle c29
      rw [j_X4_walls_171_e]
      rw [j_X4_walls_173_e]
      have t31 : (x9 + (1 : Int32)).toInt = x9.toInt + (1 : Int) := ti_add (show -2147483648 ≤ x9.toInt + (1 : Int) by omega) (show x9.toInt + (1 : Int) ≤ 2147483647 by omega)
      exact ih _ _ _ _ Is19 Fs19 Of15_s19 Of34_s19 Of1_s19 Of30_s19 Of18_s19 (by omega) (by omega) (by omega) (by omega) (by omega) (by omega) (by omega)
    have C28 : x7.toInt < (x5 - r16).toInt := ti_nle c28
    rw [j_X4_walls_155_e]
    refine sf_ite (fun c32 => ?_) (fun c32 => ?_)
    · have C32 : (x5 - r16).toInt ≤ x7.toInt := ti_le c32
      rw [j_X4_walls_171_e]
      rw [j_X4_walls_173_e]
      have t33 : ((10 : Int32) * x8).toInt = (10 : Int) * x8.toInt := ti_mul (show -2147483648 ≤ (10 : Int) * x8.toInt by omega) (show (10 : Int) * x8.toInt ≤ 2147483647 by omega)
      have t34 : (((10 : Int32) * x8) + x9).toInt = ((10 : Int32) * x8).toInt + x9.toInt := ti_add (show -2147483648 ≤ ((10 : Int32) * x8).toInt + x9.toInt by omega) (show ((10 : Int32) * x8).toInt + x9.toInt ≤ 2147483647 by omega)
      have t35 : (x9 + (1 : Int32)).toInt = x9.toInt + (1 : Int) := ti_add (show -2147483648 ≤ x9.toInt + (1 : Int) by omega) (show x9.toInt + (1 : Int) ≤ 2147483647 by omega)
      exact ih _ _ _ _ Is19 Fs19 Of15_s19 Of34_s19 Of1_s19 Of30_s19 Of18_s19 (by omega) (by omega) (by omega) (by omega) (by omega) (by omega) (by omega)
    have C32 : x7.toInt < (x5 - r16).toInt := ti_nle c32
    rw [j_X4_walls_171_e]
    rw [j_X4_walls_173_e]
    have t36 : ((10 : Int32) * x8).toInt = (10 : Int) * x8.toInt := ti_mul (show -2147483648 ≤ (10 : Int) * x8.toInt by omega) (show (10 : Int) * x8.toInt ≤ 2147483647 by omega)
    have t37 : (((10 : Int32) * x8) + x9).toInt = ((10 : Int32) * x8).toInt + x9.toInt := ti_add (show -2147483648 ≤ ((10 : Int32) * x8).toInt + x9.toInt by omega) (show ((10 : Int32) * x8).toInt + x9.toInt ≤ 2147483647 by omega)
    have t38 : (x9 + (1 : Int32)).toInt = x9.toInt + (1 : Int) := ti_add (show -2147483648 ≤ x9.toInt + (1 : Int) by omega) (show x9.toInt + (1 : Int) ≤ 2147483647 by omega)
    exact ih _ _ _ _ Is19 Fs19 Of15_s19 Of34_s19 Of1_s19 Of30_s19 Of18_s19 (by omega) (by omega) (by omega) (by omega) (by omega) (by omega) (by omega)
set_option maxHeartbeats 4000000 in
set_option maxRecDepth 100000 in
theorem sl_X4_walls_62 {F : Nat} (hF : 73786976294838206464 ≤ F) {x1 : Int32} {x2 : Int32} {x3 : Int32} {x5 : Int32} {τ : Mem} (x1_1 : 0 ≤ x1.toInt) (x1_2 : x1.toInt ≤ 4) (x2_1 : 0 ≤ x2.toInt) (x2_2 : x2.toInt ≤ 999) (x3_1 : 0 ≤ x3.toInt) (x3_2 : x3.toInt ≤ 1) : ∀ (N : Nat) (x6 : Int32) (x7 : Int32) (x8 : Int32) (σ : Mem), wiM σ → (∀ k, k < 101 → σ k = τ k) → σ 101 15 = τ 101 15 → σ 101 34 = τ 101 34 → σ 101 1 = τ 101 1 → σ 101 30 = τ 101 30 → σ 101 18 = τ 101 18 → 6 < x8.toInt + N → -9 ≤ x6.toInt → x6.toInt ≤ 63 → 0 ≤ x7.toInt → x7.toInt ≤ 2147483647 → 0 ≤ x8.toInt → x8.toInt ≤ 6 → sf (lp_X4_walls_62 F x1 x2 x3 x5 N x6 x7 x8 σ) (fun r s => wiM s ∧ (∀ k, k < 101 → s k = τ k) ∧ s 101 15 = τ 101 15 ∧ s 101 34 = τ 101 34 ∧ s 101 1 = τ 101 1 ∧ s 101 30 = τ 101 30 ∧ s 101 18 = τ 101 18 ∧ -2147483648 ≤ r.toInt ∧ r.toInt ≤ 2147483647) := by
  intro N
  induction N with
  | zero => intro x6 x7 x8 σ hI Fσ Of15_σ Of34_σ Of1_σ Of30_σ Of18_σ hN x6_1 x6_2 x7_1 x7_2 x8_1 x8_2; exfalso; omega
  | succ N ih =>
    intro x6 x7 x8 σ hI Fσ Of15_σ Of34_σ Of1_σ Of30_σ Of18_σ hN x6_1 x6_2 x7_1 x7_2 x8_1 x8_2
    rw [lp_X4_walls_62_s]
    have m1 := wx_X4_1 hI
    have e2 : (σ 101 1).toInt = (τ 101 1).toInt := congrArg Int32.toInt Of1_σ
    refine sf_ite (fun c3 => ?_) (fun c3 => ?_)
    · have C3 : (σ 101 1).toInt ≤ x8.toInt := ti_le c3
      refine sf_ite (fun c4 => ?_) (fun c4 => ?_)
      · have C4 : x3.toInt = (0 : Int) := ti_eq c4
        rw [j_X4_walls_194_e]
        exact sf_ret ⟨hI, Fσ, Of15_σ, Of34_σ, Of1_σ, Of30_σ, Of18_σ, ti_lo _, ti_hi _⟩
      have C4 : ¬ x3.toInt = (0 : Int) := ti_ne c4
      refine sf_ite (fun c5 => ?_) (fun c5 => ?_)
      · have C5 : (0 : Int) ≤ x6.toInt := ti_le c5
        have b6 := ti_lo x7
        have b7 := ti_hi x7
        exact sf_ret ⟨hI, Fσ, Of15_σ, Of34_σ, Of1_σ, Of30_σ, Of18_σ, ti_lo _, ti_hi _⟩
      have C5 : x6.toInt < (0 : Int) := ti_nle c5
      rw [j_X4_walls_194_e]
      exact sf_ret ⟨hI, Fσ, Of15_σ, Of34_σ, Of1_σ, Of30_σ, Of18_σ, ti_lo _, ti_hi _⟩
    have C3 : x8.toInt < (σ 101 1).toInt := ti_nle c3
    have b8 := ti_lo x5
    have b9 := ti_hi x5
    have b10 := ti_lo x7
    have b11 := ti_hi x7
    have l_0 : (0 : Int32).toInt = 0 := rfl
    exact sl_X4_walls_74 hF (by omega) (by omega) (by omega) (by omega) (by omega) (by omega) (by omega) (by omega) (by omega) ih _ _ _ _ _ hI Fσ Of15_σ Of34_σ Of1_σ Of30_σ Of18_σ (by omega) (by omega) (by omega) (by omega) (by omega) (by decide) (by decide)
set_option maxHeartbeats 4000000 in
set_option maxRecDepth 100000 in
theorem s_X4_walls {F : Nat} (hF : 73786976294838206464 ≤ F) {x1 : Int32} {x2 : Int32} {x3 : Int32} {τ : Mem} (hI : wiM τ) : sf (f_X4_walls F x1 x2 x3 τ) (fun r s => wiM s ∧ (∀ k, k < 101 → s k = τ k) ∧ s 101 15 = τ 101 15 ∧ s 101 34 = τ 101 34 ∧ s 101 1 = τ 101 1 ∧ s 101 30 = τ 101 30 ∧ s 101 18 = τ 101 18 ∧ -2147483648 ≤ r.toInt ∧ r.toInt ≤ 2147483647) := by
  have Fτ : ∀ k, k < 101 → τ k = τ k := fun _ _ => rfl
  have Of15_τ : τ 101 15 = τ 101 15 := rfl
  have Of34_τ : τ 101 34 = τ 101 34 := rfl
  have Of1_τ : τ 101 1 = τ 101 1 := rfl
  have Of30_τ : τ 101 30 = τ 101 30 := rfl
  have Of18_τ : τ 101 18 = τ 101 18 := rfl
  rw [f_X4_walls_e]
  refine sf_lt (fun s1 hs1 => ?_)
  have Is1 : wiM s1 := by rw [hs1]; exact wm_fld hI (by decide) (by decide) (by decide) (by decide) (by decide) (by decide) (by decide)
  have Fs1 : ∀ k, k < 101 → s1 k = τ k := fun k hk => (show s1 k = τ k by rw [hs1, up2_k (by omega)]).trans (Fτ k hk)
  have Of15_s1 : s1 101 15 = τ 101 15 := (show s1 101 15 = τ 101 15 by rw [hs1, up2_i (by decide)]).trans Of15_τ
  have Of34_s1 : s1 101 34 = τ 101 34 := (show s1 101 34 = τ 101 34 by rw [hs1, up2_i (by decide)]).trans Of34_τ
  have Of1_s1 : s1 101 1 = τ 101 1 := (show s1 101 1 = τ 101 1 by rw [hs1, up2_i (by decide)]).trans Of1_τ
  have Of30_s1 : s1 101 30 = τ 101 30 := (show s1 101 30 = τ 101 30 by rw [hs1, up2_i (by decide)]).trans Of30_τ
  have Of18_s1 : s1 101 18 = τ 101 18 := (show s1 101 18 = τ 101 18 by rw [hs1, up2_i (by decide)]).trans Of18_τ
  have b2 := ti_lo x1
  have b3 := ti_hi x1
  refine sf_bnd (s_X4_isLooker hF Is1) (fun r4 u5 p6 => ?_)
  obtain ⟨e9, p6⟩ := p6
  have e9 := e9.symm
  subst e9
  rcases p6 with ⟨rfl, q7, q8⟩ | p6
  · refine sf_ite (fun c9 => ?_) (fun c9 => ?_)
    · have C9 : (1 : Int) = (0 : Int) := ti_eq c9
      exfalso; omega
    have C9 : ¬ (1 : Int) = (0 : Int) := ti_ne c9
    refine sf_in ?_
    rw [f_X4_wrongNumber_e]
    have b10 := ti_lo x2
    have b11 := ti_hi x2
    refine sf_ite (fun c12 => ?_) (fun c12 => ?_)
    · have C12 : (0 : Int) ≤ x2.toInt := ti_le c12
      refine sf_ite (fun c13 => ?_) (fun c13 => ?_)
      · have C13 : x2.toInt ≤ (999 : Int) := ti_le c13
        refine sf_ret ?_
        rw [j_X4_walls_25_e]
        refine sf_in ?_
        rw [f_X4_wrongBit_e]
        refine sf_ite (fun c14 => ?_) (fun c14 => ?_)
        · have C14 : (0 : Int) = (0 : Int) := ti_eq c14
          refine sf_in ?_
          rw [f_X4_in_e]
          have b15 := ti_lo x3
          have b16 := ti_hi x3
          have b17 := ti_lo (lg_cmp (Int32.toInt64 x3) (0 : Int64))
          have b18 := ti_hi (lg_cmp (Int32.toInt64 x3) (0 : Int64))
          refine sf_ite (fun c19 => ?_) (fun c19 => ?_)
          · have C19 : (lg_cmp (Int32.toInt64 x3) (0 : Int64)).toInt < (0 : Int) := ti_lt c19
            have L19 : x3.toInt < (0 : Int) := by have q := lg_ltl c19; (repeat (rw [Int32.toInt_toInt64] at q)); exact q
            rw [j_X4_in_17_e]
            refine sf_ret ?_
            refine sf_ite (fun c20 => ?_) (fun c20 => ?_)
            · have C20 : (0 : Int) = (0 : Int) := ti_eq c20
              refine sf_ret ?_
              refine sf_ite (fun c21 => ?_) (fun c21 => ?_)
              · have C21 : (0 : Int) ≤ (-2 : Int) := ti_le c21
                exfalso; omega
              have C21 : (-2 : Int) < (0 : Int) := ti_nle c21
              refine sf_bnd (s_X4_refuse hF Is1 (by decide) (by decide)) (fun r22 u23 p24 => ?_)
              obtain ⟨Iu23, Fu23_, Of15_u23_, Of34_u23_, Of1_u23_, Of30_u23_, Of18_u23_, p24_1, p24_2, p24_x0⟩ := p24
              have Fu23 : ∀ k, k < 101 → u23 k = τ k := fun k hk => (Fu23_ k hk).trans (Fs1 k hk)
              have Of15_u23 : u23 101 15 = τ 101 15 := Of15_u23_.trans Of15_s1
              have Of34_u23 : u23 101 34 = τ 101 34 := Of34_u23_.trans Of34_s1
              have Of1_u23 : u23 101 1 = τ 101 1 := Of1_u23_.trans Of1_s1
              have Of30_u23 : u23 101 30 = τ 101 30 := Of30_u23_.trans Of30_s1
              have Of18_u23 : u23 101 18 = τ 101 18 := Of18_u23_.trans Of18_s1
              replace p24_x0 : r22.toInt = (-2 : Int) := p24_x0
              exact sf_ret ⟨Iu23, Fu23, Of15_u23, Of34_u23, Of1_u23, Of30_u23, Of18_u23, ti_lo _, ti_hi _⟩
            have C20 : ¬ (0 : Int) = (0 : Int) := ti_ne c20
            exfalso; omega
          have C19 : (0 : Int) ≤ (lg_cmp (Int32.toInt64 x3) (0 : Int64)).toInt := ti_nlt c19
          have L19 : (0 : Int) ≤ x3.toInt := by have q := lg_ltln c19; (repeat (rw [Int32.toInt_toInt64] at q)); exact q
          have b25 := ti_lo (lg_cmp (Int32.toInt64 x3) (Int32.toInt64 (1 : Int32)))
          have b26 := ti_hi (lg_cmp (Int32.toInt64 x3) (Int32.toInt64 (1 : Int32)))
          refine sf_ite (fun c27 => ?_) (fun c27 => ?_)
          · have C27 : (0 : Int) < (lg_cmp (Int32.toInt64 x3) (Int32.toInt64 (1 : Int32))).toInt := ti_lt c27
            have L27 : (1 : Int) < x3.toInt := by have q := lg_ltr c27; (repeat (rw [Int32.toInt_toInt64] at q)); exact q
            rw [j_X4_in_17_e]
            refine sf_ret ?_
            refine sf_ite (fun c28 => ?_) (fun c28 => ?_)
            · have C28 : (0 : Int) = (0 : Int) := ti_eq c28
              refine sf_ret ?_
              refine sf_ite (fun c29 => ?_) (fun c29 => ?_)
              · have C29 : (0 : Int) ≤ (-2 : Int) := ti_le c29
                exfalso; omega
              have C29 : (-2 : Int) < (0 : Int) := ti_nle c29
              refine sf_bnd (s_X4_refuse hF Is1 (by decide) (by decide)) (fun r30 u31 p32 => ?_)
              obtain ⟨Iu31, Fu31_, Of15_u31_, Of34_u31_, Of1_u31_, Of30_u31_, Of18_u31_, p32_1, p32_2, p32_x0⟩ := p32
              have Fu31 : ∀ k, k < 101 → u31 k = τ k := fun k hk => (Fu31_ k hk).trans (Fs1 k hk)
              have Of15_u31 : u31 101 15 = τ 101 15 := Of15_u31_.trans Of15_s1
              have Of34_u31 : u31 101 34 = τ 101 34 := Of34_u31_.trans Of34_s1
              have Of1_u31 : u31 101 1 = τ 101 1 := Of1_u31_.trans Of1_s1
              have Of30_u31 : u31 101 30 = τ 101 30 := Of30_u31_.trans Of30_s1
              have Of18_u31 : u31 101 18 = τ 101 18 := Of18_u31_.trans Of18_s1
              replace p32_x0 : r30.toInt = (-2 : Int) := p32_x0
              exact sf_ret ⟨Iu31, Fu31, Of15_u31, Of34_u31, Of1_u31, Of30_u31, Of18_u31, ti_lo _, ti_hi _⟩
            have C28 : ¬ (0 : Int) = (0 : Int) := ti_ne c28
            exfalso; omega
          have C27 : (lg_cmp (Int32.toInt64 x3) (Int32.toInt64 (1 : Int32))).toInt ≤ (0 : Int) := ti_nlt c27
          have L27 : x3.toInt ≤ (1 : Int) := by have q := lg_ltrn c27; (repeat (rw [Int32.toInt_toInt64] at q)); exact q
          refine sf_ret ?_
          refine sf_ite (fun c33 => ?_) (fun c33 => ?_)
          · have C33 : (1 : Int) = (0 : Int) := ti_eq c33
            exfalso; omega
          have C33 : ¬ (1 : Int) = (0 : Int) := ti_ne c33
          rw [j_X4_wrongBit_20_e]
          refine sf_ret ?_
          refine sf_ite (fun c34 => ?_) (fun c34 => ?_)
          · have C34 : (0 : Int) ≤ (0 : Int) := ti_le c34
            refine sf_bnd (s_X4_worthAnew hF Is1 (by omega) (by omega) (by omega) (by omega)) (fun r35 u36 p37 => ?_)
            obtain ⟨Iu36, Fu36_, Of15_u36_, Of34_u36_, Of1_u36_, Of30_u36_, Of18_u36_, p37_1, p37_2⟩ := p37
            have Fu36 : ∀ k, k < 101 → u36 k = τ k := fun k hk => (Fu36_ k hk).trans (Fs1 k hk)
            have Of15_u36 : u36 101 15 = τ 101 15 := Of15_u36_.trans Of15_s1
            have Of34_u36 : u36 101 34 = τ 101 34 := Of34_u36_.trans Of34_s1
            have Of1_u36 : u36 101 1 = τ 101 1 := Of1_u36_.trans Of1_s1
            have Of30_u36 : u36 101 30 = τ 101 30 := Of30_u36_.trans Of30_s1
            have Of18_u36 : u36 101 18 = τ 101 18 := Of18_u36_.trans Of18_s1
            have b38 := ti_lo r35
            have b39 := ti_hi r35
            have l_0 : (0 : Int32).toInt = 0 := rfl
            exact sl_X4_walls_62 hF (by omega) (by omega) (by omega) (by omega) (by omega) (by omega) _ _ _ _ _ Iu36 Fu36 Of15_u36 Of34_u36 Of1_u36 Of30_u36 Of18_u36 (by omega) (by decide) (by decide) (by decide) (by decide) (by decide) (by decide)
          have C34 : (0 : Int) < (0 : Int) := ti_nle c34
          exfalso; omega
        have C14 : ¬ (0 : Int) = (0 : Int) := ti_ne c14
        exfalso; omega
      have C13 : (999 : Int) < x2.toInt := ti_nle c13
      refine sf_ret ?_
      rw [j_X4_walls_25_e]
      refine sf_in ?_
      rw [f_X4_wrongBit_e]
      refine sf_ite (fun c40 => ?_) (fun c40 => ?_)
      · have C40 : (-6 : Int) = (0 : Int) := ti_eq c40
        exfalso; omega
      have C40 : ¬ (-6 : Int) = (0 : Int) := ti_ne c40
      rw [j_X4_wrongBit_20_e]
      refine sf_ret ?_
      refine sf_ite (fun c41 => ?_) (fun c41 => ?_)
      · have C41 : (0 : Int) ≤ (-6 : Int) := ti_le c41
        exfalso; omega
      have C41 : (-6 : Int) < (0 : Int) := ti_nle c41
      refine sf_bnd (s_X4_refuse hF Is1 (by decide) (by decide)) (fun r42 u43 p44 => ?_)
      obtain ⟨Iu43, Fu43_, Of15_u43_, Of34_u43_, Of1_u43_, Of30_u43_, Of18_u43_, p44_1, p44_2, p44_x0⟩ := p44
      have Fu43 : ∀ k, k < 101 → u43 k = τ k := fun k hk => (Fu43_ k hk).trans (Fs1 k hk)
      have Of15_u43 : u43 101 15 = τ 101 15 := Of15_u43_.trans Of15_s1
      have Of34_u43 : u43 101 34 = τ 101 34 := Of34_u43_.trans Of34_s1
      have Of1_u43 : u43 101 1 = τ 101 1 := Of1_u43_.trans Of1_s1
      have Of30_u43 : u43 101 30 = τ 101 30 := Of30_u43_.trans Of30_s1
      have Of18_u43 : u43 101 18 = τ 101 18 := Of18_u43_.trans Of18_s1
      replace p44_x0 : r42.toInt = (-6 : Int) := p44_x0
      exact sf_ret ⟨Iu43, Fu43, Of15_u43, Of34_u43, Of1_u43, Of30_u43, Of18_u43, ti_lo _, ti_hi _⟩
    have C12 : x2.toInt < (0 : Int) := ti_nle c12
    refine sf_ret ?_
    rw [j_X4_walls_25_e]
    refine sf_in ?_
    rw [f_X4_wrongBit_e]
    refine sf_ite (fun c45 => ?_) (fun c45 => ?_)
    · have C45 : (-4 : Int) = (0 : Int) := ti_eq c45
      exfalso; omega
    have C45 : ¬ (-4 : Int) = (0 : Int) := ti_ne c45
    rw [j_X4_wrongBit_20_e]
    refine sf_ret ?_
    refine sf_ite (fun c46 => ?_) (fun c46 => ?_)
    · have C46 : (0 : Int) ≤ (-4 : Int) := ti_le c46
      exfalso; omega
    have C46 : (-4 : Int) < (0 : Int) := ti_nle c46
    refine sf_bnd (s_X4_refuse hF Is1 (by decide) (by decide)) (fun r47 u48 p49 => ?_)
    obtain ⟨Iu48, Fu48_, Of15_u48_, Of34_u48_, Of1_u48_, Of30_u48_, Of18_u48_, p49_1, p49_2, p49_x0⟩ := p49
    have Fu48 : ∀ k, k < 101 → u48 k = τ k := fun k hk => (Fu48_ k hk).trans (Fs1 k hk)
    have Of15_u48 : u48 101 15 = τ 101 15 := Of15_u48_.trans Of15_s1
    have Of34_u48 : u48 101 34 = τ 101 34 := Of34_u48_.trans Of34_s1
    have Of1_u48 : u48 101 1 = τ 101 1 := Of1_u48_.trans Of1_s1
    have Of30_u48 : u48 101 30 = τ 101 30 := Of30_u48_.trans Of30_s1
    have Of18_u48 : u48 101 18 = τ 101 18 := Of18_u48_.trans Of18_s1
    replace p49_x0 : r47.toInt = (-4 : Int) := p49_x0
    exact sf_ret ⟨Iu48, Fu48, Of15_u48, Of34_u48, Of1_u48, Of30_u48, Of18_u48, ti_lo _, ti_hi _⟩
  obtain rfl := p6
  refine sf_ite (fun c50 => ?_) (fun c50 => ?_)
  · have C50 : (0 : Int) = (0 : Int) := ti_eq c50
    rw [j_X4_walls_25_e]
    refine sf_in ?_
    rw [f_X4_wrongBit_e]
    refine sf_ite (fun c51 => ?_) (fun c51 => ?_)
    · have C51 : (-1 : Int) = (0 : Int) := ti_eq c51
      exfalso; omega
    have C51 : ¬ (-1 : Int) = (0 : Int) := ti_ne c51
    rw [j_X4_wrongBit_20_e]
    refine sf_ret ?_
    refine sf_ite (fun c52 => ?_) (fun c52 => ?_)
    · have C52 : (0 : Int) ≤ (-1 : Int) := ti_le c52
      exfalso; omega
    have C52 : (-1 : Int) < (0 : Int) := ti_nle c52
    refine sf_bnd (s_X4_refuse hF Is1 (by decide) (by decide)) (fun r53 u54 p55 => ?_)
    obtain ⟨Iu54, Fu54_, Of15_u54_, Of34_u54_, Of1_u54_, Of30_u54_, Of18_u54_, p55_1, p55_2, p55_x0⟩ := p55
    have Fu54 : ∀ k, k < 101 → u54 k = τ k := fun k hk => (Fu54_ k hk).trans (Fs1 k hk)
    have Of15_u54 : u54 101 15 = τ 101 15 := Of15_u54_.trans Of15_s1
    have Of34_u54 : u54 101 34 = τ 101 34 := Of34_u54_.trans Of34_s1
    have Of1_u54 : u54 101 1 = τ 101 1 := Of1_u54_.trans Of1_s1
    have Of30_u54 : u54 101 30 = τ 101 30 := Of30_u54_.trans Of30_s1
    have Of18_u54 : u54 101 18 = τ 101 18 := Of18_u54_.trans Of18_s1
    replace p55_x0 : r53.toInt = (-1 : Int) := p55_x0
    exact sf_ret ⟨Iu54, Fu54, Of15_u54, Of34_u54, Of1_u54, Of30_u54, Of18_u54, ti_lo _, ti_hi _⟩
  have C50 : ¬ (0 : Int) = (0 : Int) := ti_ne c50
  exfalso; omega
set_option maxHeartbeats 4000000 in
set_option maxRecDepth 100000 in
theorem s_X4_divisor {F : Nat} (hF : 73786976294838206464 ≤ F) {y0 : Int64} {y2 : Int64} {τ : Mem} (hI : wiM τ) : sf (f_X4_divisor F y0 y2 τ) (fun r s => s = τ ∧ True ∧ (¬ y0 = 0 → ¬ r = 0)) := by
  rw [f_X4_divisor_e]
  by_cases c : y0 = 0
  · by_cases c2 : lg_cmp y2 0 = 0
    · obtain ⟨N, rfl⟩ : ∃ N, F = N + 1 := ⟨F - 1, by omega⟩
      rw [lp_X4_divisor_6_s, if_pos c2]
      exact sf_ret ⟨rfl, trivial, fun h => absurd c h⟩
    · obtain ⟨N, rfl⟩ : ∃ N, F = N + 1 := ⟨F - 1, by omega⟩
      rw [lp_X4_divisor_6_s, if_neg c2]
      refine sf_nzl (lg_ne0 c2) ?_
      have hr := Int64.toInt_lt (y0 - y0 / y2 * y2)
      have hr2 := Int64.le_toInt (y0 - y0 / y2 * y2)
      obtain ⟨r, e, h⟩ := wt_div (F := N + 1) (σ := τ) N y2 (y0 - y0 / y2 * y2) (by omega) (lg_ne0 c2)
      exact ⟨r, τ, e, rfl, trivial, fun h => absurd c h⟩
  · have hr := Int64.toInt_lt y2
    have hr2 := Int64.le_toInt y2
    obtain ⟨r, e, h⟩ := wt_div (F := F) (σ := τ) F y0 y2 (by omega) c
    exact ⟨r, τ, e, rfl, trivial, fun _ => h⟩
set_option maxHeartbeats 4000000 in
set_option maxRecDepth 100000 in
theorem s_X4_partOf {F : Nat} (hF : 73786976294838206464 ≤ F) {y0 : Int64} {y2 : Int64} {x4 : Int32} {τ : Mem} (hI : wiM τ) (x4_1 : 0 ≤ x4.toInt) (x4_2 : x4.toInt ≤ 1) : sf (f_X4_partOf F y0 y2 x4 τ) (fun r s => s = τ ∧ True) := by
  rw [f_X4_partOf_e]
  have b1 := ti_lo (lg_cmp y0 (0 : Int64))
  have b2 := ti_hi (lg_cmp y0 (0 : Int64))
  refine sf_ite (fun c3 => ?_) (fun c3 => ?_)
  · have C3 : (lg_cmp y0 (0 : Int64)).toInt = (0 : Int) := ti_eq c3
    exact sf_ret ⟨rfl, trivial⟩
  have C3 : ¬ (lg_cmp y0 (0 : Int64)).toInt = (0 : Int) := ti_ne c3
  refine sf_bnd (s_X4_divisor hF hI) (fun r4 u5 p6 => ?_)
  obtain ⟨e9, -, p6_x0⟩ := p6
  have e9 := e9.symm
  subst e9
  replace p6_x0 : ¬ y0 = 0 → ¬ r4 = 0 := p6_x0
  refine sf_ite (fun c7 => ?_) (fun c7 => ?_)
  · have C7 : x4.toInt = (0 : Int) := ti_eq c7
    refine sf_nzl (p6_x0 (fun q => absurd c3 (by rw [q]; decide))) ?_
    exact sf_ret ⟨rfl, trivial⟩
  have C7 : ¬ x4.toInt = (0 : Int) := ti_ne c7
  refine sf_nzl (p6_x0 (fun q => absurd c3 (by rw [q]; decide))) ?_
  exact sf_ret ⟨rfl, trivial⟩
set_option maxHeartbeats 4000000 in
set_option maxRecDepth 100000 in
theorem sl_X4_share_55 {F : Nat} (hF : 73786976294838206464 ≤ F) {x1 : Int32} {x2 : Int32} {x3 : Int32} {τ : Mem} (x1_1 : 0 ≤ x1.toInt) (x1_2 : x1.toInt ≤ 4) (x2_1 : 0 ≤ x2.toInt) (x2_2 : x2.toInt ≤ 7) (x3_1 : 0 ≤ x3.toInt) (x3_2 : x3.toInt ≤ 1) : ∀ (N : Nat) (y5 : Int64) (x7 : Int32) (σ : Mem), wiM σ → (∀ k, k < 101 → σ k = τ k) → σ 101 15 = τ 101 15 → σ 101 34 = τ 101 34 → σ 101 1 = τ 101 1 → σ 101 30 = τ 101 30 → σ 101 18 = τ 101 18 → 5 < x7.toInt + N → 0 ≤ x7.toInt → x7.toInt ≤ 5 → sf (lp_X4_share_55 F x1 x2 x3 N y5 x7 σ) (fun r s => wiM s ∧ (∀ k, k < 101 → s k = τ k) ∧ s 101 15 = τ 101 15 ∧ s 101 34 = τ 101 34 ∧ s 101 1 = τ 101 1 ∧ s 101 30 = τ 101 30 ∧ s 101 18 = τ 101 18 ∧ True) := by
  intro N
  induction N with
  | zero => intro y5 x7 σ hI Fσ Of15_σ Of34_σ Of1_σ Of30_σ Of18_σ hN x7_1 x7_2; exfalso; omega
  | succ N ih =>
    intro y5 x7 σ hI Fσ Of15_σ Of34_σ Of1_σ Of30_σ Of18_σ hN x7_1 x7_2
    rw [lp_X4_share_55_s]
    have m1 := wx_X4_3 hI
    refine sf_ite (fun c2 => ?_) (fun c2 => ?_)
    · have C2 : (σ 101 3).toInt ≤ x7.toInt := ti_le c2
      have t3 : ((8 : Int32) * x1).toInt = (8 : Int) * x1.toInt := ti_mul (show -2147483648 ≤ (8 : Int) * x1.toInt by omega) (show (8 : Int) * x1.toInt ≤ 2147483647 by omega)
      have t4 : (((8 : Int32) * x1) + x2).toInt = ((8 : Int32) * x1).toInt + x2.toInt := ti_add (show -2147483648 ≤ ((8 : Int32) * x1).toInt + x2.toInt by omega) (show ((8 : Int32) * x1).toInt + x2.toInt ≤ 2147483647 by omega)
      refine sf_chk (ti_in (by omega) (by omega)) ?_
      have v5 : Int32.toNatClampNeg (((8 : Int32) * x1) + x2) = (((8 : Int32) * x1) + x2).toInt.toNat := rfl
      refine sf_bnd (s_X4_partOf hF hI (by omega) (by omega)) (fun r6 u7 p8 => ?_)
      obtain ⟨e9, -⟩ := p8
      have e9 := e9.symm
      subst e9
      exact sf_ret ⟨hI, Fσ, Of15_σ, Of34_σ, Of1_σ, Of30_σ, Of18_σ, trivial⟩
    have C2 : x7.toInt < (σ 101 3).toInt := ti_nle c2
    have t9 : ((8 : Int32) * x7).toInt = (8 : Int) * x7.toInt := ti_mul (show -2147483648 ≤ (8 : Int) * x7.toInt by omega) (show (8 : Int) * x7.toInt ≤ 2147483647 by omega)
    have t10 : (((8 : Int32) * x7) + x2).toInt = ((8 : Int32) * x7).toInt + x2.toInt := ti_add (show -2147483648 ≤ ((8 : Int32) * x7).toInt + x2.toInt by omega) (show ((8 : Int32) * x7).toInt + x2.toInt ≤ 2147483647 by omega)
    refine sf_chk (ti_in (by omega) (by omega)) ?_
    have v11 : Int32.toNatClampNeg (((8 : Int32) * x7) + x2) = (((8 : Int32) * x7) + x2).toInt.toNat := rfl
    refine sf_lt (fun z12 hz12 => ?_)
    have t13 : (x7 + (1 : Int32)).toInt = x7.toInt + (1 : Int) := ti_add (show -2147483648 ≤ x7.toInt + (1 : Int) by omega) (show x7.toInt + (1 : Int) ≤ 2147483647 by omega)
    exact ih _ _ _ hI Fσ Of15_σ Of34_σ Of1_σ Of30_σ Of18_σ (by omega) (by omega) (by omega)
set_option maxHeartbeats 4000000 in
set_option maxRecDepth 100000 in
theorem s_X4_share {F : Nat} (hF : 73786976294838206464 ≤ F) {x1 : Int32} {x2 : Int32} {x3 : Int32} {τ : Mem} (hI : wiM τ) : sf (f_X4_share F x1 x2 x3 τ) (fun r s => wiM s ∧ (∀ k, k < 101 → s k = τ k) ∧ s 101 15 = τ 101 15 ∧ s 101 34 = τ 101 34 ∧ s 101 1 = τ 101 1 ∧ s 101 30 = τ 101 30 ∧ s 101 18 = τ 101 18 ∧ True) := by
  have Fτ : ∀ k, k < 101 → τ k = τ k := fun _ _ => rfl
  have Of15_τ : τ 101 15 = τ 101 15 := rfl
  have Of34_τ : τ 101 34 = τ 101 34 := rfl
  have Of1_τ : τ 101 1 = τ 101 1 := rfl
  have Of30_τ : τ 101 30 = τ 101 30 := rfl
  have Of18_τ : τ 101 18 = τ 101 18 := rfl
  rw [f_X4_share_e]
  refine sf_lt (fun s1 hs1 => ?_)
  have Is1 : wiM s1 := by rw [hs1]; exact wm_fld hI (by decide) (by decide) (by decide) (by decide) (by decide) (by decide) (by decide)
  have Fs1 : ∀ k, k < 101 → s1 k = τ k := fun k hk => (show s1 k = τ k by rw [hs1, up2_k (by omega)]).trans (Fτ k hk)
  have Of15_s1 : s1 101 15 = τ 101 15 := (show s1 101 15 = τ 101 15 by rw [hs1, up2_i (by decide)]).trans Of15_τ
  have Of34_s1 : s1 101 34 = τ 101 34 := (show s1 101 34 = τ 101 34 by rw [hs1, up2_i (by decide)]).trans Of34_τ
  have Of1_s1 : s1 101 1 = τ 101 1 := (show s1 101 1 = τ 101 1 by rw [hs1, up2_i (by decide)]).trans Of1_τ
  have Of30_s1 : s1 101 30 = τ 101 30 := (show s1 101 30 = τ 101 30 by rw [hs1, up2_i (by decide)]).trans Of30_τ
  have Of18_s1 : s1 101 18 = τ 101 18 := (show s1 101 18 = τ 101 18 by rw [hs1, up2_i (by decide)]).trans Of18_τ
  have b2 := ti_lo x1
  have b3 := ti_hi x1
  refine sf_bnd (s_X4_isLooker hF Is1) (fun r4 u5 p6 => ?_)
  obtain ⟨e9, p6⟩ := p6
  have e9 := e9.symm
  subst e9
  rcases p6 with ⟨rfl, q7, q8⟩ | p6
  · refine sf_ite (fun c9 => ?_) (fun c9 => ?_)
    · have C9 : (1 : Int) = (0 : Int) := ti_eq c9
      exfalso; omega
    have C9 : ¬ (1 : Int) = (0 : Int) := ti_ne c9
    have b10 := ti_lo x2
    have b11 := ti_hi x2
    refine sf_bnd (s_X4_isView hF Is1) (fun r12 u13 p14 => ?_)
    obtain ⟨e9, p14⟩ := p14
    have e9 := e9.symm
    subst e9
    rcases p14 with ⟨rfl, q15, q16⟩ | p14
    · refine sf_ite (fun c17 => ?_) (fun c17 => ?_)
      · have C17 : (1 : Int) = (0 : Int) := ti_eq c17
        exfalso; omega
      have C17 : ¬ (1 : Int) = (0 : Int) := ti_ne c17
      refine sf_in ?_
      rw [f_X4_wrongBit_e]
      refine sf_ite (fun c18 => ?_) (fun c18 => ?_)
      · have C18 : (0 : Int) = (0 : Int) := ti_eq c18
        refine sf_in ?_
        rw [f_X4_in_e]
        have b19 := ti_lo x3
        have b20 := ti_hi x3
        have b21 := ti_lo (lg_cmp (Int32.toInt64 x3) (0 : Int64))
        have b22 := ti_hi (lg_cmp (Int32.toInt64 x3) (0 : Int64))
        refine sf_ite (fun c23 => ?_) (fun c23 => ?_)
        · have C23 : (lg_cmp (Int32.toInt64 x3) (0 : Int64)).toInt < (0 : Int) := ti_lt c23
          have L23 : x3.toInt < (0 : Int) := by have q := lg_ltl c23; (repeat (rw [Int32.toInt_toInt64] at q)); exact q
          rw [j_X4_in_17_e]
          refine sf_ret ?_
          refine sf_ite (fun c24 => ?_) (fun c24 => ?_)
          · have C24 : (0 : Int) = (0 : Int) := ti_eq c24
            refine sf_ret ?_
            rw [j_X4_share_30_e]
            refine sf_ite (fun c25 => ?_) (fun c25 => ?_)
            · have C25 : (0 : Int) ≤ (-2 : Int) := ti_le c25
              exfalso; omega
            have C25 : (-2 : Int) < (0 : Int) := ti_nle c25
            refine sf_bnd (s_X4_refuse hF Is1 (by decide) (by decide)) (fun r26 u27 p28 => ?_)
            obtain ⟨Iu27, Fu27_, Of15_u27_, Of34_u27_, Of1_u27_, Of30_u27_, Of18_u27_, p28_1, p28_2, p28_x0⟩ := p28
            have Fu27 : ∀ k, k < 101 → u27 k = τ k := fun k hk => (Fu27_ k hk).trans (Fs1 k hk)
            have Of15_u27 : u27 101 15 = τ 101 15 := Of15_u27_.trans Of15_s1
            have Of34_u27 : u27 101 34 = τ 101 34 := Of34_u27_.trans Of34_s1
            have Of1_u27 : u27 101 1 = τ 101 1 := Of1_u27_.trans Of1_s1
            have Of30_u27 : u27 101 30 = τ 101 30 := Of30_u27_.trans Of30_s1
            have Of18_u27 : u27 101 18 = τ 101 18 := Of18_u27_.trans Of18_s1
            replace p28_x0 : r26.toInt = (-2 : Int) := p28_x0
            exact sf_ret ⟨Iu27, Fu27, Of15_u27, Of34_u27, Of1_u27, Of30_u27, Of18_u27, trivial⟩
          have C24 : ¬ (0 : Int) = (0 : Int) := ti_ne c24
          exfalso; omega
        have C23 : (0 : Int) ≤ (lg_cmp (Int32.toInt64 x3) (0 : Int64)).toInt := ti_nlt c23
        have L23 : (0 : Int) ≤ x3.toInt := by have q := lg_ltln c23; (repeat (rw [Int32.toInt_toInt64] at q)); exact q
        have b29 := ti_lo (lg_cmp (Int32.toInt64 x3) (Int32.toInt64 (1 : Int32)))
        have b30 := ti_hi (lg_cmp (Int32.toInt64 x3) (Int32.toInt64 (1 : Int32)))
        refine sf_ite (fun c31 => ?_) (fun c31 => ?_)
        · have C31 : (0 : Int) < (lg_cmp (Int32.toInt64 x3) (Int32.toInt64 (1 : Int32))).toInt := ti_lt c31
          have L31 : (1 : Int) < x3.toInt := by have q := lg_ltr c31; (repeat (rw [Int32.toInt_toInt64] at q)); exact q
          rw [j_X4_in_17_e]
          refine sf_ret ?_
          refine sf_ite (fun c32 => ?_) (fun c32 => ?_)
          · have C32 : (0 : Int) = (0 : Int) := ti_eq c32
            refine sf_ret ?_
            rw [j_X4_share_30_e]
            refine sf_ite (fun c33 => ?_) (fun c33 => ?_)
            · have C33 : (0 : Int) ≤ (-2 : Int) := ti_le c33
              exfalso; omega
            have C33 : (-2 : Int) < (0 : Int) := ti_nle c33
            refine sf_bnd (s_X4_refuse hF Is1 (by decide) (by decide)) (fun r34 u35 p36 => ?_)
            obtain ⟨Iu35, Fu35_, Of15_u35_, Of34_u35_, Of1_u35_, Of30_u35_, Of18_u35_, p36_1, p36_2, p36_x0⟩ := p36
            have Fu35 : ∀ k, k < 101 → u35 k = τ k := fun k hk => (Fu35_ k hk).trans (Fs1 k hk)
            have Of15_u35 : u35 101 15 = τ 101 15 := Of15_u35_.trans Of15_s1
            have Of34_u35 : u35 101 34 = τ 101 34 := Of34_u35_.trans Of34_s1
            have Of1_u35 : u35 101 1 = τ 101 1 := Of1_u35_.trans Of1_s1
            have Of30_u35 : u35 101 30 = τ 101 30 := Of30_u35_.trans Of30_s1
            have Of18_u35 : u35 101 18 = τ 101 18 := Of18_u35_.trans Of18_s1
            replace p36_x0 : r34.toInt = (-2 : Int) := p36_x0
            exact sf_ret ⟨Iu35, Fu35, Of15_u35, Of34_u35, Of1_u35, Of30_u35, Of18_u35, trivial⟩
          have C32 : ¬ (0 : Int) = (0 : Int) := ti_ne c32
          exfalso; omega
        have C31 : (lg_cmp (Int32.toInt64 x3) (Int32.toInt64 (1 : Int32))).toInt ≤ (0 : Int) := ti_nlt c31
        have L31 : x3.toInt ≤ (1 : Int) := by have q := lg_ltrn c31; (repeat (rw [Int32.toInt_toInt64] at q)); exact q
        refine sf_ret ?_
        refine sf_ite (fun c37 => ?_) (fun c37 => ?_)
        · have C37 : (1 : Int) = (0 : Int) := ti_eq c37
          exfalso; omega
        have C37 : ¬ (1 : Int) = (0 : Int) := ti_ne c37
        rw [j_X4_wrongBit_20_e]
        refine sf_ret ?_
        rw [j_X4_share_30_e]
        refine sf_ite (fun c38 => ?_) (fun c38 => ?_)
        · have C38 : (0 : Int) ≤ (0 : Int) := ti_le c38
          have l_0 : (0 : Int32).toInt = 0 := rfl
          exact sl_X4_share_55 hF (by omega) (by omega) (by omega) (by omega) (by omega) (by omega) _ _ _ _ Is1 Fs1 Of15_s1 Of34_s1 Of1_s1 Of30_s1 Of18_s1 (by omega) (by decide) (by decide)
        have C38 : (0 : Int) < (0 : Int) := ti_nle c38
        exfalso; omega
      have C18 : ¬ (0 : Int) = (0 : Int) := ti_ne c18
      exfalso; omega
    obtain ⟨rfl, q39⟩ := p14
    refine sf_ite (fun c40 => ?_) (fun c40 => ?_)
    · have C40 : (0 : Int) = (0 : Int) := ti_eq c40
      rw [j_X4_share_29_e]
      rw [j_X4_share_30_e]
      refine sf_ite (fun c41 => ?_) (fun c41 => ?_)
      · have C41 : (0 : Int) ≤ (-1 : Int) := ti_le c41
        exfalso; omega
      have C41 : (-1 : Int) < (0 : Int) := ti_nle c41
      refine sf_bnd (s_X4_refuse hF Is1 (by decide) (by decide)) (fun r42 u43 p44 => ?_)
      obtain ⟨Iu43, Fu43_, Of15_u43_, Of34_u43_, Of1_u43_, Of30_u43_, Of18_u43_, p44_1, p44_2, p44_x0⟩ := p44
      have Fu43 : ∀ k, k < 101 → u43 k = τ k := fun k hk => (Fu43_ k hk).trans (Fs1 k hk)
      have Of15_u43 : u43 101 15 = τ 101 15 := Of15_u43_.trans Of15_s1
      have Of34_u43 : u43 101 34 = τ 101 34 := Of34_u43_.trans Of34_s1
      have Of1_u43 : u43 101 1 = τ 101 1 := Of1_u43_.trans Of1_s1
      have Of30_u43 : u43 101 30 = τ 101 30 := Of30_u43_.trans Of30_s1
      have Of18_u43 : u43 101 18 = τ 101 18 := Of18_u43_.trans Of18_s1
      replace p44_x0 : r42.toInt = (-1 : Int) := p44_x0
      exact sf_ret ⟨Iu43, Fu43, Of15_u43, Of34_u43, Of1_u43, Of30_u43, Of18_u43, trivial⟩
    have C40 : ¬ (0 : Int) = (0 : Int) := ti_ne c40
    exfalso; omega
  obtain rfl := p6
  refine sf_ite (fun c45 => ?_) (fun c45 => ?_)
  · have C45 : (0 : Int) = (0 : Int) := ti_eq c45
    rw [j_X4_share_29_e]
    rw [j_X4_share_30_e]
    refine sf_ite (fun c46 => ?_) (fun c46 => ?_)
    · have C46 : (0 : Int) ≤ (-1 : Int) := ti_le c46
      exfalso; omega
    have C46 : (-1 : Int) < (0 : Int) := ti_nle c46
    refine sf_bnd (s_X4_refuse hF Is1 (by decide) (by decide)) (fun r47 u48 p49 => ?_)
    obtain ⟨Iu48, Fu48_, Of15_u48_, Of34_u48_, Of1_u48_, Of30_u48_, Of18_u48_, p49_1, p49_2, p49_x0⟩ := p49
    have Fu48 : ∀ k, k < 101 → u48 k = τ k := fun k hk => (Fu48_ k hk).trans (Fs1 k hk)
    have Of15_u48 : u48 101 15 = τ 101 15 := Of15_u48_.trans Of15_s1
    have Of34_u48 : u48 101 34 = τ 101 34 := Of34_u48_.trans Of34_s1
    have Of1_u48 : u48 101 1 = τ 101 1 := Of1_u48_.trans Of1_s1
    have Of30_u48 : u48 101 30 = τ 101 30 := Of30_u48_.trans Of30_s1
    have Of18_u48 : u48 101 18 = τ 101 18 := Of18_u48_.trans Of18_s1
    replace p49_x0 : r47.toInt = (-1 : Int) := p49_x0
    exact sf_ret ⟨Iu48, Fu48, Of15_u48, Of34_u48, Of1_u48, Of30_u48, Of18_u48, trivial⟩
  have C45 : ¬ (0 : Int) = (0 : Int) := ti_ne c45
  exfalso; omega
set_option maxHeartbeats 4000000 in
set_option maxRecDepth 100000 in
theorem sl_X4_areResting_36 {F : Nat} (hF : 73786976294838206464 ≤ F) {x1 : Int32} {x2 : Int32} {x3 : Int32} {τ : Mem} (hI : wiM τ) (x1_1 : 0 ≤ x1.toInt) (x1_2 : x1.toInt ≤ 35) (x2_1 : 0 ≤ x2.toInt) (x2_2 : x2.toInt ≤ 5) (x3_1 : 0 ≤ x3.toInt) (x3_2 : x3.toInt ≤ 5) : ∀ (N : Nat) (x4 : Int32) (x5 : Int32) , 6 < x5.toInt + N → 0 ≤ x4.toInt → x4.toInt ≤ 1 → 0 ≤ x5.toInt → x5.toInt ≤ 6 → sf (lp_X4_areResting_36 F x1 x2 x3 N x4 x5 τ) (fun r s => s = τ ∧ 0 ≤ r.toInt ∧ r.toInt ≤ 1) := by
  intro N
  induction N with
  | zero => intro x4 x5 hN x4_1 x4_2 x5_1 x5_2; exfalso; omega
  | succ N ih =>
    intro x4 x5 hN x4_1 x4_2 x5_1 x5_2
    rw [lp_X4_areResting_36_s]
    have m1 := wx_X4_1 hI
    refine sf_ite (fun c2 => ?_) (fun c2 => ?_)
    · have C2 : (τ 101 1).toInt ≤ x5.toInt := ti_le c2
      rw [j_X4_areResting_105_e]
      refine sf_bz (by first | assumption | decide | exact wi_bool (by omega) (by omega)) ?_
      exact sf_ret ⟨rfl, by omega, by omega⟩
    have C2 : x5.toInt < (τ 101 1).toInt := ti_nle c2
    refine sf_ite (fun c3 => ?_) (fun c3 => ?_)
    · have C3 : x4.toInt = (0 : Int) := ti_eq c3
      rw [j_X4_areResting_105_e]
      refine sf_bz (by first | assumption | decide | exact wi_bool (by omega) (by omega)) ?_
      exact sf_ret ⟨rfl, by omega, by omega⟩
    have C3 : ¬ x4.toInt = (0 : Int) := ti_ne c3
    have t4 : ((6 : Int32) * x5).toInt = (6 : Int) * x5.toInt := ti_mul (show -2147483648 ≤ (6 : Int) * x5.toInt by omega) (show (6 : Int) * x5.toInt ≤ 2147483647 by omega)
    have t5 : (((6 : Int32) * x5) + x3).toInt = ((6 : Int32) * x5).toInt + x3.toInt := ti_add (show -2147483648 ≤ ((6 : Int32) * x5).toInt + x3.toInt by omega) (show ((6 : Int32) * x5).toInt + x3.toInt ≤ 2147483647 by omega)
    refine sf_chk (ti_in (by omega) (by omega)) ?_
    have v6 : Int32.toNatClampNeg (((6 : Int32) * x5) + x3) = (((6 : Int32) * x5) + x3).toInt.toNat := rfl
    refine sf_chk (ti_in (by omega) (by omega)) ?_
    have v7 : Int32.toNatClampNeg x1 = x1.toInt.toNat := rfl
    have b8 := ti_lo (τ 119 (Int32.toNatClampNeg x1))
    have b9 := ti_hi (τ 119 (Int32.toNatClampNeg x1))
    have b10 := ti_lo (τ 119 (Int32.toNatClampNeg (((6 : Int32) * x5) + x3)))
    have b11 := ti_hi (τ 119 (Int32.toNatClampNeg (((6 : Int32) * x5) + x3)))
    refine sf_ite (fun c12 => ?_) (fun c12 => ?_)
    · have C12 : (τ 119 (Int32.toNatClampNeg x1)).toInt < (τ 119 (Int32.toNatClampNeg (((6 : Int32) * x5) + x3))).toInt := ti_lt c12
      rw [j_X4_areResting_96_e]
      rw [j_X4_areResting_97_e]
      have t13 : (x5 + (1 : Int32)).toInt = x5.toInt + (1 : Int) := ti_add (show -2147483648 ≤ x5.toInt + (1 : Int) by omega) (show x5.toInt + (1 : Int) ≤ 2147483647 by omega)
      exact ih _ _ (by omega) (by decide) (by decide) (by omega) (by omega)
    have C12 : (τ 119 (Int32.toNatClampNeg (((6 : Int32) * x5) + x3))).toInt ≤ (τ 119 (Int32.toNatClampNeg x1)).toInt := ti_nlt c12
    have t14 : ((6 : Int32) * x2).toInt = (6 : Int) * x2.toInt := ti_mul (show -2147483648 ≤ (6 : Int) * x2.toInt by omega) (show (6 : Int) * x2.toInt ≤ 2147483647 by omega)
    have t15 : (((6 : Int32) * x2) + x5).toInt = ((6 : Int32) * x2).toInt + x5.toInt := ti_add (show -2147483648 ≤ ((6 : Int32) * x2).toInt + x5.toInt by omega) (show ((6 : Int32) * x2).toInt + x5.toInt ≤ 2147483647 by omega)
    refine sf_chk (ti_in (by omega) (by omega)) ?_
    have v16 : Int32.toNatClampNeg (((6 : Int32) * x2) + x5) = (((6 : Int32) * x2) + x5).toInt.toNat := rfl
    have b17 := ti_lo (τ 120 (Int32.toNatClampNeg x1))
    have b18 := ti_hi (τ 120 (Int32.toNatClampNeg x1))
    have b19 := ti_lo (τ 120 (Int32.toNatClampNeg (((6 : Int32) * x2) + x5)))
    have b20 := ti_hi (τ 120 (Int32.toNatClampNeg (((6 : Int32) * x2) + x5)))
    refine sf_ite (fun c21 => ?_) (fun c21 => ?_)
    · have C21 : (τ 120 (Int32.toNatClampNeg x1)).toInt < (τ 120 (Int32.toNatClampNeg (((6 : Int32) * x2) + x5))).toInt := ti_lt c21
      rw [j_X4_areResting_96_e]
      rw [j_X4_areResting_97_e]
      have t22 : (x5 + (1 : Int32)).toInt = x5.toInt + (1 : Int) := ti_add (show -2147483648 ≤ x5.toInt + (1 : Int) by omega) (show x5.toInt + (1 : Int) ≤ 2147483647 by omega)
      exact ih _ _ (by omega) (by decide) (by decide) (by omega) (by omega)
    have C21 : (τ 120 (Int32.toNatClampNeg (((6 : Int32) * x2) + x5))).toInt ≤ (τ 120 (Int32.toNatClampNeg x1)).toInt := ti_nlt c21
    rw [j_X4_areResting_97_e]
    have t23 : (x5 + (1 : Int32)).toInt = x5.toInt + (1 : Int) := ti_add (show -2147483648 ≤ x5.toInt + (1 : Int) by omega) (show x5.toInt + (1 : Int) ≤ 2147483647 by omega)
    exact ih _ _ (by omega) (by decide) (by decide) (by omega) (by omega)
set_option maxHeartbeats 4000000 in
set_option maxRecDepth 100000 in
theorem s_X4_areResting {F : Nat} (hF : 73786976294838206464 ≤ F) {x1 : Int32} {τ : Mem} (hI : wiM τ) (x1_1 : 0 ≤ x1.toInt) (x1_2 : x1.toInt ≤ 35) : sf (f_X4_areResting F x1 τ) (fun r s => s = τ ∧ 0 ≤ r.toInt ∧ r.toInt ≤ 1) := by
  rw [f_X4_areResting_e]
  have t2 : (x1 - ((x1 / (6 : Int32)) * (6 : Int32))).toInt = x1.toInt % 6 := by rw [ti_rem, Int.tmod_eq_emod_of_nonneg (by omega)]; rfl
  refine sf_lt (fun z1 hz1 => ?_)
  have hz1_ : z1.toInt = (x1 - ((x1 / (6 : Int32)) * (6 : Int32))).toInt := (show z1.toInt = (x1 - ((x1 / (6 : Int32)) * (6 : Int32))).toInt from congrArg Int32.toInt hz1)
  have m3 := wx_X4_1 hI
  have t4 : (x1 / (6 : Int32)).toInt = x1.toInt / 6 := ti_div (by omega) (by decide)
  refine sf_ite (fun c5 => ?_) (fun c5 => ?_)
  · have C5 : (τ 101 1).toInt ≤ (x1 / (6 : Int32)).toInt := ti_le c5
    rw [j_X4_areResting_30_e]
    rw [j_X4_areResting_31_e]
    have l_0 : (0 : Int32).toInt = 0 := rfl
    exact sl_X4_areResting_36 hF hI (by omega) (by omega) (by omega) (by omega) (by omega) (by omega) _ _ _  (by omega) (by decide) (by decide) (by decide) (by decide)
  have C5 : (x1 / (6 : Int32)).toInt < (τ 101 1).toInt := ti_nle c5
  refine sf_ite (fun c6 => ?_) (fun c6 => ?_)
  · have C6 : (τ 101 1).toInt ≤ z1.toInt := ti_le c6
    rw [j_X4_areResting_30_e]
    rw [j_X4_areResting_31_e]
    have l_0 : (0 : Int32).toInt = 0 := rfl
    exact sl_X4_areResting_36 hF hI (by omega) (by omega) (by omega) (by omega) (by omega) (by omega) _ _ _  (by omega) (by decide) (by decide) (by decide) (by decide)
  have C6 : z1.toInt < (τ 101 1).toInt := ti_nle c6
  rw [j_X4_areResting_31_e]
  have l_0 : (0 : Int32).toInt = 0 := rfl
  exact sl_X4_areResting_36 hF hI (by omega) (by omega) (by omega) (by omega) (by omega) (by omega) _ _ _  (by omega) (by decide) (by decide) (by decide) (by decide)
set_option maxHeartbeats 4000000 in
set_option maxRecDepth 100000 in
theorem sl_X4_two_89 {F : Nat} (hF : 73786976294838206464 ≤ F) {x1 : Int32} {x2 : Int32} {x3 : Int32} {x4 : Int32} {x6 : Int32} {x7 : Int32} {x8 : Int32} {k77 : Int32 → Mem → Option (Int32 × Mem)} {τ : Mem} (x1_1 : 0 ≤ x1.toInt) (x1_2 : x1.toInt ≤ 4) (x2_1 : 0 ≤ x2.toInt) (x2_2 : x2.toInt ≤ 4) (x3_1 : 0 ≤ x3.toInt) (x3_2 : x3.toInt ≤ 23) (x4_1 : 0 ≤ x4.toInt) (x4_2 : x4.toInt ≤ 999) (x6_1 : -9 ≤ x6.toInt) (x6_2 : x6.toInt ≤ 5) (x7_1 : -9 ≤ x7.toInt) (x7_2 : x7.toInt ≤ 5) (x8_1 : 0 ≤ x8.toInt) (x8_2 : x8.toInt ≤ 5) {N77 : Nat} (hM77 : 6 < x8.toInt + (N77 + 1)) (hk77 : ∀ (x8 : Int32) (σ : Mem), wiM σ → (∀ k, k < 101 → σ k = τ k) → σ 101 15 = τ 101 15 → σ 101 34 = τ 101 34 → σ 101 1 = τ 101 1 → σ 101 30 = τ 101 30 → σ 101 18 = τ 101 18 → 6 < x8.toInt + N77 → 0 ≤ x8.toInt → x8.toInt ≤ 6 → sf (k77 x8 σ) (fun r s => wiM s ∧ (∀ k, k < 101 → s k = τ k) ∧ s 101 15 = τ 101 15 ∧ s 101 34 = τ 101 34 ∧ s 101 1 = τ 101 1 ∧ s 101 30 = τ 101 30 ∧ s 101 18 = τ 101 18 ∧ -2147483648 ≤ r.toInt ∧ r.toInt ≤ 2147483647)) : ∀ (N : Nat) (x9 : Int32) (σ : Mem), wiM σ → (∀ k, k < 101 → σ k = τ k) → σ 101 15 = τ 101 15 → σ 101 34 = τ 101 34 → σ 101 1 = τ 101 1 → σ 101 30 = τ 101 30 → σ 101 18 = τ 101 18 → 6 < x9.toInt + N → 0 ≤ x9.toInt → x9.toInt ≤ 6 → sf (lp_X4_two_89 F k77 x1 x2 x3 x4 x6 x7 x8 N x9 σ) (fun r s => wiM s ∧ (∀ k, k < 101 → s k = τ k) ∧ s 101 15 = τ 101 15 ∧ s 101 34 = τ 101 34 ∧ s 101 1 = τ 101 1 ∧ s 101 30 = τ 101 30 ∧ s 101 18 = τ 101 18 ∧ -2147483648 ≤ r.toInt ∧ r.toInt ≤ 2147483647) := by
  intro N
  induction N with
  | zero => intro x9 σ hI Fσ Of15_σ Of34_σ Of1_σ Of30_σ Of18_σ hN x9_1 x9_2; exfalso; omega
  | succ N ih =>
    intro x9 σ hI Fσ Of15_σ Of34_σ Of1_σ Of30_σ Of18_σ hN x9_1 x9_2
    rw [lp_X4_two_89_s]
    have m1 := wx_X4_1 hI
    have e2 : (σ 101 1).toInt = (τ 101 1).toInt := congrArg Int32.toInt Of1_σ
    refine sf_ite (fun c3 => ?_) (fun c3 => ?_)
    · have C3 : (σ 101 1).toInt ≤ x9.toInt := ti_le c3
      have t4 : (x8 + (1 : Int32)).toInt = x8.toInt + (1 : Int) := ti_add (show -2147483648 ≤ x8.toInt + (1 : Int) by omega) (show x8.toInt + (1 : Int) ≤ 2147483647 by omega)
      exact hk77 _ _ hI Fσ Of15_σ Of34_σ Of1_σ Of30_σ Of18_σ (by omega) (by omega) (by omega)
    have C3 : x9.toInt < (σ 101 1).toInt := ti_nle c3
    have t5 : ((24 : Int32) * x1).toInt = (24 : Int) * x1.toInt := ti_mul (show -2147483648 ≤ (24 : Int) * x1.toInt by omega) (show (24 : Int) * x1.toInt ≤ 2147483647 by omega)
    have t6 : (((24 : Int32) * x1) + x3).toInt = ((24 : Int32) * x1).toInt + x3.toInt := ti_add (show -2147483648 ≤ ((24 : Int32) * x1).toInt + x3.toInt by omega) (show ((24 : Int32) * x1).toInt + x3.toInt ≤ 2147483647 by omega)
    refine sf_chk (ti_in (by omega) (by omega)) ?_
    have v7 : Int32.toNatClampNeg (((24 : Int32) * x1) + x3) = (((24 : Int32) * x1) + x3).toInt.toNat := rfl
    refine sf_lt (fun s8 hs8 => ?_)
    have Is8 : wiM s8 := by rw [hs8]; exact wx_put_106 hI (by omega) (by omega)
    have Fs8 : ∀ k, k < 101 → s8 k = τ k := fun k hk => (show s8 k = σ k by rw [hs8, up2_k (by omega)]).trans (Fσ k hk)
    have Of15_s8 : s8 101 15 = τ 101 15 := (show s8 101 15 = σ 101 15 by rw [hs8, up2_k (by omega)]).trans Of15_σ
    have Of34_s8 : s8 101 34 = τ 101 34 := (show s8 101 34 = σ 101 34 by rw [hs8, up2_k (by omega)]).trans Of34_σ
    have Of1_s8 : s8 101 1 = τ 101 1 := (show s8 101 1 = σ 101 1 by rw [hs8, up2_k (by omega)]).trans Of1_σ
    have Of30_s8 : s8 101 30 = τ 101 30 := (show s8 101 30 = σ 101 30 by rw [hs8, up2_k (by omega)]).trans Of30_σ
    have Of18_s8 : s8 101 18 = τ 101 18 := (show s8 101 18 = σ 101 18 by rw [hs8, up2_k (by omega)]).trans Of18_σ
    have t9 : ((24 : Int32) * x2).toInt = (24 : Int) * x2.toInt := ti_mul (show -2147483648 ≤ (24 : Int) * x2.toInt by omega) (show (24 : Int) * x2.toInt ≤ 2147483647 by omega)
    have t10 : (((24 : Int32) * x2) + x3).toInt = ((24 : Int32) * x2).toInt + x3.toInt := ti_add (show -2147483648 ≤ ((24 : Int32) * x2).toInt + x3.toInt by omega) (show ((24 : Int32) * x2).toInt + x3.toInt ≤ 2147483647 by omega)
    refine sf_chk (ti_in (by omega) (by omega)) ?_
    have v11 : Int32.toNatClampNeg (((24 : Int32) * x2) + x3) = (((24 : Int32) * x2) + x3).toInt.toNat := rfl
    refine sf_lt (fun s12 hs12 => ?_)
    have Is12 : wiM s12 := by rw [hs12]; exact wx_put_106 Is8 (by omega) (by omega)
    have Fs12 : ∀ k, k < 101 → s12 k = τ k := fun k hk => (show s12 k = s8 k by rw [hs12, up2_k (by omega)]).trans (Fs8 k hk)
    have Of15_s12 : s12 101 15 = τ 101 15 := (show s12 101 15 = s8 101 15 by rw [hs12, up2_k (by omega)]).trans Of15_s8
    have Of34_s12 : s12 101 34 = τ 101 34 := (show s12 101 34 = s8 101 34 by rw [hs12, up2_k (by omega)]).trans Of34_s8
    have Of1_s12 : s12 101 1 = τ 101 1 := (show s12 101 1 = s8 101 1 by rw [hs12, up2_k (by omega)]).trans Of1_s8
    have Of30_s12 : s12 101 30 = τ 101 30 := (show s12 101 30 = s8 101 30 by rw [hs12, up2_k (by omega)]).trans Of30_s8
    have Of18_s12 : s12 101 18 = τ 101 18 := (show s12 101 18 = s8 101 18 by rw [hs12, up2_k (by omega)]).trans Of18_s8
    refine sf_bnd (s_X4_worthAnew hF Is12 (by omega) (by omega) (by omega) (by omega)) (fun r13 u14 p15 => ?_)
    obtain ⟨Iu14, Fu14_, Of15_u14_, Of34_u14_, Of1_u14_, Of30_u14_, Of18_u14_, p15_1, p15_2⟩ := p15
    have Fu14 : ∀ k, k < 101 → u14 k = τ k := fun k hk => (Fu14_ k hk).trans (Fs12 k hk)
    have Of15_u14 : u14 101 15 = τ 101 15 := Of15_u14_.trans Of15_s12
    have Of34_u14 : u14 101 34 = τ 101 34 := Of34_u14_.trans Of34_s12
    have Of1_u14 : u14 101 1 = τ 101 1 := Of1_u14_.trans Of1_s12
    have Of30_u14 : u14 101 30 = τ 101 30 := Of30_u14_.trans Of30_s12
    have Of18_u14 : u14 101 18 = τ 101 18 := Of18_u14_.trans Of18_s12
    have t16 : ((6 : Int32) * x8).toInt = (6 : Int) * x8.toInt := ti_mul (show -2147483648 ≤ (6 : Int) * x8.toInt by omega) (show (6 : Int) * x8.toInt ≤ 2147483647 by omega)
    have t17 : (((6 : Int32) * x8) + x9).toInt = ((6 : Int32) * x8).toInt + x9.toInt := ti_add (show -2147483648 ≤ ((6 : Int32) * x8).toInt + x9.toInt by omega) (show ((6 : Int32) * x8).toInt + x9.toInt ≤ 2147483647 by omega)
    refine sf_chk (ti_in (by omega) (by omega)) ?_
    have v18 : Int32.toNatClampNeg (((6 : Int32) * x8) + x9) = (((6 : Int32) * x8) + x9).toInt.toNat := rfl
    refine sf_lt (fun s19 hs19 => ?_)
    have Is19 : wiM s19 := by rw [hs19]; exact wm_oth Iu14 (by decide) (by decide) (by decide) (by decide)
    have Fs19 : ∀ k, k < 101 → s19 k = τ k := fun k hk => (show s19 k = u14 k by rw [hs19, up2_k (by omega)]).trans (Fu14 k hk)
    have Of15_s19 : s19 101 15 = τ 101 15 := (show s19 101 15 = u14 101 15 by rw [hs19, up2_k (by omega)]).trans Of15_u14
    have Of34_s19 : s19 101 34 = τ 101 34 := (show s19 101 34 = u14 101 34 by rw [hs19, up2_k (by omega)]).trans Of34_u14
    have Of1_s19 : s19 101 1 = τ 101 1 := (show s19 101 1 = u14 101 1 by rw [hs19, up2_k (by omega)]).trans Of1_u14
    have Of30_s19 : s19 101 30 = τ 101 30 := (show s19 101 30 = u14 101 30 by rw [hs19, up2_k (by omega)]).trans Of30_u14
    have Of18_s19 : s19 101 18 = τ 101 18 := (show s19 101 18 = u14 101 18 by rw [hs19, up2_k (by omega)]).trans Of18_u14
    refine sf_bnd (s_X4_worthIn hF Is19 (by omega) (by omega) (by omega) (by omega)) (fun r20 u21 p22 => ?_)
    obtain ⟨Iu21, Fu21_, Of15_u21_, Of34_u21_, Of1_u21_, Of30_u21_, Of18_u21_, p22_1, p22_2⟩ := p22
    have Fu21 : ∀ k, k < 101 → u21 k = τ k := fun k hk => (Fu21_ k hk).trans (Fs19 k hk)
    have Of15_u21 : u21 101 15 = τ 101 15 := Of15_u21_.trans Of15_s19
    have Of34_u21 : u21 101 34 = τ 101 34 := Of34_u21_.trans Of34_s19
    have Of1_u21 : u21 101 1 = τ 101 1 := Of1_u21_.trans Of1_s19
    have Of30_u21 : u21 101 30 = τ 101 30 := Of30_u21_.trans Of30_s19
    have Of18_u21 : u21 101 18 = τ 101 18 := Of18_u21_.trans Of18_s19
    refine sf_lt (fun s23 hs23 => ?_)
    have Is23 : wiM s23 := by rw [hs23]; exact wm_oth Iu21 (by decide) (by decide) (by decide) (by decide)
    have Fs23 : ∀ k, k < 101 → s23 k = τ k := fun k hk => (show s23 k = u21 k by rw [hs23, up2_k (by omega)]).trans (Fu21 k hk)
    have Of15_s23 : s23 101 15 = τ 101 15 := (show s23 101 15 = u21 101 15 by rw [hs23, up2_k (by omega)]).trans Of15_u21
    have Of34_s23 : s23 101 34 = τ 101 34 := (show s23 101 34 = u21 101 34 by rw [hs23, up2_k (by omega)]).trans Of34_u21
    have Of1_s23 : s23 101 1 = τ 101 1 := (show s23 101 1 = u21 101 1 by rw [hs23, up2_k (by omega)]).trans Of1_u21
    have Of30_s23 : s23 101 30 = τ 101 30 := (show s23 101 30 = u21 101 30 by rw [hs23, up2_k (by omega)]).trans Of30_u21
    have Of18_s23 : s23 101 18 = τ 101 18 := (show s23 101 18 = u21 101 18 by rw [hs23, up2_k (by omega)]).trans Of18_u21
    have t24 : (x9 + (1 : Int32)).toInt = x9.toInt + (1 : Int) := ti_add (show -2147483648 ≤ x9.toInt + (1 : Int) by omega) (show x9.toInt + (1 : Int) ≤ 2147483647 by omega)
    exact ih _ _ Is23 Fs23 Of15_s23 Of34_s23 Of1_s23 Of30_s23 Of18_s23 (by omega) (by omega) (by omega)
set_option maxHeartbeats 4000000 in
set_option maxRecDepth 100000 in
theorem sl_X4_two_205 {F : Nat} (hF : 73786976294838206464 ≤ F) {τ : Mem} : ∀ (N : Nat) (x8 : Int32) (σ : Mem), wiM σ → (∀ k, k < 101 → σ k = τ k) → σ 101 15 = τ 101 15 → σ 101 34 = τ 101 34 → σ 101 1 = τ 101 1 → σ 101 30 = τ 101 30 → σ 101 18 = τ 101 18 → 36 < x8.toInt + N → 0 ≤ x8.toInt → x8.toInt ≤ 36 → sf (lp_X4_two_205 F N x8 σ) (fun r s => wiM s ∧ (∀ k, k < 101 → s k = τ k) ∧ s 101 15 = τ 101 15 ∧ s 101 34 = τ 101 34 ∧ s 101 1 = τ 101 1 ∧ s 101 30 = τ 101 30 ∧ s 101 18 = τ 101 18 ∧ -2147483648 ≤ r.toInt ∧ r.toInt ≤ 2147483647) := by
  intro N
  induction N with
  | zero => intro x8 σ hI Fσ Of15_σ Of34_σ Of1_σ Of30_σ Of18_σ hN x8_1 x8_2; exfalso; omega
  | succ N ih =>
    intro x8 σ hI Fσ Of15_σ Of34_σ Of1_σ Of30_σ Of18_σ hN x8_1 x8_2
    rw [lp_X4_two_205_s]
    refine sf_ite (fun c1 => ?_) (fun c1 => ?_)
    · have C1 : (36 : Int) ≤ x8.toInt := ti_le c1
      exact sf_ret ⟨hI, Fσ, Of15_σ, Of34_σ, Of1_σ, Of30_σ, Of18_σ, ti_lo _, ti_hi _⟩
    have C1 : x8.toInt < (36 : Int) := ti_nle c1
    refine sf_bnd (s_X4_areResting hF hI (by omega) (by omega)) (fun r2 u3 p4 => ?_)
    obtain ⟨e9, p4_1, p4_2⟩ := p4
    have e9 := e9.symm
    subst e9
    have hb_r2 : r2 = 0 ∨ r2 = 1 := wi_bool p4_1 p4_2
    refine sf_ite (fun c5 => ?_) (fun c5 => ?_)
    · have C5 : r2.toInt = (0 : Int) := ti_eq c5
      have t6 : (x8 + (1 : Int32)).toInt = x8.toInt + (1 : Int) := ti_add (show -2147483648 ≤ x8.toInt + (1 : Int) by omega) (show x8.toInt + (1 : Int) ≤ 2147483647 by omega)
      exact ih _ _ hI Fσ Of15_σ Of34_σ Of1_σ Of30_σ Of18_σ (by omega) (by omega) (by omega)
    have C5 : ¬ r2.toInt = (0 : Int) := ti_ne c5
    have t7 : (x8 / (6 : Int32)).toInt = x8.toInt / 6 := ti_div (by omega) (by decide)
    have t8 : ((10 : Int32) * (x8 / (6 : Int32))).toInt = (10 : Int) * (x8 / (6 : Int32)).toInt := ti_mul (show -2147483648 ≤ (10 : Int) * (x8 / (6 : Int32)).toInt by omega) (show (10 : Int) * (x8 / (6 : Int32)).toInt ≤ 2147483647 by omega)
    have t9 : (x8 - ((x8 / (6 : Int32)) * (6 : Int32))).toInt = x8.toInt % 6 := by rw [ti_rem, Int.tmod_eq_emod_of_nonneg (by omega)]; rfl
    have t10 : (((10 : Int32) * (x8 / (6 : Int32))) + (x8 - ((x8 / (6 : Int32)) * (6 : Int32)))).toInt = ((10 : Int32) * (x8 / (6 : Int32))).toInt + (x8 - ((x8 / (6 : Int32)) * (6 : Int32))).toInt := ti_add (show -2147483648 ≤ ((10 : Int32) * (x8 / (6 : Int32))).toInt + (x8 - ((x8 / (6 : Int32)) * (6 : Int32))).toInt by omega) (show ((10 : Int32) * (x8 / (6 : Int32))).toInt + (x8 - ((x8 / (6 : Int32)) * (6 : Int32))).toInt ≤ 2147483647 by omega)
    exact sf_ret ⟨hI, Fσ, Of15_σ, Of34_σ, Of1_σ, Of30_σ, Of18_σ, ti_lo _, ti_hi _⟩
set_option maxHeartbeats 4000000 in
set_option maxRecDepth 100000 in
theorem sl_X4_two_77 {F : Nat} (hF : 73786976294838206464 ≤ F) {x1 : Int32} {x2 : Int32} {x3 : Int32} {x4 : Int32} {x6 : Int32} {x7 : Int32} {τ : Mem} (x1_1 : 0 ≤ x1.toInt) (x1_2 : x1.toInt ≤ 4) (x2_1 : 0 ≤ x2.toInt) (x2_2 : x2.toInt ≤ 4) (x3_1 : 0 ≤ x3.toInt) (x3_2 : x3.toInt ≤ 23) (x4_1 : 0 ≤ x4.toInt) (x4_2 : x4.toInt ≤ 999) (x6_1 : -9 ≤ x6.toInt) (x6_2 : x6.toInt ≤ 5) (x7_1 : -9 ≤ x7.toInt) (x7_2 : x7.toInt ≤ 5) : ∀ (N : Nat) (x8 : Int32) (σ : Mem), wiM σ → (∀ k, k < 101 → σ k = τ k) → σ 101 15 = τ 101 15 → σ 101 34 = τ 101 34 → σ 101 1 = τ 101 1 → σ 101 30 = τ 101 30 → σ 101 18 = τ 101 18 → 6 < x8.toInt + N → 0 ≤ x8.toInt → x8.toInt ≤ 6 → sf (lp_X4_two_77 F x1 x2 x3 x4 x6 x7 N x8 σ) (fun r s => wiM s ∧ (∀ k, k < 101 → s k = τ k) ∧ s 101 15 = τ 101 15 ∧ s 101 34 = τ 101 34 ∧ s 101 1 = τ 101 1 ∧ s 101 30 = τ 101 30 ∧ s 101 18 = τ 101 18 ∧ -2147483648 ≤ r.toInt ∧ r.toInt ≤ 2147483647) := by
  intro N
  induction N with
  | zero => intro x8 σ hI Fσ Of15_σ Of34_σ Of1_σ Of30_σ Of18_σ hN x8_1 x8_2; exfalso; omega
  | succ N ih =>
    intro x8 σ hI Fσ Of15_σ Of34_σ Of1_σ Of30_σ Of18_σ hN x8_1 x8_2
    rw [lp_X4_two_77_s]
    have m1 := wx_X4_1 hI
    have e2 : (σ 101 1).toInt = (τ 101 1).toInt := congrArg Int32.toInt Of1_σ
    refine sf_ite (fun c3 => ?_) (fun c3 => ?_)
    · have C3 : (σ 101 1).toInt ≤ x8.toInt := ti_le c3
      have t4 : ((24 : Int32) * x1).toInt = (24 : Int) * x1.toInt := ti_mul (show -2147483648 ≤ (24 : Int) * x1.toInt by omega) (show (24 : Int) * x1.toInt ≤ 2147483647 by omega)
      have t5 : (((24 : Int32) * x1) + x3).toInt = ((24 : Int32) * x1).toInt + x3.toInt := ti_add (show -2147483648 ≤ ((24 : Int32) * x1).toInt + x3.toInt by omega) (show ((24 : Int32) * x1).toInt + x3.toInt ≤ 2147483647 by omega)
      refine sf_chk (ti_in (by omega) (by omega)) ?_
      have v6 : Int32.toNatClampNeg (((24 : Int32) * x1) + x3) = (((24 : Int32) * x1) + x3).toInt.toNat := rfl
      refine sf_lt (fun s7 hs7 => ?_)
      have Is7 : wiM s7 := by rw [hs7]; exact wx_put_106 hI (by omega) (by omega)
      have Fs7 : ∀ k, k < 101 → s7 k = τ k := fun k hk => (show s7 k = σ k by rw [hs7, up2_k (by omega)]).trans (Fσ k hk)
      have Of15_s7 : s7 101 15 = τ 101 15 := (show s7 101 15 = σ 101 15 by rw [hs7, up2_k (by omega)]).trans Of15_σ
      have Of34_s7 : s7 101 34 = τ 101 34 := (show s7 101 34 = σ 101 34 by rw [hs7, up2_k (by omega)]).trans Of34_σ
      have Of1_s7 : s7 101 1 = τ 101 1 := (show s7 101 1 = σ 101 1 by rw [hs7, up2_k (by omega)]).trans Of1_σ
      have Of30_s7 : s7 101 30 = τ 101 30 := (show s7 101 30 = σ 101 30 by rw [hs7, up2_k (by omega)]).trans Of30_σ
      have Of18_s7 : s7 101 18 = τ 101 18 := (show s7 101 18 = σ 101 18 by rw [hs7, up2_k (by omega)]).trans Of18_σ
      have t8 : ((24 : Int32) * x2).toInt = (24 : Int) * x2.toInt := ti_mul (show -2147483648 ≤ (24 : Int) * x2.toInt by omega) (show (24 : Int) * x2.toInt ≤ 2147483647 by omega)
      have t9 : (((24 : Int32) * x2) + x3).toInt = ((24 : Int32) * x2).toInt + x3.toInt := ti_add (show -2147483648 ≤ ((24 : Int32) * x2).toInt + x3.toInt by omega) (show ((24 : Int32) * x2).toInt + x3.toInt ≤ 2147483647 by omega)
      refine sf_chk (ti_in (by omega) (by omega)) ?_
      have v10 : Int32.toNatClampNeg (((24 : Int32) * x2) + x3) = (((24 : Int32) * x2) + x3).toInt.toNat := rfl
      refine sf_lt (fun s11 hs11 => ?_)
      have Is11 : wiM s11 := by rw [hs11]; exact wx_put_106 Is7 (by omega) (by omega)
      have Fs11 : ∀ k, k < 101 → s11 k = τ k := fun k hk => (show s11 k = s7 k by rw [hs11, up2_k (by omega)]).trans (Fs7 k hk)
      have Of15_s11 : s11 101 15 = τ 101 15 := (show s11 101 15 = s7 101 15 by rw [hs11, up2_k (by omega)]).trans Of15_s7
      have Of34_s11 : s11 101 34 = τ 101 34 := (show s11 101 34 = s7 101 34 by rw [hs11, up2_k (by omega)]).trans Of34_s7
      have Of1_s11 : s11 101 1 = τ 101 1 := (show s11 101 1 = s7 101 1 by rw [hs11, up2_k (by omega)]).trans Of1_s7
      have Of30_s11 : s11 101 30 = τ 101 30 := (show s11 101 30 = s7 101 30 by rw [hs11, up2_k (by omega)]).trans Of30_s7
      have Of18_s11 : s11 101 18 = τ 101 18 := (show s11 101 18 = s7 101 18 by rw [hs11, up2_k (by omega)]).trans Of18_s7
      have l_0 : (0 : Int32).toInt = 0 := rfl
      exact sl_X4_two_205 hF _ _ _ Is11 Fs11 Of15_s11 Of34_s11 Of1_s11 Of30_s11 Of18_s11 (by omega) (by decide) (by decide)
    have C3 : x8.toInt < (σ 101 1).toInt := ti_nle c3
    have l_0 : (0 : Int32).toInt = 0 := rfl
    exact sl_X4_two_89 hF (by omega) (by omega) (by omega) (by omega) (by omega) (by omega) (by omega) (by omega) (by omega) (by omega) (by omega) (by omega) (by omega) (by omega) (by omega) ih _ _ _ hI Fσ Of15_σ Of34_σ Of1_σ Of30_σ Of18_σ (by omega) (by decide) (by decide)
set_option maxHeartbeats 4000000 in
set_option maxRecDepth 100000 in
theorem s_X4_two {F : Nat} (hF : 73786976294838206464 ≤ F) {x1 : Int32} {x2 : Int32} {x3 : Int32} {x4 : Int32} {τ : Mem} (hI : wiM τ) : sf (f_X4_two F x1 x2 x3 x4 τ) (fun r s => wiM s ∧ (∀ k, k < 101 → s k = τ k) ∧ s 101 15 = τ 101 15 ∧ s 101 34 = τ 101 34 ∧ s 101 1 = τ 101 1 ∧ s 101 30 = τ 101 30 ∧ s 101 18 = τ 101 18 ∧ -2147483648 ≤ r.toInt ∧ r.toInt ≤ 2147483647) := by
  have Fτ : ∀ k, k < 101 → τ k = τ k := fun _ _ => rfl
  have Of15_τ : τ 101 15 = τ 101 15 := rfl
  have Of34_τ : τ 101 34 = τ 101 34 := rfl
  have Of1_τ : τ 101 1 = τ 101 1 := rfl
  have Of30_τ : τ 101 30 = τ 101 30 := rfl
  have Of18_τ : τ 101 18 = τ 101 18 := rfl
  rw [f_X4_two_e]
  refine sf_lt (fun s1 hs1 => ?_)
  have Is1 : wiM s1 := by rw [hs1]; exact wm_fld hI (by decide) (by decide) (by decide) (by decide) (by decide) (by decide) (by decide)
  have Fs1 : ∀ k, k < 101 → s1 k = τ k := fun k hk => (show s1 k = τ k by rw [hs1, up2_k (by omega)]).trans (Fτ k hk)
  have Of15_s1 : s1 101 15 = τ 101 15 := (show s1 101 15 = τ 101 15 by rw [hs1, up2_i (by decide)]).trans Of15_τ
  have Of34_s1 : s1 101 34 = τ 101 34 := (show s1 101 34 = τ 101 34 by rw [hs1, up2_i (by decide)]).trans Of34_τ
  have Of1_s1 : s1 101 1 = τ 101 1 := (show s1 101 1 = τ 101 1 by rw [hs1, up2_i (by decide)]).trans Of1_τ
  have Of30_s1 : s1 101 30 = τ 101 30 := (show s1 101 30 = τ 101 30 by rw [hs1, up2_i (by decide)]).trans Of30_τ
  have Of18_s1 : s1 101 18 = τ 101 18 := (show s1 101 18 = τ 101 18 by rw [hs1, up2_i (by decide)]).trans Of18_τ
  have b2 := ti_lo x1
  have b3 := ti_hi x1
  have b4 := ti_lo x2
  have b5 := ti_hi x2
  refine sf_bnd (s_X4_areTwo hF Is1) (fun r6 u7 p8 => ?_)
  obtain ⟨e9, p8⟩ := p8
  have e9 := e9.symm
  subst e9
  rcases p8 with ⟨rfl, q9, q10, q11, q12⟩ | p8
  · refine sf_ite (fun c13 => ?_) (fun c13 => ?_)
    · have C13 : (1 : Int) = (0 : Int) := ti_eq c13
      exfalso; omega
    have C13 : ¬ (1 : Int) = (0 : Int) := ti_ne c13
    have b14 := ti_lo x3
    have b15 := ti_hi x3
    refine sf_bnd (s_X4_isHour hF Is1) (fun r16 u17 p18 => ?_)
    obtain ⟨e9, p18⟩ := p18
    have e9 := e9.symm
    subst e9
    rcases p18 with ⟨rfl, q19, q20⟩ | p18
    · refine sf_ite (fun c21 => ?_) (fun c21 => ?_)
      · have C21 : (1 : Int) = (0 : Int) := ti_eq c21
        exfalso; omega
      have C21 : ¬ (1 : Int) = (0 : Int) := ti_ne c21
      refine sf_in ?_
      rw [f_X4_wrongNumber_e]
      have b22 := ti_lo x4
      have b23 := ti_hi x4
      refine sf_ite (fun c24 => ?_) (fun c24 => ?_)
      · have C24 : (0 : Int) ≤ x4.toInt := ti_le c24
        refine sf_ite (fun c25 => ?_) (fun c25 => ?_)
        · have C25 : x4.toInt ≤ (999 : Int) := ti_le c25
          refine sf_ret ?_
          rw [j_X4_two_34_e]
          refine sf_ite (fun c26 => ?_) (fun c26 => ?_)
          · have C26 : (0 : Int) ≤ (0 : Int) := ti_le c26
            have t27 : ((24 : Int32) * x1).toInt = (24 : Int) * x1.toInt := ti_mul (show -2147483648 ≤ (24 : Int) * x1.toInt by omega) (show (24 : Int) * x1.toInt ≤ 2147483647 by omega)
            have t28 : (((24 : Int32) * x1) + x3).toInt = ((24 : Int32) * x1).toInt + x3.toInt := ti_add (show -2147483648 ≤ ((24 : Int32) * x1).toInt + x3.toInt by omega) (show ((24 : Int32) * x1).toInt + x3.toInt ≤ 2147483647 by omega)
            refine sf_chk (ti_in (by omega) (by omega)) ?_
            have v29 : Int32.toNatClampNeg (((24 : Int32) * x1) + x3) = (((24 : Int32) * x1) + x3).toInt.toNat := rfl
            have m31 := wx_106 Is1 (Int32.toNatClampNeg (((24 : Int32) * x1) + x3))
            refine sf_lt (fun z30 hz30 => ?_)
            have hz30_ : z30.toInt = (s1 106 (Int32.toNatClampNeg (((24 : Int32) * x1) + x3))).toInt := (show z30.toInt = (s1 106 (Int32.toNatClampNeg (((24 : Int32) * x1) + x3))).toInt from congrArg Int32.toInt hz30)
            have t32 : ((24 : Int32) * x2).toInt = (24 : Int) * x2.toInt := ti_mul (show -2147483648 ≤ (24 : Int) * x2.toInt by omega) (show (24 : Int) * x2.toInt ≤ 2147483647 by omega)
            have t33 : (((24 : Int32) * x2) + x3).toInt = ((24 : Int32) * x2).toInt + x3.toInt := ti_add (show -2147483648 ≤ ((24 : Int32) * x2).toInt + x3.toInt by omega) (show ((24 : Int32) * x2).toInt + x3.toInt ≤ 2147483647 by omega)
            refine sf_chk (ti_in (by omega) (by omega)) ?_
            have v34 : Int32.toNatClampNeg (((24 : Int32) * x2) + x3) = (((24 : Int32) * x2) + x3).toInt.toNat := rfl
            have m36 := wx_106 Is1 (Int32.toNatClampNeg (((24 : Int32) * x2) + x3))
            refine sf_lt (fun z35 hz35 => ?_)
            have hz35_ : z35.toInt = (s1 106 (Int32.toNatClampNeg (((24 : Int32) * x2) + x3))).toInt := (show z35.toInt = (s1 106 (Int32.toNatClampNeg (((24 : Int32) * x2) + x3))).toInt from congrArg Int32.toInt hz35)
            have l_0 : (0 : Int32).toInt = 0 := rfl
            exact sl_X4_two_77 hF (by omega) (by omega) (by omega) (by omega) (by omega) (by omega) (by omega) (by omega) (by omega) (by omega) (by omega) (by omega) _ _ _ Is1 Fs1 Of15_s1 Of34_s1 Of1_s1 Of30_s1 Of18_s1 (by omega) (by decide) (by decide)
          have C26 : (0 : Int) < (0 : Int) := ti_nle c26
          exfalso; omega
        have C25 : (999 : Int) < x4.toInt := ti_nle c25
        refine sf_ret ?_
        rw [j_X4_two_34_e]
        refine sf_ite (fun c37 => ?_) (fun c37 => ?_)
        · have C37 : (0 : Int) ≤ (-6 : Int) := ti_le c37
          exfalso; omega
        have C37 : (-6 : Int) < (0 : Int) := ti_nle c37
        refine sf_bnd (s_X4_refuse hF Is1 (by decide) (by decide)) (fun r38 u39 p40 => ?_)
        obtain ⟨Iu39, Fu39_, Of15_u39_, Of34_u39_, Of1_u39_, Of30_u39_, Of18_u39_, p40_1, p40_2, p40_x0⟩ := p40
        have Fu39 : ∀ k, k < 101 → u39 k = τ k := fun k hk => (Fu39_ k hk).trans (Fs1 k hk)
        have Of15_u39 : u39 101 15 = τ 101 15 := Of15_u39_.trans Of15_s1
        have Of34_u39 : u39 101 34 = τ 101 34 := Of34_u39_.trans Of34_s1
        have Of1_u39 : u39 101 1 = τ 101 1 := Of1_u39_.trans Of1_s1
        have Of30_u39 : u39 101 30 = τ 101 30 := Of30_u39_.trans Of30_s1
        have Of18_u39 : u39 101 18 = τ 101 18 := Of18_u39_.trans Of18_s1
        replace p40_x0 : r38.toInt = (-6 : Int) := p40_x0
        exact sf_ret ⟨Iu39, Fu39, Of15_u39, Of34_u39, Of1_u39, Of30_u39, Of18_u39, ti_lo _, ti_hi _⟩
      have C24 : x4.toInt < (0 : Int) := ti_nle c24
      refine sf_ret ?_
      rw [j_X4_two_34_e]
      refine sf_ite (fun c41 => ?_) (fun c41 => ?_)
      · have C41 : (0 : Int) ≤ (-4 : Int) := ti_le c41
        exfalso; omega
      have C41 : (-4 : Int) < (0 : Int) := ti_nle c41
      refine sf_bnd (s_X4_refuse hF Is1 (by decide) (by decide)) (fun r42 u43 p44 => ?_)
      obtain ⟨Iu43, Fu43_, Of15_u43_, Of34_u43_, Of1_u43_, Of30_u43_, Of18_u43_, p44_1, p44_2, p44_x0⟩ := p44
      have Fu43 : ∀ k, k < 101 → u43 k = τ k := fun k hk => (Fu43_ k hk).trans (Fs1 k hk)
      have Of15_u43 : u43 101 15 = τ 101 15 := Of15_u43_.trans Of15_s1
      have Of34_u43 : u43 101 34 = τ 101 34 := Of34_u43_.trans Of34_s1
      have Of1_u43 : u43 101 1 = τ 101 1 := Of1_u43_.trans Of1_s1
      have Of30_u43 : u43 101 30 = τ 101 30 := Of30_u43_.trans Of30_s1
      have Of18_u43 : u43 101 18 = τ 101 18 := Of18_u43_.trans Of18_s1
      replace p44_x0 : r42.toInt = (-4 : Int) := p44_x0
      exact sf_ret ⟨Iu43, Fu43, Of15_u43, Of34_u43, Of1_u43, Of30_u43, Of18_u43, ti_lo _, ti_hi _⟩
    obtain ⟨rfl, q45⟩ := p18
    refine sf_ite (fun c46 => ?_) (fun c46 => ?_)
    · have C46 : (0 : Int) = (0 : Int) := ti_eq c46
      rw [j_X4_two_33_e]
      rw [j_X4_two_34_e]
      refine sf_ite (fun c47 => ?_) (fun c47 => ?_)
      · have C47 : (0 : Int) ≤ (-1 : Int) := ti_le c47
        exfalso; omega
      have C47 : (-1 : Int) < (0 : Int) := ti_nle c47
      refine sf_bnd (s_X4_refuse hF Is1 (by decide) (by decide)) (fun r48 u49 p50 => ?_)
      obtain ⟨Iu49, Fu49_, Of15_u49_, Of34_u49_, Of1_u49_, Of30_u49_, Of18_u49_, p50_1, p50_2, p50_x0⟩ := p50
      have Fu49 : ∀ k, k < 101 → u49 k = τ k := fun k hk => (Fu49_ k hk).trans (Fs1 k hk)
      have Of15_u49 : u49 101 15 = τ 101 15 := Of15_u49_.trans Of15_s1
      have Of34_u49 : u49 101 34 = τ 101 34 := Of34_u49_.trans Of34_s1
      have Of1_u49 : u49 101 1 = τ 101 1 := Of1_u49_.trans Of1_s1
      have Of30_u49 : u49 101 30 = τ 101 30 := Of30_u49_.trans Of30_s1
      have Of18_u49 : u49 101 18 = τ 101 18 := Of18_u49_.trans Of18_s1
      replace p50_x0 : r48.toInt = (-1 : Int) := p50_x0
      exact sf_ret ⟨Iu49, Fu49, Of15_u49, Of34_u49, Of1_u49, Of30_u49, Of18_u49, ti_lo _, ti_hi _⟩
    have C46 : ¬ (0 : Int) = (0 : Int) := ti_ne c46
    exfalso; omega
  obtain rfl := p8
  refine sf_ite (fun c51 => ?_) (fun c51 => ?_)
  · have C51 : (0 : Int) = (0 : Int) := ti_eq c51
    rw [j_X4_two_33_e]
    rw [j_X4_two_34_e]
    refine sf_ite (fun c52 => ?_) (fun c52 => ?_)
    · have C52 : (0 : Int) ≤ (-1 : Int) := ti_le c52
      exfalso; omega
    have C52 : (-1 : Int) < (0 : Int) := ti_nle c52
    refine sf_bnd (s_X4_refuse hF Is1 (by decide) (by decide)) (fun r53 u54 p55 => ?_)
    obtain ⟨Iu54, Fu54_, Of15_u54_, Of34_u54_, Of1_u54_, Of30_u54_, Of18_u54_, p55_1, p55_2, p55_x0⟩ := p55
    have Fu54 : ∀ k, k < 101 → u54 k = τ k := fun k hk => (Fu54_ k hk).trans (Fs1 k hk)
    have Of15_u54 : u54 101 15 = τ 101 15 := Of15_u54_.trans Of15_s1
    have Of34_u54 : u54 101 34 = τ 101 34 := Of34_u54_.trans Of34_s1
    have Of1_u54 : u54 101 1 = τ 101 1 := Of1_u54_.trans Of1_s1
    have Of30_u54 : u54 101 30 = τ 101 30 := Of30_u54_.trans Of30_s1
    have Of18_u54 : u54 101 18 = τ 101 18 := Of18_u54_.trans Of18_s1
    replace p55_x0 : r53.toInt = (-1 : Int) := p55_x0
    exact sf_ret ⟨Iu54, Fu54, Of15_u54, Of34_u54, Of1_u54, Of30_u54, Of18_u54, ti_lo _, ti_hi _⟩
  have C51 : ¬ (0 : Int) = (0 : Int) := ti_ne c51
  exfalso; omega
set_option maxHeartbeats 4000000 in
set_option maxRecDepth 100000 in
theorem sl_X4_isRow_8 {F : Nat} (hF : 73786976294838206464 ≤ F) {x1 : Int32} {τ : Mem} (x1_1 : 0 ≤ x1.toInt) (x1_2 : x1.toInt ≤ 999) : ∀ (N : Nat) (x2 : Int32) (x3 : Int32) (σ : Mem), wiM σ → (∀ k, k < 101 → σ k = τ k) → σ 101 15 = τ 101 15 → σ 101 34 = τ 101 34 → σ 101 1 = τ 101 1 → σ 101 30 = τ 101 30 → σ 101 18 = τ 101 18 → 8 < x3.toInt + N → 0 ≤ x2.toInt → x2.toInt ≤ 1 → 0 ≤ x3.toInt → x3.toInt ≤ 8 → 0 ≤ (σ 101 34).toInt → (σ 101 34).toInt ≤ 8 → sf (lp_X4_isRow_8 F x1 N x2 x3 σ) (fun r s => wiM s ∧ (∀ k, k < 101 → s k = τ k) ∧ s 101 15 = τ 101 15 ∧ s 101 34 = τ 101 34 ∧ s 101 1 = τ 101 1 ∧ s 101 30 = τ 101 30 ∧ s 101 18 = τ 101 18 ∧ 0 ≤ r.toInt ∧ r.toInt ≤ 1) := by
  intro N
  induction N with
  | zero => intro x2 x3 σ hI Fσ Of15_σ Of34_σ Of1_σ Of30_σ Of18_σ hN x2_1 x2_2 x3_1 x3_2 mf0_1 mf0_2; exfalso; omega
  | succ N ih =>
    intro x2 x3 σ hI Fσ Of15_σ Of34_σ Of1_σ Of30_σ Of18_σ hN x2_1 x2_2 x3_1 x3_2 mf0_1 mf0_2
    rw [lp_X4_isRow_8_s]
    have m1 := wx_X4_34 hI
    have e2 : (σ 101 34).toInt = (τ 101 34).toInt := congrArg Int32.toInt Of34_σ
    refine sf_ite (fun c3 => ?_) (fun c3 => ?_)
    · have C3 : (σ 101 34).toInt ≤ x3.toInt := ti_le c3
      refine sf_bz (by first | assumption | decide | exact wi_bool (by omega) (by omega)) ?_
      exact sf_ret ⟨hI, Fσ, Of15_σ, Of34_σ, Of1_σ, Of30_σ, Of18_σ, by omega, by omega⟩
    have C3 : x3.toInt < (σ 101 34).toInt := ti_nle c3
    refine sf_bnd (s_X4_ownerIn hF hI (by omega) (by omega) (by omega) (by omega)) (fun r4 u5 p6 => ?_)
    obtain ⟨Iu5, Fu5_, Of15_u5_, Of34_u5_, Of1_u5_, Of30_u5_, Of18_u5_, p6_1, p6_2⟩ := p6
    have Fu5 : ∀ k, k < 101 → u5 k = τ k := fun k hk => (Fu5_ k hk).trans (Fσ k hk)
    have Of15_u5 : u5 101 15 = τ 101 15 := Of15_u5_.trans Of15_σ
    have Of34_u5 : u5 101 34 = τ 101 34 := Of34_u5_.trans Of34_σ
    have Of1_u5 : u5 101 1 = τ 101 1 := Of1_u5_.trans Of1_σ
    have Of30_u5 : u5 101 30 = τ 101 30 := Of30_u5_.trans Of30_σ
    have Of18_u5 : u5 101 18 = τ 101 18 := Of18_u5_.trans Of18_σ
    refine sf_ite (fun c7 => ?_) (fun c7 => ?_)
    · have C7 : x2.toInt = (0 : Int) := ti_eq c7
      rw [j_X4_isRow_53_e]
      rw [j_X4_isRow_54_e]
      have t8 : (x3 + (1 : Int32)).toInt = x3.toInt + (1 : Int) := ti_add (show -2147483648 ≤ x3.toInt + (1 : Int) by omega) (show x3.toInt + (1 : Int) ≤ 2147483647 by omega)
      have m9 := wx_X4_34 Iu5
      have e10 : (u5 101 34).toInt = (σ 101 34).toInt := congrArg Int32.toInt Of34_u5_
      exact ih _ _ _ Iu5 Fu5 Of15_u5 Of34_u5 Of1_u5 Of30_u5 Of18_u5 (by omega) (by decide) (by decide) (by omega) (by omega) (by omega) (by omega)
    have C7 : ¬ x2.toInt = (0 : Int) := ti_ne c7
    refine sf_chk (ti_in (by omega) (by omega)) ?_
    have v11 : Int32.toNatClampNeg x3 = x3.toInt.toNat := rfl
    refine sf_ite (fun c12 => ?_) (fun c12 => ?_)
    · have C12 : (0 : Int) ≤ r4.toInt := ti_le c12
      rw [j_X4_isRow_46_e]
      have b13 := ti_lo (u5 121 (Int32.toNatClampNeg x3))
      have b14 := ti_hi (u5 121 (Int32.toNatClampNeg x3))
      refine sf_ite (fun c15 => ?_) (fun c15 => ?_)
      · have C15 : (u5 121 (Int32.toNatClampNeg x3)).toInt = r4.toInt := ti_eq c15
        rw [j_X4_isRow_54_e]
        have t16 : (x3 + (1 : Int32)).toInt = x3.toInt + (1 : Int) := ti_add (show -2147483648 ≤ x3.toInt + (1 : Int) by omega) (show x3.toInt + (1 : Int) ≤ 2147483647 by omega)
        have m17 := wx_X4_34 Iu5
        have e18 : (u5 101 34).toInt = (σ 101 34).toInt := congrArg Int32.toInt Of34_u5_
        exact ih _ _ _ Iu5 Fu5 Of15_u5 Of34_u5 Of1_u5 Of30_u5 Of18_u5 (by omega) (by decide) (by decide) (by omega) (by omega) (by omega) (by omega)
      have C15 : ¬ (u5 121 (Int32.toNatClampNeg x3)).toInt = r4.toInt := ti_ne c15
      rw [j_X4_isRow_53_e]
      rw [j_X4_isRow_54_e]
      have t19 : (x3 + (1 : Int32)).toInt = x3.toInt + (1 : Int) := ti_add (show -2147483648 ≤ x3.toInt + (1 : Int) by omega) (show x3.toInt + (1 : Int) ≤ 2147483647 by omega)
      have m20 := wx_X4_34 Iu5
      have e21 : (u5 101 34).toInt = (σ 101 34).toInt := congrArg Int32.toInt Of34_u5_
      exact ih _ _ _ Iu5 Fu5 Of15_u5 Of34_u5 Of1_u5 Of30_u5 Of18_u5 (by omega) (by decide) (by decide) (by omega) (by omega) (by omega) (by omega)
    have C12 : r4.toInt < (0 : Int) := ti_nle c12
    rw [j_X4_isRow_46_e]
    have b22 := ti_lo (u5 121 (Int32.toNatClampNeg x3))
    have b23 := ti_hi (u5 121 (Int32.toNatClampNeg x3))
    refine sf_ite (fun c24 => ?_) (fun c24 => ?_)
    · have C24 : (u5 121 (Int32.toNatClampNeg x3)).toInt = (99 : Int) := ti_eq c24
      rw [j_X4_isRow_54_e]
      have t25 : (x3 + (1 : Int32)).toInt = x3.toInt + (1 : Int) := ti_add (show -2147483648 ≤ x3.toInt + (1 : Int) by omega) (show x3.toInt + (1 : Int) ≤ 2147483647 by omega)
      have m26 := wx_X4_34 Iu5
      have e27 : (u5 101 34).toInt = (σ 101 34).toInt := congrArg Int32.toInt Of34_u5_
      exact ih _ _ _ Iu5 Fu5 Of15_u5 Of34_u5 Of1_u5 Of30_u5 Of18_u5 (by omega) (by decide) (by decide) (by omega) (by omega) (by omega) (by omega)
    have C24 : ¬ (u5 121 (Int32.toNatClampNeg x3)).toInt = (99 : Int) := ti_ne c24
    rw [j_X4_isRow_53_e]
    rw [j_X4_isRow_54_e]
    have t28 : (x3 + (1 : Int32)).toInt = x3.toInt + (1 : Int) := ti_add (show -2147483648 ≤ x3.toInt + (1 : Int) by omega) (show x3.toInt + (1 : Int) ≤ 2147483647 by omega)
    have m29 := wx_X4_34 Iu5
    have e30 : (u5 101 34).toInt = (σ 101 34).toInt := congrArg Int32.toInt Of34_u5_
    exact ih _ _ _ Iu5 Fu5 Of15_u5 Of34_u5 Of1_u5 Of30_u5 Of18_u5 (by omega) (by decide) (by decide) (by omega) (by omega) (by omega) (by omega)
set_option maxHeartbeats 4000000 in
set_option maxRecDepth 100000 in
theorem s_X4_isRow {F : Nat} (hF : 73786976294838206464 ≤ F) {x1 : Int32} {τ : Mem} (hI : wiM τ) (x1_1 : 0 ≤ x1.toInt) (x1_2 : x1.toInt ≤ 999) (xp0 : (τ 101 34).toInt ≤ 8) : sf (f_X4_isRow F x1 τ) (fun r s => wiM s ∧ (∀ k, k < 101 → s k = τ k) ∧ s 101 15 = τ 101 15 ∧ s 101 34 = τ 101 34 ∧ s 101 1 = τ 101 1 ∧ s 101 30 = τ 101 30 ∧ s 101 18 = τ 101 18 ∧ 0 ≤ r.toInt ∧ r.toInt ≤ 1) := by
  have Fτ : ∀ k, k < 101 → τ k = τ k := fun _ _ => rfl
  have Of15_τ : τ 101 15 = τ 101 15 := rfl
  have Of34_τ : τ 101 34 = τ 101 34 := rfl
  have Of1_τ : τ 101 1 = τ 101 1 := rfl
  have Of30_τ : τ 101 30 = τ 101 30 := rfl
  have Of18_τ : τ 101 18 = τ 101 18 := rfl
  rw [f_X4_isRow_e]
  refine sf_bnd (s_X4_layBrings hF hI) (fun r1 u2 p3 => ?_)
  obtain ⟨Iu2, Fu2_, Of15_u2_, Of34_u2_, Of1_u2_, Of30_u2_, Of18_u2_, -⟩ := p3
  have Fu2 : ∀ k, k < 101 → u2 k = τ k := fun k hk => (Fu2_ k hk).trans (Fτ k hk)
  have Of15_u2 : u2 101 15 = τ 101 15 := Of15_u2_.trans Of15_τ
  have Of34_u2 : u2 101 34 = τ 101 34 := Of34_u2_.trans Of34_τ
  have Of1_u2 : u2 101 1 = τ 101 1 := Of1_u2_.trans Of1_τ
  have Of30_u2 : u2 101 30 = τ 101 30 := Of30_u2_.trans Of30_τ
  have Of18_u2 : u2 101 18 = τ 101 18 := Of18_u2_.trans Of18_τ
  have m4 := wx_X4_34 Iu2
  have m5 := wx_X4_34 hI
  have e6 : (u2 101 34).toInt = (τ 101 34).toInt := congrArg Int32.toInt Of34_u2_
  have l_0 : (0 : Int32).toInt = 0 := rfl
  exact sl_X4_isRow_8 hF (by omega) (by omega) _ _ _ _ Iu2 Fu2 Of15_u2 Of34_u2 Of1_u2 Of30_u2 Of18_u2 (by omega) (by decide) (by decide) (by decide) (by decide) (by omega) (by omega)
set_option maxHeartbeats 4000000 in
set_option maxRecDepth 100000 in
theorem sl_X4_whichLaw_30 {F : Nat} (hF : 73786976294838206464 ≤ F) {x1 : Int32} {τ : Mem} : ∀ (N : Nat) (x2 : Int32) (x3 : Int32) (σ : Mem), wiM σ → (∀ k, k < 101 → σ k = τ k) → σ 101 15 = τ 101 15 → σ 101 34 = τ 101 34 → σ 101 1 = τ 101 1 → σ 101 30 = τ 101 30 → σ 101 18 = τ 101 18 → 3 < x3.toInt + N → 0 ≤ x3.toInt → x3.toInt ≤ 3 → 0 ≤ (σ 101 34).toInt → (σ 101 34).toInt ≤ 8 → sf (lp_X4_whichLaw_30 F x1 N x2 x3 σ) (fun r s => wiM s ∧ (∀ k, k < 101 → s k = τ k) ∧ s 101 15 = τ 101 15 ∧ s 101 34 = τ 101 34 ∧ s 101 1 = τ 101 1 ∧ s 101 30 = τ 101 30 ∧ s 101 18 = τ 101 18 ∧ -2147483648 ≤ r.toInt ∧ r.toInt ≤ 2147483647) := by
  intro N
  induction N with
  | zero => intro x2 x3 σ hI Fσ Of15_σ Of34_σ Of1_σ Of30_σ Of18_σ hN x3_1 x3_2 mf0_1 mf0_2; exfalso; omega
  | succ N ih =>
    intro x2 x3 σ hI Fσ Of15_σ Of34_σ Of1_σ Of30_σ Of18_σ hN x3_1 x3_2 mf0_1 mf0_2
    rw [lp_X4_whichLaw_30_s]
    refine sf_ite (fun c1 => ?_) (fun c1 => ?_)
    · have C1 : (3 : Int) ≤ x3.toInt := ti_le c1
      refine sf_lt (fun s2 hs2 => ?_)
      have Is2 : wiM s2 := by rw [hs2]; exact wm_fld hI (by decide) (by decide) (by decide) (by decide) (by decide) (by decide) (by decide)
      have Fs2 : ∀ k, k < 101 → s2 k = τ k := fun k hk => (show s2 k = σ k by rw [hs2, up2_k (by omega)]).trans (Fσ k hk)
      have Of15_s2 : s2 101 15 = τ 101 15 := (show s2 101 15 = σ 101 15 by rw [hs2, up2_i (by decide)]).trans Of15_σ
      have Of34_s2 : s2 101 34 = τ 101 34 := (show s2 101 34 = σ 101 34 by rw [hs2, up2_i (by decide)]).trans Of34_σ
      have Of1_s2 : s2 101 1 = τ 101 1 := (show s2 101 1 = σ 101 1 by rw [hs2, up2_i (by decide)]).trans Of1_σ
      have Of30_s2 : s2 101 30 = τ 101 30 := (show s2 101 30 = σ 101 30 by rw [hs2, up2_i (by decide)]).trans Of30_σ
      have Of18_s2 : s2 101 18 = τ 101 18 := (show s2 101 18 = σ 101 18 by rw [hs2, up2_i (by decide)]).trans Of18_σ
      have b3 := ti_lo x2
      have b4 := ti_hi x2
      exact sf_ret ⟨Is2, Fs2, Of15_s2, Of34_s2, Of1_s2, Of30_s2, Of18_s2, ti_lo _, ti_hi _⟩
    have C1 : x3.toInt < (3 : Int) := ti_nle c1
    refine sf_lt (fun s5 hs5 => ?_)
    have Is5 : wiM s5 := by rw [hs5]; exact wm_fld hI (by decide) (by decide) (by decide) (by decide) (by decide) (by decide) (by decide)
    have Fs5 : ∀ k, k < 101 → s5 k = τ k := fun k hk => (show s5 k = σ k by rw [hs5, up2_k (by omega)]).trans (Fσ k hk)
    have Of15_s5 : s5 101 15 = τ 101 15 := (show s5 101 15 = σ 101 15 by rw [hs5, up2_i (by decide)]).trans Of15_σ
    have Of34_s5 : s5 101 34 = τ 101 34 := (show s5 101 34 = σ 101 34 by rw [hs5, up2_i (by decide)]).trans Of34_σ
    have Of1_s5 : s5 101 1 = τ 101 1 := (show s5 101 1 = σ 101 1 by rw [hs5, up2_i (by decide)]).trans Of1_σ
    have Of30_s5 : s5 101 30 = τ 101 30 := (show s5 101 30 = σ 101 30 by rw [hs5, up2_i (by decide)]).trans Of30_σ
    have Of18_s5 : s5 101 18 = τ 101 18 := (show s5 101 18 = σ 101 18 by rw [hs5, up2_i (by decide)]).trans Of18_σ
    have m6 := wx_X4_34 Is5
    have m7 := wx_X4_34 hI
    have e8 : (σ 101 34).toInt = (τ 101 34).toInt := congrArg Int32.toInt Of34_σ
    have e9 : (s5 101 34).toInt = (σ 101 34).toInt := congrArg Int32.toInt (by rw [hs5, up2_i (by decide)])
    refine sf_bnd (s_X4_isRow hF Is5 (by decide) (by decide) (by first | omega | decide)) (fun r10 u11 p12 => ?_)
    obtain ⟨Iu11, Fu11_, Of15_u11_, Of34_u11_, Of1_u11_, Of30_u11_, Of18_u11_, p12_1, p12_2⟩ := p12
    have Fu11 : ∀ k, k < 101 → u11 k = τ k := fun k hk => (Fu11_ k hk).trans (Fs5 k hk)
    have Of15_u11 : u11 101 15 = τ 101 15 := Of15_u11_.trans Of15_s5
    have Of34_u11 : u11 101 34 = τ 101 34 := Of34_u11_.trans Of34_s5
    have Of1_u11 : u11 101 1 = τ 101 1 := Of1_u11_.trans Of1_s5
    have Of30_u11 : u11 101 30 = τ 101 30 := Of30_u11_.trans Of30_s5
    have Of18_u11 : u11 101 18 = τ 101 18 := Of18_u11_.trans Of18_s5
    have hb_r10 : r10 = 0 ∨ r10 = 1 := wi_bool p12_1 p12_2
    refine sf_ite (fun c13 => ?_) (fun c13 => ?_)
    · have C13 : r10.toInt = (0 : Int) := ti_eq c13
      rw [j_X4_whichLaw_56_e]
      have b14 := ti_lo (x2 ||| (0 : Int32))
      have b15 := ti_hi (x2 ||| (0 : Int32))
      have t16 : (x3 + (1 : Int32)).toInt = x3.toInt + (1 : Int) := ti_add (show -2147483648 ≤ x3.toInt + (1 : Int) by omega) (show x3.toInt + (1 : Int) ≤ 2147483647 by omega)
      have m17 := wx_X4_34 Iu11
      have e18 : (u11 101 34).toInt = (s5 101 34).toInt := congrArg Int32.toInt Of34_u11_
      exact ih _ _ _ Iu11 Fu11 Of15_u11 Of34_u11 Of1_u11 Of30_u11 Of18_u11 (by omega) (by omega) (by omega) (by omega) (by omega)
    have C13 : ¬ r10.toInt = (0 : Int) := ti_ne c13
    rw [j_X4_whichLaw_56_e]
    have b19 := ti_lo (x2 ||| ((1 : Int32) <<< (x3 &&& 31)))
    have b20 := ti_hi (x2 ||| ((1 : Int32) <<< (x3 &&& 31)))
    have t21 : (x3 + (1 : Int32)).toInt = x3.toInt + (1 : Int) := ti_add (show -2147483648 ≤ x3.toInt + (1 : Int) by omega) (show x3.toInt + (1 : Int) ≤ 2147483647 by omega)
    have m22 := wx_X4_34 Iu11
    have e23 : (u11 101 34).toInt = (s5 101 34).toInt := congrArg Int32.toInt Of34_u11_
    exact ih _ _ _ Iu11 Fu11 Of15_u11 Of34_u11 Of1_u11 Of30_u11 Of18_u11 (by omega) (by omega) (by omega) (by omega) (by omega)
set_option maxHeartbeats 4000000 in
set_option maxRecDepth 100000 in
theorem s_X4_whichLaw {F : Nat} (hF : 73786976294838206464 ≤ F) {τ : Mem} (hI : wiM τ) : sf (f_X4_whichLaw F τ) (fun r s => wiM s ∧ (∀ k, k < 101 → s k = τ k) ∧ s 101 15 = τ 101 15 ∧ s 101 34 = τ 101 34 ∧ s 101 1 = τ 101 1 ∧ s 101 30 = τ 101 30 ∧ s 101 18 = τ 101 18 ∧ -2147483648 ≤ r.toInt ∧ r.toInt ≤ 2147483647) := by
  have Fτ : ∀ k, k < 101 → τ k = τ k := fun _ _ => rfl
  have Of15_τ : τ 101 15 = τ 101 15 := rfl
  have Of34_τ : τ 101 34 = τ 101 34 := rfl
  have Of1_τ : τ 101 1 = τ 101 1 := rfl
  have Of30_τ : τ 101 30 = τ 101 30 := rfl
  have Of18_τ : τ 101 18 = τ 101 18 := rfl
  rw [f_X4_whichLaw_e]
  refine sf_lt (fun s1 hs1 => ?_)
  have Is1 : wiM s1 := by rw [hs1]; exact wm_fld hI (by decide) (by decide) (by decide) (by decide) (by decide) (by decide) (by decide)
  have Fs1 : ∀ k, k < 101 → s1 k = τ k := fun k hk => (show s1 k = τ k by rw [hs1, up2_k (by omega)]).trans (Fτ k hk)
  have Of15_s1 : s1 101 15 = τ 101 15 := (show s1 101 15 = τ 101 15 by rw [hs1, up2_i (by decide)]).trans Of15_τ
  have Of34_s1 : s1 101 34 = τ 101 34 := (show s1 101 34 = τ 101 34 by rw [hs1, up2_i (by decide)]).trans Of34_τ
  have Of1_s1 : s1 101 1 = τ 101 1 := (show s1 101 1 = τ 101 1 by rw [hs1, up2_i (by decide)]).trans Of1_τ
  have Of30_s1 : s1 101 30 = τ 101 30 := (show s1 101 30 = τ 101 30 by rw [hs1, up2_i (by decide)]).trans Of30_τ
  have Of18_s1 : s1 101 18 = τ 101 18 := (show s1 101 18 = τ 101 18 by rw [hs1, up2_i (by decide)]).trans Of18_τ
  have m2 := wx_X4_34 Is1
  have m3 := wx_X4_34 hI
  have e4 : (s1 101 34).toInt = (τ 101 34).toInt := congrArg Int32.toInt (by rw [hs1, up2_i (by decide)])
  refine sf_ite (fun c5 => ?_) (fun c5 => ?_)
  · have C5 : (s1 101 34).toInt ≤ (8 : Int) := ti_le c5
    have b6 := ti_lo (τ 101 8)
    have b7 := ti_hi (τ 101 8)
    have e8 : (s1 101 8).toInt = (τ 101 8).toInt := congrArg Int32.toInt (by rw [hs1, up2_i (by decide)])
    have b9 := ti_lo (s1 101 8)
    have b10 := ti_hi (s1 101 8)
    have l_0 : (0 : Int32).toInt = 0 := rfl
    exact sl_X4_whichLaw_30 hF _ _ _ _ Is1 Fs1 Of15_s1 Of34_s1 Of1_s1 Of30_s1 Of18_s1 (by omega) (by decide) (by decide) (by omega) (by omega)
  have C5 : (8 : Int) < (s1 101 34).toInt := ti_nle c5
  refine sf_bnd (s_X4_refuse hF Is1 (by decide) (by decide)) (fun r11 u12 p13 => ?_)
  obtain ⟨Iu12, Fu12_, Of15_u12_, Of34_u12_, Of1_u12_, Of30_u12_, Of18_u12_, p13_1, p13_2, p13_x0⟩ := p13
  have Fu12 : ∀ k, k < 101 → u12 k = τ k := fun k hk => (Fu12_ k hk).trans (Fs1 k hk)
  have Of15_u12 : u12 101 15 = τ 101 15 := Of15_u12_.trans Of15_s1
  have Of34_u12 : u12 101 34 = τ 101 34 := Of34_u12_.trans Of34_s1
  have Of1_u12 : u12 101 1 = τ 101 1 := Of1_u12_.trans Of1_s1
  have Of30_u12 : u12 101 30 = τ 101 30 := Of30_u12_.trans Of30_s1
  have Of18_u12 : u12 101 18 = τ 101 18 := Of18_u12_.trans Of18_s1
  replace p13_x0 : r11.toInt = (-3 : Int) := p13_x0
  exact sf_ret ⟨Iu12, Fu12, Of15_u12, Of34_u12, Of1_u12, Of30_u12, Of18_u12, ti_lo _, ti_hi _⟩
set_option maxHeartbeats 4000000 in
set_option maxRecDepth 100000 in
theorem sl_X4_whichKind_77 {F : Nat} (hF : 73786976294838206464 ≤ F) {x1 : Int32} {x2 : Int32} {x3 : Int32} {τ : Mem} (x1_1 : 0 ≤ x1.toInt) (x1_2 : x1.toInt ≤ 4) (x2_1 : 0 ≤ x2.toInt) (x2_2 : x2.toInt ≤ 999) (x3_1 : 0 ≤ x3.toInt) (x3_2 : x3.toInt ≤ 1) : ∀ (N : Nat) (x5 : Int32) (x6 : Int32) (σ : Mem), wiM σ → (∀ k, k < 101 → σ k = τ k) → σ 101 15 = τ 101 15 → σ 101 34 = τ 101 34 → σ 101 30 = τ 101 30 → σ 101 18 = τ 101 18 → 10 < x6.toInt + N → 0 ≤ x6.toInt → x6.toInt ≤ 10 → 0 ≤ (σ 101 34).toInt → (σ 101 34).toInt ≤ 8 → sf (lp_X4_whichKind_77 F x1 x2 x3 N x5 x6 σ) (fun r s => wiM s ∧ (∀ k, k < 101 → s k = τ k) ∧ s 101 15 = τ 101 15 ∧ s 101 34 = τ 101 34 ∧ s 101 30 = τ 101 30 ∧ s 101 18 = τ 101 18 ∧ -2147483648 ≤ r.toInt ∧ r.toInt ≤ 2147483647) := by
  intro N
  induction N with
  | zero => intro x5 x6 σ hI Fσ Of15_σ Of34_σ Of30_σ Of18_σ hN x6_1 x6_2 mf0_1 mf0_2; exfalso; omega
  | succ N ih =>
    intro x5 x6 σ hI Fσ Of15_σ Of34_σ Of30_σ Of18_σ hN x6_1 x6_2 mf0_1 mf0_2
    rw [lp_X4_whichKind_77_s]
    refine sf_ite (fun c1 => ?_) (fun c1 => ?_)
    · have C1 : x3.toInt = (0 : Int) := ti_eq c1
      rw [j_X4_whichKind_90_e]
      refine sf_ite (fun c2 => ?_) (fun c2 => ?_)
      · have C2 : (6 : Int) ≤ x6.toInt := ti_le c2
        refine sf_bnd (s_X4_again hF hI) (fun r3 u4 p5 => ?_)
        obtain ⟨Iu4, Fu4_, Of15_u4_, Of34_u4_, Of30_u4_, Of18_u4_, -⟩ := p5
        have Fu4 : ∀ k, k < 101 → u4 k = τ k := fun k hk => (Fu4_ k hk).trans (Fσ k hk)
        have Of15_u4 : u4 101 15 = τ 101 15 := Of15_u4_.trans Of15_σ
        have Of34_u4 : u4 101 34 = τ 101 34 := Of34_u4_.trans Of34_σ
        have Of30_u4 : u4 101 30 = τ 101 30 := Of30_u4_.trans Of30_σ
        have Of18_u4 : u4 101 18 = τ 101 18 := Of18_u4_.trans Of18_σ
        have b6 := ti_lo x5
        have b7 := ti_hi x5
        exact sf_ret ⟨Iu4, Fu4, Of15_u4, Of34_u4, Of30_u4, Of18_u4, ti_lo _, ti_hi _⟩
      have C2 : x6.toInt < (6 : Int) := ti_nle c2
      refine sf_ite (fun c8 => ?_) (fun c8 => ?_)
      · have C8 : x3.toInt = (0 : Int) := ti_eq c8
        rw [j_X4_whichKind_113_e]
        refine sf_chk (ti_in (by omega) (by omega)) ?_
        have v9 : Int32.toNatClampNeg x1 = x1.toInt.toNat := rfl
        refine sf_lt (fun s10 hs10 => ?_)
        have Is10 : wiM s10 := by rw [hs10]; exact wm_oth hI (by decide) (by decide) (by decide) (by decide)
        have Fs10 : ∀ k, k < 101 → s10 k = τ k := fun k hk => (show s10 k = σ k by rw [hs10, up2_k (by omega)]).trans (Fσ k hk)
        have Of15_s10 : s10 101 15 = τ 101 15 := (show s10 101 15 = σ 101 15 by rw [hs10, up2_k (by omega)]).trans Of15_σ
        have Of34_s10 : s10 101 34 = τ 101 34 := (show s10 101 34 = σ 101 34 by rw [hs10, up2_k (by omega)]).trans Of34_σ
        have Of30_s10 : s10 101 30 = τ 101 30 := (show s10 101 30 = σ 101 30 by rw [hs10, up2_k (by omega)]).trans Of30_σ
        have Of18_s10 : s10 101 18 = τ 101 18 := (show s10 101 18 = σ 101 18 by rw [hs10, up2_k (by omega)]).trans Of18_σ
        refine sf_ite (fun c11 => ?_) (fun c11 => ?_)
        · have C11 : x3.toInt = (1 : Int) := ti_eq c11
          exfalso; omega
        have C11 : ¬ x3.toInt = (1 : Int) := ti_ne c11
        refine sf_chk (ti_in (by omega) (by omega)) ?_
        have v12 : Int32.toNatClampNeg x1 = x1.toInt.toNat := rfl
        rw [j_X4_whichKind_135_e]
        refine sf_chk (ti_in (by omega) (by omega)) ?_
        have v13 : Int32.toNatClampNeg x1 = x1.toInt.toNat := rfl
        refine sf_lt (fun s14 hs14 => ?_)
        have Is14 : wiM s14 := by rw [hs14]; exact wm_oth Is10 (by decide) (by decide) (by decide) (by decide)
        have Fs14 : ∀ k, k < 101 → s14 k = τ k := fun k hk => (show s14 k = s10 k by rw [hs14, up2_k (by omega)]).trans (Fs10 k hk)
        have Of15_s14 : s14 101 15 = τ 101 15 := (show s14 101 15 = s10 101 15 by rw [hs14, up2_k (by omega)]).trans Of15_s10
        have Of34_s14 : s14 101 34 = τ 101 34 := (show s14 101 34 = s10 101 34 by rw [hs14, up2_k (by omega)]).trans Of34_s10
        have Of30_s14 : s14 101 30 = τ 101 30 := (show s14 101 30 = s10 101 30 by rw [hs14, up2_k (by omega)]).trans Of30_s10
        have Of18_s14 : s14 101 18 = τ 101 18 := (show s14 101 18 = s10 101 18 by rw [hs14, up2_k (by omega)]).trans Of18_s10
        have m15 := wx_X4_34 Is14
        have m16 := wx_X4_34 Is10
        have m17 := wx_X4_34 hI
        have e18 : (σ 101 34).toInt = (τ 101 34).toInt := congrArg Int32.toInt Of34_σ
        have e19 : (s10 101 34).toInt = (σ 101 34).toInt := congrArg Int32.toInt (by rw [hs10, up2_k (by omega)])
        have e20 : (s14 101 34).toInt = (s10 101 34).toInt := congrArg Int32.toInt (by rw [hs14, up2_k (by omega)])
        refine sf_bnd (s_X4_isRow hF Is14 (by omega) (by omega) (by first | omega | decide)) (fun r21 u22 p23 => ?_)
        obtain ⟨Iu22, Fu22_, Of15_u22_, Of34_u22_, Of1_u22_, Of30_u22_, Of18_u22_, p23_1, p23_2⟩ := p23
        have Fu22 : ∀ k, k < 101 → u22 k = τ k := fun k hk => (Fu22_ k hk).trans (Fs14 k hk)
        have Of15_u22 : u22 101 15 = τ 101 15 := Of15_u22_.trans Of15_s14
        have Of34_u22 : u22 101 34 = τ 101 34 := Of34_u22_.trans Of34_s14
        have Of30_u22 : u22 101 30 = τ 101 30 := Of30_u22_.trans Of30_s14
        have Of18_u22 : u22 101 18 = τ 101 18 := Of18_u22_.trans Of18_s14
        have hb_r21 : r21 = 0 ∨ r21 = 1 := wi_bool p23_1 p23_2
        refine sf_ite (fun c24 => ?_) (fun c24 => ?_)
        · have C24 : r21.toInt = (0 : Int) := ti_eq c24
          rw [j_X4_whichKind_154_e]
          have b25 := ti_lo (x5 ||| (0 : Int32))
          have b26 := ti_hi (x5 ||| (0 : Int32))
          have t27 : (x6 + (1 : Int32)).toInt = x6.toInt + (1 : Int) := ti_add (show -2147483648 ≤ x6.toInt + (1 : Int) by omega) (show x6.toInt + (1 : Int) ≤ 2147483647 by omega)
          have m28 := wx_X4_34 Iu22
          have e29 : (u22 101 34).toInt = (s14 101 34).toInt := congrArg Int32.toInt Of34_u22_
          exact ih _ _ _ Iu22 Fu22 Of15_u22 Of34_u22 Of30_u22 Of18_u22 (by omega) (by omega) (by omega) (by omega) (by omega)
        have C24 : ¬ r21.toInt = (0 : Int) := ti_ne c24
        rw [j_X4_whichKind_154_e]
        have b30 := ti_lo (x5 ||| ((1 : Int32) <<< (x6 &&& 31)))
        have b31 := ti_hi (x5 ||| ((1 : Int32) <<< (x6 &&& 31)))
        have t32 : (x6 + (1 : Int32)).toInt = x6.toInt + (1 : Int) := ti_add (show -2147483648 ≤ x6.toInt + (1 : Int) by omega) (show x6.toInt + (1 : Int) ≤ 2147483647 by omega)
        have m33 := wx_X4_34 Iu22
        have e34 : (u22 101 34).toInt = (s14 101 34).toInt := congrArg Int32.toInt Of34_u22_
        exact ih _ _ _ Iu22 Fu22 Of15_u22 Of34_u22 Of30_u22 Of18_u22 (by omega) (by omega) (by omega) (by omega) (by omega)
      have C8 : ¬ x3.toInt = (0 : Int) := ti_ne c8
      exfalso; omega
    have C1 : ¬ x3.toInt = (0 : Int) := ti_ne c1
    rw [j_X4_whichKind_90_e]
    refine sf_ite (fun c35 => ?_) (fun c35 => ?_)
    · have C35 : (10 : Int) ≤ x6.toInt := ti_le c35
      refine sf_bnd (s_X4_again hF hI) (fun r36 u37 p38 => ?_)
      obtain ⟨Iu37, Fu37_, Of15_u37_, Of34_u37_, Of30_u37_, Of18_u37_, -⟩ := p38
      have Fu37 : ∀ k, k < 101 → u37 k = τ k := fun k hk => (Fu37_ k hk).trans (Fσ k hk)
      have Of15_u37 : u37 101 15 = τ 101 15 := Of15_u37_.trans Of15_σ
      have Of34_u37 : u37 101 34 = τ 101 34 := Of34_u37_.trans Of34_σ
      have Of30_u37 : u37 101 30 = τ 101 30 := Of30_u37_.trans Of30_σ
      have Of18_u37 : u37 101 18 = τ 101 18 := Of18_u37_.trans Of18_σ
      have b39 := ti_lo x5
      have b40 := ti_hi x5
      exact sf_ret ⟨Iu37, Fu37, Of15_u37, Of34_u37, Of30_u37, Of18_u37, ti_lo _, ti_hi _⟩
    have C35 : x6.toInt < (10 : Int) := ti_nle c35
    refine sf_ite (fun c41 => ?_) (fun c41 => ?_)
    · have C41 : x3.toInt = (0 : Int) := ti_eq c41
      exfalso; omega
    have C41 : ¬ x3.toInt = (0 : Int) := ti_ne c41
    refine sf_chk (ti_in (by omega) (by omega)) ?_
    have v42 : Int32.toNatClampNeg x1 = x1.toInt.toNat := rfl
    rw [j_X4_whichKind_113_e]
    refine sf_chk (ti_in (by omega) (by omega)) ?_
    have v43 : Int32.toNatClampNeg x1 = x1.toInt.toNat := rfl
    refine sf_lt (fun s44 hs44 => ?_)
    have Is44 : wiM s44 := by rw [hs44]; exact wm_oth hI (by decide) (by decide) (by decide) (by decide)
    have Fs44 : ∀ k, k < 101 → s44 k = τ k := fun k hk => (show s44 k = σ k by rw [hs44, up2_k (by omega)]).trans (Fσ k hk)
    have Of15_s44 : s44 101 15 = τ 101 15 := (show s44 101 15 = σ 101 15 by rw [hs44, up2_k (by omega)]).trans Of15_σ
    have Of34_s44 : s44 101 34 = τ 101 34 := (show s44 101 34 = σ 101 34 by rw [hs44, up2_k (by omega)]).trans Of34_σ
    have Of30_s44 : s44 101 30 = τ 101 30 := (show s44 101 30 = σ 101 30 by rw [hs44, up2_k (by omega)]).trans Of30_σ
    have Of18_s44 : s44 101 18 = τ 101 18 := (show s44 101 18 = σ 101 18 by rw [hs44, up2_k (by omega)]).trans Of18_σ
    refine sf_ite (fun c45 => ?_) (fun c45 => ?_)
    · have C45 : x3.toInt = (1 : Int) := ti_eq c45
      rw [j_X4_whichKind_135_e]
      refine sf_chk (ti_in (by omega) (by omega)) ?_
      have v46 : Int32.toNatClampNeg x1 = x1.toInt.toNat := rfl
      refine sf_lt (fun s47 hs47 => ?_)
      have Is47 : wiM s47 := by rw [hs47]; exact wm_oth Is44 (by decide) (by decide) (by decide) (by decide)
      have Fs47 : ∀ k, k < 101 → s47 k = τ k := fun k hk => (show s47 k = s44 k by rw [hs47, up2_k (by omega)]).trans (Fs44 k hk)
      have Of15_s47 : s47 101 15 = τ 101 15 := (show s47 101 15 = s44 101 15 by rw [hs47, up2_k (by omega)]).trans Of15_s44
      have Of34_s47 : s47 101 34 = τ 101 34 := (show s47 101 34 = s44 101 34 by rw [hs47, up2_k (by omega)]).trans Of34_s44
      have Of30_s47 : s47 101 30 = τ 101 30 := (show s47 101 30 = s44 101 30 by rw [hs47, up2_k (by omega)]).trans Of30_s44
      have Of18_s47 : s47 101 18 = τ 101 18 := (show s47 101 18 = s44 101 18 by rw [hs47, up2_k (by omega)]).trans Of18_s44
      have m48 := wx_X4_34 Is47
      have m49 := wx_X4_34 Is44
      have m50 := wx_X4_34 hI
      have e51 : (σ 101 34).toInt = (τ 101 34).toInt := congrArg Int32.toInt Of34_σ
      have e52 : (s44 101 34).toInt = (σ 101 34).toInt := congrArg Int32.toInt (by rw [hs44, up2_k (by omega)])
      have e53 : (s47 101 34).toInt = (s44 101 34).toInt := congrArg Int32.toInt (by rw [hs47, up2_k (by omega)])
      refine sf_bnd (s_X4_isRow hF Is47 (by omega) (by omega) (by first | omega | decide)) (fun r54 u55 p56 => ?_)
      obtain ⟨Iu55, Fu55_, Of15_u55_, Of34_u55_, Of1_u55_, Of30_u55_, Of18_u55_, p56_1, p56_2⟩ := p56
      have Fu55 : ∀ k, k < 101 → u55 k = τ k := fun k hk => (Fu55_ k hk).trans (Fs47 k hk)
      have Of15_u55 : u55 101 15 = τ 101 15 := Of15_u55_.trans Of15_s47
      have Of34_u55 : u55 101 34 = τ 101 34 := Of34_u55_.trans Of34_s47
      have Of30_u55 : u55 101 30 = τ 101 30 := Of30_u55_.trans Of30_s47
      have Of18_u55 : u55 101 18 = τ 101 18 := Of18_u55_.trans Of18_s47
      have hb_r54 : r54 = 0 ∨ r54 = 1 := wi_bool p56_1 p56_2
      refine sf_ite (fun c57 => ?_) (fun c57 => ?_)
      · have C57 : r54.toInt = (0 : Int) := ti_eq c57
        rw [j_X4_whichKind_154_e]
        have b58 := ti_lo (x5 ||| (0 : Int32))
        have b59 := ti_hi (x5 ||| (0 : Int32))
        have t60 : (x6 + (1 : Int32)).toInt = x6.toInt + (1 : Int) := ti_add (show -2147483648 ≤ x6.toInt + (1 : Int) by omega) (show x6.toInt + (1 : Int) ≤ 2147483647 by omega)
        have m61 := wx_X4_34 Iu55
        have e62 : (u55 101 34).toInt = (s47 101 34).toInt := congrArg Int32.toInt Of34_u55_
        exact ih _ _ _ Iu55 Fu55 Of15_u55 Of34_u55 Of30_u55 Of18_u55 (by omega) (by omega) (by omega) (by omega) (by omega)
      have C57 : ¬ r54.toInt = (0 : Int) := ti_ne c57
      rw [j_X4_whichKind_154_e]
      have b63 := ti_lo (x5 ||| ((1 : Int32) <<< (x6 &&& 31)))
      have b64 := ti_hi (x5 ||| ((1 : Int32) <<< (x6 &&& 31)))
      have t65 : (x6 + (1 : Int32)).toInt = x6.toInt + (1 : Int) := ti_add (show -2147483648 ≤ x6.toInt + (1 : Int) by omega) (show x6.toInt + (1 : Int) ≤ 2147483647 by omega)
      have m66 := wx_X4_34 Iu55
      have e67 : (u55 101 34).toInt = (s47 101 34).toInt := congrArg Int32.toInt Of34_u55_
      exact ih _ _ _ Iu55 Fu55 Of15_u55 Of34_u55 Of30_u55 Of18_u55 (by omega) (by omega) (by omega) (by omega) (by omega)
    have C45 : ¬ x3.toInt = (1 : Int) := ti_ne c45
    exfalso; omega
set_option maxHeartbeats 4000000 in
set_option maxRecDepth 100000 in
theorem s_X4_whichKind {F : Nat} (hF : 73786976294838206464 ≤ F) {x1 : Int32} {x2 : Int32} {x3 : Int32} {τ : Mem} (hI : wiM τ) : sf (f_X4_whichKind F x1 x2 x3 τ) (fun r s => wiM s ∧ (∀ k, k < 101 → s k = τ k) ∧ s 101 15 = τ 101 15 ∧ s 101 34 = τ 101 34 ∧ s 101 30 = τ 101 30 ∧ s 101 18 = τ 101 18 ∧ -2147483648 ≤ r.toInt ∧ r.toInt ≤ 2147483647) := by
  have Fτ : ∀ k, k < 101 → τ k = τ k := fun _ _ => rfl
  have Of15_τ : τ 101 15 = τ 101 15 := rfl
  have Of34_τ : τ 101 34 = τ 101 34 := rfl
  have Of1_τ : τ 101 1 = τ 101 1 := rfl
  have Of30_τ : τ 101 30 = τ 101 30 := rfl
  have Of18_τ : τ 101 18 = τ 101 18 := rfl
  rw [f_X4_whichKind_e]
  refine sf_lt (fun s1 hs1 => ?_)
  have Is1 : wiM s1 := by rw [hs1]; exact wm_fld hI (by decide) (by decide) (by decide) (by decide) (by decide) (by decide) (by decide)
  have Fs1 : ∀ k, k < 101 → s1 k = τ k := fun k hk => (show s1 k = τ k by rw [hs1, up2_k (by omega)]).trans (Fτ k hk)
  have Of15_s1 : s1 101 15 = τ 101 15 := (show s1 101 15 = τ 101 15 by rw [hs1, up2_i (by decide)]).trans Of15_τ
  have Of34_s1 : s1 101 34 = τ 101 34 := (show s1 101 34 = τ 101 34 by rw [hs1, up2_i (by decide)]).trans Of34_τ
  have Of1_s1 : s1 101 1 = τ 101 1 := (show s1 101 1 = τ 101 1 by rw [hs1, up2_i (by decide)]).trans Of1_τ
  have Of30_s1 : s1 101 30 = τ 101 30 := (show s1 101 30 = τ 101 30 by rw [hs1, up2_i (by decide)]).trans Of30_τ
  have Of18_s1 : s1 101 18 = τ 101 18 := (show s1 101 18 = τ 101 18 by rw [hs1, up2_i (by decide)]).trans Of18_τ
  have b2 := ti_lo x1
  have b3 := ti_hi x1
  refine sf_bnd (s_X4_isLooker hF Is1) (fun r4 u5 p6 => ?_)
  obtain ⟨e9, p6⟩ := p6
  have e9 := e9.symm
  subst e9
  rcases p6 with ⟨rfl, q7, q8⟩ | p6
  · refine sf_ite (fun c9 => ?_) (fun c9 => ?_)
    · have C9 : (1 : Int) = (0 : Int) := ti_eq c9
      exfalso; omega
    have C9 : ¬ (1 : Int) = (0 : Int) := ti_ne c9
    refine sf_in ?_
    rw [f_X4_wrongNumber_e]
    have b10 := ti_lo x2
    have b11 := ti_hi x2
    refine sf_ite (fun c12 => ?_) (fun c12 => ?_)
    · have C12 : (0 : Int) ≤ x2.toInt := ti_le c12
      refine sf_ite (fun c13 => ?_) (fun c13 => ?_)
      · have C13 : x2.toInt ≤ (999 : Int) := ti_le c13
        refine sf_ret ?_
        rw [j_X4_whichKind_25_e]
        refine sf_in ?_
        rw [f_X4_wrongBit_e]
        refine sf_ite (fun c14 => ?_) (fun c14 => ?_)
        · have C14 : (0 : Int) = (0 : Int) := ti_eq c14
          refine sf_in ?_
          rw [f_X4_in_e]
          have b15 := ti_lo x3
          have b16 := ti_hi x3
          have b17 := ti_lo (lg_cmp (Int32.toInt64 x3) (0 : Int64))
          have b18 := ti_hi (lg_cmp (Int32.toInt64 x3) (0 : Int64))
          refine sf_ite (fun c19 => ?_) (fun c19 => ?_)
          · have C19 : (lg_cmp (Int32.toInt64 x3) (0 : Int64)).toInt < (0 : Int) := ti_lt c19
            have L19 : x3.toInt < (0 : Int) := by have q := lg_ltl c19; (repeat (rw [Int32.toInt_toInt64] at q)); exact q
            rw [j_X4_in_17_e]
            refine sf_ret ?_
            refine sf_ite (fun c20 => ?_) (fun c20 => ?_)
            · have C20 : (0 : Int) = (0 : Int) := ti_eq c20
              refine sf_ret ?_
              refine sf_ite (fun c21 => ?_) (fun c21 => ?_)
              · have C21 : (-2 : Int) = (0 : Int) := ti_eq c21
                exfalso; omega
              have C21 : ¬ (-2 : Int) = (0 : Int) := ti_ne c21
              rw [j_X4_whichKind_51_e]
              rw [j_X4_whichKind_53_e]
              refine sf_ite (fun c22 => ?_) (fun c22 => ?_)
              · have C22 : (0 : Int) ≤ (-2 : Int) := ti_le c22
                exfalso; omega
              have C22 : (-2 : Int) < (0 : Int) := ti_nle c22
              refine sf_bnd (s_X4_refuse hF Is1 (by decide) (by decide)) (fun r23 u24 p25 => ?_)
              obtain ⟨Iu24, Fu24_, Of15_u24_, Of34_u24_, Of1_u24_, Of30_u24_, Of18_u24_, p25_1, p25_2, p25_x0⟩ := p25
              have Fu24 : ∀ k, k < 101 → u24 k = τ k := fun k hk => (Fu24_ k hk).trans (Fs1 k hk)
              have Of15_u24 : u24 101 15 = τ 101 15 := Of15_u24_.trans Of15_s1
              have Of34_u24 : u24 101 34 = τ 101 34 := Of34_u24_.trans Of34_s1
              have Of1_u24 : u24 101 1 = τ 101 1 := Of1_u24_.trans Of1_s1
              have Of30_u24 : u24 101 30 = τ 101 30 := Of30_u24_.trans Of30_s1
              have Of18_u24 : u24 101 18 = τ 101 18 := Of18_u24_.trans Of18_s1
              replace p25_x0 : r23.toInt = (-2 : Int) := p25_x0
              exact sf_ret ⟨Iu24, Fu24, Of15_u24, Of34_u24, Of30_u24, Of18_u24, ti_lo _, ti_hi _⟩
            have C20 : ¬ (0 : Int) = (0 : Int) := ti_ne c20
            exfalso; omega
          have C19 : (0 : Int) ≤ (lg_cmp (Int32.toInt64 x3) (0 : Int64)).toInt := ti_nlt c19
          have L19 : (0 : Int) ≤ x3.toInt := by have q := lg_ltln c19; (repeat (rw [Int32.toInt_toInt64] at q)); exact q
          have b26 := ti_lo (lg_cmp (Int32.toInt64 x3) (Int32.toInt64 (1 : Int32)))
          have b27 := ti_hi (lg_cmp (Int32.toInt64 x3) (Int32.toInt64 (1 : Int32)))
          refine sf_ite (fun c28 => ?_) (fun c28 => ?_)
          · have C28 : (0 : Int) < (lg_cmp (Int32.toInt64 x3) (Int32.toInt64 (1 : Int32))).toInt := ti_lt c28
            have L28 : (1 : Int) < x3.toInt := by have q := lg_ltr c28; (repeat (rw [Int32.toInt_toInt64] at q)); exact q
            rw [j_X4_in_17_e]
            refine sf_ret ?_
            refine sf_ite (fun c29 => ?_) (fun c29 => ?_)
            · have C29 : (0 : Int) = (0 : Int) := ti_eq c29
              refine sf_ret ?_
              refine sf_ite (fun c30 => ?_) (fun c30 => ?_)
              · have C30 : (-2 : Int) = (0 : Int) := ti_eq c30
                exfalso; omega
              have C30 : ¬ (-2 : Int) = (0 : Int) := ti_ne c30
              rw [j_X4_whichKind_51_e]
              rw [j_X4_whichKind_53_e]
              refine sf_ite (fun c31 => ?_) (fun c31 => ?_)
              · have C31 : (0 : Int) ≤ (-2 : Int) := ti_le c31
                exfalso; omega
              have C31 : (-2 : Int) < (0 : Int) := ti_nle c31
              refine sf_bnd (s_X4_refuse hF Is1 (by decide) (by decide)) (fun r32 u33 p34 => ?_)
              obtain ⟨Iu33, Fu33_, Of15_u33_, Of34_u33_, Of1_u33_, Of30_u33_, Of18_u33_, p34_1, p34_2, p34_x0⟩ := p34
              have Fu33 : ∀ k, k < 101 → u33 k = τ k := fun k hk => (Fu33_ k hk).trans (Fs1 k hk)
              have Of15_u33 : u33 101 15 = τ 101 15 := Of15_u33_.trans Of15_s1
              have Of34_u33 : u33 101 34 = τ 101 34 := Of34_u33_.trans Of34_s1
              have Of1_u33 : u33 101 1 = τ 101 1 := Of1_u33_.trans Of1_s1
              have Of30_u33 : u33 101 30 = τ 101 30 := Of30_u33_.trans Of30_s1
              have Of18_u33 : u33 101 18 = τ 101 18 := Of18_u33_.trans Of18_s1
              replace p34_x0 : r32.toInt = (-2 : Int) := p34_x0
              exact sf_ret ⟨Iu33, Fu33, Of15_u33, Of34_u33, Of30_u33, Of18_u33, ti_lo _, ti_hi _⟩
            have C29 : ¬ (0 : Int) = (0 : Int) := ti_ne c29
            exfalso; omega
          have C28 : (lg_cmp (Int32.toInt64 x3) (Int32.toInt64 (1 : Int32))).toInt ≤ (0 : Int) := ti_nlt c28
          have L28 : x3.toInt ≤ (1 : Int) := by have q := lg_ltrn c28; (repeat (rw [Int32.toInt_toInt64] at q)); exact q
          refine sf_ret ?_
          refine sf_ite (fun c35 => ?_) (fun c35 => ?_)
          · have C35 : (1 : Int) = (0 : Int) := ti_eq c35
            exfalso; omega
          have C35 : ¬ (1 : Int) = (0 : Int) := ti_ne c35
          rw [j_X4_wrongBit_20_e]
          refine sf_ret ?_
          refine sf_ite (fun c36 => ?_) (fun c36 => ?_)
          · have C36 : (0 : Int) = (0 : Int) := ti_eq c36
            have m37 := wx_X4_34 Is1
            have m38 := wx_X4_34 hI
            have e39 : (s1 101 34).toInt = (τ 101 34).toInt := congrArg Int32.toInt (by rw [hs1, up2_i (by decide)])
            refine sf_ite (fun c40 => ?_) (fun c40 => ?_)
            · have C40 : (s1 101 34).toInt ≤ (8 : Int) := ti_le c40
              rw [j_X4_whichKind_51_e]
              rw [j_X4_whichKind_53_e]
              refine sf_ite (fun c41 => ?_) (fun c41 => ?_)
              · have C41 : (0 : Int) ≤ (0 : Int) := ti_le c41
                have m42 := wx_X4_1 Is1
                have m43 := wx_X4_1 hI
                have e44 : (s1 101 1).toInt = (τ 101 1).toInt := congrArg Int32.toInt (by rw [hs1, up2_i (by decide)])
                have m45 := wx_X4_3 Is1
                have m46 := wx_X4_3 hI
                have e47 : (s1 101 3).toInt = (τ 101 3).toInt := congrArg Int32.toInt (by rw [hs1, up2_i (by decide)])
                refine sf_bnd (s_X4_think hF Is1) (fun r48 u49 p50 => ?_)
                obtain ⟨Iu49, Fu49_, Of15_u49_, Of34_u49_, Of30_u49_, Of18_u49_, -, p50_x0⟩ := p50
                have Fu49 : ∀ k, k < 101 → u49 k = τ k := fun k hk => (Fu49_ k hk).trans (Fs1 k hk)
                have Of15_u49 : u49 101 15 = τ 101 15 := Of15_u49_.trans Of15_s1
                have Of34_u49 : u49 101 34 = τ 101 34 := Of34_u49_.trans Of34_s1
                have Of30_u49 : u49 101 30 = τ 101 30 := Of30_u49_.trans Of30_s1
                have Of18_u49 : u49 101 18 = τ 101 18 := Of18_u49_.trans Of18_s1
                replace p50_x0 : (u49 101 1).toInt = (s1 101 1).toInt ∧ (u49 101 3).toInt = (s1 101 3).toInt := p50_x0
                have m51 := wx_X4_1 Iu49
                have m52 := wx_X4_3 Iu49
                have m53 := wx_X4_34 Iu49
                have e54 : (u49 101 34).toInt = (s1 101 34).toInt := congrArg Int32.toInt Of34_u49_
                have l_0 : (0 : Int32).toInt = 0 := rfl
                exact sl_X4_whichKind_77 hF (by omega) (by omega) (by omega) (by omega) (by omega) (by omega) _ _ _ _ Iu49 Fu49 Of15_u49 Of34_u49 Of30_u49 Of18_u49 (by omega) (by decide) (by decide) (by omega) (by omega)
              have C41 : (0 : Int) < (0 : Int) := ti_nle c41
              exfalso; omega
            have C40 : (8 : Int) < (s1 101 34).toInt := ti_nle c40
            rw [j_X4_whichKind_53_e]
            refine sf_ite (fun c55 => ?_) (fun c55 => ?_)
            · have C55 : (0 : Int) ≤ (-3 : Int) := ti_le c55
              exfalso; omega
            have C55 : (-3 : Int) < (0 : Int) := ti_nle c55
            refine sf_bnd (s_X4_refuse hF Is1 (by decide) (by decide)) (fun r56 u57 p58 => ?_)
            obtain ⟨Iu57, Fu57_, Of15_u57_, Of34_u57_, Of1_u57_, Of30_u57_, Of18_u57_, p58_1, p58_2, p58_x0⟩ := p58
            have Fu57 : ∀ k, k < 101 → u57 k = τ k := fun k hk => (Fu57_ k hk).trans (Fs1 k hk)
            have Of15_u57 : u57 101 15 = τ 101 15 := Of15_u57_.trans Of15_s1
            have Of34_u57 : u57 101 34 = τ 101 34 := Of34_u57_.trans Of34_s1
            have Of1_u57 : u57 101 1 = τ 101 1 := Of1_u57_.trans Of1_s1
            have Of30_u57 : u57 101 30 = τ 101 30 := Of30_u57_.trans Of30_s1
            have Of18_u57 : u57 101 18 = τ 101 18 := Of18_u57_.trans Of18_s1
            replace p58_x0 : r56.toInt = (-3 : Int) := p58_x0
            exact sf_ret ⟨Iu57, Fu57, Of15_u57, Of34_u57, Of30_u57, Of18_u57, ti_lo _, ti_hi _⟩
          have C36 : ¬ (0 : Int) = (0 : Int) := ti_ne c36
          exfalso; omega
        have C14 : ¬ (0 : Int) = (0 : Int) := ti_ne c14
        exfalso; omega
      have C13 : (999 : Int) < x2.toInt := ti_nle c13
      refine sf_ret ?_
      rw [j_X4_whichKind_25_e]
      refine sf_in ?_
      rw [f_X4_wrongBit_e]
      refine sf_ite (fun c59 => ?_) (fun c59 => ?_)
      · have C59 : (-6 : Int) = (0 : Int) := ti_eq c59
        exfalso; omega
      have C59 : ¬ (-6 : Int) = (0 : Int) := ti_ne c59
      rw [j_X4_wrongBit_20_e]
      refine sf_ret ?_
      refine sf_ite (fun c60 => ?_) (fun c60 => ?_)
      · have C60 : (-6 : Int) = (0 : Int) := ti_eq c60
        exfalso; omega
      have C60 : ¬ (-6 : Int) = (0 : Int) := ti_ne c60
      rw [j_X4_whichKind_51_e]
      rw [j_X4_whichKind_53_e]
      refine sf_ite (fun c61 => ?_) (fun c61 => ?_)
      · have C61 : (0 : Int) ≤ (-6 : Int) := ti_le c61
        exfalso; omega
      have C61 : (-6 : Int) < (0 : Int) := ti_nle c61
      refine sf_bnd (s_X4_refuse hF Is1 (by decide) (by decide)) (fun r62 u63 p64 => ?_)
      obtain ⟨Iu63, Fu63_, Of15_u63_, Of34_u63_, Of1_u63_, Of30_u63_, Of18_u63_, p64_1, p64_2, p64_x0⟩ := p64
      have Fu63 : ∀ k, k < 101 → u63 k = τ k := fun k hk => (Fu63_ k hk).trans (Fs1 k hk)
      have Of15_u63 : u63 101 15 = τ 101 15 := Of15_u63_.trans Of15_s1
      have Of34_u63 : u63 101 34 = τ 101 34 := Of34_u63_.trans Of34_s1
      have Of1_u63 : u63 101 1 = τ 101 1 := Of1_u63_.trans Of1_s1
      have Of30_u63 : u63 101 30 = τ 101 30 := Of30_u63_.trans Of30_s1
      have Of18_u63 : u63 101 18 = τ 101 18 := Of18_u63_.trans Of18_s1
      replace p64_x0 : r62.toInt = (-6 : Int) := p64_x0
      exact sf_ret ⟨Iu63, Fu63, Of15_u63, Of34_u63, Of30_u63, Of18_u63, ti_lo _, ti_hi _⟩
    have C12 : x2.toInt < (0 : Int) := ti_nle c12
    refine sf_ret ?_
    rw [j_X4_whichKind_25_e]
    refine sf_in ?_
    rw [f_X4_wrongBit_e]
    refine sf_ite (fun c65 => ?_) (fun c65 => ?_)
    · have C65 : (-4 : Int) = (0 : Int) := ti_eq c65
      exfalso; omega
    have C65 : ¬ (-4 : Int) = (0 : Int) := ti_ne c65
    rw [j_X4_wrongBit_20_e]
    refine sf_ret ?_
    refine sf_ite (fun c66 => ?_) (fun c66 => ?_)
    · have C66 : (-4 : Int) = (0 : Int) := ti_eq c66
      exfalso; omega
    have C66 : ¬ (-4 : Int) = (0 : Int) := ti_ne c66
    rw [j_X4_whichKind_51_e]
    rw [j_X4_whichKind_53_e]
    refine sf_ite (fun c67 => ?_) (fun c67 => ?_)
    · have C67 : (0 : Int) ≤ (-4 : Int) := ti_le c67
      exfalso; omega
    have C67 : (-4 : Int) < (0 : Int) := ti_nle c67
    refine sf_bnd (s_X4_refuse hF Is1 (by decide) (by decide)) (fun r68 u69 p70 => ?_)
    obtain ⟨Iu69, Fu69_, Of15_u69_, Of34_u69_, Of1_u69_, Of30_u69_, Of18_u69_, p70_1, p70_2, p70_x0⟩ := p70
    have Fu69 : ∀ k, k < 101 → u69 k = τ k := fun k hk => (Fu69_ k hk).trans (Fs1 k hk)
    have Of15_u69 : u69 101 15 = τ 101 15 := Of15_u69_.trans Of15_s1
    have Of34_u69 : u69 101 34 = τ 101 34 := Of34_u69_.trans Of34_s1
    have Of1_u69 : u69 101 1 = τ 101 1 := Of1_u69_.trans Of1_s1
    have Of30_u69 : u69 101 30 = τ 101 30 := Of30_u69_.trans Of30_s1
    have Of18_u69 : u69 101 18 = τ 101 18 := Of18_u69_.trans Of18_s1
    replace p70_x0 : r68.toInt = (-4 : Int) := p70_x0
    exact sf_ret ⟨Iu69, Fu69, Of15_u69, Of34_u69, Of30_u69, Of18_u69, ti_lo _, ti_hi _⟩
  obtain rfl := p6
  refine sf_ite (fun c71 => ?_) (fun c71 => ?_)
  · have C71 : (0 : Int) = (0 : Int) := ti_eq c71
    rw [j_X4_whichKind_25_e]
    refine sf_in ?_
    rw [f_X4_wrongBit_e]
    refine sf_ite (fun c72 => ?_) (fun c72 => ?_)
    · have C72 : (-1 : Int) = (0 : Int) := ti_eq c72
      exfalso; omega
    have C72 : ¬ (-1 : Int) = (0 : Int) := ti_ne c72
    rw [j_X4_wrongBit_20_e]
    refine sf_ret ?_
    refine sf_ite (fun c73 => ?_) (fun c73 => ?_)
    · have C73 : (-1 : Int) = (0 : Int) := ti_eq c73
      exfalso; omega
    have C73 : ¬ (-1 : Int) = (0 : Int) := ti_ne c73
    rw [j_X4_whichKind_51_e]
    rw [j_X4_whichKind_53_e]
    refine sf_ite (fun c74 => ?_) (fun c74 => ?_)
    · have C74 : (0 : Int) ≤ (-1 : Int) := ti_le c74
      exfalso; omega
    have C74 : (-1 : Int) < (0 : Int) := ti_nle c74
    refine sf_bnd (s_X4_refuse hF Is1 (by decide) (by decide)) (fun r75 u76 p77 => ?_)
    obtain ⟨Iu76, Fu76_, Of15_u76_, Of34_u76_, Of1_u76_, Of30_u76_, Of18_u76_, p77_1, p77_2, p77_x0⟩ := p77
    have Fu76 : ∀ k, k < 101 → u76 k = τ k := fun k hk => (Fu76_ k hk).trans (Fs1 k hk)
    have Of15_u76 : u76 101 15 = τ 101 15 := Of15_u76_.trans Of15_s1
    have Of34_u76 : u76 101 34 = τ 101 34 := Of34_u76_.trans Of34_s1
    have Of1_u76 : u76 101 1 = τ 101 1 := Of1_u76_.trans Of1_s1
    have Of30_u76 : u76 101 30 = τ 101 30 := Of30_u76_.trans Of30_s1
    have Of18_u76 : u76 101 18 = τ 101 18 := Of18_u76_.trans Of18_s1
    replace p77_x0 : r75.toInt = (-1 : Int) := p77_x0
    exact sf_ret ⟨Iu76, Fu76, Of15_u76, Of34_u76, Of30_u76, Of18_u76, ti_lo _, ti_hi _⟩
  have C71 : ¬ (0 : Int) = (0 : Int) := ti_ne c71
  exfalso; omega
