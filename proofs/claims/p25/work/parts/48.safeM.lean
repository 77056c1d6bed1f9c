set_option maxHeartbeats 4000000 in
set_option maxRecDepth 100000 in
theorem sl_X4_ill_140 {F : Nat} (hF : 73786976294838206464 ≤ F) {x1 : Int32} {x2 : Int32} {x3 : Int32} {x4 : Int32} {x5 : Int32} {y7 : Int64} {y9 : Int64} {x11 : Int32} {k126 : Int64 → Int32 → Mem → Option (Int64 × Mem)} {τ : Mem} (x1_1 : 0 ≤ x1.toInt) (x1_2 : x1.toInt ≤ 4) (x2_1 : 0 ≤ x2.toInt) (x2_2 : x2.toInt ≤ 7) (x3_1 : 0 ≤ x3.toInt) (x3_2 : x3.toInt ≤ 8) (x4_1 : 2 ≤ x4.toInt) (x4_2 : x4.toInt ≤ 20) (x5_1 : 0 ≤ x5.toInt) (x5_2 : x5.toInt ≤ 1) (x11_1 : 0 ≤ x11.toInt) (x11_2 : x11.toInt ≤ 255) {N126 : Nat} (hM126 : 999 < x11.toInt + (N126 + 1)) (hk126 : ∀ (y7 : Int64) (x11 : Int32) (σ : Mem), wiM σ → (∀ k, k < 101 → σ k = τ k) → σ 101 15 = τ 101 15 → σ 101 34 = τ 101 34 → σ 101 1 = τ 101 1 → σ 101 30 = τ 101 30 → σ 101 18 = τ 101 18 → 999 < x11.toInt + N126 → 0 ≤ x11.toInt → x11.toInt ≤ 999 → sf (k126 y7 x11 σ) (fun r s => wiM s ∧ (∀ k, k < 101 → s k = τ k) ∧ s 101 15 = τ 101 15 ∧ s 101 34 = τ 101 34 ∧ s 101 1 = τ 101 1 ∧ s 101 30 = τ 101 30 ∧ s 101 18 = τ 101 18 ∧ True)) : ∀ (N : Nat) (y12 : Int64) (x14 : Int32) (σ : Mem), wiM σ → (∀ k, k < 101 → σ k = τ k) → σ 101 15 = τ 101 15 → σ 101 34 = τ 101 34 → σ 101 1 = τ 101 1 → σ 101 30 = τ 101 30 → σ 101 18 = τ 101 18 → 8 < x14.toInt + N → 0 ≤ x14.toInt → x14.toInt ≤ 8 → sf (lp_X4_ill_140 F k126 x1 x2 x3 x4 x5 y7 y9 x11 N y12 x14 σ) (fun r s => wiM s ∧ (∀ k, k < 101 → s k = τ k) ∧ s 101 15 = τ 101 15 ∧ s 101 34 = τ 101 34 ∧ s 101 1 = τ 101 1 ∧ s 101 30 = τ 101 30 ∧ s 101 18 = τ 101 18 ∧ True) := by
  intro N
  induction N with
  | zero => intro y12 x14 σ hI Fσ Of15_σ Of34_σ Of1_σ Of30_σ Of18_σ hN x14_1 x14_2; exfalso; omega
  | succ N ih =>
    intro y12 x14 σ hI Fσ Of15_σ Of34_σ Of1_σ Of30_σ Of18_σ hN x14_1 x14_2
    rw [lp_X4_ill_140_s]
    refine sf_ite (fun c1 => ?_) (fun c1 => ?_)
    · have C1 : x3.toInt ≤ x14.toInt := ti_le c1
      refine sf_bnd (s_X4_ownerIn hF hI (by omega) (by omega) (by omega) (by omega)) (fun r2 u3 p4 => ?_)
      obtain ⟨Iu3, Fu3_, Of15_u3_, Of34_u3_, Of1_u3_, Of30_u3_, Of18_u3_, p4_1, p4_2⟩ := p4
      have Fu3 : ∀ k, k < 101 → u3 k = τ k := fun k hk => (Fu3_ k hk).trans (Fσ k hk)
      have Of15_u3 : u3 101 15 = τ 101 15 := Of15_u3_.trans Of15_σ
      have Of34_u3 : u3 101 34 = τ 101 34 := Of34_u3_.trans Of34_σ
      have Of1_u3 : u3 101 1 = τ 101 1 := Of1_u3_.trans Of1_σ
      have Of30_u3 : u3 101 30 = τ 101 30 := Of30_u3_.trans Of30_σ
      have Of18_u3 : u3 101 18 = τ 101 18 := Of18_u3_.trans Of18_σ
      have t5 : ((8 : Int32) * x1).toInt = (8 : Int) * x1.toInt := ti_mul (show -2147483648 ≤ (8 : Int) * x1.toInt by omega) (show (8 : Int) * x1.toInt ≤ 2147483647 by omega)
      have t6 : (((8 : Int32) * x1) + x2).toInt = ((8 : Int32) * x1).toInt + x2.toInt := ti_add (show -2147483648 ≤ ((8 : Int32) * x1).toInt + x2.toInt by omega) (show ((8 : Int32) * x1).toInt + x2.toInt ≤ 2147483647 by omega)
      refine sf_chk (ti_in (by omega) (by omega)) ?_
      have v7 : Int32.toNatClampNeg (((8 : Int32) * x1) + x2) = (((8 : Int32) * x1) + x2).toInt.toNat := rfl
      refine sf_bnd (s_X4_onesOf hF Iu3) (fun r8 u9 p10 => ?_)
      obtain ⟨e9, p10_1, p10_2⟩ := p10
      have e9 := e9.symm
      subst e9
      have b11 := ti_lo (u3 107 (Int32.toNatClampNeg (((8 : Int32) * x1) + x2)))
      have b12 := ti_hi (u3 107 (Int32.toNatClampNeg (((8 : Int32) * x1) + x2)))
      have b13 := ti_lo r8
      have b14 := ti_hi r8
      have b15 := ti_lo (u3 109 (Int32.toNatClampNeg (((8 : Int32) * x1) + x2)))
      have b16 := ti_hi (u3 109 (Int32.toNatClampNeg (((8 : Int32) * x1) + x2)))
      have b17 := ti_lo (r8 * (u3 109 (Int32.toNatClampNeg (((8 : Int32) * x1) + x2))))
      have b18 := ti_hi (r8 * (u3 109 (Int32.toNatClampNeg (((8 : Int32) * x1) + x2))))
      have b19 := ti_lo ((u3 107 (Int32.toNatClampNeg (((8 : Int32) * x1) + x2))) + (r8 * (u3 109 (Int32.toNatClampNeg (((8 : Int32) * x1) + x2)))))
      have b20 := ti_hi ((u3 107 (Int32.toNatClampNeg (((8 : Int32) * x1) + x2))) + (r8 * (u3 109 (Int32.toNatClampNeg (((8 : Int32) * x1) + x2)))))
      refine sf_bnd (s_X4_held hF Iu3) (fun r21 u22 p23 => ?_)
      obtain ⟨e9, p23_1, p23_2⟩ := p23
      have e9 := e9.symm
      subst e9
      refine sf_chk (ti_in (by omega) (by omega)) ?_
      have v24 : Int32.toNatClampNeg x1 = x1.toInt.toNat := rfl
      refine sf_lt (fun s25 hs25 => ?_)
      have Is25 : wiM s25 := by rw [hs25]; exact wm_oth Iu3 (by decide) (by decide) (by decide) (by decide)
      have Fs25 : ∀ k, k < 101 → s25 k = τ k := fun k hk => (show s25 k = u3 k by rw [hs25, up2_k (by omega)]).trans (Fu3 k hk)
      have Of15_s25 : s25 101 15 = τ 101 15 := (show s25 101 15 = u3 101 15 by rw [hs25, up2_k (by omega)]).trans Of15_u3
      have Of34_s25 : s25 101 34 = τ 101 34 := (show s25 101 34 = u3 101 34 by rw [hs25, up2_k (by omega)]).trans Of34_u3
      have Of1_s25 : s25 101 1 = τ 101 1 := (show s25 101 1 = u3 101 1 by rw [hs25, up2_k (by omega)]).trans Of1_u3
      have Of30_s25 : s25 101 30 = τ 101 30 := (show s25 101 30 = u3 101 30 by rw [hs25, up2_k (by omega)]).trans Of30_u3
      have Of18_s25 : s25 101 18 = τ 101 18 := (show s25 101 18 = u3 101 18 by rw [hs25, up2_k (by omega)]).trans Of18_u3
      refine sf_bnd (s_X4_ownerLooked hF Is25) (fun r26 u27 p28 => ?_)
      obtain ⟨e9, p28_1, p28_2⟩ := p28
      have e9 := e9.symm
      subst e9
      refine sf_ite (fun c29 => ?_) (fun c29 => ?_)
      · have C29 : r26.toInt = x1.toInt := ti_eq c29
        rw [j_X4_ill_237_e]
        have t30 : (x11 + (1 : Int32)).toInt = x11.toInt + (1 : Int) := ti_add (show -2147483648 ≤ x11.toInt + (1 : Int) by omega) (show x11.toInt + (1 : Int) ≤ 2147483647 by omega)
        exact hk126 _ _ _ Is25 Fs25 Of15_s25 Of34_s25 Of1_s25 Of30_s25 Of18_s25 (by omega) (by omega) (by omega)
      have C29 : ¬ r26.toInt = x1.toInt := ti_ne c29
      rw [j_X4_ill_237_e]
      have t31 : (x11 + (1 : Int32)).toInt = x11.toInt + (1 : Int) := ti_add (show -2147483648 ≤ x11.toInt + (1 : Int) by omega) (show x11.toInt + (1 : Int) ≤ 2147483647 by omega)
      exact hk126 _ _ _ Is25 Fs25 Of15_s25 Of34_s25 Of1_s25 Of30_s25 Of18_s25 (by omega) (by omega) (by omega)
    have C1 : x14.toInt < x3.toInt := ti_nle c1
    refine sf_bnd (s_X4_hasBit hF hI (by omega) (by omega)) (fun r32 u33 p34 => ?_)
    obtain ⟨e9, p34_1, p34_2⟩ := p34
    have e9 := e9.symm
    subst e9
    have hb_r32 : r32 = 0 ∨ r32 = 1 := wi_bool p34_1 p34_2
    refine sf_ite (fun c35 => ?_) (fun c35 => ?_)
    · have C35 : r32.toInt = (0 : Int) := ti_eq c35
      rw [j_X4_ill_167_e]
      have t36 : (x14 + (1 : Int32)).toInt = x14.toInt + (1 : Int) := ti_add (show -2147483648 ≤ x14.toInt + (1 : Int) by omega) (show x14.toInt + (1 : Int) ≤ 2147483647 by omega)
      exact ih _ _ _ hI Fσ Of15_σ Of34_σ Of1_σ Of30_σ Of18_σ (by omega) (by omega) (by omega)
    have C35 : ¬ r32.toInt = (0 : Int) := ti_ne c35
    rw [j_X4_ill_167_e]
    have t37 : (x14 + (1 : Int32)).toInt = x14.toInt + (1 : Int) := ti_add (show -2147483648 ≤ x14.toInt + (1 : Int) by omega) (show x14.toInt + (1 : Int) ≤ 2147483647 by omega)
    exact ih _ _ _ hI Fσ Of15_σ Of34_σ Of1_σ Of30_σ Of18_σ (by omega) (by omega) (by omega)
set_option maxHeartbeats 4000000 in
set_option maxRecDepth 100000 in
theorem sl_X4_ill_126 {F : Nat} (hF : 73786976294838206464 ≤ F) {x1 : Int32} {x2 : Int32} {x3 : Int32} {x4 : Int32} {x5 : Int32} {y9 : Int64} {τ : Mem} (x1_1 : 0 ≤ x1.toInt) (x1_2 : x1.toInt ≤ 4) (x2_1 : 0 ≤ x2.toInt) (x2_2 : x2.toInt ≤ 7) (x3_1 : 0 ≤ x3.toInt) (x3_2 : x3.toInt ≤ 8) (x4_1 : 2 ≤ x4.toInt) (x4_2 : x4.toInt ≤ 20) (x5_1 : 0 ≤ x5.toInt) (x5_2 : x5.toInt ≤ 1) : ∀ (N : Nat) (y7 : Int64) (x11 : Int32) (σ : Mem), wiM σ → (∀ k, k < 101 → σ k = τ k) → σ 101 15 = τ 101 15 → σ 101 34 = τ 101 34 → σ 101 1 = τ 101 1 → σ 101 30 = τ 101 30 → σ 101 18 = τ 101 18 → 999 < x11.toInt + N → 0 ≤ x11.toInt → x11.toInt ≤ 999 → sf (lp_X4_ill_126 F x1 x2 x3 x4 x5 y9 N y7 x11 σ) (fun r s => wiM s ∧ (∀ k, k < 101 → s k = τ k) ∧ s 101 15 = τ 101 15 ∧ s 101 34 = τ 101 34 ∧ s 101 1 = τ 101 1 ∧ s 101 30 = τ 101 30 ∧ s 101 18 = τ 101 18 ∧ True) := by
  intro N
  induction N with
  | zero => intro y7 x11 σ hI Fσ Of15_σ Of34_σ Of1_σ Of30_σ Of18_σ hN x11_1 x11_2; exfalso; omega
  | succ N ih =>
    intro y7 x11 σ hI Fσ Of15_σ Of34_σ Of1_σ Of30_σ Of18_σ hN x11_1 x11_2
    rw [lp_X4_ill_126_s]
    obtain ⟨w1_1, w1_2⟩ := wi_shl8 x3 (by omega) (by omega)
    refine sf_ite (fun c2 => ?_) (fun c2 => ?_)
    · have C2 : ((1 : Int32) <<< (x3 &&& 31)).toInt ≤ x11.toInt := ti_le c2
      refine sf_bnd (s_X4_partOf hF hI (by omega) (by omega)) (fun r3 u4 p5 => ?_)
      obtain ⟨e9, -⟩ := p5
      have e9 := e9.symm
      subst e9
      exact sf_ret ⟨hI, Fσ, Of15_σ, Of34_σ, Of1_σ, Of30_σ, Of18_σ, trivial⟩
    have C2 : x11.toInt < ((1 : Int32) <<< (x3 &&& 31)).toInt := ti_nle c2
    have l_0 : (0 : Int32).toInt = 0 := rfl
    exact sl_X4_ill_140 hF (by omega) (by omega) (by omega) (by omega) (by omega) (by omega) (by omega) (by omega) (by omega) (by omega) (by omega) (by omega) (by omega) ih _ _ _ _ hI Fσ Of15_σ Of34_σ Of1_σ Of30_σ Of18_σ (by omega) (by decide) (by decide)
set_option maxHeartbeats 4000000 in
set_option maxRecDepth 100000 in
theorem sl_X4_ill_103 {F : Nat} (hF : 73786976294838206464 ≤ F) {x1 : Int32} {x2 : Int32} {x3 : Int32} {x4 : Int32} {x5 : Int32} {y7 : Int64} {τ : Mem} (x1_1 : 0 ≤ x1.toInt) (x1_2 : x1.toInt ≤ 4) (x2_1 : 0 ≤ x2.toInt) (x2_2 : x2.toInt ≤ 7) (x3_1 : 0 ≤ x3.toInt) (x3_2 : x3.toInt ≤ 8) (x4_1 : 2 ≤ x4.toInt) (x4_2 : x4.toInt ≤ 20) (x5_1 : 0 ≤ x5.toInt) (x5_2 : x5.toInt ≤ 1) : ∀ (N : Nat) (y9 : Int64) (x11 : Int32) (σ : Mem), wiM σ → (∀ k, k < 101 → σ k = τ k) → σ 101 15 = τ 101 15 → σ 101 34 = τ 101 34 → σ 101 1 = τ 101 1 → σ 101 30 = τ 101 30 → σ 101 18 = τ 101 18 → 8 < x11.toInt + N → 0 ≤ x11.toInt → x11.toInt ≤ 8 → sf (lp_X4_ill_103 F x1 x2 x3 x4 x5 y7 N y9 x11 σ) (fun r s => wiM s ∧ (∀ k, k < 101 → s k = τ k) ∧ s 101 15 = τ 101 15 ∧ s 101 34 = τ 101 34 ∧ s 101 1 = τ 101 1 ∧ s 101 30 = τ 101 30 ∧ s 101 18 = τ 101 18 ∧ True) := by
  intro N
  induction N with
  | zero => intro y9 x11 σ hI Fσ Of15_σ Of34_σ Of1_σ Of30_σ Of18_σ hN x11_1 x11_2; exfalso; omega
  | succ N ih =>
    intro y9 x11 σ hI Fσ Of15_σ Of34_σ Of1_σ Of30_σ Of18_σ hN x11_1 x11_2
    rw [lp_X4_ill_103_s]
    refine sf_ite (fun c1 => ?_) (fun c1 => ?_)
    · have C1 : x3.toInt ≤ x11.toInt := ti_le c1
      have l_0 : (0 : Int32).toInt = 0 := rfl
      exact sl_X4_ill_126 hF (by omega) (by omega) (by omega) (by omega) (by omega) (by omega) (by omega) (by omega) (by omega) (by omega) _ _ _ _ hI Fσ Of15_σ Of34_σ Of1_σ Of30_σ Of18_σ (by omega) (by decide) (by decide)
    have C1 : x11.toInt < x3.toInt := ti_nle c1
    refine sf_lt (fun z2 hz2 => ?_)
    have t3 : (x11 + (1 : Int32)).toInt = x11.toInt + (1 : Int) := ti_add (show -2147483648 ≤ x11.toInt + (1 : Int) by omega) (show x11.toInt + (1 : Int) ≤ 2147483647 by omega)
    exact ih _ _ _ hI Fσ Of15_σ Of34_σ Of1_σ Of30_σ Of18_σ (by omega) (by omega) (by omega)
set_option maxHeartbeats 4000000 in
set_option maxRecDepth 100000 in
theorem s_X4_ill {F : Nat} (hF : 73786976294838206464 ≤ F) {x1 : Int32} {x2 : Int32} {x3 : Int32} {x4 : Int32} {x5 : Int32} {τ : Mem} (hI : wiM τ) : sf (f_X4_ill F x1 x2 x3 x4 x5 τ) (fun r s => wiM s ∧ (∀ k, k < 101 → s k = τ k) ∧ s 101 15 = τ 101 15 ∧ s 101 34 = τ 101 34 ∧ s 101 1 = τ 101 1 ∧ s 101 30 = τ 101 30 ∧ s 101 18 = τ 101 18 ∧ True) := by
  have Fτ : ∀ k, k < 101 → τ k = τ k := fun _ _ => rfl
  have Of15_τ : τ 101 15 = τ 101 15 := rfl
  have Of34_τ : τ 101 34 = τ 101 34 := rfl
  have Of1_τ : τ 101 1 = τ 101 1 := rfl
  have Of30_τ : τ 101 30 = τ 101 30 := rfl
  have Of18_τ : τ 101 18 = τ 101 18 := rfl
  rw [f_X4_ill_e]
  refine sf_lt (fun s1 hs1 => ?_)
  have Is1 : wiM s1 := by rw [hs1]; exact wm_fld hI (by decide) (by decide) (by decide) (by decide) (by decide) (by decide) (by decide)
  have Fs1 : ∀ k, k < 101 → s1 k = τ k := fun k hk => (show s1 k = τ k by rw [hs1, up2_k (by omega)]).trans (Fτ k hk)
  have Of15_s1 : s1 101 15 = τ 101 15 := (show s1 101 15 = τ 101 15 by rw [hs1, up2_i (by decide)]).trans Of15_τ
  have Of34_s1 : s1 101 34 = τ 101 34 := (show s1 101 34 = τ 101 34 by rw [hs1, up2_i (by decide)]).trans Of34_τ
  have Of1_s1 : s1 101 1 = τ 101 1 := (show s1 101 1 = τ 101 1 by rw [hs1, up2_i (by decide)]).trans Of1_τ
  have Of30_s1 : s1 101 30 = τ 101 30 := (show s1 101 30 = τ 101 30 by rw [hs1, up2_i (by decide)]).trans Of30_τ
  have Of18_s1 : s1 101 18 = τ 101 18 := (show s1 101 18 = τ 101 18 by rw [hs1, up2_i (by decide)]).trans Of18_τ
  have b2 := ti_lo x1
  have b3 := ti_hi x1
  refine sf_bnd (s_X4_isLooker hF Is1) (fun r4 u5 p6 => ?_)
  obtain ⟨e9, p6⟩ := p6
  have e9 := e9.symm
  subst e9
  rcases p6 with ⟨rfl, q7, q8⟩ | p6
  · refine sf_ite (fun c9 => ?_) (fun c9 => ?_)
    · have C9 : (1 : Int) = (0 : Int) := ti_eq c9
      exfalso; omega
    have C9 : ¬ (1 : Int) = (0 : Int) := ti_ne c9
    have b10 := ti_lo x2
    have b11 := ti_hi x2
    refine sf_bnd (s_X4_isView hF Is1) (fun r12 u13 p14 => ?_)
    obtain ⟨e9, p14⟩ := p14
    have e9 := e9.symm
    subst e9
    rcases p14 with ⟨rfl, q15, q16⟩ | p14
    · refine sf_ite (fun c17 => ?_) (fun c17 => ?_)
      · have C17 : (1 : Int) = (0 : Int) := ti_eq c17
        exfalso; omega
      have C17 : ¬ (1 : Int) = (0 : Int) := ti_ne c17
      have b18 := ti_lo x3
      have b19 := ti_hi x3
      refine sf_ite (fun c20 => ?_) (fun c20 => ?_)
      · have C20 : x3.toInt < (0 : Int) := ti_lt c20
        rw [j_X4_ill_39_e]
        rw [j_X4_ill_63_e]
        refine sf_in ?_
        rw [f_X4_wrongBit_e]
        refine sf_ite (fun c21 => ?_) (fun c21 => ?_)
        · have C21 : (-4 : Int) = (0 : Int) := ti_eq c21
          exfalso; omega
        have C21 : ¬ (-4 : Int) = (0 : Int) := ti_ne c21
        rw [j_X4_wrongBit_20_e]
        refine sf_ret ?_
        refine sf_ite (fun c22 => ?_) (fun c22 => ?_)
        · have C22 : (0 : Int) ≤ (-4 : Int) := ti_le c22
          exfalso; omega
        have C22 : (-4 : Int) < (0 : Int) := ti_nle c22
        refine sf_bnd (s_X4_refuse hF Is1 (by decide) (by decide)) (fun r23 u24 p25 => ?_)
        obtain ⟨Iu24, Fu24_, Of15_u24_, Of34_u24_, Of1_u24_, Of30_u24_, Of18_u24_, p25_1, p25_2, p25_x0⟩ := p25
        have Fu24 : ∀ k, k < 101 → u24 k = τ k := fun k hk => (Fu24_ k hk).trans (Fs1 k hk)
        have Of15_u24 : u24 101 15 = τ 101 15 := Of15_u24_.trans Of15_s1
        have Of34_u24 : u24 101 34 = τ 101 34 := Of34_u24_.trans Of34_s1
        have Of1_u24 : u24 101 1 = τ 101 1 := Of1_u24_.trans Of1_s1
        have Of30_u24 : u24 101 30 = τ 101 30 := Of30_u24_.trans Of30_s1
        have Of18_u24 : u24 101 18 = τ 101 18 := Of18_u24_.trans Of18_s1
        replace p25_x0 : r23.toInt = (-4 : Int) := p25_x0
        exact sf_ret ⟨Iu24, Fu24, Of15_u24, Of34_u24, Of1_u24, Of30_u24, Of18_u24, trivial⟩
      have C20 : (0 : Int) ≤ x3.toInt := ti_nlt c20
      have b26 := ti_lo x4
      have b27 := ti_hi x4
      refine sf_ite (fun c28 => ?_) (fun c28 => ?_)
      · have C28 : (2 : Int) ≤ x4.toInt := ti_le c28
        refine sf_ite (fun c29 => ?_) (fun c29 => ?_)
        · have C29 : (8 : Int) < x3.toInt := ti_lt c29
          rw [j_X4_ill_59_e]
          rw [j_X4_ill_63_e]
          refine sf_in ?_
          rw [f_X4_wrongBit_e]
          refine sf_ite (fun c30 => ?_) (fun c30 => ?_)
          · have C30 : (-6 : Int) = (0 : Int) := ti_eq c30
            exfalso; omega
          have C30 : ¬ (-6 : Int) = (0 : Int) := ti_ne c30
          rw [j_X4_wrongBit_20_e]
          refine sf_ret ?_
          refine sf_ite (fun c31 => ?_) (fun c31 => ?_)
          · have C31 : (0 : Int) ≤ (-6 : Int) := ti_le c31
            exfalso; omega
          have C31 : (-6 : Int) < (0 : Int) := ti_nle c31
          refine sf_bnd (s_X4_refuse hF Is1 (by decide) (by decide)) (fun r32 u33 p34 => ?_)
          obtain ⟨Iu33, Fu33_, Of15_u33_, Of34_u33_, Of1_u33_, Of30_u33_, Of18_u33_, p34_1, p34_2, p34_x0⟩ := p34
          have Fu33 : ∀ k, k < 101 → u33 k = τ k := fun k hk => (Fu33_ k hk).trans (Fs1 k hk)
          have Of15_u33 : u33 101 15 = τ 101 15 := Of15_u33_.trans Of15_s1
          have Of34_u33 : u33 101 34 = τ 101 34 := Of34_u33_.trans Of34_s1
          have Of1_u33 : u33 101 1 = τ 101 1 := Of1_u33_.trans Of1_s1
          have Of30_u33 : u33 101 30 = τ 101 30 := Of30_u33_.trans Of30_s1
          have Of18_u33 : u33 101 18 = τ 101 18 := Of18_u33_.trans Of18_s1
          replace p34_x0 : r32.toInt = (-6 : Int) := p34_x0
          exact sf_ret ⟨Iu33, Fu33, Of15_u33, Of34_u33, Of1_u33, Of30_u33, Of18_u33, trivial⟩
        have C29 : x3.toInt ≤ (8 : Int) := ti_nlt c29
        refine sf_ite (fun c35 => ?_) (fun c35 => ?_)
        · have C35 : x4.toInt ≤ (20 : Int) := ti_le c35
          rw [j_X4_ill_63_e]
          refine sf_in ?_
          rw [f_X4_wrongBit_e]
          refine sf_ite (fun c36 => ?_) (fun c36 => ?_)
          · have C36 : (0 : Int) = (0 : Int) := ti_eq c36
            refine sf_in ?_
            rw [f_X4_in_e]
            have b37 := ti_lo x5
            have b38 := ti_hi x5
            have b39 := ti_lo (lg_cmp (Int32.toInt64 x5) (0 : Int64))
            have b40 := ti_hi (lg_cmp (Int32.toInt64 x5) (0 : Int64))
            refine sf_ite (fun c41 => ?_) (fun c41 => ?_)
            · have C41 : (lg_cmp (Int32.toInt64 x5) (0 : Int64)).toInt < (0 : Int) := ti_lt c41
              have L41 : x5.toInt < (0 : Int) := by have q := lg_ltl c41; (repeat (rw [Int32.toInt_toInt64] at q)); exact q
              rw [j_X4_in_17_e]
              refine sf_ret ?_
              refine sf_ite (fun c42 => ?_) (fun c42 => ?_)
              · have C42 : (0 : Int) = (0 : Int) := ti_eq c42
                refine sf_ret ?_
                refine sf_ite (fun c43 => ?_) (fun c43 => ?_)
                · have C43 : (0 : Int) ≤ (-2 : Int) := ti_le c43
                  exfalso; omega
                have C43 : (-2 : Int) < (0 : Int) := ti_nle c43
                refine sf_bnd (s_X4_refuse hF Is1 (by decide) (by decide)) (fun r44 u45 p46 => ?_)
                obtain ⟨Iu45, Fu45_, Of15_u45_, Of34_u45_, Of1_u45_, Of30_u45_, Of18_u45_, p46_1, p46_2, p46_x0⟩ := p46
                have Fu45 : ∀ k, k < 101 → u45 k = τ k := fun k hk => (Fu45_ k hk).trans (Fs1 k hk)
                have Of15_u45 : u45 101 15 = τ 101 15 := Of15_u45_.trans Of15_s1
                have Of34_u45 : u45 101 34 = τ 101 34 := Of34_u45_.trans Of34_s1
                have Of1_u45 : u45 101 1 = τ 101 1 := Of1_u45_.trans Of1_s1
                have Of30_u45 : u45 101 30 = τ 101 30 := Of30_u45_.trans Of30_s1
                have Of18_u45 : u45 101 18 = τ 101 18 := Of18_u45_.trans Of18_s1
                replace p46_x0 : r44.toInt = (-2 : Int) := p46_x0
                exact sf_ret ⟨Iu45, Fu45, Of15_u45, Of34_u45, Of1_u45, Of30_u45, Of18_u45, trivial⟩
              have C42 : ¬ (0 : Int) = (0 : Int) := ti_ne c42
              exfalso; omega
            have C41 : (0 : Int) ≤ (lg_cmp (Int32.toInt64 x5) (0 : Int64)).toInt := ti_nlt c41
            have L41 : (0 : Int) ≤ x5.toInt := by have q := lg_ltln c41; (repeat (rw [Int32.toInt_toInt64] at q)); exact q
            have b47 := ti_lo (lg_cmp (Int32.toInt64 x5) (Int32.toInt64 (1 : Int32)))
            have b48 := ti_hi (lg_cmp (Int32.toInt64 x5) (Int32.toInt64 (1 : Int32)))
            refine sf_ite (fun c49 => ?_) (fun c49 => ?_)
            · have C49 : (0 : Int) < (lg_cmp (Int32.toInt64 x5) (Int32.toInt64 (1 : Int32))).toInt := ti_lt c49
              have L49 : (1 : Int) < x5.toInt := by have q := lg_ltr c49; (repeat (rw [Int32.toInt_toInt64] at q)); exact q
              rw [j_X4_in_17_e]
              refine sf_ret ?_
              refine sf_ite (fun c50 => ?_) (fun c50 => ?_)
              · have C50 : (0 : Int) = (0 : Int) := ti_eq c50
                refine sf_ret ?_
                refine sf_ite (fun c51 => ?_) (fun c51 => ?_)
                · have C51 : (0 : Int) ≤ (-2 : Int) := ti_le c51
                  exfalso; omega
                have C51 : (-2 : Int) < (0 : Int) := ti_nle c51
                refine sf_bnd (s_X4_refuse hF Is1 (by decide) (by decide)) (fun r52 u53 p54 => ?_)
                obtain ⟨Iu53, Fu53_, Of15_u53_, Of34_u53_, Of1_u53_, Of30_u53_, Of18_u53_, p54_1, p54_2, p54_x0⟩ := p54
                have Fu53 : ∀ k, k < 101 → u53 k = τ k := fun k hk => (Fu53_ k hk).trans (Fs1 k hk)
                have Of15_u53 : u53 101 15 = τ 101 15 := Of15_u53_.trans Of15_s1
                have Of34_u53 : u53 101 34 = τ 101 34 := Of34_u53_.trans Of34_s1
                have Of1_u53 : u53 101 1 = τ 101 1 := Of1_u53_.trans Of1_s1
                have Of30_u53 : u53 101 30 = τ 101 30 := Of30_u53_.trans Of30_s1
                have Of18_u53 : u53 101 18 = τ 101 18 := Of18_u53_.trans Of18_s1
                replace p54_x0 : r52.toInt = (-2 : Int) := p54_x0
                exact sf_ret ⟨Iu53, Fu53, Of15_u53, Of34_u53, Of1_u53, Of30_u53, Of18_u53, trivial⟩
              have C50 : ¬ (0 : Int) = (0 : Int) := ti_ne c50
              exfalso; omega
            have C49 : (lg_cmp (Int32.toInt64 x5) (Int32.toInt64 (1 : Int32))).toInt ≤ (0 : Int) := ti_nlt c49
            have L49 : x5.toInt ≤ (1 : Int) := by have q := lg_ltrn c49; (repeat (rw [Int32.toInt_toInt64] at q)); exact q
            refine sf_ret ?_
            refine sf_ite (fun c55 => ?_) (fun c55 => ?_)
            · have C55 : (1 : Int) = (0 : Int) := ti_eq c55
              exfalso; omega
            have C55 : ¬ (1 : Int) = (0 : Int) := ti_ne c55
            rw [j_X4_wrongBit_20_e]
            refine sf_ret ?_
            refine sf_ite (fun c56 => ?_) (fun c56 => ?_)
            · have C56 : (0 : Int) ≤ (0 : Int) := ti_le c56
              refine sf_bnd (s_X4_layBrings hF Is1) (fun r57 u58 p59 => ?_)
              obtain ⟨Iu58, Fu58_, Of15_u58_, Of34_u58_, Of1_u58_, Of30_u58_, Of18_u58_, -⟩ := p59
              have Fu58 : ∀ k, k < 101 → u58 k = τ k := fun k hk => (Fu58_ k hk).trans (Fs1 k hk)
              have Of15_u58 : u58 101 15 = τ 101 15 := Of15_u58_.trans Of15_s1
              have Of34_u58 : u58 101 34 = τ 101 34 := Of34_u58_.trans Of34_s1
              have Of1_u58 : u58 101 1 = τ 101 1 := Of1_u58_.trans Of1_s1
              have Of30_u58 : u58 101 30 = τ 101 30 := Of30_u58_.trans Of30_s1
              have Of18_u58 : u58 101 18 = τ 101 18 := Of18_u58_.trans Of18_s1
              have l_0 : (0 : Int32).toInt = 0 := rfl
              exact sl_X4_ill_103 hF (by omega) (by omega) (by omega) (by omega) (by omega) (by omega) (by omega) (by omega) (by omega) (by omega) _ _ _ _ Iu58 Fu58 Of15_u58 Of34_u58 Of1_u58 Of30_u58 Of18_u58 (by omega) (by decide) (by decide)
            have C56 : (0 : Int) < (0 : Int) := ti_nle c56
            exfalso; omega
          have C36 : ¬ (0 : Int) = (0 : Int) := ti_ne c36
          exfalso; omega
        have C35 : (20 : Int) < x4.toInt := ti_nle c35
        rw [j_X4_ill_59_e]
        rw [j_X4_ill_63_e]
        refine sf_in ?_
        rw [f_X4_wrongBit_e]
        refine sf_ite (fun c60 => ?_) (fun c60 => ?_)
        · have C60 : (-6 : Int) = (0 : Int) := ti_eq c60
          exfalso; omega
        have C60 : ¬ (-6 : Int) = (0 : Int) := ti_ne c60
        rw [j_X4_wrongBit_20_e]
        refine sf_ret ?_
        refine sf_ite (fun c61 => ?_) (fun c61 => ?_)
        · have C61 : (0 : Int) ≤ (-6 : Int) := ti_le c61
          exfalso; omega
        have C61 : (-6 : Int) < (0 : Int) := ti_nle c61
        refine sf_bnd (s_X4_refuse hF Is1 (by decide) (by decide)) (fun r62 u63 p64 => ?_)
        obtain ⟨Iu63, Fu63_, Of15_u63_, Of34_u63_, Of1_u63_, Of30_u63_, Of18_u63_, p64_1, p64_2, p64_x0⟩ := p64
        have Fu63 : ∀ k, k < 101 → u63 k = τ k := fun k hk => (Fu63_ k hk).trans (Fs1 k hk)
        have Of15_u63 : u63 101 15 = τ 101 15 := Of15_u63_.trans Of15_s1
        have Of34_u63 : u63 101 34 = τ 101 34 := Of34_u63_.trans Of34_s1
        have Of1_u63 : u63 101 1 = τ 101 1 := Of1_u63_.trans Of1_s1
        have Of30_u63 : u63 101 30 = τ 101 30 := Of30_u63_.trans Of30_s1
        have Of18_u63 : u63 101 18 = τ 101 18 := Of18_u63_.trans Of18_s1
        replace p64_x0 : r62.toInt = (-6 : Int) := p64_x0
        exact sf_ret ⟨Iu63, Fu63, Of15_u63, Of34_u63, Of1_u63, Of30_u63, Of18_u63, trivial⟩
      have C28 : x4.toInt < (2 : Int) := ti_nle c28
      rw [j_X4_ill_39_e]
      rw [j_X4_ill_63_e]
      refine sf_in ?_
      rw [f_X4_wrongBit_e]
      refine sf_ite (fun c65 => ?_) (fun c65 => ?_)
      · have C65 : (-4 : Int) = (0 : Int) := ti_eq c65
        exfalso; omega
      have C65 : ¬ (-4 : Int) = (0 : Int) := ti_ne c65
      rw [j_X4_wrongBit_20_e]
      refine sf_ret ?_
      refine sf_ite (fun c66 => ?_) (fun c66 => ?_)
      · have C66 : (0 : Int) ≤ (-4 : Int) := ti_le c66
        exfalso; omega
      have C66 : (-4 : Int) < (0 : Int) := ti_nle c66
      refine sf_bnd (s_X4_refuse hF Is1 (by decide) (by decide)) (fun r67 u68 p69 => ?_)
      obtain ⟨Iu68, Fu68_, Of15_u68_, Of34_u68_, Of1_u68_, Of30_u68_, Of18_u68_, p69_1, p69_2, p69_x0⟩ := p69
      have Fu68 : ∀ k, k < 101 → u68 k = τ k := fun k hk => (Fu68_ k hk).trans (Fs1 k hk)
      have Of15_u68 : u68 101 15 = τ 101 15 := Of15_u68_.trans Of15_s1
      have Of34_u68 : u68 101 34 = τ 101 34 := Of34_u68_.trans Of34_s1
      have Of1_u68 : u68 101 1 = τ 101 1 := Of1_u68_.trans Of1_s1
      have Of30_u68 : u68 101 30 = τ 101 30 := Of30_u68_.trans Of30_s1
      have Of18_u68 : u68 101 18 = τ 101 18 := Of18_u68_.trans Of18_s1
      replace p69_x0 : r67.toInt = (-4 : Int) := p69_x0
      exact sf_ret ⟨Iu68, Fu68, Of15_u68, Of34_u68, Of1_u68, Of30_u68, Of18_u68, trivial⟩
    obtain ⟨rfl, q70⟩ := p14
    refine sf_ite (fun c71 => ?_) (fun c71 => ?_)
    · have C71 : (0 : Int) = (0 : Int) := ti_eq c71
      rw [j_X4_ill_23_e]
      rw [j_X4_ill_63_e]
      refine sf_in ?_
      rw [f_X4_wrongBit_e]
      refine sf_ite (fun c72 => ?_) (fun c72 => ?_)
      · have C72 : (-1 : Int) = (0 : Int) := ti_eq c72
        exfalso; omega
      have C72 : ¬ (-1 : Int) = (0 : Int) := ti_ne c72
      rw [j_X4_wrongBit_20_e]
      refine sf_ret ?_
      refine sf_ite (fun c73 => ?_) (fun c73 => ?_)
      · have C73 : (0 : Int) ≤ (-1 : Int) := ti_le c73
        exfalso; omega
      have C73 : (-1 : Int) < (0 : Int) := ti_nle c73
      refine sf_bnd (s_X4_refuse hF Is1 (by decide) (by decide)) (fun r74 u75 p76 => ?_)
      obtain ⟨Iu75, Fu75_, Of15_u75_, Of34_u75_, Of1_u75_, Of30_u75_, Of18_u75_, p76_1, p76_2, p76_x0⟩ := p76
      have Fu75 : ∀ k, k < 101 → u75 k = τ k := fun k hk => (Fu75_ k hk).trans (Fs1 k hk)
      have Of15_u75 : u75 101 15 = τ 101 15 := Of15_u75_.trans Of15_s1
      have Of34_u75 : u75 101 34 = τ 101 34 := Of34_u75_.trans Of34_s1
      have Of1_u75 : u75 101 1 = τ 101 1 := Of1_u75_.trans Of1_s1
      have Of30_u75 : u75 101 30 = τ 101 30 := Of30_u75_.trans Of30_s1
      have Of18_u75 : u75 101 18 = τ 101 18 := Of18_u75_.trans Of18_s1
      replace p76_x0 : r74.toInt = (-1 : Int) := p76_x0
      exact sf_ret ⟨Iu75, Fu75, Of15_u75, Of34_u75, Of1_u75, Of30_u75, Of18_u75, trivial⟩
    have C71 : ¬ (0 : Int) = (0 : Int) := ti_ne c71
    exfalso; omega
  obtain rfl := p6
  refine sf_ite (fun c77 => ?_) (fun c77 => ?_)
  · have C77 : (0 : Int) = (0 : Int) := ti_eq c77
    rw [j_X4_ill_23_e]
    rw [j_X4_ill_63_e]
    refine sf_in ?_
    rw [f_X4_wrongBit_e]
    refine sf_ite (fun c78 => ?_) (fun c78 => ?_)
    · have C78 : (-1 : Int) = (0 : Int) := ti_eq c78
      exfalso; omega
    have C78 : ¬ (-1 : Int) = (0 : Int) := ti_ne c78
    rw [j_X4_wrongBit_20_e]
    refine sf_ret ?_
    refine sf_ite (fun c79 => ?_) (fun c79 => ?_)
    · have C79 : (0 : Int) ≤ (-1 : Int) := ti_le c79
      exfalso; omega
    have C79 : (-1 : Int) < (0 : Int) := ti_nle c79
    refine sf_bnd (s_X4_refuse hF Is1 (by decide) (by decide)) (fun r80 u81 p82 => ?_)
    obtain ⟨Iu81, Fu81_, Of15_u81_, Of34_u81_, Of1_u81_, Of30_u81_, Of18_u81_, p82_1, p82_2, p82_x0⟩ := p82
    have Fu81 : ∀ k, k < 101 → u81 k = τ k := fun k hk => (Fu81_ k hk).trans (Fs1 k hk)
    have Of15_u81 : u81 101 15 = τ 101 15 := Of15_u81_.trans Of15_s1
    have Of34_u81 : u81 101 34 = τ 101 34 := Of34_u81_.trans Of34_s1
    have Of1_u81 : u81 101 1 = τ 101 1 := Of1_u81_.trans Of1_s1
    have Of30_u81 : u81 101 30 = τ 101 30 := Of30_u81_.trans Of30_s1
    have Of18_u81 : u81 101 18 = τ 101 18 := Of18_u81_.trans Of18_s1
    replace p82_x0 : r80.toInt = (-1 : Int) := p82_x0
    exact sf_ret ⟨Iu81, Fu81, Of15_u81, Of34_u81, Of1_u81, Of30_u81, Of18_u81, trivial⟩
  have C77 : ¬ (0 : Int) = (0 : Int) := ti_ne c77
  exfalso; omega
set_option maxHeartbeats 4000000 in
set_option maxRecDepth 100000 in
theorem sl_X4_standing_4 {F : Nat} (hF : 73786976294838206464 ≤ F) {x1 : Int32} {τ : Mem} (hI : wiM τ) (x1_1 : 0 ≤ x1.toInt) (x1_2 : x1.toInt ≤ 23) : ∀ (N : Nat) (x2 : Int32) (x3 : Int32) , 5 < x3.toInt + N → 0 ≤ x3.toInt → x3.toInt ≤ 5 → sf (lp_X4_standing_4 F x1 N x2 x3 τ) (fun r s => s = τ ∧ -2147483648 ≤ r.toInt ∧ r.toInt ≤ 2147483647) := by
  intro N
  induction N with
  | zero => intro x2 x3 hN x3_1 x3_2; exfalso; omega
  | succ N ih =>
    intro x2 x3 hN x3_1 x3_2
    rw [lp_X4_standing_4_s]
    have m1 := wx_X4_3 hI
    refine sf_ite (fun c2 => ?_) (fun c2 => ?_)
    · have C2 : (τ 101 3).toInt ≤ x3.toInt := ti_le c2
      have b3 := ti_lo x2
      have b4 := ti_hi x2
      exact sf_ret ⟨rfl, ti_lo _, ti_hi _⟩
    have C2 : x3.toInt < (τ 101 3).toInt := ti_nle c2
    have t5 : ((24 : Int32) * x3).toInt = (24 : Int) * x3.toInt := ti_mul (show -2147483648 ≤ (24 : Int) * x3.toInt by omega) (show (24 : Int) * x3.toInt ≤ 2147483647 by omega)
    have t6 : (((24 : Int32) * x3) + x1).toInt = ((24 : Int32) * x3).toInt + x1.toInt := ti_add (show -2147483648 ≤ ((24 : Int32) * x3).toInt + x1.toInt by omega) (show ((24 : Int32) * x3).toInt + x1.toInt ≤ 2147483647 by omega)
    refine sf_chk (ti_in (by omega) (by omega)) ?_
    have v7 : Int32.toNatClampNeg (((24 : Int32) * x3) + x1) = (((24 : Int32) * x3) + x1).toInt.toNat := rfl
    have m8 := wx_106 hI (Int32.toNatClampNeg (((24 : Int32) * x3) + x1))
    refine sf_ite (fun c9 => ?_) (fun c9 => ?_)
    · have C9 : (τ 106 (Int32.toNatClampNeg (((24 : Int32) * x3) + x1))).toInt < (0 : Int) := ti_lt c9
      rw [j_X4_standing_32_e]
      have b10 := ti_lo x2
      have b11 := ti_hi x2
      have t12 : (x2 + (0 : Int32)).toInt = x2.toInt + (0 : Int) := ti_add (show -2147483648 ≤ x2.toInt + (0 : Int) by omega) (show x2.toInt + (0 : Int) ≤ 2147483647 by omega)
      have t13 : (x3 + (1 : Int32)).toInt = x3.toInt + (1 : Int) := ti_add (show -2147483648 ≤ x3.toInt + (1 : Int) by omega) (show x3.toInt + (1 : Int) ≤ 2147483647 by omega)
      exact ih _ _ (by omega) (by omega) (by omega)
    have C9 : (0 : Int) ≤ (τ 106 (Int32.toNatClampNeg (((24 : Int32) * x3) + x1))).toInt := ti_nlt c9
    rw [j_X4_standing_32_e]
    have b14 := ti_lo x2
    have b15 := ti_hi x2
    have b16 := ti_lo (x2 + (1 : Int32))
    have b17 := ti_hi (x2 + (1 : Int32))
    have t18 : (x3 + (1 : Int32)).toInt = x3.toInt + (1 : Int) := ti_add (show -2147483648 ≤ x3.toInt + (1 : Int) by omega) (show x3.toInt + (1 : Int) ≤ 2147483647 by omega)
    exact ih _ _ (by omega) (by omega) (by omega)
set_option maxHeartbeats 4000000 in
set_option maxRecDepth 100000 in
theorem s_X4_standing {F : Nat} (hF : 73786976294838206464 ≤ F) {x1 : Int32} {τ : Mem} (hI : wiM τ) (x1_1 : 0 ≤ x1.toInt) (x1_2 : x1.toInt ≤ 23) : sf (f_X4_standing F x1 τ) (fun r s => s = τ ∧ -2147483648 ≤ r.toInt ∧ r.toInt ≤ 2147483647) := by
  rw [f_X4_standing_e]
  have l_0 : (0 : Int32).toInt = 0 := rfl
  exact sl_X4_standing_4 hF hI (by omega) (by omega) _ _ _  (by omega) (by decide) (by decide)
set_option maxHeartbeats 4000000 in
set_option maxRecDepth 100000 in
theorem sl_X4_busy_26 {F : Nat} (hF : 73786976294838206464 ≤ F) {x1 : Int32} {τ : Mem} (x1_1 : 0 ≤ x1.toInt) (x1_2 : x1.toInt ≤ 1) : ∀ (N : Nat) (x2 : Int32) (x3 : Int32) (σ : Mem), wiM σ → (∀ k, k < 101 → σ k = τ k) → σ 101 15 = τ 101 15 → σ 101 34 = τ 101 34 → σ 101 1 = τ 101 1 → σ 101 30 = τ 101 30 → σ 101 18 = τ 101 18 → 24 < x3.toInt + N → 0 ≤ x2.toInt → x2.toInt ≤ 23 → 1 ≤ x3.toInt → x3.toInt ≤ 24 → sf (lp_X4_busy_26 F x1 N x2 x3 σ) (fun r s => wiM s ∧ (∀ k, k < 101 → s k = τ k) ∧ s 101 15 = τ 101 15 ∧ s 101 34 = τ 101 34 ∧ s 101 1 = τ 101 1 ∧ s 101 30 = τ 101 30 ∧ s 101 18 = τ 101 18 ∧ -2147483648 ≤ r.toInt ∧ r.toInt ≤ 2147483647) := by
  intro N
  induction N with
  | zero => intro x2 x3 σ hI Fσ Of15_σ Of34_σ Of1_σ Of30_σ Of18_σ hN x2_1 x2_2 x3_1 x3_2; exfalso; omega
  | succ N ih =>
    intro x2 x3 σ hI Fσ Of15_σ Of34_σ Of1_σ Of30_σ Of18_σ hN x2_1 x2_2 x3_1 x3_2
    rw [lp_X4_busy_26_s]
    refine sf_ite (fun c1 => ?_) (fun c1 => ?_)
    · have C1 : (24 : Int) ≤ x3.toInt := ti_le c1
      refine sf_ite (fun c2 => ?_) (fun c2 => ?_)
      · have C2 : x1.toInt = (0 : Int) := ti_eq c2
        exact sf_ret ⟨hI, Fσ, Of15_σ, Of34_σ, Of1_σ, Of30_σ, Of18_σ, ti_lo _, ti_hi _⟩
      have C2 : ¬ x1.toInt = (0 : Int) := ti_ne c2
      refine sf_bnd (s_X4_standing hF hI (by omega) (by omega)) (fun r3 u4 p5 => ?_)
      obtain ⟨e9, p5_1, p5_2⟩ := p5
      have e9 := e9.symm
      subst e9
      have b6 := ti_lo r3
      have b7 := ti_hi r3
      exact sf_ret ⟨hI, Fσ, Of15_σ, Of34_σ, Of1_σ, Of30_σ, Of18_σ, ti_lo _, ti_hi _⟩
    have C1 : x3.toInt < (24 : Int) := ti_nle c1
    refine sf_bnd (s_X4_standing hF hI (by omega) (by omega)) (fun r8 u9 p10 => ?_)
    obtain ⟨e9, p10_1, p10_2⟩ := p10
    have e9 := e9.symm
    subst e9
    refine sf_bnd (s_X4_standing hF hI (by omega) (by omega)) (fun r11 u12 p13 => ?_)
    obtain ⟨e9, p13_1, p13_2⟩ := p13
    have e9 := e9.symm
    subst e9
    have b14 := ti_lo r8
    have b15 := ti_hi r8
    have b16 := ti_lo r11
    have b17 := ti_hi r11
    refine sf_ite (fun c18 => ?_) (fun c18 => ?_)
    · have C18 : r8.toInt ≤ r11.toInt := ti_le c18
      rw [j_X4_busy_50_e]
      have t19 : (x3 + (1 : Int32)).toInt = x3.toInt + (1 : Int) := ti_add (show -2147483648 ≤ x3.toInt + (1 : Int) by omega) (show x3.toInt + (1 : Int) ≤ 2147483647 by omega)
      exact ih _ _ _ hI Fσ Of15_σ Of34_σ Of1_σ Of30_σ Of18_σ (by omega) (by omega) (by omega) (by omega) (by omega)
    have C18 : r11.toInt < r8.toInt := ti_nle c18
    rw [j_X4_busy_50_e]
    have t20 : (x3 + (1 : Int32)).toInt = x3.toInt + (1 : Int) := ti_add (show -2147483648 ≤ x3.toInt + (1 : Int) by omega) (show x3.toInt + (1 : Int) ≤ 2147483647 by omega)
    exact ih _ _ _ hI Fσ Of15_σ Of34_σ Of1_σ Of30_σ Of18_σ (by omega) (by omega) (by omega) (by omega) (by omega)
set_option maxHeartbeats 4000000 in
set_option maxRecDepth 100000 in
theorem s_X4_busy {F : Nat} (hF : 73786976294838206464 ≤ F) {x1 : Int32} {τ : Mem} (hI : wiM τ) : sf (f_X4_busy F x1 τ) (fun r s => wiM s ∧ (∀ k, k < 101 → s k = τ k) ∧ s 101 15 = τ 101 15 ∧ s 101 34 = τ 101 34 ∧ s 101 1 = τ 101 1 ∧ s 101 30 = τ 101 30 ∧ s 101 18 = τ 101 18 ∧ -2147483648 ≤ r.toInt ∧ r.toInt ≤ 2147483647) := by
  have Fτ : ∀ k, k < 101 → τ k = τ k := fun _ _ => rfl
  have Of15_τ : τ 101 15 = τ 101 15 := rfl
  have Of34_τ : τ 101 34 = τ 101 34 := rfl
  have Of1_τ : τ 101 1 = τ 101 1 := rfl
  have Of30_τ : τ 101 30 = τ 101 30 := rfl
  have Of18_τ : τ 101 18 = τ 101 18 := rfl
  rw [f_X4_busy_e]
  refine sf_lt (fun s1 hs1 => ?_)
  have Is1 : wiM s1 := by rw [hs1]; exact wm_fld hI (by decide) (by decide) (by decide) (by decide) (by decide) (by decide) (by decide)
  have Fs1 : ∀ k, k < 101 → s1 k = τ k := fun k hk => (show s1 k = τ k by rw [hs1, up2_k (by omega)]).trans (Fτ k hk)
  have Of15_s1 : s1 101 15 = τ 101 15 := (show s1 101 15 = τ 101 15 by rw [hs1, up2_i (by decide)]).trans Of15_τ
  have Of34_s1 : s1 101 34 = τ 101 34 := (show s1 101 34 = τ 101 34 by rw [hs1, up2_i (by decide)]).trans Of34_τ
  have Of1_s1 : s1 101 1 = τ 101 1 := (show s1 101 1 = τ 101 1 by rw [hs1, up2_i (by decide)]).trans Of1_τ
  have Of30_s1 : s1 101 30 = τ 101 30 := (show s1 101 30 = τ 101 30 by rw [hs1, up2_i (by decide)]).trans Of30_τ
  have Of18_s1 : s1 101 18 = τ 101 18 := (show s1 101 18 = τ 101 18 by rw [hs1, up2_i (by decide)]).trans Of18_τ
  refine sf_in ?_
  rw [f_X4_in_e]
  have b2 := ti_lo x1
  have b3 := ti_hi x1
  have b4 := ti_lo (lg_cmp (Int32.toInt64 x1) (0 : Int64))
  have b5 := ti_hi (lg_cmp (Int32.toInt64 x1) (0 : Int64))
  refine sf_ite (fun c6 => ?_) (fun c6 => ?_)
  · have C6 : (lg_cmp (Int32.toInt64 x1) (0 : Int64)).toInt < (0 : Int) := ti_lt c6
    have L6 : x1.toInt < (0 : Int) := by have q := lg_ltl c6; (repeat (rw [Int32.toInt_toInt64] at q)); exact q
    rw [j_X4_in_17_e]
    refine sf_ret ?_
    refine sf_ite (fun c7 => ?_) (fun c7 => ?_)
    · have C7 : (0 : Int) = (0 : Int) := ti_eq c7
      refine sf_bnd (s_X4_refuse hF Is1 (by decide) (by decide)) (fun r8 u9 p10 => ?_)
      obtain ⟨Iu9, Fu9_, Of15_u9_, Of34_u9_, Of1_u9_, Of30_u9_, Of18_u9_, p10_1, p10_2, p10_x0⟩ := p10
      have Fu9 : ∀ k, k < 101 → u9 k = τ k := fun k hk => (Fu9_ k hk).trans (Fs1 k hk)
      have Of15_u9 : u9 101 15 = τ 101 15 := Of15_u9_.trans Of15_s1
      have Of34_u9 : u9 101 34 = τ 101 34 := Of34_u9_.trans Of34_s1
      have Of1_u9 : u9 101 1 = τ 101 1 := Of1_u9_.trans Of1_s1
      have Of30_u9 : u9 101 30 = τ 101 30 := Of30_u9_.trans Of30_s1
      have Of18_u9 : u9 101 18 = τ 101 18 := Of18_u9_.trans Of18_s1
      replace p10_x0 : r8.toInt = (-2 : Int) := p10_x0
      exact sf_ret ⟨Iu9, Fu9, Of15_u9, Of34_u9, Of1_u9, Of30_u9, Of18_u9, ti_lo _, ti_hi _⟩
    have C7 : ¬ (0 : Int) = (0 : Int) := ti_ne c7
    exfalso; omega
  have C6 : (0 : Int) ≤ (lg_cmp (Int32.toInt64 x1) (0 : Int64)).toInt := ti_nlt c6
  have L6 : (0 : Int) ≤ x1.toInt := by have q := lg_ltln c6; (repeat (rw [Int32.toInt_toInt64] at q)); exact q
  have b11 := ti_lo (lg_cmp (Int32.toInt64 x1) (1 : Int64))
  have b12 := ti_hi (lg_cmp (Int32.toInt64 x1) (1 : Int64))
  refine sf_ite (fun c13 => ?_) (fun c13 => ?_)
  · have C13 : (0 : Int) < (lg_cmp (Int32.toInt64 x1) (1 : Int64)).toInt := ti_lt c13
    have L13 : (1 : Int) < x1.toInt := by have q := lg_ltr c13; (repeat (rw [Int32.toInt_toInt64] at q)); exact q
    rw [j_X4_in_17_e]
    refine sf_ret ?_
    refine sf_ite (fun c14 => ?_) (fun c14 => ?_)
    · have C14 : (0 : Int) = (0 : Int) := ti_eq c14
      refine sf_bnd (s_X4_refuse hF Is1 (by decide) (by decide)) (fun r15 u16 p17 => ?_)
      obtain ⟨Iu16, Fu16_, Of15_u16_, Of34_u16_, Of1_u16_, Of30_u16_, Of18_u16_, p17_1, p17_2, p17_x0⟩ := p17
      have Fu16 : ∀ k, k < 101 → u16 k = τ k := fun k hk => (Fu16_ k hk).trans (Fs1 k hk)
      have Of15_u16 : u16 101 15 = τ 101 15 := Of15_u16_.trans Of15_s1
      have Of34_u16 : u16 101 34 = τ 101 34 := Of34_u16_.trans Of34_s1
      have Of1_u16 : u16 101 1 = τ 101 1 := Of1_u16_.trans Of1_s1
      have Of30_u16 : u16 101 30 = τ 101 30 := Of30_u16_.trans Of30_s1
      have Of18_u16 : u16 101 18 = τ 101 18 := Of18_u16_.trans Of18_s1
      replace p17_x0 : r15.toInt = (-2 : Int) := p17_x0
      exact sf_ret ⟨Iu16, Fu16, Of15_u16, Of34_u16, Of1_u16, Of30_u16, Of18_u16, ti_lo _, ti_hi _⟩
    have C14 : ¬ (0 : Int) = (0 : Int) := ti_ne c14
    exfalso; omega
  have C13 : (lg_cmp (Int32.toInt64 x1) (1 : Int64)).toInt ≤ (0 : Int) := ti_nlt c13
  have L13 : x1.toInt ≤ (1 : Int) := by have q := lg_ltrn c13; (repeat (rw [Int32.toInt_toInt64] at q)); exact q
  refine sf_ret ?_
  refine sf_ite (fun c18 => ?_) (fun c18 => ?_)
  · have C18 : (1 : Int) = (0 : Int) := ti_eq c18
    exfalso; omega
  have C18 : ¬ (1 : Int) = (0 : Int) := ti_ne c18
  have l_1 : (1 : Int32).toInt = 1 := rfl
  exact sl_X4_busy_26 hF (by omega) (by omega) _ _ _ _ Is1 Fs1 Of15_s1 Of34_s1 Of1_s1 Of30_s1 Of18_s1 (by omega) (by decide) (by decide) (by decide) (by decide)
set_option maxHeartbeats 4000000 in
set_option maxRecDepth 100000 in
theorem sl_X4_together_25 {F : Nat} (hF : 73786976294838206464 ≤ F) {x1 : Int32} {x2 : Int32} {τ : Mem} (x1_1 : 0 ≤ x1.toInt) (x1_2 : x1.toInt ≤ 4) (x2_1 : 0 ≤ x2.toInt) (x2_2 : x2.toInt ≤ 4) : ∀ (N : Nat) (x3 : Int32) (x4 : Int32) (σ : Mem), wiM σ → (∀ k, k < 101 → σ k = τ k) → σ 101 15 = τ 101 15 → σ 101 34 = τ 101 34 → σ 101 1 = τ 101 1 → σ 101 30 = τ 101 30 → σ 101 18 = τ 101 18 → 24 < x4.toInt + N → 0 ≤ x4.toInt → x4.toInt ≤ 24 → sf (lp_X4_together_25 F x1 x2 N x3 x4 σ) (fun r s => wiM s ∧ (∀ k, k < 101 → s k = τ k) ∧ s 101 15 = τ 101 15 ∧ s 101 34 = τ 101 34 ∧ s 101 1 = τ 101 1 ∧ s 101 30 = τ 101 30 ∧ s 101 18 = τ 101 18 ∧ -2147483648 ≤ r.toInt ∧ r.toInt ≤ 2147483647) := by
  intro N
  induction N with
  | zero => intro x3 x4 σ hI Fσ Of15_σ Of34_σ Of1_σ Of30_σ Of18_σ hN x4_1 x4_2; exfalso; omega
  | succ N ih =>
    intro x3 x4 σ hI Fσ Of15_σ Of34_σ Of1_σ Of30_σ Of18_σ hN x4_1 x4_2
    rw [lp_X4_together_25_s]
    refine sf_ite (fun c1 => ?_) (fun c1 => ?_)
    · have C1 : (24 : Int) ≤ x4.toInt := ti_le c1
      have b2 := ti_lo x3
      have b3 := ti_hi x3
      exact sf_ret ⟨hI, Fσ, Of15_σ, Of34_σ, Of1_σ, Of30_σ, Of18_σ, ti_lo _, ti_hi _⟩
    have C1 : x4.toInt < (24 : Int) := ti_nle c1
    have t4 : ((24 : Int32) * x1).toInt = (24 : Int) * x1.toInt := ti_mul (show -2147483648 ≤ (24 : Int) * x1.toInt by omega) (show (24 : Int) * x1.toInt ≤ 2147483647 by omega)
    have t5 : (((24 : Int32) * x1) + x4).toInt = ((24 : Int32) * x1).toInt + x4.toInt := ti_add (show -2147483648 ≤ ((24 : Int32) * x1).toInt + x4.toInt by omega) (show ((24 : Int32) * x1).toInt + x4.toInt ≤ 2147483647 by omega)
    refine sf_chk (ti_in (by omega) (by omega)) ?_
    have v6 : Int32.toNatClampNeg (((24 : Int32) * x1) + x4) = (((24 : Int32) * x1) + x4).toInt.toNat := rfl
    have m8 := wx_106 hI (Int32.toNatClampNeg (((24 : Int32) * x1) + x4))
    refine sf_lt (fun z7 hz7 => ?_)
    have hz7_ : z7.toInt = (σ 106 (Int32.toNatClampNeg (((24 : Int32) * x1) + x4))).toInt := (show z7.toInt = (σ 106 (Int32.toNatClampNeg (((24 : Int32) * x1) + x4))).toInt from congrArg Int32.toInt hz7)
    refine sf_ite (fun c9 => ?_) (fun c9 => ?_)
    · have C9 : z7.toInt < (0 : Int) := ti_lt c9
      rw [j_X4_together_76_e]
      rw [j_X4_together_77_e]
      have b10 := ti_lo (x3 ||| (0 : Int32))
      have b11 := ti_hi (x3 ||| (0 : Int32))
      have t12 : (x4 + (1 : Int32)).toInt = x4.toInt + (1 : Int) := ti_add (show -2147483648 ≤ x4.toInt + (1 : Int) by omega) (show x4.toInt + (1 : Int) ≤ 2147483647 by omega)
      exact ih _ _ _ hI Fσ Of15_σ Of34_σ Of1_σ Of30_σ Of18_σ (by omega) (by omega) (by omega)
    have C9 : (0 : Int) ≤ z7.toInt := ti_nlt c9
    have t13 : ((24 : Int32) * x2).toInt = (24 : Int) * x2.toInt := ti_mul (show -2147483648 ≤ (24 : Int) * x2.toInt by omega) (show (24 : Int) * x2.toInt ≤ 2147483647 by omega)
    have t14 : (((24 : Int32) * x2) + x4).toInt = ((24 : Int32) * x2).toInt + x4.toInt := ti_add (show -2147483648 ≤ ((24 : Int32) * x2).toInt + x4.toInt by omega) (show ((24 : Int32) * x2).toInt + x4.toInt ≤ 2147483647 by omega)
    refine sf_chk (ti_in (by omega) (by omega)) ?_
    have v15 : Int32.toNatClampNeg (((24 : Int32) * x2) + x4) = (((24 : Int32) * x2) + x4).toInt.toNat := rfl
    have m16 := wx_106 hI (Int32.toNatClampNeg (((24 : Int32) * x2) + x4))
    refine sf_ite (fun c17 => ?_) (fun c17 => ?_)
    · have C17 : z7.toInt = (σ 106 (Int32.toNatClampNeg (((24 : Int32) * x2) + x4))).toInt := ti_eq c17
      rw [j_X4_together_77_e]
      have b18 := ti_lo (x3 ||| ((1 : Int32) <<< (x4 &&& 31)))
      have b19 := ti_hi (x3 ||| ((1 : Int32) <<< (x4 &&& 31)))
      have t20 : (x4 + (1 : Int32)).toInt = x4.toInt + (1 : Int) := ti_add (show -2147483648 ≤ x4.toInt + (1 : Int) by omega) (show x4.toInt + (1 : Int) ≤ 2147483647 by omega)
      exact ih _ _ _ hI Fσ Of15_σ Of34_σ Of1_σ Of30_σ Of18_σ (by omega) (by omega) (by omega)
    have C17 : ¬ z7.toInt = (σ 106 (Int32.toNatClampNeg (((24 : Int32) * x2) + x4))).toInt := ti_ne c17
    rw [j_X4_together_76_e]
    rw [j_X4_together_77_e]
    have b21 := ti_lo (x3 ||| (0 : Int32))
    have b22 := ti_hi (x3 ||| (0 : Int32))
    have t23 : (x4 + (1 : Int32)).toInt = x4.toInt + (1 : Int) := ti_add (show -2147483648 ≤ x4.toInt + (1 : Int) by omega) (show x4.toInt + (1 : Int) ≤ 2147483647 by omega)
    exact ih _ _ _ hI Fσ Of15_σ Of34_σ Of1_σ Of30_σ Of18_σ (by omega) (by omega) (by omega)
set_option maxHeartbeats 4000000 in
set_option maxRecDepth 100000 in
theorem s_X4_together {F : Nat} (hF : 73786976294838206464 ≤ F) {x1 : Int32} {x2 : Int32} {τ : Mem} (hI : wiM τ) : sf (f_X4_together F x1 x2 τ) (fun r s => wiM s ∧ (∀ k, k < 101 → s k = τ k) ∧ s 101 15 = τ 101 15 ∧ s 101 34 = τ 101 34 ∧ s 101 1 = τ 101 1 ∧ s 101 30 = τ 101 30 ∧ s 101 18 = τ 101 18 ∧ -2147483648 ≤ r.toInt ∧ r.toInt ≤ 2147483647) := by
  have Fτ : ∀ k, k < 101 → τ k = τ k := fun _ _ => rfl
  have Of15_τ : τ 101 15 = τ 101 15 := rfl
  have Of34_τ : τ 101 34 = τ 101 34 := rfl
  have Of1_τ : τ 101 1 = τ 101 1 := rfl
  have Of30_τ : τ 101 30 = τ 101 30 := rfl
  have Of18_τ : τ 101 18 = τ 101 18 := rfl
  rw [f_X4_together_e]
  refine sf_lt (fun s1 hs1 => ?_)
  have Is1 : wiM s1 := by rw [hs1]; exact wm_fld hI (by decide) (by decide) (by decide) (by decide) (by decide) (by decide) (by decide)
  have Fs1 : ∀ k, k < 101 → s1 k = τ k := fun k hk => (show s1 k = τ k by rw [hs1, up2_k (by omega)]).trans (Fτ k hk)
  have Of15_s1 : s1 101 15 = τ 101 15 := (show s1 101 15 = τ 101 15 by rw [hs1, up2_i (by decide)]).trans Of15_τ
  have Of34_s1 : s1 101 34 = τ 101 34 := (show s1 101 34 = τ 101 34 by rw [hs1, up2_i (by decide)]).trans Of34_τ
  have Of1_s1 : s1 101 1 = τ 101 1 := (show s1 101 1 = τ 101 1 by rw [hs1, up2_i (by decide)]).trans Of1_τ
  have Of30_s1 : s1 101 30 = τ 101 30 := (show s1 101 30 = τ 101 30 by rw [hs1, up2_i (by decide)]).trans Of30_τ
  have Of18_s1 : s1 101 18 = τ 101 18 := (show s1 101 18 = τ 101 18 by rw [hs1, up2_i (by decide)]).trans Of18_τ
  have b2 := ti_lo x1
  have b3 := ti_hi x1
  have b4 := ti_lo x2
  have b5 := ti_hi x2
  refine sf_bnd (s_X4_areTwo hF Is1) (fun r6 u7 p8 => ?_)
  obtain ⟨e9, p8⟩ := p8
  have e9 := e9.symm
  subst e9
  rcases p8 with ⟨rfl, q9, q10, q11, q12⟩ | p8
  · refine sf_ite (fun c13 => ?_) (fun c13 => ?_)
    · have C13 : (1 : Int) = (0 : Int) := ti_eq c13
      exfalso; omega
    have C13 : ¬ (1 : Int) = (0 : Int) := ti_ne c13
    have l_0 : (0 : Int32).toInt = 0 := rfl
    exact sl_X4_together_25 hF (by omega) (by omega) (by omega) (by omega) _ _ _ _ Is1 Fs1 Of15_s1 Of34_s1 Of1_s1 Of30_s1 Of18_s1 (by omega) (by decide) (by decide)
  obtain rfl := p8
  refine sf_ite (fun c14 => ?_) (fun c14 => ?_)
  · have C14 : (0 : Int) = (0 : Int) := ti_eq c14
    refine sf_bnd (s_X4_refuse hF Is1 (by decide) (by decide)) (fun r15 u16 p17 => ?_)
    obtain ⟨Iu16, Fu16_, Of15_u16_, Of34_u16_, Of1_u16_, Of30_u16_, Of18_u16_, p17_1, p17_2, p17_x0⟩ := p17
    have Fu16 : ∀ k, k < 101 → u16 k = τ k := fun k hk => (Fu16_ k hk).trans (Fs1 k hk)
    have Of15_u16 : u16 101 15 = τ 101 15 := Of15_u16_.trans Of15_s1
    have Of34_u16 : u16 101 34 = τ 101 34 := Of34_u16_.trans Of34_s1
    have Of1_u16 : u16 101 1 = τ 101 1 := Of1_u16_.trans Of1_s1
    have Of30_u16 : u16 101 30 = τ 101 30 := Of30_u16_.trans Of30_s1
    have Of18_u16 : u16 101 18 = τ 101 18 := Of18_u16_.trans Of18_s1
    replace p17_x0 : r15.toInt = (-1 : Int) := p17_x0
    exact sf_ret ⟨Iu16, Fu16, Of15_u16, Of34_u16, Of1_u16, Of30_u16, Of18_u16, ti_lo _, ti_hi _⟩
  have C14 : ¬ (0 : Int) = (0 : Int) := ti_ne c14
  exfalso; omega
set_option maxHeartbeats 4000000 in
set_option maxRecDepth 100000 in
theorem sl_X4_swapRosters_2 {F : Nat} (hF : 73786976294838206464 ≤ F) {x1 : Int32} {x2 : Int32} {τ : Mem} (x1_1 : 0 ≤ x1.toInt) (x1_2 : x1.toInt ≤ 4) (x2_1 : 1 ≤ x2.toInt) (x2_2 : x2.toInt ≤ 4) : ∀ (N : Nat) (x3 : Int32) (σ : Mem), wiM σ → (∀ k, k < 101 → σ k = τ k) → σ 101 15 = τ 101 15 → σ 101 34 = τ 101 34 → σ 101 1 = τ 101 1 → σ 101 30 = τ 101 30 → σ 101 18 = τ 101 18 → 24 < x3.toInt + N → 0 ≤ x3.toInt → x3.toInt ≤ 24 → sf (lp_X4_swapRosters_2 F x1 x2 N x3 σ) (fun _ s => wiM s ∧ (∀ k, k < 101 → s k = τ k) ∧ s 101 15 = τ 101 15 ∧ s 101 34 = τ 101 34 ∧ s 101 1 = τ 101 1 ∧ s 101 30 = τ 101 30 ∧ s 101 18 = τ 101 18 ∧ True) := by
  intro N
  induction N with
  | zero => intro x3 σ hI Fσ Of15_σ Of34_σ Of1_σ Of30_σ Of18_σ hN x3_1 x3_2; exfalso; omega
  | succ N ih =>
    intro x3 σ hI Fσ Of15_σ Of34_σ Of1_σ Of30_σ Of18_σ hN x3_1 x3_2
    rw [lp_X4_swapRosters_2_s]
    refine sf_ite (fun c1 => ?_) (fun c1 => ?_)
    · have C1 : (24 : Int) ≤ x3.toInt := ti_le c1
      exact sf_ret ⟨hI, Fσ, Of15_σ, Of34_σ, Of1_σ, Of30_σ, Of18_σ, trivial⟩
    have C1 : x3.toInt < (24 : Int) := ti_nle c1
    have t2 : ((24 : Int32) * x1).toInt = (24 : Int) * x1.toInt := ti_mul (show -2147483648 ≤ (24 : Int) * x1.toInt by omega) (show (24 : Int) * x1.toInt ≤ 2147483647 by omega)
    have t3 : (((24 : Int32) * x1) + x3).toInt = ((24 : Int32) * x1).toInt + x3.toInt := ti_add (show -2147483648 ≤ ((24 : Int32) * x1).toInt + x3.toInt by omega) (show ((24 : Int32) * x1).toInt + x3.toInt ≤ 2147483647 by omega)
    refine sf_chk (ti_in (by omega) (by omega)) ?_
    have v4 : Int32.toNatClampNeg (((24 : Int32) * x1) + x3) = (((24 : Int32) * x1) + x3).toInt.toNat := rfl
    have m6 := wx_106 hI (Int32.toNatClampNeg (((24 : Int32) * x1) + x3))
    refine sf_lt (fun z5 hz5 => ?_)
    have hz5_ : z5.toInt = (σ 106 (Int32.toNatClampNeg (((24 : Int32) * x1) + x3))).toInt := (show z5.toInt = (σ 106 (Int32.toNatClampNeg (((24 : Int32) * x1) + x3))).toInt from congrArg Int32.toInt hz5)
    have t7 : ((24 : Int32) * x2).toInt = (24 : Int) * x2.toInt := ti_mul (show -2147483648 ≤ (24 : Int) * x2.toInt by omega) (show (24 : Int) * x2.toInt ≤ 2147483647 by omega)
    have t8 : (((24 : Int32) * x2) + x3).toInt = ((24 : Int32) * x2).toInt + x3.toInt := ti_add (show -2147483648 ≤ ((24 : Int32) * x2).toInt + x3.toInt by omega) (show ((24 : Int32) * x2).toInt + x3.toInt ≤ 2147483647 by omega)
    refine sf_chk (ti_in (by omega) (by omega)) ?_
    have v9 : Int32.toNatClampNeg (((24 : Int32) * x2) + x3) = (((24 : Int32) * x2) + x3).toInt.toNat := rfl
    refine sf_lt (fun s10 hs10 => ?_)
    have m11 := wx_106 hI (Int32.toNatClampNeg (((24 : Int32) * x2) + x3))
    have Is10 : wiM s10 := by rw [hs10]; exact wx_put_106 hI (by omega) (by omega)
    have Fs10 : ∀ k, k < 101 → s10 k = τ k := fun k hk => (show s10 k = σ k by rw [hs10, up2_k (by omega)]).trans (Fσ k hk)
    have Of15_s10 : s10 101 15 = τ 101 15 := (show s10 101 15 = σ 101 15 by rw [hs10, up2_k (by omega)]).trans Of15_σ
    have Of34_s10 : s10 101 34 = τ 101 34 := (show s10 101 34 = σ 101 34 by rw [hs10, up2_k (by omega)]).trans Of34_σ
    have Of1_s10 : s10 101 1 = τ 101 1 := (show s10 101 1 = σ 101 1 by rw [hs10, up2_k (by omega)]).trans Of1_σ
    have Of30_s10 : s10 101 30 = τ 101 30 := (show s10 101 30 = σ 101 30 by rw [hs10, up2_k (by omega)]).trans Of30_σ
    have Of18_s10 : s10 101 18 = τ 101 18 := (show s10 101 18 = σ 101 18 by rw [hs10, up2_k (by omega)]).trans Of18_σ
    refine sf_lt (fun s12 hs12 => ?_)
    have Is12 : wiM s12 := by rw [hs12]; exact wx_put_106 Is10 (by omega) (by omega)
    have Fs12 : ∀ k, k < 101 → s12 k = τ k := fun k hk => (show s12 k = s10 k by rw [hs12, up2_k (by omega)]).trans (Fs10 k hk)
    have Of15_s12 : s12 101 15 = τ 101 15 := (show s12 101 15 = s10 101 15 by rw [hs12, up2_k (by omega)]).trans Of15_s10
    have Of34_s12 : s12 101 34 = τ 101 34 := (show s12 101 34 = s10 101 34 by rw [hs12, up2_k (by omega)]).trans Of34_s10
    have Of1_s12 : s12 101 1 = τ 101 1 := (show s12 101 1 = s10 101 1 by rw [hs12, up2_k (by omega)]).trans Of1_s10
    have Of30_s12 : s12 101 30 = τ 101 30 := (show s12 101 30 = s10 101 30 by rw [hs12, up2_k (by omega)]).trans Of30_s10
    have Of18_s12 : s12 101 18 = τ 101 18 := (show s12 101 18 = s10 101 18 by rw [hs12, up2_k (by omega)]).trans Of18_s10
    have t13 : (x3 + (1 : Int32)).toInt = x3.toInt + (1 : Int) := ti_add (show -2147483648 ≤ x3.toInt + (1 : Int) by omega) (show x3.toInt + (1 : Int) ≤ 2147483647 by omega)
    exact ih _ _ Is12 Fs12 Of15_s12 Of34_s12 Of1_s12 Of30_s12 Of18_s12 (by omega) (by omega) (by omega)
set_option maxHeartbeats 4000000 in
set_option maxRecDepth 100000 in
theorem s_X4_swapRosters {F : Nat} (hF : 73786976294838206464 ≤ F) {x1 : Int32} {x2 : Int32} {τ : Mem} (hI : wiM τ) (x1_1 : 0 ≤ x1.toInt) (x1_2 : x1.toInt ≤ 4) (x2_1 : 1 ≤ x2.toInt) (x2_2 : x2.toInt ≤ 4) : sf (f_X4_swapRosters F x1 x2 τ) (fun _ s => wiM s ∧ (∀ k, k < 101 → s k = τ k) ∧ s 101 15 = τ 101 15 ∧ s 101 34 = τ 101 34 ∧ s 101 1 = τ 101 1 ∧ s 101 30 = τ 101 30 ∧ s 101 18 = τ 101 18 ∧ True) := by
  have Fτ : ∀ k, k < 101 → τ k = τ k := fun _ _ => rfl
  have Of15_τ : τ 101 15 = τ 101 15 := rfl
  have Of34_τ : τ 101 34 = τ 101 34 := rfl
  have Of1_τ : τ 101 1 = τ 101 1 := rfl
  have Of30_τ : τ 101 30 = τ 101 30 := rfl
  have Of18_τ : τ 101 18 = τ 101 18 := rfl
  rw [f_X4_swapRosters_e]
  have l_0 : (0 : Int32).toInt = 0 := rfl
  exact sl_X4_swapRosters_2 hF (by omega) (by omega) (by omega) (by omega) _ _ _ hI Fτ Of15_τ Of34_τ Of1_τ Of30_τ Of18_τ (by omega) (by decide) (by decide)
set_option maxHeartbeats 4000000 in
set_option maxRecDepth 100000 in
theorem sl_X4_swap_52 {F : Nat} (hF : 73786976294838206464 ≤ F) {x1 : Int32} {x4 : Int32} {k37 : Int32 → Int32 → Int32 → Mem → Option (Int32 × Mem)} {τ : Mem} (x1_1 : 0 ≤ x1.toInt) (x1_2 : x1.toInt ≤ 999) (x4_1 : 0 ≤ x4.toInt) (x4_2 : x4.toInt ≤ 4) {N37 : Nat} (hM37 : 5 < x4.toInt + (N37 + 1)) (hk37 : ∀ (x2 : Int32) (x3 : Int32) (x4 : Int32) (σ : Mem), wiM σ → (∀ k, k < 101 → σ k = τ k) → σ 101 15 = τ 101 15 → σ 101 34 = τ 101 34 → σ 101 1 = τ 101 1 → σ 101 30 = τ 101 30 → σ 101 18 = τ 101 18 → 5 < x4.toInt + N37 → -9 ≤ x2.toInt → x2.toInt ≤ 48 → -1 ≤ x3.toInt → x3.toInt ≤ 2147483647 → 0 ≤ x4.toInt → x4.toInt ≤ 5 → sf (k37 x2 x3 x4 σ) (fun r s => wiM s ∧ (∀ k, k < 101 → s k = τ k) ∧ s 101 15 = τ 101 15 ∧ s 101 34 = τ 101 34 ∧ s 101 1 = τ 101 1 ∧ s 101 30 = τ 101 30 ∧ s 101 18 = τ 101 18 ∧ -2147483648 ≤ r.toInt ∧ r.toInt ≤ 2147483647)) : ∀ (N : Nat) (x2 : Int32) (x3 : Int32) (x5 : Int32) (σ : Mem), wiM σ → (∀ k, k < 101 → σ k = τ k) → σ 101 15 = τ 101 15 → σ 101 34 = τ 101 34 → σ 101 1 = τ 101 1 → σ 101 30 = τ 101 30 → σ 101 18 = τ 101 18 → 5 < x5.toInt + N → -9 ≤ x2.toInt → x2.toInt ≤ 48 → -1 ≤ x3.toInt → x3.toInt ≤ 2147483647 → 1 ≤ x5.toInt → x5.toInt ≤ 5 → sf (lp_X4_swap_52 F k37 x1 x4 N x2 x3 x5 σ) (fun r s => wiM s ∧ (∀ k, k < 101 → s k = τ k) ∧ s 101 15 = τ 101 15 ∧ s 101 34 = τ 101 34 ∧ s 101 1 = τ 101 1 ∧ s 101 30 = τ 101 30 ∧ s 101 18 = τ 101 18 ∧ -2147483648 ≤ r.toInt ∧ r.toInt ≤ 2147483647) := by
  intro N
  induction N with
  | zero => intro x2 x3 x5 σ hI Fσ Of15_σ Of34_σ Of1_σ Of30_σ Of18_σ hN x2_1 x2_2 x3_1 x3_2 x5_1 x5_2; exfalso; omega
  | succ N ih =>
    intro x2 x3 x5 σ hI Fσ Of15_σ Of34_σ Of1_σ Of30_σ Of18_σ hN x2_1 x2_2 x3_1 x3_2 x5_1 x5_2
    rw [lp_X4_swap_52_s]
    have m1 := wx_X4_3 hI
    refine sf_ite (fun c2 => ?_) (fun c2 => ?_)
    · have C2 : (σ 101 3).toInt ≤ x5.toInt := ti_le c2
      have b3 := ti_lo x3
      have b4 := ti_hi x3
      have t5 : (x4 + (1 : Int32)).toInt = x4.toInt + (1 : Int) := ti_add (show -2147483648 ≤ x4.toInt + (1 : Int) by omega) (show x4.toInt + (1 : Int) ≤ 2147483647 by omega)
      exact hk37 _ _ _ _ hI Fσ Of15_σ Of34_σ Of1_σ Of30_σ Of18_σ (by omega) (by omega) (by omega) (by omega) (by omega) (by omega) (by omega)
    have C2 : x5.toInt < (σ 101 3).toInt := ti_nle c2
    refine sf_bnd (s_X4_worthAnew hF hI (by omega) (by omega) (by omega) (by omega)) (fun r6 u7 p8 => ?_)
    obtain ⟨Iu7, Fu7_, Of15_u7_, Of34_u7_, Of1_u7_, Of30_u7_, Of18_u7_, p8_1, p8_2⟩ := p8
    have Fu7 : ∀ k, k < 101 → u7 k = τ k := fun k hk => (Fu7_ k hk).trans (Fσ k hk)
    have Of15_u7 : u7 101 15 = τ 101 15 := Of15_u7_.trans Of15_σ
    have Of34_u7 : u7 101 34 = τ 101 34 := Of34_u7_.trans Of34_σ
    have Of1_u7 : u7 101 1 = τ 101 1 := Of1_u7_.trans Of1_σ
    have Of30_u7 : u7 101 30 = τ 101 30 := Of30_u7_.trans Of30_σ
    have Of18_u7 : u7 101 18 = τ 101 18 := Of18_u7_.trans Of18_σ
    refine sf_bnd (s_X4_worthIn hF Iu7 (by omega) (by omega) (by omega) (by omega)) (fun r9 u10 p11 => ?_)
    obtain ⟨Iu10, Fu10_, Of15_u10_, Of34_u10_, Of1_u10_, Of30_u10_, Of18_u10_, p11_1, p11_2⟩ := p11
    have Fu10 : ∀ k, k < 101 → u10 k = τ k := fun k hk => (Fu10_ k hk).trans (Fu7 k hk)
    have Of15_u10 : u10 101 15 = τ 101 15 := Of15_u10_.trans Of15_u7
    have Of34_u10 : u10 101 34 = τ 101 34 := Of34_u10_.trans Of34_u7
    have Of1_u10 : u10 101 1 = τ 101 1 := Of1_u10_.trans Of1_u7
    have Of30_u10 : u10 101 30 = τ 101 30 := Of30_u10_.trans Of30_u7
    have Of18_u10 : u10 101 18 = τ 101 18 := Of18_u10_.trans Of18_u7
    refine sf_bnd (s_X4_swapRosters hF Iu10 (by omega) (by omega) (by omega) (by omega)) (fun r12 u13 p14 => ?_)
    obtain ⟨Iu13, Fu13_, Of15_u13_, Of34_u13_, Of1_u13_, Of30_u13_, Of18_u13_, -⟩ := p14
    have Fu13 : ∀ k, k < 101 → u13 k = τ k := fun k hk => (Fu13_ k hk).trans (Fu10 k hk)
    have Of15_u13 : u13 101 15 = τ 101 15 := Of15_u13_.trans Of15_u10
    have Of34_u13 : u13 101 34 = τ 101 34 := Of34_u13_.trans Of34_u10
    have Of1_u13 : u13 101 1 = τ 101 1 := Of1_u13_.trans Of1_u10
    have Of30_u13 : u13 101 30 = τ 101 30 := Of30_u13_.trans Of30_u10
    have Of18_u13 : u13 101 18 = τ 101 18 := Of18_u13_.trans Of18_u10
    refine sf_bnd (s_X4_worthAnew hF Iu13 (by omega) (by omega) (by omega) (by omega)) (fun r15 u16 p17 => ?_)
    obtain ⟨Iu16, Fu16_, Of15_u16_, Of34_u16_, Of1_u16_, Of30_u16_, Of18_u16_, p17_1, p17_2⟩ := p17
    have Fu16 : ∀ k, k < 101 → u16 k = τ k := fun k hk => (Fu16_ k hk).trans (Fu13 k hk)
    have Of15_u16 : u16 101 15 = τ 101 15 := Of15_u16_.trans Of15_u13
    have Of34_u16 : u16 101 34 = τ 101 34 := Of34_u16_.trans Of34_u13
    have Of1_u16 : u16 101 1 = τ 101 1 := Of1_u16_.trans Of1_u13
    have Of30_u16 : u16 101 30 = τ 101 30 := Of30_u16_.trans Of30_u13
    have Of18_u16 : u16 101 18 = τ 101 18 := Of18_u16_.trans Of18_u13
    refine sf_bnd (s_X4_worthIn hF Iu16 (by omega) (by omega) (by omega) (by omega)) (fun r18 u19 p20 => ?_)
    obtain ⟨Iu19, Fu19_, Of15_u19_, Of34_u19_, Of1_u19_, Of30_u19_, Of18_u19_, p20_1, p20_2⟩ := p20
    have Fu19 : ∀ k, k < 101 → u19 k = τ k := fun k hk => (Fu19_ k hk).trans (Fu16 k hk)
    have Of15_u19 : u19 101 15 = τ 101 15 := Of15_u19_.trans Of15_u16
    have Of34_u19 : u19 101 34 = τ 101 34 := Of34_u19_.trans Of34_u16
    have Of1_u19 : u19 101 1 = τ 101 1 := Of1_u19_.trans Of1_u16
    have Of30_u19 : u19 101 30 = τ 101 30 := Of30_u19_.trans Of30_u16
    have Of18_u19 : u19 101 18 = τ 101 18 := Of18_u19_.trans Of18_u16
    refine sf_bnd (s_X4_swapRosters hF Iu19 (by omega) (by omega) (by omega) (by omega)) (fun r21 u22 p23 => ?_)
    obtain ⟨Iu22, Fu22_, Of15_u22_, Of34_u22_, Of1_u22_, Of30_u22_, Of18_u22_, -⟩ := p23
    have Fu22 : ∀ k, k < 101 → u22 k = τ k := fun k hk => (Fu22_ k hk).trans (Fu19 k hk)
    have Of15_u22 : u22 101 15 = τ 101 15 := Of15_u22_.trans Of15_u19
    have Of34_u22 : u22 101 34 = τ 101 34 := Of34_u22_.trans Of34_u19
    have Of1_u22 : u22 101 1 = τ 101 1 := Of1_u22_.trans Of1_u19
    have Of30_u22 : u22 101 30 = τ 101 30 := Of30_u22_.trans Of30_u19
    have Of18_u22 : u22 101 18 = τ 101 18 := Of18_u22_.trans Of18_u19
    have b24 := ti_lo r15
    have b25 := ti_hi r15
    have b26 := ti_lo r18
    have b27 := ti_hi r18
    have b28 := ti_lo (r15 + r18)
    have b29 := ti_hi (r15 + r18)
    have b30 := ti_lo r6
    have b31 := ti_hi r6
    have b32 := ti_lo r9
    have b33 := ti_hi r9
    have b34 := ti_lo (r6 + r9)
    have b35 := ti_hi (r6 + r9)
    refine sf_ite (fun c36 => ?_) (fun c36 => ?_)
    · have C36 : (r15 + r18).toInt ≤ (r6 + r9).toInt := ti_le c36
      rw [j_X4_swap_128_e]
      rw [j_X4_swap_129_e]
      refine sf_ite (fun c37 => ?_) (fun c37 => ?_)
      · have C37 : (0 : Int) = (0 : Int) := ti_eq c37
        rw [j_X4_swap_148_e]
        refine sf_ite (fun c38 => ?_) (fun c38 => ?_)
        · have C38 : (0 : Int) = (0 : Int) := ti_eq c38
          rw [j_X4_swap_160_e]
          have b39 := ti_lo x3
          have b40 := ti_hi x3
          have t41 : (x5 + (1 : Int32)).toInt = x5.toInt + (1 : Int) := ti_add (show -2147483648 ≤ x5.toInt + (1 : Int) by omega) (show x5.toInt + (1 : Int) ≤ 2147483647 by omega)
          exact ih _ _ _ _ Iu22 Fu22 Of15_u22 Of34_u22 Of1_u22 Of30_u22 Of18_u22 (by omega) (by omega) (by omega) (by omega) (by omega) (by omega) (by omega)
        have C38 : ¬ (0 : Int) = (0 : Int) := ti_ne c38
        exfalso; omega
      have C37 : ¬ (0 : Int) = (0 : Int) := ti_ne c37
      exfalso; omega
    have C36 : (r6 + r9).toInt < (r15 + r18).toInt := ti_nle c36
    have b42 := ti_lo x3
    have b43 := ti_hi x3
    refine sf_ite (fun c44 => ?_) (fun c44 => ?_)
    · have C44 : (r15 + r18).toInt ≤ x3.toInt := ti_le c44
      rw [j_X4_swap_128_e]
      rw [j_X4_swap_129_e]
      refine sf_ite (fun c45 => ?_) (fun c45 => ?_)
      · have C45 : (0 : Int) = (0 : Int) := ti_eq c45
        rw [j_X4_swap_148_e]
        refine sf_ite (fun c46 => ?_) (fun c46 => ?_)
        · have C46 : (0 : Int) = (0 : Int) := ti_eq c46
          rw [j_X4_swap_160_e]
          have t47 : (x5 + (1 : Int32)).toInt = x5.toInt + (1 : Int) := ti_add (show -2147483648 ≤ x5.toInt + (1 : Int) by omega) (show x5.toInt + (1 : Int) ≤ 2147483647 by omega)
          exact ih _ _ _ _ Iu22 Fu22 Of15_u22 Of34_u22 Of1_u22 Of30_u22 Of18_u22 (by omega) (by omega) (by omega) (by omega) (by omega) (by omega) (by omega)
        have C46 : ¬ (0 : Int) = (0 : Int) := ti_ne c46
        exfalso; omega
      have C45 : ¬ (0 : Int) = (0 : Int) := ti_ne c45
      exfalso; omega
    have C44 : x3.toInt < (r15 + r18).toInt := ti_nle c44
    rw [j_X4_swap_129_e]
    refine sf_ite (fun c48 => ?_) (fun c48 => ?_)
    · have C48 : (1 : Int) = (0 : Int) := ti_eq c48
      exfalso; omega
    have C48 : ¬ (1 : Int) = (0 : Int) := ti_ne c48
    rw [j_X4_swap_148_e]
    refine sf_ite (fun c49 => ?_) (fun c49 => ?_)
    · have C49 : (1 : Int) = (0 : Int) := ti_eq c49
      exfalso; omega
    have C49 : ¬ (1 : Int) = (0 : Int) := ti_ne c49
    rw [j_X4_swap_160_e]
    have t50 : ((10 : Int32) * x4).toInt = (10 : Int) * x4.toInt := ti_mul (show -2147483648 ≤ (10 : Int) * x4.toInt by omega) (show (10 : Int) * x4.toInt ≤ 2147483647 by omega)
    have t51 : (((10 : Int32) * x4) + x5).toInt = ((10 : Int32) * x4).toInt + x5.toInt := ti_add (show -2147483648 ≤ ((10 : Int32) * x4).toInt + x5.toInt by omega) (show ((10 : Int32) * x4).toInt + x5.toInt ≤ 2147483647 by omega)
    have t52 : (x5 + (1 : Int32)).toInt = x5.toInt + (1 : Int) := ti_add (show -2147483648 ≤ x5.toInt + (1 : Int) by omega) (show x5.toInt + (1 : Int) ≤ 2147483647 by omega)
    exact ih _ _ _ _ Iu22 Fu22 Of15_u22 Of34_u22 Of1_u22 Of30_u22 Of18_u22 (by omega) (by omega) (by omega) (by omega) (by omega) (by omega) (by omega)
set_option maxHeartbeats 4000000 in
set_option maxRecDepth 100000 in
theorem sl_X4_swap_37 {F : Nat} (hF : 73786976294838206464 ≤ F) {x1 : Int32} {τ : Mem} (x1_1 : 0 ≤ x1.toInt) (x1_2 : x1.toInt ≤ 999) : ∀ (N : Nat) (x2 : Int32) (x3 : Int32) (x4 : Int32) (σ : Mem), wiM σ → (∀ k, k < 101 → σ k = τ k) → σ 101 15 = τ 101 15 → σ 101 34 = τ 101 34 → σ 101 1 = τ 101 1 → σ 101 30 = τ 101 30 → σ 101 18 = τ 101 18 → 5 < x4.toInt + N → -9 ≤ x2.toInt → x2.toInt ≤ 48 → -1 ≤ x3.toInt → x3.toInt ≤ 2147483647 → 0 ≤ x4.toInt → x4.toInt ≤ 5 → sf (lp_X4_swap_37 F x1 N x2 x3 x4 σ) (fun r s => wiM s ∧ (∀ k, k < 101 → s k = τ k) ∧ s 101 15 = τ 101 15 ∧ s 101 34 = τ 101 34 ∧ s 101 1 = τ 101 1 ∧ s 101 30 = τ 101 30 ∧ s 101 18 = τ 101 18 ∧ -2147483648 ≤ r.toInt ∧ r.toInt ≤ 2147483647) := by
  intro N
  induction N with
  | zero => intro x2 x3 x4 σ hI Fσ Of15_σ Of34_σ Of1_σ Of30_σ Of18_σ hN x2_1 x2_2 x3_1 x3_2 x4_1 x4_2; exfalso; omega
  | succ N ih =>
    intro x2 x3 x4 σ hI Fσ Of15_σ Of34_σ Of1_σ Of30_σ Of18_σ hN x2_1 x2_2 x3_1 x3_2 x4_1 x4_2
    rw [lp_X4_swap_37_s]
    have m1 := wx_X4_3 hI
    refine sf_ite (fun c2 => ?_) (fun c2 => ?_)
    · have C2 : (σ 101 3).toInt ≤ x4.toInt := ti_le c2
      exact sf_ret ⟨hI, Fσ, Of15_σ, Of34_σ, Of1_σ, Of30_σ, Of18_σ, ti_lo _, ti_hi _⟩
    have C2 : x4.toInt < (σ 101 3).toInt := ti_nle c2
    have b3 := ti_lo x3
    have b4 := ti_hi x3
    have t5 : (x4 + (1 : Int32)).toInt = x4.toInt + (1 : Int) := ti_add (show -2147483648 ≤ x4.toInt + (1 : Int) by omega) (show x4.toInt + (1 : Int) ≤ 2147483647 by omega)
    exact sl_X4_swap_52 hF (by omega) (by omega) (by omega) (by omega) (by omega) ih _ _ _ _ _ hI Fσ Of15_σ Of34_σ Of1_σ Of30_σ Of18_σ (by omega) (by omega) (by omega) (by omega) (by omega) (by omega) (by omega)
set_option maxHeartbeats 4000000 in
set_option maxRecDepth 100000 in
theorem s_X4_swap {F : Nat} (hF : 73786976294838206464 ≤ F) {x1 : Int32} {τ : Mem} (hI : wiM τ) : sf (f_X4_swap F x1 τ) (fun r s => wiM s ∧ (∀ k, k < 101 → s k = τ k) ∧ s 101 15 = τ 101 15 ∧ s 101 34 = τ 101 34 ∧ s 101 1 = τ 101 1 ∧ s 101 30 = τ 101 30 ∧ s 101 18 = τ 101 18 ∧ -2147483648 ≤ r.toInt ∧ r.toInt ≤ 2147483647) := by
  have Fτ : ∀ k, k < 101 → τ k = τ k := fun _ _ => rfl
  have Of15_τ : τ 101 15 = τ 101 15 := rfl
  have Of34_τ : τ 101 34 = τ 101 34 := rfl
  have Of1_τ : τ 101 1 = τ 101 1 := rfl
  have Of30_τ : τ 101 30 = τ 101 30 := rfl
  have Of18_τ : τ 101 18 = τ 101 18 := rfl
  rw [f_X4_swap_e]
  refine sf_lt (fun s1 hs1 => ?_)
  have Is1 : wiM s1 := by rw [hs1]; exact wm_fld hI (by decide) (by decide) (by decide) (by decide) (by decide) (by decide) (by decide)
  have Fs1 : ∀ k, k < 101 → s1 k = τ k := fun k hk => (show s1 k = τ k by rw [hs1, up2_k (by omega)]).trans (Fτ k hk)
  have Of15_s1 : s1 101 15 = τ 101 15 := (show s1 101 15 = τ 101 15 by rw [hs1, up2_i (by decide)]).trans Of15_τ
  have Of34_s1 : s1 101 34 = τ 101 34 := (show s1 101 34 = τ 101 34 by rw [hs1, up2_i (by decide)]).trans Of34_τ
  have Of1_s1 : s1 101 1 = τ 101 1 := (show s1 101 1 = τ 101 1 by rw [hs1, up2_i (by decide)]).trans Of1_τ
  have Of30_s1 : s1 101 30 = τ 101 30 := (show s1 101 30 = τ 101 30 by rw [hs1, up2_i (by decide)]).trans Of30_τ
  have Of18_s1 : s1 101 18 = τ 101 18 := (show s1 101 18 = τ 101 18 by rw [hs1, up2_i (by decide)]).trans Of18_τ
  refine sf_in ?_
  rw [f_X4_wrongNumber_e]
  have b2 := ti_lo x1
  have b3 := ti_hi x1
  refine sf_ite (fun c4 => ?_) (fun c4 => ?_)
  · have C4 : (0 : Int) ≤ x1.toInt := ti_le c4
    refine sf_ite (fun c5 => ?_) (fun c5 => ?_)
    · have C5 : x1.toInt ≤ (999 : Int) := ti_le c5
      refine sf_ret ?_
      refine sf_ite (fun c6 => ?_) (fun c6 => ?_)
      · have C6 : (0 : Int) ≤ (0 : Int) := ti_le c6
        have l_0 : (0 : Int32).toInt = 0 := rfl
        exact sl_X4_swap_37 hF (by omega) (by omega) _ _ _ _ _ Is1 Fs1 Of15_s1 Of34_s1 Of1_s1 Of30_s1 Of18_s1 (by omega) (by decide) (by decide) (by decide) (by decide) (by decide) (by decide)
      have C6 : (0 : Int) < (0 : Int) := ti_nle c6
      exfalso; omega
    have C5 : (999 : Int) < x1.toInt := ti_nle c5
    refine sf_ret ?_
    refine sf_ite (fun c7 => ?_) (fun c7 => ?_)
    · have C7 : (0 : Int) ≤ (-6 : Int) := ti_le c7
      exfalso; omega
    have C7 : (-6 : Int) < (0 : Int) := ti_nle c7
    refine sf_in ?_
    rw [f_X4_wrongNumber_e]
    refine sf_ite (fun c8 => ?_) (fun c8 => ?_)
    · have C8 : (0 : Int) ≤ x1.toInt := ti_le c8
      refine sf_ite (fun c9 => ?_) (fun c9 => ?_)
      · have C9 : x1.toInt ≤ (999 : Int) := ti_le c9
        exfalso; omega
      have C9 : (999 : Int) < x1.toInt := ti_nle c9
      refine sf_ret ?_
      refine sf_bnd (s_X4_refuse hF Is1 (by decide) (by decide)) (fun r10 u11 p12 => ?_)
      obtain ⟨Iu11, Fu11_, Of15_u11_, Of34_u11_, Of1_u11_, Of30_u11_, Of18_u11_, p12_1, p12_2, p12_x0⟩ := p12
      have Fu11 : ∀ k, k < 101 → u11 k = τ k := fun k hk => (Fu11_ k hk).trans (Fs1 k hk)
      have Of15_u11 : u11 101 15 = τ 101 15 := Of15_u11_.trans Of15_s1
      have Of34_u11 : u11 101 34 = τ 101 34 := Of34_u11_.trans Of34_s1
      have Of1_u11 : u11 101 1 = τ 101 1 := Of1_u11_.trans Of1_s1
      have Of30_u11 : u11 101 30 = τ 101 30 := Of30_u11_.trans Of30_s1
      have Of18_u11 : u11 101 18 = τ 101 18 := Of18_u11_.trans Of18_s1
      replace p12_x0 : r10.toInt = (-6 : Int) := p12_x0
      exact sf_ret ⟨Iu11, Fu11, Of15_u11, Of34_u11, Of1_u11, Of30_u11, Of18_u11, ti_lo _, ti_hi _⟩
    have C8 : x1.toInt < (0 : Int) := ti_nle c8
    exfalso; omega
  have C4 : x1.toInt < (0 : Int) := ti_nle c4
  refine sf_ret ?_
  refine sf_ite (fun c13 => ?_) (fun c13 => ?_)
  · have C13 : (0 : Int) ≤ (-4 : Int) := ti_le c13
    exfalso; omega
  have C13 : (-4 : Int) < (0 : Int) := ti_nle c13
  refine sf_in ?_
  rw [f_X4_wrongNumber_e]
  refine sf_ite (fun c14 => ?_) (fun c14 => ?_)
  · have C14 : (0 : Int) ≤ x1.toInt := ti_le c14
    exfalso; omega
  have C14 : x1.toInt < (0 : Int) := ti_nle c14
  refine sf_ret ?_
  refine sf_bnd (s_X4_refuse hF Is1 (by decide) (by decide)) (fun r15 u16 p17 => ?_)
  obtain ⟨Iu16, Fu16_, Of15_u16_, Of34_u16_, Of1_u16_, Of30_u16_, Of18_u16_, p17_1, p17_2, p17_x0⟩ := p17
  have Fu16 : ∀ k, k < 101 → u16 k = τ k := fun k hk => (Fu16_ k hk).trans (Fs1 k hk)
  have Of15_u16 : u16 101 15 = τ 101 15 := Of15_u16_.trans Of15_s1
  have Of34_u16 : u16 101 34 = τ 101 34 := Of34_u16_.trans Of34_s1
  have Of1_u16 : u16 101 1 = τ 101 1 := Of1_u16_.trans Of1_s1
  have Of30_u16 : u16 101 30 = τ 101 30 := Of30_u16_.trans Of30_s1
  have Of18_u16 : u16 101 18 = τ 101 18 := Of18_u16_.trans Of18_s1
  replace p17_x0 : r15.toInt = (-4 : Int) := p17_x0
  exact sf_ret ⟨Iu16, Fu16, Of15_u16, Of34_u16, Of1_u16, Of30_u16, Of18_u16, ti_lo _, ti_hi _⟩
set_option maxHeartbeats 4000000 in
set_option maxRecDepth 100000 in
theorem sl_X4_heir_63 {F : Nat} (hF : 73786976294838206464 ≤ F) {x1 : Int32} {x2 : Int32} {x3 : Int32} {τ : Mem} (x1_1 : 0 ≤ x1.toInt) (x1_2 : x1.toInt ≤ 4) (x2_1 : 0 ≤ x2.toInt) (x2_2 : x2.toInt ≤ 7) (x3_1 : 0 ≤ x3.toInt) (x3_2 : x3.toInt ≤ 999) : ∀ (N : Nat) (x5 : Int32) (σ : Mem), wiM σ → (∀ k, k < 101 → σ k = τ k) → σ 101 15 = τ 101 15 → σ 101 34 = τ 101 34 → σ 101 30 = τ 101 30 → σ 101 18 = τ 101 18 → 8 < x5.toInt + N → 0 ≤ x5.toInt → x5.toInt ≤ 8 → sf (lp_X4_heir_63 F x1 x2 x3 N x5 σ) (fun r s => wiM s ∧ (∀ k, k < 101 → s k = τ k) ∧ s 101 15 = τ 101 15 ∧ s 101 34 = τ 101 34 ∧ s 101 30 = τ 101 30 ∧ s 101 18 = τ 101 18 ∧ -2147483648 ≤ r.toInt ∧ r.toInt ≤ 2147483647) := by
  intro N
  induction N with
  | zero => intro x5 σ hI Fσ Of15_σ Of34_σ Of30_σ Of18_σ hN x5_1 x5_2; exfalso; omega
  | succ N ih =>
    intro x5 σ hI Fσ Of15_σ Of34_σ Of30_σ Of18_σ hN x5_1 x5_2
    rw [lp_X4_heir_63_s]
    refine sf_ite (fun c1 => ?_) (fun c1 => ?_)
    · have C1 : (8 : Int) ≤ x5.toInt := ti_le c1
      refine sf_bnd (s_X4_layBrings hF hI) (fun r2 u3 p4 => ?_)
      obtain ⟨Iu3, Fu3_, Of15_u3_, Of34_u3_, Of1_u3_, Of30_u3_, Of18_u3_, -⟩ := p4
      have Fu3 : ∀ k, k < 101 → u3 k = τ k := fun k hk => (Fu3_ k hk).trans (Fσ k hk)
      have Of15_u3 : u3 101 15 = τ 101 15 := Of15_u3_.trans Of15_σ
      have Of34_u3 : u3 101 34 = τ 101 34 := Of34_u3_.trans Of34_σ
      have Of30_u3 : u3 101 30 = τ 101 30 := Of30_u3_.trans Of30_σ
      have Of18_u3 : u3 101 18 = τ 101 18 := Of18_u3_.trans Of18_σ
      refine sf_bnd (s_X4_ownerIn hF Iu3 (by omega) (by omega) (by omega) (by omega)) (fun r5 u6 p7 => ?_)
      obtain ⟨Iu6, Fu6_, Of15_u6_, Of34_u6_, Of1_u6_, Of30_u6_, Of18_u6_, p7_1, p7_2⟩ := p7
      have Fu6 : ∀ k, k < 101 → u6 k = τ k := fun k hk => (Fu6_ k hk).trans (Fu3 k hk)
      have Of15_u6 : u6 101 15 = τ 101 15 := Of15_u6_.trans Of15_u3
      have Of34_u6 : u6 101 34 = τ 101 34 := Of34_u6_.trans Of34_u3
      have Of30_u6 : u6 101 30 = τ 101 30 := Of30_u6_.trans Of30_u3
      have Of18_u6 : u6 101 18 = τ 101 18 := Of18_u6_.trans Of18_u3
      refine sf_bnd (s_X4_again hF Iu6) (fun r8 u9 p10 => ?_)
      obtain ⟨Iu9, Fu9_, Of15_u9_, Of34_u9_, Of30_u9_, Of18_u9_, -⟩ := p10
      have Fu9 : ∀ k, k < 101 → u9 k = τ k := fun k hk => (Fu9_ k hk).trans (Fu6 k hk)
      have Of15_u9 : u9 101 15 = τ 101 15 := Of15_u9_.trans Of15_u6
      have Of34_u9 : u9 101 34 = τ 101 34 := Of34_u9_.trans Of34_u6
      have Of30_u9 : u9 101 30 = τ 101 30 := Of30_u9_.trans Of30_u6
      have Of18_u9 : u9 101 18 = τ 101 18 := Of18_u9_.trans Of18_u6
      exact sf_ret ⟨Iu9, Fu9, Of15_u9, Of34_u9, Of30_u9, Of18_u9, ti_lo _, ti_hi _⟩
    have C1 : x5.toInt < (8 : Int) := ti_nle c1
    have t11 : ((8 : Int32) * x1).toInt = (8 : Int) * x1.toInt := ti_mul (show -2147483648 ≤ (8 : Int) * x1.toInt by omega) (show (8 : Int) * x1.toInt ≤ 2147483647 by omega)
    have t12 : (((8 : Int32) * x1) + x5).toInt = ((8 : Int32) * x1).toInt + x5.toInt := ti_add (show -2147483648 ≤ ((8 : Int32) * x1).toInt + x5.toInt by omega) (show ((8 : Int32) * x1).toInt + x5.toInt ≤ 2147483647 by omega)
    refine sf_chk (ti_in (by omega) (by omega)) ?_
    have v13 : Int32.toNatClampNeg (((8 : Int32) * x1) + x5) = (((8 : Int32) * x1) + x5).toInt.toNat := rfl
    refine sf_lt (fun s14 hs14 => ?_)
    have Is14 : wiM s14 := by rw [hs14]; exact wm_oth hI (by decide) (by decide) (by decide) (by decide)
    have Fs14 : ∀ k, k < 101 → s14 k = τ k := fun k hk => (show s14 k = σ k by rw [hs14, up2_k (by omega)]).trans (Fσ k hk)
    have Of15_s14 : s14 101 15 = τ 101 15 := (show s14 101 15 = σ 101 15 by rw [hs14, up2_k (by omega)]).trans Of15_σ
    have Of34_s14 : s14 101 34 = τ 101 34 := (show s14 101 34 = σ 101 34 by rw [hs14, up2_k (by omega)]).trans Of34_σ
    have Of30_s14 : s14 101 30 = τ 101 30 := (show s14 101 30 = σ 101 30 by rw [hs14, up2_k (by omega)]).trans Of30_σ
    have Of18_s14 : s14 101 18 = τ 101 18 := (show s14 101 18 = σ 101 18 by rw [hs14, up2_k (by omega)]).trans Of18_σ
    have t15 : (x5 + (1 : Int32)).toInt = x5.toInt + (1 : Int) := ti_add (show -2147483648 ≤ x5.toInt + (1 : Int) by omega) (show x5.toInt + (1 : Int) ≤ 2147483647 by omega)
    exact ih _ _ Is14 Fs14 Of15_s14 Of34_s14 Of30_s14 Of18_s14 (by omega) (by omega) (by omega)
set_option maxHeartbeats 4000000 in
set_option maxRecDepth 100000 in
theorem s_X4_heir {F : Nat} (hF : 73786976294838206464 ≤ F) {x1 : Int32} {x2 : Int32} {x3 : Int32} {τ : Mem} (hI : wiM τ) : sf (f_X4_heir F x1 x2 x3 τ) (fun r s => wiM s ∧ (∀ k, k < 101 → s k = τ k) ∧ s 101 15 = τ 101 15 ∧ s 101 34 = τ 101 34 ∧ s 101 30 = τ 101 30 ∧ s 101 18 = τ 101 18 ∧ -2147483648 ≤ r.toInt ∧ r.toInt ≤ 2147483647) := by
  have Fτ : ∀ k, k < 101 → τ k = τ k := fun _ _ => rfl
  have Of15_τ : τ 101 15 = τ 101 15 := rfl
  have Of34_τ : τ 101 34 = τ 101 34 := rfl
  have Of1_τ : τ 101 1 = τ 101 1 := rfl
  have Of30_τ : τ 101 30 = τ 101 30 := rfl
  have Of18_τ : τ 101 18 = τ 101 18 := rfl
  rw [f_X4_heir_e]
  refine sf_lt (fun s1 hs1 => ?_)
  have Is1 : wiM s1 := by rw [hs1]; exact wm_fld hI (by decide) (by decide) (by decide) (by decide) (by decide) (by decide) (by decide)
  have Fs1 : ∀ k, k < 101 → s1 k = τ k := fun k hk => (show s1 k = τ k by rw [hs1, up2_k (by omega)]).trans (Fτ k hk)
  have Of15_s1 : s1 101 15 = τ 101 15 := (show s1 101 15 = τ 101 15 by rw [hs1, up2_i (by decide)]).trans Of15_τ
  have Of34_s1 : s1 101 34 = τ 101 34 := (show s1 101 34 = τ 101 34 by rw [hs1, up2_i (by decide)]).trans Of34_τ
  have Of1_s1 : s1 101 1 = τ 101 1 := (show s1 101 1 = τ 101 1 by rw [hs1, up2_i (by decide)]).trans Of1_τ
  have Of30_s1 : s1 101 30 = τ 101 30 := (show s1 101 30 = τ 101 30 by rw [hs1, up2_i (by decide)]).trans Of30_τ
  have Of18_s1 : s1 101 18 = τ 101 18 := (show s1 101 18 = τ 101 18 by rw [hs1, up2_i (by decide)]).trans Of18_τ
  have b2 := ti_lo x1
  have b3 := ti_hi x1
  refine sf_bnd (s_X4_isLooker hF Is1) (fun r4 u5 p6 => ?_)
  obtain ⟨e9, p6⟩ := p6
  have e9 := e9.symm
  subst e9
  rcases p6 with ⟨rfl, q7, q8⟩ | p6
  · refine sf_ite (fun c9 => ?_) (fun c9 => ?_)
    · have C9 : (1 : Int) = (0 : Int) := ti_eq c9
      exfalso; omega
    have C9 : ¬ (1 : Int) = (0 : Int) := ti_ne c9
    have b10 := ti_lo x2
    have b11 := ti_hi x2
    refine sf_bnd (s_X4_isView hF Is1) (fun r12 u13 p14 => ?_)
    obtain ⟨e9, p14⟩ := p14
    have e9 := e9.symm
    subst e9
    rcases p14 with ⟨rfl, q15, q16⟩ | p14
    · refine sf_ite (fun c17 => ?_) (fun c17 => ?_)
      · have C17 : (1 : Int) = (0 : Int) := ti_eq c17
        exfalso; omega
      have C17 : ¬ (1 : Int) = (0 : Int) := ti_ne c17
      refine sf_in ?_
      rw [f_X4_wrongNumber_e]
      have b18 := ti_lo x3
      have b19 := ti_hi x3
      refine sf_ite (fun c20 => ?_) (fun c20 => ?_)
      · have C20 : (0 : Int) ≤ x3.toInt := ti_le c20
        refine sf_ite (fun c21 => ?_) (fun c21 => ?_)
        · have C21 : x3.toInt ≤ (999 : Int) := ti_le c21
          refine sf_ret ?_
          rw [j_X4_heir_32_e]
          refine sf_ite (fun c22 => ?_) (fun c22 => ?_)
          · have C22 : (0 : Int) ≤ (0 : Int) := ti_le c22
            have m23 := wx_X4_1 Is1
            have m24 := wx_X4_1 hI
            have e25 : (s1 101 1).toInt = (τ 101 1).toInt := congrArg Int32.toInt (by rw [hs1, up2_i (by decide)])
            have m26 := wx_X4_3 Is1
            have m27 := wx_X4_3 hI
            have e28 : (s1 101 3).toInt = (τ 101 3).toInt := congrArg Int32.toInt (by rw [hs1, up2_i (by decide)])
            refine sf_bnd (s_X4_think hF Is1) (fun r29 u30 p31 => ?_)
            obtain ⟨Iu30, Fu30_, Of15_u30_, Of34_u30_, Of30_u30_, Of18_u30_, -, p31_x0⟩ := p31
            have Fu30 : ∀ k, k < 101 → u30 k = τ k := fun k hk => (Fu30_ k hk).trans (Fs1 k hk)
            have Of15_u30 : u30 101 15 = τ 101 15 := Of15_u30_.trans Of15_s1
            have Of34_u30 : u30 101 34 = τ 101 34 := Of34_u30_.trans Of34_s1
            have Of30_u30 : u30 101 30 = τ 101 30 := Of30_u30_.trans Of30_s1
            have Of18_u30 : u30 101 18 = τ 101 18 := Of18_u30_.trans Of18_s1
            replace p31_x0 : (u30 101 1).toInt = (s1 101 1).toInt ∧ (u30 101 3).toInt = (s1 101 3).toInt := p31_x0
            have m32 := wx_X4_1 Iu30
            have m33 := wx_X4_3 Iu30
            refine sf_bnd (s_X4_stand hF Iu30 (by omega) (by omega) (by decide) (by decide) (by decide) (by decide) (by first | omega | decide)) (fun r34 u35 p36 => ?_)
            obtain ⟨Iu35, Fu35_, Of15_u35_, Of34_u35_, Of1_u35_, Of30_u35_, Of18_u35_, -⟩ := p36
            have Fu35 : ∀ k, k < 101 → u35 k = τ k := fun k hk => (Fu35_ k hk).trans (Fu30 k hk)
            have Of15_u35 : u35 101 15 = τ 101 15 := Of15_u35_.trans Of15_u30
            have Of34_u35 : u35 101 34 = τ 101 34 := Of34_u35_.trans Of34_u30
            have Of30_u35 : u35 101 30 = τ 101 30 := Of30_u35_.trans Of30_u30
            have Of18_u35 : u35 101 18 = τ 101 18 := Of18_u35_.trans Of18_u30
            have l_0 : (0 : Int32).toInt = 0 := rfl
            exact sl_X4_heir_63 hF (by omega) (by omega) (by omega) (by omega) (by omega) (by omega) _ _ _ Iu35 Fu35 Of15_u35 Of34_u35 Of30_u35 Of18_u35 (by omega) (by decide) (by decide)
          have C22 : (0 : Int) < (0 : Int) := ti_nle c22
          exfalso; omega
        have C21 : (999 : Int) < x3.toInt := ti_nle c21
        refine sf_ret ?_
        rw [j_X4_heir_32_e]
        refine sf_ite (fun c37 => ?_) (fun c37 => ?_)
        · have C37 : (0 : Int) ≤ (-6 : Int) := ti_le c37
          exfalso; omega
        have C37 : (-6 : Int) < (0 : Int) := ti_nle c37
        refine sf_bnd (s_X4_refuse hF Is1 (by decide) (by decide)) (fun r38 u39 p40 => ?_)
        obtain ⟨Iu39, Fu39_, Of15_u39_, Of34_u39_, Of1_u39_, Of30_u39_, Of18_u39_, p40_1, p40_2, p40_x0⟩ := p40
        have Fu39 : ∀ k, k < 101 → u39 k = τ k := fun k hk => (Fu39_ k hk).trans (Fs1 k hk)
        have Of15_u39 : u39 101 15 = τ 101 15 := Of15_u39_.trans Of15_s1
        have Of34_u39 : u39 101 34 = τ 101 34 := Of34_u39_.trans Of34_s1
        have Of1_u39 : u39 101 1 = τ 101 1 := Of1_u39_.trans Of1_s1
        have Of30_u39 : u39 101 30 = τ 101 30 := Of30_u39_.trans Of30_s1
        have Of18_u39 : u39 101 18 = τ 101 18 := Of18_u39_.trans Of18_s1
        replace p40_x0 : r38.toInt = (-6 : Int) := p40_x0
        exact sf_ret ⟨Iu39, Fu39, Of15_u39, Of34_u39, Of30_u39, Of18_u39, ti_lo _, ti_hi _⟩
      have C20 : x3.toInt < (0 : Int) := ti_nle c20
      refine sf_ret ?_
      rw [j_X4_heir_32_e]
      refine sf_ite (fun c41 => ?_) (fun c41 => ?_)
      · have C41 : (0 : Int) ≤ (-4 : Int) := ti_le c41
        exfalso; omega
      have C41 : (-4 : Int) < (0 : Int) := ti_nle c41
      refine sf_bnd (s_X4_refuse hF Is1 (by decide) (by decide)) (fun r42 u43 p44 => ?_)
      obtain ⟨Iu43, Fu43_, Of15_u43_, Of34_u43_, Of1_u43_, Of30_u43_, Of18_u43_, p44_1, p44_2, p44_x0⟩ := p44
      have Fu43 : ∀ k, k < 101 → u43 k = τ k := fun k hk => (Fu43_ k hk).trans (Fs1 k hk)
      have Of15_u43 : u43 101 15 = τ 101 15 := Of15_u43_.trans Of15_s1
      have Of34_u43 : u43 101 34 = τ 101 34 := Of34_u43_.trans Of34_s1
      have Of1_u43 : u43 101 1 = τ 101 1 := Of1_u43_.trans Of1_s1
      have Of30_u43 : u43 101 30 = τ 101 30 := Of30_u43_.trans Of30_s1
      have Of18_u43 : u43 101 18 = τ 101 18 := Of18_u43_.trans Of18_s1
      replace p44_x0 : r42.toInt = (-4 : Int) := p44_x0
      exact sf_ret ⟨Iu43, Fu43, Of15_u43, Of34_u43, Of30_u43, Of18_u43, ti_lo _, ti_hi _⟩
    obtain ⟨rfl, q45⟩ := p14
    refine sf_ite (fun c46 => ?_) (fun c46 => ?_)
    · have C46 : (0 : Int) = (0 : Int) := ti_eq c46
      rw [j_X4_heir_31_e]
      rw [j_X4_heir_32_e]
      refine sf_ite (fun c47 => ?_) (fun c47 => ?_)
      · have C47 : (0 : Int) ≤ (-1 : Int) := ti_le c47
        exfalso; omega
      have C47 : (-1 : Int) < (0 : Int) := ti_nle c47
      refine sf_bnd (s_X4_refuse hF Is1 (by decide) (by decide)) (fun r48 u49 p50 => ?_)
      obtain ⟨Iu49, Fu49_, Of15_u49_, Of34_u49_, Of1_u49_, Of30_u49_, Of18_u49_, p50_1, p50_2, p50_x0⟩ := p50
      have Fu49 : ∀ k, k < 101 → u49 k = τ k := fun k hk => (Fu49_ k hk).trans (Fs1 k hk)
      have Of15_u49 : u49 101 15 = τ 101 15 := Of15_u49_.trans Of15_s1
      have Of34_u49 : u49 101 34 = τ 101 34 := Of34_u49_.trans Of34_s1
      have Of1_u49 : u49 101 1 = τ 101 1 := Of1_u49_.trans Of1_s1
      have Of30_u49 : u49 101 30 = τ 101 30 := Of30_u49_.trans Of30_s1
      have Of18_u49 : u49 101 18 = τ 101 18 := Of18_u49_.trans Of18_s1
      replace p50_x0 : r48.toInt = (-1 : Int) := p50_x0
      exact sf_ret ⟨Iu49, Fu49, Of15_u49, Of34_u49, Of30_u49, Of18_u49, ti_lo _, ti_hi _⟩
    have C46 : ¬ (0 : Int) = (0 : Int) := ti_ne c46
    exfalso; omega
  obtain rfl := p6
  refine sf_ite (fun c51 => ?_) (fun c51 => ?_)
  · have C51 : (0 : Int) = (0 : Int) := ti_eq c51
    rw [j_X4_heir_31_e]
    rw [j_X4_heir_32_e]
    refine sf_ite (fun c52 => ?_) (fun c52 => ?_)
    · have C52 : (0 : Int) ≤ (-1 : Int) := ti_le c52
      exfalso; omega
    have C52 : (-1 : Int) < (0 : Int) := ti_nle c52
    refine sf_bnd (s_X4_refuse hF Is1 (by decide) (by decide)) (fun r53 u54 p55 => ?_)
    obtain ⟨Iu54, Fu54_, Of15_u54_, Of34_u54_, Of1_u54_, Of30_u54_, Of18_u54_, p55_1, p55_2, p55_x0⟩ := p55
    have Fu54 : ∀ k, k < 101 → u54 k = τ k := fun k hk => (Fu54_ k hk).trans (Fs1 k hk)
    have Of15_u54 : u54 101 15 = τ 101 15 := Of15_u54_.trans Of15_s1
    have Of34_u54 : u54 101 34 = τ 101 34 := Of34_u54_.trans Of34_s1
    have Of1_u54 : u54 101 1 = τ 101 1 := Of1_u54_.trans Of1_s1
    have Of30_u54 : u54 101 30 = τ 101 30 := Of30_u54_.trans Of30_s1
    have Of18_u54 : u54 101 18 = τ 101 18 := Of18_u54_.trans Of18_s1
    replace p55_x0 : r53.toInt = (-1 : Int) := p55_x0
    exact sf_ret ⟨Iu54, Fu54, Of15_u54, Of34_u54, Of30_u54, Of18_u54, ti_lo _, ti_hi _⟩
  have C51 : ¬ (0 : Int) = (0 : Int) := ti_ne c51
  exfalso; omega
set_option maxHeartbeats 4000000 in
set_option maxRecDepth 100000 in
theorem sl_X4_even_50 {F : Nat} (hF : 73786976294838206464 ≤ F) {x1 : Int32} {x3 : Int32} {k37 : Int32 → Int32 → Mem → Option (Int32 × Mem)} {τ : Mem} (x1_1 : 0 ≤ x1.toInt) (x1_2 : x1.toInt ≤ 999) (x3_1 : 0 ≤ x3.toInt) (x3_2 : x3.toInt ≤ 4) {N37 : Nat} (hM37 : 5 < x3.toInt + (N37 + 1)) (hk37 : ∀ (x2 : Int32) (x3 : Int32) (σ : Mem), wiM σ → (∀ k, k < 101 → σ k = τ k) → σ 101 15 = τ 101 15 → σ 101 34 = τ 101 34 → σ 101 1 = τ 101 1 → σ 101 30 = τ 101 30 → σ 101 18 = τ 101 18 → 5 < x3.toInt + N37 → 0 ≤ x3.toInt → x3.toInt ≤ 5 → sf (k37 x2 x3 σ) (fun r s => wiM s ∧ (∀ k, k < 101 → s k = τ k) ∧ s 101 15 = τ 101 15 ∧ s 101 34 = τ 101 34 ∧ s 101 1 = τ 101 1 ∧ s 101 30 = τ 101 30 ∧ s 101 18 = τ 101 18 ∧ -2147483648 ≤ r.toInt ∧ r.toInt ≤ 2147483647)) : ∀ (N : Nat) (x2 : Int32) (x4 : Int32) (σ : Mem), wiM σ → (∀ k, k < 101 → σ k = τ k) → σ 101 15 = τ 101 15 → σ 101 34 = τ 101 34 → σ 101 1 = τ 101 1 → σ 101 30 = τ 101 30 → σ 101 18 = τ 101 18 → 5 < x4.toInt + N → 1 ≤ x4.toInt → x4.toInt ≤ 5 → sf (lp_X4_even_50 F k37 x1 x3 N x2 x4 σ) (fun r s => wiM s ∧ (∀ k, k < 101 → s k = τ k) ∧ s 101 15 = τ 101 15 ∧ s 101 34 = τ 101 34 ∧ s 101 1 = τ 101 1 ∧ s 101 30 = τ 101 30 ∧ s 101 18 = τ 101 18 ∧ -2147483648 ≤ r.toInt ∧ r.toInt ≤ 2147483647) := by
  intro N
  induction N with
  | zero => intro x2 x4 σ hI Fσ Of15_σ Of34_σ Of1_σ Of30_σ Of18_σ hN x4_1 x4_2; exfalso; omega
  | succ N ih =>
    intro x2 x4 σ hI Fσ Of15_σ Of34_σ Of1_σ Of30_σ Of18_σ hN x4_1 x4_2
    rw [lp_X4_even_50_s]
    have m1 := wx_X4_3 hI
    refine sf_ite (fun c2 => ?_) (fun c2 => ?_)
    · have C2 : (σ 101 3).toInt ≤ x4.toInt := ti_le c2
      have b3 := ti_lo x2
      have b4 := ti_hi x2
      have t5 : (x3 + (1 : Int32)).toInt = x3.toInt + (1 : Int) := ti_add (show -2147483648 ≤ x3.toInt + (1 : Int) by omega) (show x3.toInt + (1 : Int) ≤ 2147483647 by omega)
      exact hk37 _ _ _ hI Fσ Of15_σ Of34_σ Of1_σ Of30_σ Of18_σ (by omega) (by omega) (by omega)
    have C2 : x4.toInt < (σ 101 3).toInt := ti_nle c2
    refine sf_bnd (s_X4_worthIn hF hI (by omega) (by omega) (by omega) (by omega)) (fun r6 u7 p8 => ?_)
    obtain ⟨Iu7, Fu7_, Of15_u7_, Of34_u7_, Of1_u7_, Of30_u7_, Of18_u7_, p8_1, p8_2⟩ := p8
    have Fu7 : ∀ k, k < 101 → u7 k = τ k := fun k hk => (Fu7_ k hk).trans (Fσ k hk)
    have Of15_u7 : u7 101 15 = τ 101 15 := Of15_u7_.trans Of15_σ
    have Of34_u7 : u7 101 34 = τ 101 34 := Of34_u7_.trans Of34_σ
    have Of1_u7 : u7 101 1 = τ 101 1 := Of1_u7_.trans Of1_σ
    have Of30_u7 : u7 101 30 = τ 101 30 := Of30_u7_.trans Of30_σ
    have Of18_u7 : u7 101 18 = τ 101 18 := Of18_u7_.trans Of18_σ
    refine sf_bnd (s_X4_worthIn hF Iu7 (by omega) (by omega) (by omega) (by omega)) (fun r9 u10 p11 => ?_)
    obtain ⟨Iu10, Fu10_, Of15_u10_, Of34_u10_, Of1_u10_, Of30_u10_, Of18_u10_, p11_1, p11_2⟩ := p11
    have Fu10 : ∀ k, k < 101 → u10 k = τ k := fun k hk => (Fu10_ k hk).trans (Fu7 k hk)
    have Of15_u10 : u10 101 15 = τ 101 15 := Of15_u10_.trans Of15_u7
    have Of34_u10 : u10 101 34 = τ 101 34 := Of34_u10_.trans Of34_u7
    have Of1_u10 : u10 101 1 = τ 101 1 := Of1_u10_.trans Of1_u7
    have Of30_u10 : u10 101 30 = τ 101 30 := Of30_u10_.trans Of30_u7
    have Of18_u10 : u10 101 18 = τ 101 18 := Of18_u10_.trans Of18_u7
    have b12 := ti_lo r6
    have b13 := ti_hi r6
    have b14 := ti_lo r9
    have b15 := ti_hi r9
    refine sf_ite (fun c16 => ?_) (fun c16 => ?_)
    · have C16 : r6.toInt = r9.toInt := ti_eq c16
      rw [j_X4_even_81_e]
      have b17 := ti_lo x2
      have b18 := ti_hi x2
      have b19 := ti_lo (x2 + (1 : Int32))
      have b20 := ti_hi (x2 + (1 : Int32))
      have t21 : (x4 + (1 : Int32)).toInt = x4.toInt + (1 : Int) := ti_add (show -2147483648 ≤ x4.toInt + (1 : Int) by omega) (show x4.toInt + (1 : Int) ≤ 2147483647 by omega)
      exact ih _ _ _ Iu10 Fu10 Of15_u10 Of34_u10 Of1_u10 Of30_u10 Of18_u10 (by omega) (by omega) (by omega)
    have C16 : ¬ r6.toInt = r9.toInt := ti_ne c16
    rw [j_X4_even_81_e]
    have b22 := ti_lo x2
    have b23 := ti_hi x2
    have t24 : (x2 + (0 : Int32)).toInt = x2.toInt + (0 : Int) := ti_add (show -2147483648 ≤ x2.toInt + (0 : Int) by omega) (show x2.toInt + (0 : Int) ≤ 2147483647 by omega)
    have t25 : (x4 + (1 : Int32)).toInt = x4.toInt + (1 : Int) := ti_add (show -2147483648 ≤ x4.toInt + (1 : Int) by omega) (show x4.toInt + (1 : Int) ≤ 2147483647 by omega)
    exact ih _ _ _ Iu10 Fu10 Of15_u10 Of34_u10 Of1_u10 Of30_u10 Of18_u10 (by omega) (by omega) (by omega)
set_option maxHeartbeats 4000000 in
set_option maxRecDepth 100000 in
theorem sl_X4_even_37 {F : Nat} (hF : 73786976294838206464 ≤ F) {x1 : Int32} {τ : Mem} (x1_1 : 0 ≤ x1.toInt) (x1_2 : x1.toInt ≤ 999) : ∀ (N : Nat) (x2 : Int32) (x3 : Int32) (σ : Mem), wiM σ → (∀ k, k < 101 → σ k = τ k) → σ 101 15 = τ 101 15 → σ 101 34 = τ 101 34 → σ 101 1 = τ 101 1 → σ 101 30 = τ 101 30 → σ 101 18 = τ 101 18 → 5 < x3.toInt + N → 0 ≤ x3.toInt → x3.toInt ≤ 5 → sf (lp_X4_even_37 F x1 N x2 x3 σ) (fun r s => wiM s ∧ (∀ k, k < 101 → s k = τ k) ∧ s 101 15 = τ 101 15 ∧ s 101 34 = τ 101 34 ∧ s 101 1 = τ 101 1 ∧ s 101 30 = τ 101 30 ∧ s 101 18 = τ 101 18 ∧ -2147483648 ≤ r.toInt ∧ r.toInt ≤ 2147483647) := by
  intro N
  induction N with
  | zero => intro x2 x3 σ hI Fσ Of15_σ Of34_σ Of1_σ Of30_σ Of18_σ hN x3_1 x3_2; exfalso; omega
  | succ N ih =>
    intro x2 x3 σ hI Fσ Of15_σ Of34_σ Of1_σ Of30_σ Of18_σ hN x3_1 x3_2
    rw [lp_X4_even_37_s]
    have m1 := wx_X4_3 hI
    refine sf_ite (fun c2 => ?_) (fun c2 => ?_)
    · have C2 : (σ 101 3).toInt ≤ x3.toInt := ti_le c2
      have b3 := ti_lo x2
      have b4 := ti_hi x2
      exact sf_ret ⟨hI, Fσ, Of15_σ, Of34_σ, Of1_σ, Of30_σ, Of18_σ, ti_lo _, ti_hi _⟩
    have C2 : x3.toInt < (σ 101 3).toInt := ti_nle c2
    have b5 := ti_lo x2
    have b6 := ti_hi x2
    have t7 : (x3 + (1 : Int32)).toInt = x3.toInt + (1 : Int) := ti_add (show -2147483648 ≤ x3.toInt + (1 : Int) by omega) (show x3.toInt + (1 : Int) ≤ 2147483647 by omega)
    exact sl_X4_even_50 hF (by omega) (by omega) (by omega) (by omega) (by omega) ih _ _ _ _ hI Fσ Of15_σ Of34_σ Of1_σ Of30_σ Of18_σ (by omega) (by omega) (by omega)
set_option maxHeartbeats 4000000 in
set_option maxRecDepth 100000 in
theorem s_X4_even {F : Nat} (hF : 73786976294838206464 ≤ F) {x1 : Int32} {τ : Mem} (hI : wiM τ) : sf (f_X4_even F x1 τ) (fun r s => wiM s ∧ (∀ k, k < 101 → s k = τ k) ∧ s 101 15 = τ 101 15 ∧ s 101 34 = τ 101 34 ∧ s 101 1 = τ 101 1 ∧ s 101 30 = τ 101 30 ∧ s 101 18 = τ 101 18 ∧ -2147483648 ≤ r.toInt ∧ r.toInt ≤ 2147483647) := by
  have Fτ : ∀ k, k < 101 → τ k = τ k := fun _ _ => rfl
  have Of15_τ : τ 101 15 = τ 101 15 := rfl
  have Of34_τ : τ 101 34 = τ 101 34 := rfl
  have Of1_τ : τ 101 1 = τ 101 1 := rfl
  have Of30_τ : τ 101 30 = τ 101 30 := rfl
  have Of18_τ : τ 101 18 = τ 101 18 := rfl
  rw [f_X4_even_e]
  refine sf_lt (fun s1 hs1 => ?_)
  have Is1 : wiM s1 := by rw [hs1]; exact wm_fld hI (by decide) (by decide) (by decide) (by decide) (by decide) (by decide) (by decide)
  have Fs1 : ∀ k, k < 101 → s1 k = τ k := fun k hk => (show s1 k = τ k by rw [hs1, up2_k (by omega)]).trans (Fτ k hk)
  have Of15_s1 : s1 101 15 = τ 101 15 := (show s1 101 15 = τ 101 15 by rw [hs1, up2_i (by decide)]).trans Of15_τ
  have Of34_s1 : s1 101 34 = τ 101 34 := (show s1 101 34 = τ 101 34 by rw [hs1, up2_i (by decide)]).trans Of34_τ
  have Of1_s1 : s1 101 1 = τ 101 1 := (show s1 101 1 = τ 101 1 by rw [hs1, up2_i (by decide)]).trans Of1_τ
  have Of30_s1 : s1 101 30 = τ 101 30 := (show s1 101 30 = τ 101 30 by rw [hs1, up2_i (by decide)]).trans Of30_τ
  have Of18_s1 : s1 101 18 = τ 101 18 := (show s1 101 18 = τ 101 18 by rw [hs1, up2_i (by decide)]).trans Of18_τ
  refine sf_in ?_
  rw [f_X4_wrongNumber_e]
  have b2 := ti_lo x1
  have b3 := ti_hi x1
  refine sf_ite (fun c4 => ?_) (fun c4 => ?_)
  · have C4 : (0 : Int) ≤ x1.toInt := ti_le c4
    refine sf_ite (fun c5 => ?_) (fun c5 => ?_)
    · have C5 : x1.toInt ≤ (999 : Int) := ti_le c5
      refine sf_ret ?_
      refine sf_ite (fun c6 => ?_) (fun c6 => ?_)
      · have C6 : (0 : Int) ≤ (0 : Int) := ti_le c6
        refine sf_bnd (s_X4_layBrings hF Is1) (fun r7 u8 p9 => ?_)
        obtain ⟨Iu8, Fu8_, Of15_u8_, Of34_u8_, Of1_u8_, Of30_u8_, Of18_u8_, -⟩ := p9
        have Fu8 : ∀ k, k < 101 → u8 k = τ k := fun k hk => (Fu8_ k hk).trans (Fs1 k hk)
        have Of15_u8 : u8 101 15 = τ 101 15 := Of15_u8_.trans Of15_s1
        have Of34_u8 : u8 101 34 = τ 101 34 := Of34_u8_.trans Of34_s1
        have Of1_u8 : u8 101 1 = τ 101 1 := Of1_u8_.trans Of1_s1
        have Of30_u8 : u8 101 30 = τ 101 30 := Of30_u8_.trans Of30_s1
        have Of18_u8 : u8 101 18 = τ 101 18 := Of18_u8_.trans Of18_s1
        have l_0 : (0 : Int32).toInt = 0 := rfl
        exact sl_X4_even_37 hF (by omega) (by omega) _ _ _ _ Iu8 Fu8 Of15_u8 Of34_u8 Of1_u8 Of30_u8 Of18_u8 (by omega) (by decide) (by decide)
      have C6 : (0 : Int) < (0 : Int) := ti_nle c6
      exfalso; omega
    have C5 : (999 : Int) < x1.toInt := ti_nle c5
    refine sf_ret ?_
    refine sf_ite (fun c10 => ?_) (fun c10 => ?_)
    · have C10 : (0 : Int) ≤ (-6 : Int) := ti_le c10
      exfalso; omega
    have C10 : (-6 : Int) < (0 : Int) := ti_nle c10
    refine sf_in ?_
    rw [f_X4_wrongNumber_e]
    refine sf_ite (fun c11 => ?_) (fun c11 => ?_)
    · have C11 : (0 : Int) ≤ x1.toInt := ti_le c11
      refine sf_ite (fun c12 => ?_) (fun c12 => ?_)
      · have C12 : x1.toInt ≤ (999 : Int) := ti_le c12
        exfalso; omega
      have C12 : (999 : Int) < x1.toInt := ti_nle c12
      refine sf_ret ?_
      refine sf_bnd (s_X4_refuse hF Is1 (by decide) (by decide)) (fun r13 u14 p15 => ?_)
      obtain ⟨Iu14, Fu14_, Of15_u14_, Of34_u14_, Of1_u14_, Of30_u14_, Of18_u14_, p15_1, p15_2, p15_x0⟩ := p15
      have Fu14 : ∀ k, k < 101 → u14 k = τ k := fun k hk => (Fu14_ k hk).trans (Fs1 k hk)
      have Of15_u14 : u14 101 15 = τ 101 15 := Of15_u14_.trans Of15_s1
      have Of34_u14 : u14 101 34 = τ 101 34 := Of34_u14_.trans Of34_s1
      have Of1_u14 : u14 101 1 = τ 101 1 := Of1_u14_.trans Of1_s1
      have Of30_u14 : u14 101 30 = τ 101 30 := Of30_u14_.trans Of30_s1
      have Of18_u14 : u14 101 18 = τ 101 18 := Of18_u14_.trans Of18_s1
      replace p15_x0 : r13.toInt = (-6 : Int) := p15_x0
      exact sf_ret ⟨Iu14, Fu14, Of15_u14, Of34_u14, Of1_u14, Of30_u14, Of18_u14, ti_lo _, ti_hi _⟩
    have C11 : x1.toInt < (0 : Int) := ti_nle c11
    exfalso; omega
  have C4 : x1.toInt < (0 : Int) := ti_nle c4
  refine sf_ret ?_
  refine sf_ite (fun c16 => ?_) (fun c16 => ?_)
  · have C16 : (0 : Int) ≤ (-4 : Int) := ti_le c16
    exfalso; omega
  have C16 : (-4 : Int) < (0 : Int) := ti_nle c16
  refine sf_in ?_
  rw [f_X4_wrongNumber_e]
  refine sf_ite (fun c17 => ?_) (fun c17 => ?_)
  · have C17 : (0 : Int) ≤ x1.toInt := ti_le c17
    exfalso; omega
  have C17 : x1.toInt < (0 : Int) := ti_nle c17
  refine sf_ret ?_
  refine sf_bnd (s_X4_refuse hF Is1 (by decide) (by decide)) (fun r18 u19 p20 => ?_)
  obtain ⟨Iu19, Fu19_, Of15_u19_, Of34_u19_, Of1_u19_, Of30_u19_, Of18_u19_, p20_1, p20_2, p20_x0⟩ := p20
  have Fu19 : ∀ k, k < 101 → u19 k = τ k := fun k hk => (Fu19_ k hk).trans (Fs1 k hk)
  have Of15_u19 : u19 101 15 = τ 101 15 := Of15_u19_.trans Of15_s1
  have Of34_u19 : u19 101 34 = τ 101 34 := Of34_u19_.trans Of34_s1
  have Of1_u19 : u19 101 1 = τ 101 1 := Of1_u19_.trans Of1_s1
  have Of30_u19 : u19 101 30 = τ 101 30 := Of30_u19_.trans Of30_s1
  have Of18_u19 : u19 101 18 = τ 101 18 := Of18_u19_.trans Of18_s1
  replace p20_x0 : r18.toInt = (-4 : Int) := p20_x0
  exact sf_ret ⟨Iu19, Fu19, Of15_u19, Of34_u19, Of1_u19, Of30_u19, Of18_u19, ti_lo _, ti_hi _⟩
set_option maxHeartbeats 4000000 in
set_option maxRecDepth 100000 in
theorem sl_X4_last_33 {F : Nat} (hF : 73786976294838206464 ≤ F) {x1 : Int32} {x2 : Int32} {x3 : Int32} {k13 : Int32 → Int32 → Mem → Option (Int32 × Mem)} {τ : Mem} (x1_1 : 0 ≤ x1.toInt) (x1_2 : x1.toInt ≤ 999) (x2_1 : 0 ≤ x2.toInt) (x2_2 : x2.toInt ≤ 7) {N13 : Nat} (hM13 : 8 < x2.toInt + (N13 + 1)) (hk13 : ∀ (x1 : Int32) (x2 : Int32) (σ : Mem), wiM σ → (∀ k, k < 101 → σ k = τ k) → σ 101 15 = τ 101 15 → σ 101 34 = τ 101 34 → σ 101 1 = τ 101 1 → σ 101 30 = τ 101 30 → σ 101 18 = τ 101 18 → 8 < x2.toInt + N13 → 0 ≤ x1.toInt → x1.toInt ≤ 999 → 0 ≤ x2.toInt → x2.toInt ≤ 8 → sf (k13 x1 x2 σ) (fun r s => wiM s ∧ (∀ k, k < 101 → s k = τ k) ∧ s 101 15 = τ 101 15 ∧ s 101 34 = τ 101 34 ∧ s 101 1 = τ 101 1 ∧ s 101 30 = τ 101 30 ∧ s 101 18 = τ 101 18 ∧ 0 ≤ r.toInt ∧ r.toInt ≤ 999)) : ∀ (N : Nat) (x4 : Int32) (σ : Mem), wiM σ → (∀ k, k < 101 → σ k = τ k) → σ 101 15 = τ 101 15 → σ 101 34 = τ 101 34 → σ 101 1 = τ 101 1 → σ 101 30 = τ 101 30 → σ 101 18 = τ 101 18 → x4.toInt < N → 0 ≤ x4.toInt → x4.toInt ≤ 999 → sf (lp_X4_last_33 F k13 x1 x2 x3 N x4 σ) (fun r s => wiM s ∧ (∀ k, k < 101 → s k = τ k) ∧ s 101 15 = τ 101 15 ∧ s 101 34 = τ 101 34 ∧ s 101 1 = τ 101 1 ∧ s 101 30 = τ 101 30 ∧ s 101 18 = τ 101 18 ∧ 0 ≤ r.toInt ∧ r.toInt ≤ 999) := by
  intro N
  induction N with
  | zero => intro x4 σ hI Fσ Of15_σ Of34_σ Of1_σ Of30_σ Of18_σ hN x4_1 x4_2; exfalso; omega
  | succ N ih =>
    intro x4 σ hI Fσ Of15_σ Of34_σ Of1_σ Of30_σ Of18_σ hN x4_1 x4_2
    rw [lp_X4_last_33_s]
    refine sf_ite (fun c1 => ?_) (fun c1 => ?_)
    · have C1 : x4.toInt ≤ (0 : Int) := ti_le c1
      rw [j_X4_last_57_e]
      refine sf_ite (fun c2 => ?_) (fun c2 => ?_)
      · have C2 : x4.toInt ≤ x1.toInt := ti_le c2
        rw [j_X4_last_69_e]
        have t3 : (x2 + (1 : Int32)).toInt = x2.toInt + (1 : Int) := ti_add (show -2147483648 ≤ x2.toInt + (1 : Int) by omega) (show x2.toInt + (1 : Int) ≤ 2147483647 by omega)
        exact hk13 _ _ _ hI Fσ Of15_σ Of34_σ Of1_σ Of30_σ Of18_σ (by omega) (by omega) (by omega) (by omega) (by omega)
      have C2 : x1.toInt < x4.toInt := ti_nle c2
      exfalso; omega
    have C1 : (0 : Int) < x4.toInt := ti_nle c1
    have t4 : (x4 - (1 : Int32)).toInt = x4.toInt - (1 : Int) := ti_sub (show -2147483648 ≤ x4.toInt - (1 : Int) by omega) (show x4.toInt - (1 : Int) ≤ 2147483647 by omega)
    refine sf_bnd (s_X4_ownerIn hF hI (by omega) (by omega) (by omega) (by omega)) (fun r5 u6 p7 => ?_)
    obtain ⟨Iu6, Fu6_, Of15_u6_, Of34_u6_, Of1_u6_, Of30_u6_, Of18_u6_, p7_1, p7_2⟩ := p7
    have Fu6 : ∀ k, k < 101 → u6 k = τ k := fun k hk => (Fu6_ k hk).trans (Fσ k hk)
    have Of15_u6 : u6 101 15 = τ 101 15 := Of15_u6_.trans Of15_σ
    have Of34_u6 : u6 101 34 = τ 101 34 := Of34_u6_.trans Of34_σ
    have Of1_u6 : u6 101 1 = τ 101 1 := Of1_u6_.trans Of1_σ
    have Of30_u6 : u6 101 30 = τ 101 30 := Of30_u6_.trans Of30_σ
    have Of18_u6 : u6 101 18 = τ 101 18 := Of18_u6_.trans Of18_σ
    have b8 := ti_lo x3
    have b9 := ti_hi x3
    refine sf_ite (fun c10 => ?_) (fun c10 => ?_)
    · have C10 : r5.toInt = x3.toInt := ti_eq c10
      have t11 : (x4 + (-1 : Int32)).toInt = x4.toInt + (-1 : Int) := ti_add (show -2147483648 ≤ x4.toInt + (-1 : Int) by omega) (show x4.toInt + (-1 : Int) ≤ 2147483647 by omega)
      exact ih _ _ Iu6 Fu6 Of15_u6 Of34_u6 Of1_u6 Of30_u6 Of18_u6 (by omega) (by omega) (by omega)
    have C10 : ¬ r5.toInt = x3.toInt := ti_ne c10
    rw [j_X4_last_57_e]
    refine sf_ite (fun c12 => ?_) (fun c12 => ?_)
    · have C12 : x4.toInt ≤ x1.toInt := ti_le c12
      rw [j_X4_last_69_e]
      have t13 : (x2 + (1 : Int32)).toInt = x2.toInt + (1 : Int) := ti_add (show -2147483648 ≤ x2.toInt + (1 : Int) by omega) (show x2.toInt + (1 : Int) ≤ 2147483647 by omega)
      exact hk13 _ _ _ Iu6 Fu6 Of15_u6 Of34_u6 Of1_u6 Of30_u6 Of18_u6 (by omega) (by omega) (by omega) (by omega) (by omega)
    have C12 : x1.toInt < x4.toInt := ti_nle c12
    rw [j_X4_last_69_e]
    have t14 : (x2 + (1 : Int32)).toInt = x2.toInt + (1 : Int) := ti_add (show -2147483648 ≤ x2.toInt + (1 : Int) by omega) (show x2.toInt + (1 : Int) ≤ 2147483647 by omega)
    exact hk13 _ _ _ Iu6 Fu6 Of15_u6 Of34_u6 Of1_u6 Of30_u6 Of18_u6 (by omega) (by omega) (by omega) (by omega) (by omega)
set_option maxHeartbeats 4000000 in
set_option maxRecDepth 100000 in
theorem sl_X4_last_13 {F : Nat} (hF : 73786976294838206464 ≤ F) {τ : Mem} : ∀ (N : Nat) (x1 : Int32) (x2 : Int32) (σ : Mem), wiM σ → (∀ k, k < 101 → σ k = τ k) → σ 101 15 = τ 101 15 → σ 101 34 = τ 101 34 → σ 101 1 = τ 101 1 → σ 101 30 = τ 101 30 → σ 101 18 = τ 101 18 → 8 < x2.toInt + N → 0 ≤ x1.toInt → x1.toInt ≤ 999 → 0 ≤ x2.toInt → x2.toInt ≤ 8 → sf (lp_X4_last_13 F N x1 x2 σ) (fun r s => wiM s ∧ (∀ k, k < 101 → s k = τ k) ∧ s 101 15 = τ 101 15 ∧ s 101 34 = τ 101 34 ∧ s 101 1 = τ 101 1 ∧ s 101 30 = τ 101 30 ∧ s 101 18 = τ 101 18 ∧ 0 ≤ r.toInt ∧ r.toInt ≤ 999) := by
  intro N
  induction N with
  | zero => intro x1 x2 σ hI Fσ Of15_σ Of34_σ Of1_σ Of30_σ Of18_σ hN x1_1 x1_2 x2_1 x2_2; exfalso; omega
  | succ N ih =>
    intro x1 x2 σ hI Fσ Of15_σ Of34_σ Of1_σ Of30_σ Of18_σ hN x1_1 x1_2 x2_1 x2_2
    rw [lp_X4_last_13_s]
    refine sf_ite (fun c1 => ?_) (fun c1 => ?_)
    · have C1 : (8 : Int) ≤ x2.toInt := ti_le c1
      exact sf_ret ⟨hI, Fσ, Of15_σ, Of34_σ, Of1_σ, Of30_σ, Of18_σ, by omega, by omega⟩
    have C1 : x2.toInt < (8 : Int) := ti_nle c1
    refine sf_bnd (s_X4_ownerIn hF hI (by omega) (by omega) (by decide) (by decide)) (fun r2 u3 p4 => ?_)
    obtain ⟨Iu3, Fu3_, Of15_u3_, Of34_u3_, Of1_u3_, Of30_u3_, Of18_u3_, p4_1, p4_2⟩ := p4
    have Fu3 : ∀ k, k < 101 → u3 k = τ k := fun k hk => (Fu3_ k hk).trans (Fσ k hk)
    have Of15_u3 : u3 101 15 = τ 101 15 := Of15_u3_.trans Of15_σ
    have Of34_u3 : u3 101 34 = τ 101 34 := Of34_u3_.trans Of34_σ
    have Of1_u3 : u3 101 1 = τ 101 1 := Of1_u3_.trans Of1_σ
    have Of30_u3 : u3 101 30 = τ 101 30 := Of30_u3_.trans Of30_σ
    have Of18_u3 : u3 101 18 = τ 101 18 := Of18_u3_.trans Of18_σ
    have l_999 : (999 : Int32).toInt = 999 := rfl
    exact sl_X4_last_33 hF (by omega) (by omega) (by omega) (by omega) (by omega) ih _ _ _ Iu3 Fu3 Of15_u3 Of34_u3 Of1_u3 Of30_u3 Of18_u3 (by omega) (by decide) (by decide)
set_option maxHeartbeats 4000000 in
set_option maxRecDepth 100000 in
theorem s_X4_last {F : Nat} (hF : 73786976294838206464 ≤ F) {τ : Mem} (hI : wiM τ) : sf (f_X4_last F τ) (fun r s => wiM s ∧ (∀ k, k < 101 → s k = τ k) ∧ s 101 15 = τ 101 15 ∧ s 101 34 = τ 101 34 ∧ s 101 1 = τ 101 1 ∧ s 101 30 = τ 101 30 ∧ s 101 18 = τ 101 18 ∧ 0 ≤ r.toInt ∧ r.toInt ≤ 999) := by
  have Fτ : ∀ k, k < 101 → τ k = τ k := fun _ _ => rfl
  have Of15_τ : τ 101 15 = τ 101 15 := rfl
  have Of34_τ : τ 101 34 = τ 101 34 := rfl
  have Of1_τ : τ 101 1 = τ 101 1 := rfl
  have Of30_τ : τ 101 30 = τ 101 30 := rfl
  have Of18_τ : τ 101 18 = τ 101 18 := rfl
  rw [f_X4_last_e]
  refine sf_lt (fun s1 hs1 => ?_)
  have Is1 : wiM s1 := by rw [hs1]; exact wm_fld hI (by decide) (by decide) (by decide) (by decide) (by decide) (by decide) (by decide)
  have Fs1 : ∀ k, k < 101 → s1 k = τ k := fun k hk => (show s1 k = τ k by rw [hs1, up2_k (by omega)]).trans (Fτ k hk)
  have Of15_s1 : s1 101 15 = τ 101 15 := (show s1 101 15 = τ 101 15 by rw [hs1, up2_i (by decide)]).trans Of15_τ
  have Of34_s1 : s1 101 34 = τ 101 34 := (show s1 101 34 = τ 101 34 by rw [hs1, up2_i (by decide)]).trans Of34_τ
  have Of1_s1 : s1 101 1 = τ 101 1 := (show s1 101 1 = τ 101 1 by rw [hs1, up2_i (by decide)]).trans Of1_τ
  have Of30_s1 : s1 101 30 = τ 101 30 := (show s1 101 30 = τ 101 30 by rw [hs1, up2_i (by decide)]).trans Of30_τ
  have Of18_s1 : s1 101 18 = τ 101 18 := (show s1 101 18 = τ 101 18 by rw [hs1, up2_i (by decide)]).trans Of18_τ
  refine sf_bnd (s_X4_layBrings hF Is1) (fun r2 u3 p4 => ?_)
  obtain ⟨Iu3, Fu3_, Of15_u3_, Of34_u3_, Of1_u3_, Of30_u3_, Of18_u3_, -⟩ := p4
  have Fu3 : ∀ k, k < 101 → u3 k = τ k := fun k hk => (Fu3_ k hk).trans (Fs1 k hk)
  have Of15_u3 : u3 101 15 = τ 101 15 := Of15_u3_.trans Of15_s1
  have Of34_u3 : u3 101 34 = τ 101 34 := Of34_u3_.trans Of34_s1
  have Of1_u3 : u3 101 1 = τ 101 1 := Of1_u3_.trans Of1_s1
  have Of30_u3 : u3 101 30 = τ 101 30 := Of30_u3_.trans Of30_s1
  have Of18_u3 : u3 101 18 = τ 101 18 := Of18_u3_.trans Of18_s1
  have l_0 : (0 : Int32).toInt = 0 := rfl
  exact sl_X4_last_13 hF _ _ _ _ Iu3 Fu3 Of15_u3 Of34_u3 Of1_u3 Of30_u3 Of18_u3 (by omega) (by decide) (by decide) (by decide) (by decide)
set_option maxHeartbeats 4000000 in
set_option maxRecDepth 100000 in
theorem s_X4_countIn {F : Nat} (hF : 73786976294838206464 ≤ F) {x1 : Int32} {x2 : Int32} {x3 : Int32} {τ : Mem} (hI : wiM τ) (x1_1 : 0 ≤ x1.toInt) (x1_2 : x1.toInt ≤ 4) (x2_1 : 0 ≤ x2.toInt) (x2_2 : x2.toInt ≤ 7) (x3_1 : 0 ≤ x3.toInt) (x3_2 : x3.toInt ≤ 999) : sf (f_X4_countIn F x1 x2 x3 τ) (fun r s => s = τ ∧ -2147483648 ≤ r.toInt ∧ r.toInt ≤ 2147483647) := by
  rw [f_X4_countIn_e]
  have t1 : ((8 : Int32) * x1).toInt = (8 : Int) * x1.toInt := ti_mul (show -2147483648 ≤ (8 : Int) * x1.toInt by omega) (show (8 : Int) * x1.toInt ≤ 2147483647 by omega)
  have t2 : (((8 : Int32) * x1) + x2).toInt = ((8 : Int32) * x1).toInt + x2.toInt := ti_add (show -2147483648 ≤ ((8 : Int32) * x1).toInt + x2.toInt by omega) (show ((8 : Int32) * x1).toInt + x2.toInt ≤ 2147483647 by omega)
  refine sf_chk (ti_in (by omega) (by omega)) ?_
  have v3 : Int32.toNatClampNeg (((8 : Int32) * x1) + x2) = (((8 : Int32) * x1) + x2).toInt.toNat := rfl
  have b4 := ti_lo (τ 107 (Int32.toNatClampNeg (((8 : Int32) * x1) + x2)))
  have b5 := ti_hi (τ 107 (Int32.toNatClampNeg (((8 : Int32) * x1) + x2)))
  have b6 := ti_lo (τ 109 (Int32.toNatClampNeg (((8 : Int32) * x1) + x2)))
  have b7 := ti_hi (τ 109 (Int32.toNatClampNeg (((8 : Int32) * x1) + x2)))
  have b8 := ti_lo (x3 * (τ 109 (Int32.toNatClampNeg (((8 : Int32) * x1) + x2))))
  have b9 := ti_hi (x3 * (τ 109 (Int32.toNatClampNeg (((8 : Int32) * x1) + x2))))
  have b10 := ti_lo ((τ 107 (Int32.toNatClampNeg (((8 : Int32) * x1) + x2))) + (x3 * (τ 109 (Int32.toNatClampNeg (((8 : Int32) * x1) + x2)))))
  have b11 := ti_hi ((τ 107 (Int32.toNatClampNeg (((8 : Int32) * x1) + x2))) + (x3 * (τ 109 (Int32.toNatClampNeg (((8 : Int32) * x1) + x2)))))
  refine sf_bnd (s_X4_held hF hI) (fun r12 u13 p14 => ?_)
  obtain ⟨e9, p14_1, p14_2⟩ := p14
  have e9 := e9.symm
  subst e9
  have b15 := ti_lo r12
  have b16 := ti_hi r12
  exact sf_ret ⟨rfl, ti_lo _, ti_hi _⟩
set_option maxHeartbeats 4000000 in
set_option maxRecDepth 100000 in
theorem sl_X4_joint_91 {F : Nat} (hF : 73786976294838206464 ≤ F) {x1 : Int32} {x2 : Int32} {x3 : Int32} {x5 : Int32} {x6 : Int32} {x7 : Int32} {k50 : Int32 → Int32 → Mem → Option (Int32 × Mem)} {τ : Mem} (x1_1 : 0 ≤ x1.toInt) (x1_2 : x1.toInt ≤ 4) (x2_1 : 0 ≤ x2.toInt) (x2_2 : x2.toInt ≤ 4) (x3_1 : 0 ≤ x3.toInt) (x3_2 : x3.toInt ≤ 999) (x6_1 : 0 ≤ x6.toInt) (x6_2 : x6.toInt ≤ 7) {N50 : Nat} (hM50 : 8 < x6.toInt + (N50 + 1)) (hk50 : ∀ (x5 : Int32) (x6 : Int32) (σ : Mem), wiM σ → (∀ k, k < 101 → σ k = τ k) → σ 101 15 = τ 101 15 → σ 101 34 = τ 101 34 → σ 101 1 = τ 101 1 → σ 101 30 = τ 101 30 → σ 101 18 = τ 101 18 → 8 < x6.toInt + N50 → 0 ≤ x6.toInt → x6.toInt ≤ 8 → sf (k50 x5 x6 σ) (fun r s => wiM s ∧ (∀ k, k < 101 → s k = τ k) ∧ s 101 15 = τ 101 15 ∧ s 101 34 = τ 101 34 ∧ s 101 1 = τ 101 1 ∧ s 101 30 = τ 101 30 ∧ s 101 18 = τ 101 18 ∧ -2147483648 ≤ r.toInt ∧ r.toInt ≤ 2147483647)) : ∀ (N : Nat) (x8 : Int32) (x9 : Int32) (σ : Mem), wiM σ → (∀ k, k < 101 → σ k = τ k) → σ 101 15 = τ 101 15 → σ 101 34 = τ 101 34 → σ 101 1 = τ 101 1 → σ 101 30 = τ 101 30 → σ 101 18 = τ 101 18 → 5 < x9.toInt + N → 0 ≤ x8.toInt → x8.toInt ≤ 1 → 0 ≤ x9.toInt → x9.toInt ≤ 5 → sf (lp_X4_joint_91 F k50 x1 x2 x3 x5 x6 x7 N x8 x9 σ) (fun r s => wiM s ∧ (∀ k, k < 101 → s k = τ k) ∧ s 101 15 = τ 101 15 ∧ s 101 34 = τ 101 34 ∧ s 101 1 = τ 101 1 ∧ s 101 30 = τ 101 30 ∧ s 101 18 = τ 101 18 ∧ -2147483648 ≤ r.toInt ∧ r.toInt ≤ 2147483647) := by
  intro N
  induction N with
  | zero => intro x8 x9 σ hI Fσ Of15_σ Of34_σ Of1_σ Of30_σ Of18_σ hN x8_1 x8_2 x9_1 x9_2; exfalso; omega
  | succ N ih =>
    intro x8 x9 σ hI Fσ Of15_σ Of34_σ Of1_σ Of30_σ Of18_σ hN x8_1 x8_2 x9_1 x9_2
    rw [lp_X4_joint_91_s]
    have m1 := wx_X4_3 hI
    refine sf_ite (fun c2 => ?_) (fun c2 => ?_)
    · have C2 : (σ 101 3).toInt ≤ x9.toInt := ti_le c2
      refine sf_ite (fun c3 => ?_) (fun c3 => ?_)
      · have C3 : x8.toInt = (0 : Int) := ti_eq c3
        rw [j_X4_joint_159_e]
        have b4 := ti_lo (x5 ||| (0 : Int32))
        have b5 := ti_hi (x5 ||| (0 : Int32))
        have t6 : (x6 + (1 : Int32)).toInt = x6.toInt + (1 : Int) := ti_add (show -2147483648 ≤ x6.toInt + (1 : Int) by omega) (show x6.toInt + (1 : Int) ≤ 2147483647 by omega)
        exact hk50 _ _ _ hI Fσ Of15_σ Of34_σ Of1_σ Of30_σ Of18_σ (by omega) (by omega) (by omega)
      have C3 : ¬ x8.toInt = (0 : Int) := ti_ne c3
      rw [j_X4_joint_159_e]
      have b7 := ti_lo (x5 ||| ((1 : Int32) <<< (x6 &&& 31)))
      have b8 := ti_hi (x5 ||| ((1 : Int32) <<< (x6 &&& 31)))
      have t9 : (x6 + (1 : Int32)).toInt = x6.toInt + (1 : Int) := ti_add (show -2147483648 ≤ x6.toInt + (1 : Int) by omega) (show x6.toInt + (1 : Int) ≤ 2147483647 by omega)
      exact hk50 _ _ _ hI Fσ Of15_σ Of34_σ Of1_σ Of30_σ Of18_σ (by omega) (by omega) (by omega)
    have C2 : x9.toInt < (σ 101 3).toInt := ti_nle c2
    refine sf_ite (fun c10 => ?_) (fun c10 => ?_)
    · have C10 : x8.toInt = (0 : Int) := ti_eq c10
      rw [j_X4_joint_135_e]
      rw [j_X4_joint_136_e]
      have t11 : (x9 + (1 : Int32)).toInt = x9.toInt + (1 : Int) := ti_add (show -2147483648 ≤ x9.toInt + (1 : Int) by omega) (show x9.toInt + (1 : Int) ≤ 2147483647 by omega)
      exact ih _ _ _ hI Fσ Of15_σ Of34_σ Of1_σ Of30_σ Of18_σ (by omega) (by decide) (by decide) (by omega) (by omega)
    have C10 : ¬ x8.toInt = (0 : Int) := ti_ne c10
    refine sf_ite (fun c12 => ?_) (fun c12 => ?_)
    · have C12 : x9.toInt = x1.toInt := ti_eq c12
      rw [j_X4_joint_131_e]
      rw [j_X4_joint_136_e]
      have t13 : (x9 + (1 : Int32)).toInt = x9.toInt + (1 : Int) := ti_add (show -2147483648 ≤ x9.toInt + (1 : Int) by omega) (show x9.toInt + (1 : Int) ≤ 2147483647 by omega)
      exact ih _ _ _ hI Fσ Of15_σ Of34_σ Of1_σ Of30_σ Of18_σ (by omega) (by decide) (by decide) (by omega) (by omega)
    have C12 : ¬ x9.toInt = x1.toInt := ti_ne c12
    refine sf_ite (fun c14 => ?_) (fun c14 => ?_)
    · have C14 : x9.toInt = x2.toInt := ti_eq c14
      rw [j_X4_joint_131_e]
      rw [j_X4_joint_136_e]
      have t15 : (x9 + (1 : Int32)).toInt = x9.toInt + (1 : Int) := ti_add (show -2147483648 ≤ x9.toInt + (1 : Int) by omega) (show x9.toInt + (1 : Int) ≤ 2147483647 by omega)
      exact ih _ _ _ hI Fσ Of15_σ Of34_σ Of1_σ Of30_σ Of18_σ (by omega) (by decide) (by decide) (by omega) (by omega)
    have C14 : ¬ x9.toInt = x2.toInt := ti_ne c14
    refine sf_bnd (s_X4_countIn hF hI (by omega) (by omega) (by omega) (by omega) (by omega) (by omega)) (fun r16 u17 p18 => ?_)
    obtain ⟨e9, p18_1, p18_2⟩ := p18
    have e9 := e9.symm
    subst e9
    have b19 := ti_lo x7
    have b20 := ti_hi x7
    have b21 := ti_lo r16
    have b22 := ti_hi r16
    refine sf_ite (fun c23 => ?_) (fun c23 => ?_)
    · have C23 : x7.toInt ≤ r16.toInt := ti_le c23
      rw [j_X4_joint_135_e]
      rw [j_X4_joint_136_e]
      have t24 : (x9 + (1 : Int32)).toInt = x9.toInt + (1 : Int) := ti_add (show -2147483648 ≤ x9.toInt + (1 : Int) by omega) (show x9.toInt + (1 : Int) ≤ 2147483647 by omega)
      exact ih _ _ _ hI Fσ Of15_σ Of34_σ Of1_σ Of30_σ Of18_σ (by omega) (by decide) (by decide) (by omega) (by omega)
    have C23 : r16.toInt < x7.toInt := ti_nle c23
    rw [j_X4_joint_131_e]
    rw [j_X4_joint_136_e]
    have t25 : (x9 + (1 : Int32)).toInt = x9.toInt + (1 : Int) := ti_add (show -2147483648 ≤ x9.toInt + (1 : Int) by omega) (show x9.toInt + (1 : Int) ≤ 2147483647 by omega)
    exact ih _ _ _ hI Fσ Of15_σ Of34_σ Of1_σ Of30_σ Of18_σ (by omega) (by decide) (by decide) (by omega) (by omega)
set_option maxHeartbeats 4000000 in
set_option maxRecDepth 100000 in
theorem sl_X4_joint_50 {F : Nat} (hF : 73786976294838206464 ≤ F) {x1 : Int32} {x2 : Int32} {x3 : Int32} {τ : Mem} (x1_1 : 0 ≤ x1.toInt) (x1_2 : x1.toInt ≤ 4) (x2_1 : 0 ≤ x2.toInt) (x2_2 : x2.toInt ≤ 4) (x3_1 : 0 ≤ x3.toInt) (x3_2 : x3.toInt ≤ 999) : ∀ (N : Nat) (x5 : Int32) (x6 : Int32) (σ : Mem), wiM σ → (∀ k, k < 101 → σ k = τ k) → σ 101 15 = τ 101 15 → σ 101 34 = τ 101 34 → σ 101 1 = τ 101 1 → σ 101 30 = τ 101 30 → σ 101 18 = τ 101 18 → 8 < x6.toInt + N → 0 ≤ x6.toInt → x6.toInt ≤ 8 → sf (lp_X4_joint_50 F x1 x2 x3 N x5 x6 σ) (fun r s => wiM s ∧ (∀ k, k < 101 → s k = τ k) ∧ s 101 15 = τ 101 15 ∧ s 101 34 = τ 101 34 ∧ s 101 1 = τ 101 1 ∧ s 101 30 = τ 101 30 ∧ s 101 18 = τ 101 18 ∧ -2147483648 ≤ r.toInt ∧ r.toInt ≤ 2147483647) := by
  intro N
  induction N with
  | zero => intro x5 x6 σ hI Fσ Of15_σ Of34_σ Of1_σ Of30_σ Of18_σ hN x6_1 x6_2; exfalso; omega
  | succ N ih =>
    intro x5 x6 σ hI Fσ Of15_σ Of34_σ Of1_σ Of30_σ Of18_σ hN x6_1 x6_2
    rw [lp_X4_joint_50_s]
    refine sf_ite (fun c1 => ?_) (fun c1 => ?_)
    · have C1 : (8 : Int) ≤ x6.toInt := ti_le c1
      have b2 := ti_lo x5
      have b3 := ti_hi x5
      exact sf_ret ⟨hI, Fσ, Of15_σ, Of34_σ, Of1_σ, Of30_σ, Of18_σ, ti_lo _, ti_hi _⟩
    have C1 : x6.toInt < (8 : Int) := ti_nle c1
    refine sf_bnd (s_X4_countIn hF hI (by omega) (by omega) (by omega) (by omega) (by omega) (by omega)) (fun r4 u5 p6 => ?_)
    obtain ⟨e9, p6_1, p6_2⟩ := p6
    have e9 := e9.symm
    subst e9
    refine sf_bnd (s_X4_countIn hF hI (by omega) (by omega) (by omega) (by omega) (by omega) (by omega)) (fun r7 u8 p9 => ?_)
    obtain ⟨e9, p9_1, p9_2⟩ := p9
    have e9 := e9.symm
    subst e9
    have b10 := ti_lo r4
    have b11 := ti_hi r4
    have b12 := ti_lo r7
    have b13 := ti_hi r7
    have b14 := ti_lo (r4 + r7)
    have b15 := ti_hi (r4 + r7)
    refine sf_ite (fun c16 => ?_) (fun c16 => ?_)
    · have C16 : (r4 + r7).toInt ≤ (0 : Int) := ti_le c16
      rw [j_X4_joint_86_e]
      have b17 := ti_lo x5
      have b18 := ti_hi x5
      have l_0 : (0 : Int32).toInt = 0 := rfl
      exact sl_X4_joint_91 hF (by omega) (by omega) (by omega) (by omega) (by omega) (by omega) (by omega) (by omega) (by omega) ih _ _ _ _ hI Fσ Of15_σ Of34_σ Of1_σ Of30_σ Of18_σ (by omega) (by decide) (by decide) (by decide) (by decide)
    have C16 : (0 : Int) < (r4 + r7).toInt := ti_nle c16
    rw [j_X4_joint_86_e]
    have b19 := ti_lo x5
    have b20 := ti_hi x5
    have l_0 : (0 : Int32).toInt = 0 := rfl
    exact sl_X4_joint_91 hF (by omega) (by omega) (by omega) (by omega) (by omega) (by omega) (by omega) (by omega) (by omega) ih _ _ _ _ hI Fσ Of15_σ Of34_σ Of1_σ Of30_σ Of18_σ (by omega) (by decide) (by decide) (by decide) (by decide)
set_option maxHeartbeats 4000000 in
set_option maxRecDepth 100000 in
theorem s_X4_joint {F : Nat} (hF : 73786976294838206464 ≤ F) {x1 : Int32} {x2 : Int32} {x3 : Int32} {τ : Mem} (hI : wiM τ) : sf (f_X4_joint F x1 x2 x3 τ) (fun r s => wiM s ∧ (∀ k, k < 101 → s k = τ k) ∧ s 101 15 = τ 101 15 ∧ s 101 34 = τ 101 34 ∧ s 101 1 = τ 101 1 ∧ s 101 30 = τ 101 30 ∧ s 101 18 = τ 101 18 ∧ -2147483648 ≤ r.toInt ∧ r.toInt ≤ 2147483647) := by
  have Fτ : ∀ k, k < 101 → τ k = τ k := fun _ _ => rfl
  have Of15_τ : τ 101 15 = τ 101 15 := rfl
  have Of34_τ : τ 101 34 = τ 101 34 := rfl
  have Of1_τ : τ 101 1 = τ 101 1 := rfl
  have Of30_τ : τ 101 30 = τ 101 30 := rfl
  have Of18_τ : τ 101 18 = τ 101 18 := rfl
  rw [f_X4_joint_e]
  refine sf_lt (fun s1 hs1 => ?_)
  have Is1 : wiM s1 := by rw [hs1]; exact wm_fld hI (by decide) (by decide) (by decide) (by decide) (by decide) (by decide) (by decide)
  have Fs1 : ∀ k, k < 101 → s1 k = τ k := fun k hk => (show s1 k = τ k by rw [hs1, up2_k (by omega)]).trans (Fτ k hk)
  have Of15_s1 : s1 101 15 = τ 101 15 := (show s1 101 15 = τ 101 15 by rw [hs1, up2_i (by decide)]).trans Of15_τ
  have Of34_s1 : s1 101 34 = τ 101 34 := (show s1 101 34 = τ 101 34 by rw [hs1, up2_i (by decide)]).trans Of34_τ
  have Of1_s1 : s1 101 1 = τ 101 1 := (show s1 101 1 = τ 101 1 by rw [hs1, up2_i (by decide)]).trans Of1_τ
  have Of30_s1 : s1 101 30 = τ 101 30 := (show s1 101 30 = τ 101 30 by rw [hs1, up2_i (by decide)]).trans Of30_τ
  have Of18_s1 : s1 101 18 = τ 101 18 := (show s1 101 18 = τ 101 18 by rw [hs1, up2_i (by decide)]).trans Of18_τ
  have b2 := ti_lo x1
  have b3 := ti_hi x1
  have b4 := ti_lo x2
  have b5 := ti_hi x2
  refine sf_bnd (s_X4_areTwo hF Is1) (fun r6 u7 p8 => ?_)
  obtain ⟨e9, p8⟩ := p8
  have e9 := e9.symm
  subst e9
  rcases p8 with ⟨rfl, q9, q10, q11, q12⟩ | p8
  · refine sf_ite (fun c13 => ?_) (fun c13 => ?_)
    · have C13 : (1 : Int) = (0 : Int) := ti_eq c13
      exfalso; omega
    have C13 : ¬ (1 : Int) = (0 : Int) := ti_ne c13
    refine sf_in ?_
    rw [f_X4_wrongNumber_e]
    have b14 := ti_lo x3
    have b15 := ti_hi x3
    refine sf_ite (fun c16 => ?_) (fun c16 => ?_)
    · have C16 : (0 : Int) ≤ x3.toInt := ti_le c16
      refine sf_ite (fun c17 => ?_) (fun c17 => ?_)
      · have C17 : x3.toInt ≤ (999 : Int) := ti_le c17
        refine sf_ret ?_
        rw [j_X4_joint_26_e]
        refine sf_ite (fun c18 => ?_) (fun c18 => ?_)
        · have C18 : (0 : Int) ≤ (0 : Int) := ti_le c18
          refine sf_bnd (s_X4_layBrings hF Is1) (fun r19 u20 p21 => ?_)
          obtain ⟨Iu20, Fu20_, Of15_u20_, Of34_u20_, Of1_u20_, Of30_u20_, Of18_u20_, -⟩ := p21
          have Fu20 : ∀ k, k < 101 → u20 k = τ k := fun k hk => (Fu20_ k hk).trans (Fs1 k hk)
          have Of15_u20 : u20 101 15 = τ 101 15 := Of15_u20_.trans Of15_s1
          have Of34_u20 : u20 101 34 = τ 101 34 := Of34_u20_.trans Of34_s1
          have Of1_u20 : u20 101 1 = τ 101 1 := Of1_u20_.trans Of1_s1
          have Of30_u20 : u20 101 30 = τ 101 30 := Of30_u20_.trans Of30_s1
          have Of18_u20 : u20 101 18 = τ 101 18 := Of18_u20_.trans Of18_s1
          have l_0 : (0 : Int32).toInt = 0 := rfl
          exact sl_X4_joint_50 hF (by omega) (by omega) (by omega) (by omega) (by omega) (by omega) _ _ _ _ Iu20 Fu20 Of15_u20 Of34_u20 Of1_u20 Of30_u20 Of18_u20 (by omega) (by decide) (by decide)
        have C18 : (0 : Int) < (0 : Int) := ti_nle c18
        exfalso; omega
      have C17 : (999 : Int) < x3.toInt := ti_nle c17
      refine sf_ret ?_
      rw [j_X4_joint_26_e]
      refine sf_ite (fun c22 => ?_) (fun c22 => ?_)
      · have C22 : (0 : Int) ≤ (-6 : Int) := ti_le c22
        exfalso; omega
      have C22 : (-6 : Int) < (0 : Int) := ti_nle c22
      refine sf_bnd (s_X4_refuse hF Is1 (by decide) (by decide)) (fun r23 u24 p25 => ?_)
      obtain ⟨Iu24, Fu24_, Of15_u24_, Of34_u24_, Of1_u24_, Of30_u24_, Of18_u24_, p25_1, p25_2, p25_x0⟩ := p25
      have Fu24 : ∀ k, k < 101 → u24 k = τ k := fun k hk => (Fu24_ k hk).trans (Fs1 k hk)
      have Of15_u24 : u24 101 15 = τ 101 15 := Of15_u24_.trans Of15_s1
      have Of34_u24 : u24 101 34 = τ 101 34 := Of34_u24_.trans Of34_s1
      have Of1_u24 : u24 101 1 = τ 101 1 := Of1_u24_.trans Of1_s1
      have Of30_u24 : u24 101 30 = τ 101 30 := Of30_u24_.trans Of30_s1
      have Of18_u24 : u24 101 18 = τ 101 18 := Of18_u24_.trans Of18_s1
      replace p25_x0 : r23.toInt = (-6 : Int) := p25_x0
      exact sf_ret ⟨Iu24, Fu24, Of15_u24, Of34_u24, Of1_u24, Of30_u24, Of18_u24, ti_lo _, ti_hi _⟩
    have C16 : x3.toInt < (0 : Int) := ti_nle c16
    refine sf_ret ?_
    rw [j_X4_joint_26_e]
    refine sf_ite (fun c26 => ?_) (fun c26 => ?_)
    · have C26 : (0 : Int) ≤ (-4 : Int) := ti_le c26
      exfalso; omega
    have C26 : (-4 : Int) < (0 : Int) := ti_nle c26
    refine sf_bnd (s_X4_refuse hF Is1 (by decide) (by decide)) (fun r27 u28 p29 => ?_)
    obtain ⟨Iu28, Fu28_, Of15_u28_, Of34_u28_, Of1_u28_, Of30_u28_, Of18_u28_, p29_1, p29_2, p29_x0⟩ := p29
    have Fu28 : ∀ k, k < 101 → u28 k = τ k := fun k hk => (Fu28_ k hk).trans (Fs1 k hk)
    have Of15_u28 : u28 101 15 = τ 101 15 := Of15_u28_.trans Of15_s1
    have Of34_u28 : u28 101 34 = τ 101 34 := Of34_u28_.trans Of34_s1
    have Of1_u28 : u28 101 1 = τ 101 1 := Of1_u28_.trans Of1_s1
    have Of30_u28 : u28 101 30 = τ 101 30 := Of30_u28_.trans Of30_s1
    have Of18_u28 : u28 101 18 = τ 101 18 := Of18_u28_.trans Of18_s1
    replace p29_x0 : r27.toInt = (-4 : Int) := p29_x0
    exact sf_ret ⟨Iu28, Fu28, Of15_u28, Of34_u28, Of1_u28, Of30_u28, Of18_u28, ti_lo _, ti_hi _⟩
  obtain rfl := p8
  refine sf_ite (fun c30 => ?_) (fun c30 => ?_)
  · have C30 : (0 : Int) = (0 : Int) := ti_eq c30
    rw [j_X4_joint_26_e]
    refine sf_ite (fun c31 => ?_) (fun c31 => ?_)
    · have C31 : (0 : Int) ≤ (-1 : Int) := ti_le c31
      exfalso; omega
    have C31 : (-1 : Int) < (0 : Int) := ti_nle c31
    refine sf_bnd (s_X4_refuse hF Is1 (by decide) (by decide)) (fun r32 u33 p34 => ?_)
    obtain ⟨Iu33, Fu33_, Of15_u33_, Of34_u33_, Of1_u33_, Of30_u33_, Of18_u33_, p34_1, p34_2, p34_x0⟩ := p34
    have Fu33 : ∀ k, k < 101 → u33 k = τ k := fun k hk => (Fu33_ k hk).trans (Fs1 k hk)
    have Of15_u33 : u33 101 15 = τ 101 15 := Of15_u33_.trans Of15_s1
    have Of34_u33 : u33 101 34 = τ 101 34 := Of34_u33_.trans Of34_s1
    have Of1_u33 : u33 101 1 = τ 101 1 := Of1_u33_.trans Of1_s1
    have Of30_u33 : u33 101 30 = τ 101 30 := Of30_u33_.trans Of30_s1
    have Of18_u33 : u33 101 18 = τ 101 18 := Of18_u33_.trans Of18_s1
    replace p34_x0 : r32.toInt = (-1 : Int) := p34_x0
    exact sf_ret ⟨Iu33, Fu33, Of15_u33, Of34_u33, Of1_u33, Of30_u33, Of18_u33, ti_lo _, ti_hi _⟩
  have C30 : ¬ (0 : Int) = (0 : Int) := ti_ne c30
  exfalso; omega
