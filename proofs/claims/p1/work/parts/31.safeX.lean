set_option maxHeartbeats 4000000 in
set_option maxRecDepth 100000 in
theorem sl_X1_faultOfForm_15 {F : Nat} (hF : 100000 ≤ F) {τ : Mem} (hI : wiX τ) : ∀ (N : Nat) (x1 : Int32) (x2 : Int32) (x3 : Int32) , 96 < x3.toInt + N → 0 ≤ x2.toInt → x2.toInt ≤ 1 → 0 ≤ x3.toInt → x3.toInt ≤ 96 → sf (lp_X1_faultOfForm_15 F N x1 x2 x3 τ) (fun r s => s = τ ∧ -9 ≤ r.toInt ∧ r.toInt ≤ 96) := by
  intro N
  induction N with
  | zero => intro x1 x2 x3 hN x2_1 x2_2 x3_1 x3_2; exfalso; omega
  | succ N ih =>
    intro x1 x2 x3 hN x2_1 x2_2 x3_1 x3_2
    rw [lp_X1_faultOfForm_15_s]
    have m1 := wx_X1_1 hI
    refine sf_ite (fun c2 => ?_) (fun c2 => ?_)
    · have C2 : (τ 83 1).toInt ≤ x3.toInt := ti_le c2
      refine sf_ite (fun c3 => ?_) (fun c3 => ?_)
      · have C3 : x2.toInt = (0 : Int) := ti_eq c3
        exact sf_ret ⟨rfl, by decide, by decide⟩
      have C3 : ¬ x2.toInt = (0 : Int) := ti_ne c3
      exact sf_ret ⟨rfl, by omega, by omega⟩
    have C2 : x3.toInt < (τ 83 1).toInt := ti_nle c2
    refine sf_ite (fun c4 => ?_) (fun c4 => ?_)
    · have C4 : x2.toInt = (0 : Int) := ti_eq c4
      refine sf_chk (ti_in (by omega) (by omega)) ?_
      have v5 : Int32.toNatClampNeg x3 = x3.toInt.toNat := rfl
      have b6 := ti_lo (τ 84 (Int32.toNatClampNeg x3))
      have b7 := ti_hi (τ 84 (Int32.toNatClampNeg x3))
      refine sf_bnd (s_X1_digitsOf hF hI) (fun r8 u9 p10 => ?_)
      obtain ⟨e9, p10_1, p10_2⟩ := p10
      have e9 := e9.symm
      subst e9
      refine sf_ite (fun c11 => ?_) (fun c11 => ?_)
      · have C11 : r8.toInt = (-9 : Int) := ti_eq c11
        rw [j_X1_faultOfForm_48_e]
        refine sf_ite (fun c12 => ?_) (fun c12 => ?_)
        · have C12 : (0 : Int) = (0 : Int) := ti_eq c12
          exact sf_ret ⟨rfl, by omega, by omega⟩
        have C12 : ¬ (0 : Int) = (0 : Int) := ti_ne c12
        exfalso; omega
      have C11 : ¬ r8.toInt = (-9 : Int) := ti_ne c11
      rw [j_X1_faultOfForm_48_e]
      refine sf_ite (fun c13 => ?_) (fun c13 => ?_)
      · have C13 : (1 : Int) = (0 : Int) := ti_eq c13
        exfalso; omega
      have C13 : ¬ (1 : Int) = (0 : Int) := ti_ne c13
      rw [j_X1_faultOfForm_90_e]
      have t14 : (x3 + (1 : Int32)).toInt = x3.toInt + (1 : Int) := ti_add (show -2147483648 ≤ x3.toInt + (1 : Int) by omega) (show x3.toInt + (1 : Int) ≤ 2147483647 by omega)
      exact ih _ _ _ (by omega) (by decide) (by decide) (by omega) (by omega)
    have C4 : ¬ x2.toInt = (0 : Int) := ti_ne c4
    have b15 := ti_lo x1
    have b16 := ti_hi x1
    refine sf_ite (fun c17 => ?_) (fun c17 => ?_)
    · have C17 : x1.toInt ≤ (0 : Int) := ti_le c17
      refine sf_chk (ti_in (by omega) (by omega)) ?_
      have v18 : Int32.toNatClampNeg x3 = x3.toInt.toNat := rfl
      have b19 := ti_lo (τ 84 (Int32.toNatClampNeg x3))
      have b20 := ti_hi (τ 84 (Int32.toNatClampNeg x3))
      refine sf_ite (fun c21 => ?_) (fun c21 => ?_)
      · have C21 : (τ 84 (Int32.toNatClampNeg x3)).toInt = (59 : Int) := ti_eq c21
        rw [j_X1_faultOfForm_90_e]
        have t22 : (x3 + (1 : Int32)).toInt = x3.toInt + (1 : Int) := ti_add (show -2147483648 ≤ x3.toInt + (1 : Int) by omega) (show x3.toInt + (1 : Int) ≤ 2147483647 by omega)
        exact ih _ _ _ (by omega) (by decide) (by decide) (by omega) (by omega)
      have C21 : ¬ (τ 84 (Int32.toNatClampNeg x3)).toInt = (59 : Int) := ti_ne c21
      exact sf_ret ⟨rfl, by omega, by omega⟩
    have C17 : (0 : Int) < x1.toInt := ti_nle c17
    refine sf_bnd (s_X1_isDigit hF hI) (fun r23 u24 p25 => ?_)
    obtain ⟨e9, p25⟩ := p25
    have e9 := e9.symm
    subst e9
    rcases p25 with ⟨rfl, q26, q27⟩ | p25
    · refine sf_ite (fun c28 => ?_) (fun c28 => ?_)
      · have C28 : (1 : Int) = (0 : Int) := ti_eq c28
        exfalso; omega
      have C28 : ¬ (1 : Int) = (0 : Int) := ti_ne c28
      rw [j_X1_faultOfForm_90_e]
      have t29 : (x1 + (-1 : Int32)).toInt = x1.toInt + (-1 : Int) := ti_add (show -2147483648 ≤ x1.toInt + (-1 : Int) by omega) (show x1.toInt + (-1 : Int) ≤ 2147483647 by omega)
      have t30 : (x3 + (1 : Int32)).toInt = x3.toInt + (1 : Int) := ti_add (show -2147483648 ≤ x3.toInt + (1 : Int) by omega) (show x3.toInt + (1 : Int) ≤ 2147483647 by omega)
      exact ih _ _ _ (by omega) (by omega) (by omega) (by omega) (by omega)
    obtain rfl := p25
    refine sf_ite (fun c31 => ?_) (fun c31 => ?_)
    · have C31 : (0 : Int) = (0 : Int) := ti_eq c31
      exact sf_ret ⟨rfl, by omega, by omega⟩
    have C31 : ¬ (0 : Int) = (0 : Int) := ti_ne c31
    exfalso; omega
set_option maxHeartbeats 4000000 in
set_option maxRecDepth 100000 in
theorem s_X1_faultOfForm {F : Nat} (hF : 100000 ≤ F) {τ : Mem} (hI : wiX τ) : sf (f_X1_faultOfForm F τ) (fun r s => s = τ ∧ -9 ≤ r.toInt ∧ r.toInt ≤ 96) := by
  rw [f_X1_faultOfForm_e]
  have m1 := wx_X1_1 hI
  refine sf_ite (fun c2 => ?_) (fun c2 => ?_)
  · have C2 : (τ 83 1).toInt = (0 : Int) := ti_eq c2
    exact sf_ret ⟨rfl, by decide, by decide⟩
  have C2 : ¬ (τ 83 1).toInt = (0 : Int) := ti_ne c2
  have l_0 : (0 : Int32).toInt = 0 := rfl
  exact sl_X1_faultOfForm_15 hF hI _ _ _ _  (by omega) (by decide) (by decide) (by decide) (by decide)
set_option maxHeartbeats 4000000 in
set_option maxRecDepth 100000 in
theorem sl_X1_number_5 {F : Nat} (hF : 100000 ≤ F) {x1 : Int32} {x2 : Int32} {τ : Mem} (hI : wiX τ) (x1_1 : 1 ≤ x1.toInt) (x1_2 : x1.toInt ≤ 120) (x2_1 : 1 ≤ x2.toInt) (x2_2 : x2.toInt ≤ 3) : ∀ (N : Nat) (x3 : Int32) (x4 : Int32) , 188 < x4.toInt + N → 1 ≤ x4.toInt → x4.toInt ≤ 188 → sf (lp_X1_number_5 F x1 x2 N x3 x4 τ) (fun r s => s = τ ∧ -2147483648 ≤ r.toInt ∧ r.toInt ≤ 2147483647) := by
  intro N
  induction N with
  | zero => intro x3 x4 hN x4_1 x4_2; exfalso; omega
  | succ N ih =>
    intro x3 x4 hN x4_1 x4_2
    rw [lp_X1_number_5_s]
    have t1 : (x1 + x2).toInt = x1.toInt + x2.toInt := ti_add (show -2147483648 ≤ x1.toInt + x2.toInt by omega) (show x1.toInt + x2.toInt ≤ 2147483647 by omega)
    refine sf_ite (fun c2 => ?_) (fun c2 => ?_)
    · have C2 : (x1 + x2).toInt ≤ x4.toInt := ti_le c2
      have b3 := ti_lo x3
      have b4 := ti_hi x3
      exact sf_ret ⟨rfl, ti_lo _, ti_hi _⟩
    have C2 : x4.toInt < (x1 + x2).toInt := ti_nle c2
    refine sf_bnd (s_X1_isDigit hF hI) (fun r5 u6 p7 => ?_)
    obtain ⟨e9, p7⟩ := p7
    have e9 := e9.symm
    subst e9
    rcases p7 with ⟨rfl, q8, q9⟩ | p7
    · refine sf_ite (fun c10 => ?_) (fun c10 => ?_)
      · have C10 : (1 : Int) = (0 : Int) := ti_eq c10
        exfalso; omega
      have C10 : ¬ (1 : Int) = (0 : Int) := ti_ne c10
      refine sf_chk (ti_in (by omega) (by omega)) ?_
      have v11 : Int32.toNatClampNeg x4 = x4.toInt.toNat := rfl
      rw [j_X1_number_40_e]
      have b12 := ti_lo x3
      have b13 := ti_hi x3
      have b14 := ti_lo (x3 * (10 : Int32))
      have b15 := ti_hi (x3 * (10 : Int32))
      have b16 := ti_lo (τ 84 (Int32.toNatClampNeg x4))
      have b17 := ti_hi (τ 84 (Int32.toNatClampNeg x4))
      have b18 := ti_lo ((τ 84 (Int32.toNatClampNeg x4)) - (48 : Int32))
      have b19 := ti_hi ((τ 84 (Int32.toNatClampNeg x4)) - (48 : Int32))
      have b20 := ti_lo ((x3 * (10 : Int32)) + ((τ 84 (Int32.toNatClampNeg x4)) - (48 : Int32)))
      have b21 := ti_hi ((x3 * (10 : Int32)) + ((τ 84 (Int32.toNatClampNeg x4)) - (48 : Int32)))
      have t22 : (x4 + (1 : Int32)).toInt = x4.toInt + (1 : Int) := ti_add (show -2147483648 ≤ x4.toInt + (1 : Int) by omega) (show x4.toInt + (1 : Int) ≤ 2147483647 by omega)
      exact ih _ _ (by omega) (by omega) (by omega)
    obtain rfl := p7
    refine sf_ite (fun c23 => ?_) (fun c23 => ?_)
    · have C23 : (0 : Int) = (0 : Int) := ti_eq c23
      rw [j_X1_number_40_e]
      have b24 := ti_lo x3
      have b25 := ti_hi x3
      have b26 := ti_lo (x3 * (10 : Int32))
      have b27 := ti_hi (x3 * (10 : Int32))
      have t28 : ((x3 * (10 : Int32)) + (0 : Int32)).toInt = (x3 * (10 : Int32)).toInt + (0 : Int) := ti_add (show -2147483648 ≤ (x3 * (10 : Int32)).toInt + (0 : Int) by omega) (show (x3 * (10 : Int32)).toInt + (0 : Int) ≤ 2147483647 by omega)
      have t29 : (x4 + (1 : Int32)).toInt = x4.toInt + (1 : Int) := ti_add (show -2147483648 ≤ x4.toInt + (1 : Int) by omega) (show x4.toInt + (1 : Int) ≤ 2147483647 by omega)
      exact ih _ _ (by omega) (by omega) (by omega)
    have C23 : ¬ (0 : Int) = (0 : Int) := ti_ne c23
    exfalso; omega
set_option maxHeartbeats 4000000 in
set_option maxRecDepth 100000 in
theorem s_X1_number {F : Nat} (hF : 100000 ≤ F) {x1 : Int32} {x2 : Int32} {τ : Mem} (hI : wiX τ) (x1_1 : 1 ≤ x1.toInt) (x1_2 : x1.toInt ≤ 101) (x2_1 : 1 ≤ x2.toInt) (x2_2 : x2.toInt ≤ 3) : sf (f_X1_number F x1 x2 τ) (fun r s => s = τ ∧ -2147483648 ≤ r.toInt ∧ r.toInt ≤ 2147483647) := by
  rw [f_X1_number_e]
  exact sl_X1_number_5 hF hI (by omega) (by omega) (by omega) (by omega) _ _ _  (by omega) (by omega) (by omega)
set_option maxHeartbeats 4000000 in
set_option maxRecDepth 100000 in
theorem s_X1_tell {F : Nat} (hF : 100000 ≤ F) {g : Nat} {x2 : Int32} {τ : Mem} (hg : wt_isH g) (hI : wiX τ) (x2_1 : -2147483648 ≤ x2.toInt) (x2_2 : x2.toInt ≤ 95) : sf (f_X1_tell F g x2 τ) (fun r s => wiX s ∧ (∀ k, 101 ≤ k → s k = τ k) ∧ s 83 1 = τ 83 1 ∧ s 0 7 = τ 0 7 ∧ 0 ≤ r.toInt ∧ r.toInt ≤ 1) := by
  have hc_g := wt_Hcs hg
  have Fτ : ∀ k, 101 ≤ k → τ k = τ k := fun _ _ => rfl
  have O83_τ : τ 83 1 = τ 83 1 := rfl
  have O0_τ : τ 0 7 = τ 0 7 := rfl
  rw [f_X1_tell_e]
  have b1 := ti_lo x2
  have b2 := ti_hi x2
  refine sf_ite (fun c3 => ?_) (fun c3 => ?_)
  · have C3 : x2.toInt < (0 : Int) := ti_lt c3
    rw [j_X1_tell_12_e]
    exact sf_ret ⟨hI, Fτ, O83_τ, O0_τ, by decide, by decide⟩
  have C3 : (0 : Int) ≤ x2.toInt := ti_nlt c3
  have m4 := wx_X1_1 hI
  refine sf_ite (fun c5 => ?_) (fun c5 => ?_)
  · have C5 : x2.toInt < (τ 83 1).toInt := ti_lt c5
    refine sf_chk (ti_in (by omega) (by omega)) ?_
    have v6 : Int32.toNatClampNeg x2 = x2.toInt.toNat := rfl
    have b7 := ti_lo (τ 84 (Int32.toNatClampNeg x2))
    have b8 := ti_hi (τ 84 (Int32.toNatClampNeg x2))
    refine sf_ite (fun c9 => ?_) (fun c9 => ?_)
    · have C9 : (τ 84 (Int32.toNatClampNeg x2)).toInt = (100 : Int) := ti_eq c9
      have t10 : (x2 + (1 : Int32)).toInt = x2.toInt + (1 : Int) := ti_add (show -2147483648 ≤ x2.toInt + (1 : Int) by omega) (show x2.toInt + (1 : Int) ≤ 2147483647 by omega)
      refine sf_bnd (s_X1_number hF hI (by omega) (by omega) (by decide) (by decide)) (fun r11 u12 p13 => ?_)
      obtain ⟨e9, p13_1, p13_2⟩ := p13
      have e9 := e9.symm
      subst e9
      have b14 := ti_lo r11
      have b15 := ti_hi r11
      refine sf_ite (fun c16 => ?_) (fun c16 => ?_)
      · have C16 : (60 : Int) < r11.toInt := ti_lt c16
        rw [j_X1_tell_262_e]
        exact sf_ret ⟨hI, Fτ, O83_τ, O0_τ, by decide, by decide⟩
      have C16 : r11.toInt ≤ (60 : Int) := ti_nlt c16
      refine sf_bnd (s_X1_number hF hI (by omega) (by omega) (by decide) (by decide)) (fun r17 u18 p19 => ?_)
      obtain ⟨e9, p19_1, p19_2⟩ := p19
      have e9 := e9.symm
      subst e9
      have b20 := ti_lo r17
      have b21 := ti_hi r17
      refine sf_bnd (s_X0_pass hF hg hI) (fun r22 u23 p24 => ?_)
      obtain ⟨Iu23, Fu23_, O83_u23_, O0_u23_, p24_1, p24_2⟩ := p24
      have Fu23 : ∀ k, 101 ≤ k → u23 k = τ k := fun k hk => (Fu23_ k hk).trans (Fτ k hk)
      have O83_u23 : u23 83 1 = τ 83 1 := O83_u23_.trans O83_τ
      have O0_u23 : u23 0 7 = τ 0 7 := O0_u23_.trans O0_τ
      have hb_r22 : r22 = 0 ∨ r22 = 1 := wi_bool p24_1 p24_2
      refine sf_ite (fun c25 => ?_) (fun c25 => ?_)
      · have C25 : r22.toInt = (0 : Int) := ti_eq c25
        rw [j_X1_tell_262_e]
        exact sf_ret ⟨Iu23, Fu23, O83_u23, O0_u23, by decide, by decide⟩
      have C25 : ¬ r22.toInt = (0 : Int) := ti_ne c25
      exact sf_ret ⟨Iu23, Fu23, O83_u23, O0_u23, by decide, by decide⟩
    have C9 : ¬ (τ 84 (Int32.toNatClampNeg x2)).toInt = (100 : Int) := ti_ne c9
    refine sf_ite (fun c26 => ?_) (fun c26 => ?_)
    · have C26 : (τ 84 (Int32.toNatClampNeg x2)).toInt = (108 : Int) := ti_eq c26
      have t27 : (x2 + (1 : Int32)).toInt = x2.toInt + (1 : Int) := ti_add (show -2147483648 ≤ x2.toInt + (1 : Int) by omega) (show x2.toInt + (1 : Int) ≤ 2147483647 by omega)
      refine sf_bnd (s_X1_number hF hI (by omega) (by omega) (by decide) (by decide)) (fun r28 u29 p30 => ?_)
      obtain ⟨e9, p30_1, p30_2⟩ := p30
      have e9 := e9.symm
      subst e9
      have t31 : ((x2 + (1 : Int32)) + (1 : Int32)).toInt = (x2 + (1 : Int32)).toInt + (1 : Int) := ti_add (show -2147483648 ≤ (x2 + (1 : Int32)).toInt + (1 : Int) by omega) (show (x2 + (1 : Int32)).toInt + (1 : Int) ≤ 2147483647 by omega)
      refine sf_bnd (s_X1_number hF hI (by omega) (by omega) (by decide) (by decide)) (fun r32 u33 p34 => ?_)
      obtain ⟨e9, p34_1, p34_2⟩ := p34
      have e9 := e9.symm
      subst e9
      have b35 := ti_lo r28
      have b36 := ti_hi r28
      have b37 := ti_lo r32
      have b38 := ti_hi r32
      refine sf_bnd (s_X0_addLooker hF hg hI) (fun r39 u40 p41 => ?_)
      obtain ⟨Iu40, Fu40_, O83_u40_, O0_u40_, p41_1, p41_2⟩ := p41
      have Fu40 : ∀ k, 101 ≤ k → u40 k = τ k := fun k hk => (Fu40_ k hk).trans (Fτ k hk)
      have O83_u40 : u40 83 1 = τ 83 1 := O83_u40_.trans O83_τ
      have O0_u40 : u40 0 7 = τ 0 7 := O0_u40_.trans O0_τ
      have hb_r39 : r39 = 0 ∨ r39 = 1 := wi_bool p41_1 p41_2
      refine sf_bz hb_r39 ?_
      exact sf_ret ⟨Iu40, Fu40, O83_u40, O0_u40, by omega, by omega⟩
    have C26 : ¬ (τ 84 (Int32.toNatClampNeg x2)).toInt = (108 : Int) := ti_ne c26
    refine sf_ite (fun c42 => ?_) (fun c42 => ?_)
    · have C42 : (τ 84 (Int32.toNatClampNeg x2)).toInt = (112 : Int) := ti_eq c42
      have t43 : (x2 + (1 : Int32)).toInt = x2.toInt + (1 : Int) := ti_add (show -2147483648 ≤ x2.toInt + (1 : Int) by omega) (show x2.toInt + (1 : Int) ≤ 2147483647 by omega)
      refine sf_bnd (s_X1_number hF hI (by omega) (by omega) (by decide) (by decide)) (fun r44 u45 p46 => ?_)
      obtain ⟨e9, p46_1, p46_2⟩ := p46
      have e9 := e9.symm
      subst e9
      have b47 := ti_lo r44
      have b48 := ti_hi r44
      refine sf_bnd (s_X0_addPane hF hg hI) (fun r49 u50 p51 => ?_)
      obtain ⟨Iu50, Fu50_, O83_u50_, O0_u50_, p51_1, p51_2⟩ := p51
      have Fu50 : ∀ k, 101 ≤ k → u50 k = τ k := fun k hk => (Fu50_ k hk).trans (Fτ k hk)
      have O83_u50 : u50 83 1 = τ 83 1 := O83_u50_.trans O83_τ
      have O0_u50 : u50 0 7 = τ 0 7 := O0_u50_.trans O0_τ
      have hb_r49 : r49 = 0 ∨ r49 = 1 := wi_bool p51_1 p51_2
      refine sf_bz hb_r49 ?_
      exact sf_ret ⟨Iu50, Fu50, O83_u50, O0_u50, by omega, by omega⟩
    have C42 : ¬ (τ 84 (Int32.toNatClampNeg x2)).toInt = (112 : Int) := ti_ne c42
    refine sf_ite (fun c52 => ?_) (fun c52 => ?_)
    · have C52 : (τ 84 (Int32.toNatClampNeg x2)).toInt = (115 : Int) := ti_eq c52
      have t53 : (x2 + (1 : Int32)).toInt = x2.toInt + (1 : Int) := ti_add (show -2147483648 ≤ x2.toInt + (1 : Int) by omega) (show x2.toInt + (1 : Int) ≤ 2147483647 by omega)
      refine sf_bnd (s_X1_number hF hI (by omega) (by omega) (by decide) (by decide)) (fun r54 u55 p56 => ?_)
      obtain ⟨e9, p56_1, p56_2⟩ := p56
      have e9 := e9.symm
      subst e9
      have t57 : ((x2 + (1 : Int32)) + (1 : Int32)).toInt = (x2 + (1 : Int32)).toInt + (1 : Int) := ti_add (show -2147483648 ≤ (x2 + (1 : Int32)).toInt + (1 : Int) by omega) (show (x2 + (1 : Int32)).toInt + (1 : Int) ≤ 2147483647 by omega)
      refine sf_bnd (s_X1_number hF hI (by omega) (by omega) (by decide) (by decide)) (fun r58 u59 p60 => ?_)
      obtain ⟨e9, p60_1, p60_2⟩ := p60
      have e9 := e9.symm
      subst e9
      have t61 : ((x2 + (1 : Int32)) + (3 : Int32)).toInt = (x2 + (1 : Int32)).toInt + (3 : Int) := ti_add (show -2147483648 ≤ (x2 + (1 : Int32)).toInt + (3 : Int) by omega) (show (x2 + (1 : Int32)).toInt + (3 : Int) ≤ 2147483647 by omega)
      refine sf_bnd (s_X1_number hF hI (by omega) (by omega) (by decide) (by decide)) (fun r62 u63 p64 => ?_)
      obtain ⟨e9, p64_1, p64_2⟩ := p64
      have e9 := e9.symm
      subst e9
      have t65 : ((x2 + (1 : Int32)) + (5 : Int32)).toInt = (x2 + (1 : Int32)).toInt + (5 : Int) := ti_add (show -2147483648 ≤ (x2 + (1 : Int32)).toInt + (5 : Int) by omega) (show (x2 + (1 : Int32)).toInt + (5 : Int) ≤ 2147483647 by omega)
      refine sf_bnd (s_X1_number hF hI (by omega) (by omega) (by decide) (by decide)) (fun r66 u67 p68 => ?_)
      obtain ⟨e9, p68_1, p68_2⟩ := p68
      have e9 := e9.symm
      subst e9
      have b69 := ti_lo r54
      have b70 := ti_hi r54
      have b71 := ti_lo r58
      have b72 := ti_hi r58
      have b73 := ti_lo r62
      have b74 := ti_hi r62
      have b75 := ti_lo r66
      have b76 := ti_hi r66
      refine sf_bnd (s_X0_post hF hg hI) (fun r77 u78 p79 => ?_)
      obtain ⟨Iu78, Fu78_, O83_u78_, O0_u78_, p79_1, p79_2⟩ := p79
      have Fu78 : ∀ k, 101 ≤ k → u78 k = τ k := fun k hk => (Fu78_ k hk).trans (Fτ k hk)
      have O83_u78 : u78 83 1 = τ 83 1 := O83_u78_.trans O83_τ
      have O0_u78 : u78 0 7 = τ 0 7 := O0_u78_.trans O0_τ
      have hb_r77 : r77 = 0 ∨ r77 = 1 := wi_bool p79_1 p79_2
      refine sf_bz hb_r77 ?_
      exact sf_ret ⟨Iu78, Fu78, O83_u78, O0_u78, by omega, by omega⟩
    have C52 : ¬ (τ 84 (Int32.toNatClampNeg x2)).toInt = (115 : Int) := ti_ne c52
    refine sf_ite (fun c80 => ?_) (fun c80 => ?_)
    · have C80 : (τ 84 (Int32.toNatClampNeg x2)).toInt = (117 : Int) := ti_eq c80
      have t81 : (x2 + (1 : Int32)).toInt = x2.toInt + (1 : Int) := ti_add (show -2147483648 ≤ x2.toInt + (1 : Int) by omega) (show x2.toInt + (1 : Int) ≤ 2147483647 by omega)
      refine sf_bnd (s_X1_number hF hI (by omega) (by omega) (by decide) (by decide)) (fun r82 u83 p84 => ?_)
      obtain ⟨e9, p84_1, p84_2⟩ := p84
      have e9 := e9.symm
      subst e9
      have b85 := ti_lo r82
      have b86 := ti_hi r82
      refine sf_bnd (s_X0_rule hF hg hI) (fun r87 u88 p89 => ?_)
      obtain ⟨Iu88, Fu88_, O83_u88_, O0_u88_, p89_1, p89_2⟩ := p89
      have Fu88 : ∀ k, 101 ≤ k → u88 k = τ k := fun k hk => (Fu88_ k hk).trans (Fτ k hk)
      have O83_u88 : u88 83 1 = τ 83 1 := O83_u88_.trans O83_τ
      have O0_u88 : u88 0 7 = τ 0 7 := O0_u88_.trans O0_τ
      have hb_r87 : r87 = 0 ∨ r87 = 1 := wi_bool p89_1 p89_2
      refine sf_bz hb_r87 ?_
      exact sf_ret ⟨Iu88, Fu88, O83_u88, O0_u88, by omega, by omega⟩
    have C80 : ¬ (τ 84 (Int32.toNatClampNeg x2)).toInt = (117 : Int) := ti_ne c80
    refine sf_ite (fun c90 => ?_) (fun c90 => ?_)
    · have C90 : (τ 84 (Int32.toNatClampNeg x2)).toInt = (118 : Int) := ti_eq c90
      have t91 : (x2 + (1 : Int32)).toInt = x2.toInt + (1 : Int) := ti_add (show -2147483648 ≤ x2.toInt + (1 : Int) by omega) (show x2.toInt + (1 : Int) ≤ 2147483647 by omega)
      refine sf_bnd (s_X1_number hF hI (by omega) (by omega) (by decide) (by decide)) (fun r92 u93 p94 => ?_)
      obtain ⟨e9, p94_1, p94_2⟩ := p94
      have e9 := e9.symm
      subst e9
      have t95 : ((x2 + (1 : Int32)) + (1 : Int32)).toInt = (x2 + (1 : Int32)).toInt + (1 : Int) := ti_add (show -2147483648 ≤ (x2 + (1 : Int32)).toInt + (1 : Int) by omega) (show (x2 + (1 : Int32)).toInt + (1 : Int) ≤ 2147483647 by omega)
      refine sf_bnd (s_X1_number hF hI (by omega) (by omega) (by decide) (by decide)) (fun r96 u97 p98 => ?_)
      obtain ⟨e9, p98_1, p98_2⟩ := p98
      have e9 := e9.symm
      subst e9
      have b99 := ti_lo r92
      have b100 := ti_hi r92
      have b101 := ti_lo r96
      have b102 := ti_hi r96
      refine sf_bnd (s_X0_price hF hg hI) (fun r103 u104 p105 => ?_)
      obtain ⟨Iu104, Fu104_, O83_u104_, O0_u104_, p105_1, p105_2⟩ := p105
      have Fu104 : ∀ k, 101 ≤ k → u104 k = τ k := fun k hk => (Fu104_ k hk).trans (Fτ k hk)
      have O83_u104 : u104 83 1 = τ 83 1 := O83_u104_.trans O83_τ
      have O0_u104 : u104 0 7 = τ 0 7 := O0_u104_.trans O0_τ
      have hb_r103 : r103 = 0 ∨ r103 = 1 := wi_bool p105_1 p105_2
      refine sf_bz hb_r103 ?_
      exact sf_ret ⟨Iu104, Fu104, O83_u104, O0_u104, by omega, by omega⟩
    have C90 : ¬ (τ 84 (Int32.toNatClampNeg x2)).toInt = (118 : Int) := ti_ne c90
    refine sf_ite (fun c106 => ?_) (fun c106 => ?_)
    · have C106 : (τ 84 (Int32.toNatClampNeg x2)).toInt = (119 : Int) := ti_eq c106
      have t107 : (x2 + (1 : Int32)).toInt = x2.toInt + (1 : Int) := ti_add (show -2147483648 ≤ x2.toInt + (1 : Int) by omega) (show x2.toInt + (1 : Int) ≤ 2147483647 by omega)
      refine sf_bnd (s_X1_number hF hI (by omega) (by omega) (by decide) (by decide)) (fun r108 u109 p110 => ?_)
      obtain ⟨e9, p110_1, p110_2⟩ := p110
      have e9 := e9.symm
      subst e9
      have t111 : ((x2 + (1 : Int32)) + (1 : Int32)).toInt = (x2 + (1 : Int32)).toInt + (1 : Int) := ti_add (show -2147483648 ≤ (x2 + (1 : Int32)).toInt + (1 : Int) by omega) (show (x2 + (1 : Int32)).toInt + (1 : Int) ≤ 2147483647 by omega)
      refine sf_bnd (s_X1_number hF hI (by omega) (by omega) (by decide) (by decide)) (fun r112 u113 p114 => ?_)
      obtain ⟨e9, p114_1, p114_2⟩ := p114
      have e9 := e9.symm
      subst e9
      have b115 := ti_lo r108
      have b116 := ti_hi r108
      have b117 := ti_lo r112
      have b118 := ti_hi r112
      refine sf_bnd (s_X0_flip hF hg hI) (fun r119 u120 p121 => ?_)
      obtain ⟨Iu120, Fu120_, O83_u120_, O0_u120_, p121_1, p121_2⟩ := p121
      have Fu120 : ∀ k, 101 ≤ k → u120 k = τ k := fun k hk => (Fu120_ k hk).trans (Fτ k hk)
      have O83_u120 : u120 83 1 = τ 83 1 := O83_u120_.trans O83_τ
      have O0_u120 : u120 0 7 = τ 0 7 := O0_u120_.trans O0_τ
      have hb_r119 : r119 = 0 ∨ r119 = 1 := wi_bool p121_1 p121_2
      refine sf_bz hb_r119 ?_
      exact sf_ret ⟨Iu120, Fu120, O83_u120, O0_u120, by omega, by omega⟩
    have C106 : ¬ (τ 84 (Int32.toNatClampNeg x2)).toInt = (119 : Int) := ti_ne c106
    exact sf_ret ⟨hI, Fτ, O83_τ, O0_τ, by decide, by decide⟩
  have C5 : (τ 83 1).toInt ≤ x2.toInt := ti_nlt c5
  rw [j_X1_tell_12_e]
  exact sf_ret ⟨hI, Fτ, O83_τ, O0_τ, by decide, by decide⟩
set_option maxHeartbeats 4000000 in
set_option maxRecDepth 100000 in
theorem s_X2_forget {F : Nat} (hF : 100000 ≤ F) {τ : Mem} (hI : wiX τ) : sf (f_X2_forget F τ) (fun _ s => wiX s ∧ (∀ k, 101 ≤ k → s k = τ k) ∧ s 83 1 = τ 83 1 ∧ s 0 7 = τ 0 7 ∧ True) := by
  have Fτ : ∀ k, 101 ≤ k → τ k = τ k := fun _ _ => rfl
  have O83_τ : τ 83 1 = τ 83 1 := rfl
  have O0_τ : τ 0 7 = τ 0 7 := rfl
  rw [f_X2_forget_e]
  refine sf_lt (fun s1 hs1 => ?_)
  have Is1 : wiX s1 := by rw [hs1]; exact wx_put_X2_5 hI (by decide) (by decide)
  have Fs1 : ∀ k, 101 ≤ k → s1 k = τ k := fun k hk => (show s1 k = τ k by rw [hs1, up2_k (by omega)]).trans (Fτ k hk)
  have O83_s1 : s1 83 1 = τ 83 1 := (show s1 83 1 = τ 83 1 by rw [hs1, up2_k (by omega)]).trans O83_τ
  have O0_s1 : s1 0 7 = τ 0 7 := (show s1 0 7 = τ 0 7 by rw [hs1, up2_k (by omega)]).trans O0_τ
  exact sf_ret ⟨Is1, Fs1, O83_s1, O0_s1, trivial⟩
set_option maxHeartbeats 4000000 in
set_option maxRecDepth 100000 in
theorem s_X2_nextSlot {F : Nat} (hF : 100000 ≤ F) {τ : Mem} (hI : wiX τ) : sf (f_X2_nextSlot F τ) (fun r s => wiX s ∧ (∀ k, 101 ≤ k → s k = τ k) ∧ s 83 1 = τ 83 1 ∧ s 0 7 = τ 0 7 ∧ 0 ≤ r.toInt ∧ r.toInt ≤ 7) := by
  have Fτ : ∀ k, 101 ≤ k → τ k = τ k := fun _ _ => rfl
  have O83_τ : τ 83 1 = τ 83 1 := rfl
  have O0_τ : τ 0 7 = τ 0 7 := rfl
  rw [f_X2_nextSlot_e]
  have m2 := wx_X2_4 hI
  have m3 := wx_X2_5 hI
  have t4 : ((τ 70 4) + (τ 70 5)).toInt = (τ 70 4).toInt + (τ 70 5).toInt := ti_add (show -2147483648 ≤ (τ 70 4).toInt + (τ 70 5).toInt by omega) (show (τ 70 4).toInt + (τ 70 5).toInt ≤ 2147483647 by omega)
  have t5 : (((τ 70 4) + (τ 70 5)) - ((((τ 70 4) + (τ 70 5)) / (8 : Int32)) * (8 : Int32))).toInt = ((τ 70 4) + (τ 70 5)).toInt % 8 := by rw [ti_rem, Int.tmod_eq_emod_of_nonneg (by omega)]; rfl
  refine sf_lt (fun z1 hz1 => ?_)
  have hz1_ : z1.toInt = (((τ 70 4) + (τ 70 5)) - ((((τ 70 4) + (τ 70 5)) / (8 : Int32)) * (8 : Int32))).toInt := (show z1.toInt = (((τ 70 4) + (τ 70 5)) - ((((τ 70 4) + (τ 70 5)) / (8 : Int32)) * (8 : Int32))).toInt from congrArg Int32.toInt hz1)
  refine sf_ite (fun c6 => ?_) (fun c6 => ?_)
  · have C6 : (8 : Int) ≤ (τ 70 5).toInt := ti_le c6
    refine sf_lt (fun s7 hs7 => ?_)
    have t8 : ((τ 70 4) + (1 : Int32)).toInt = (τ 70 4).toInt + (1 : Int) := ti_add (show -2147483648 ≤ (τ 70 4).toInt + (1 : Int) by omega) (show (τ 70 4).toInt + (1 : Int) ≤ 2147483647 by omega)
    have t9 : (((τ 70 4) + (1 : Int32)) - ((((τ 70 4) + (1 : Int32)) / (8 : Int32)) * (8 : Int32))).toInt = ((τ 70 4) + (1 : Int32)).toInt % 8 := by rw [ti_rem, Int.tmod_eq_emod_of_nonneg (by omega)]; rfl
    have Is7 : wiX s7 := by rw [hs7]; exact wx_put_X2_4 hI (by omega) (by omega)
    have Fs7 : ∀ k, 101 ≤ k → s7 k = τ k := fun k hk => (show s7 k = τ k by rw [hs7, up2_k (by omega)]).trans (Fτ k hk)
    have O83_s7 : s7 83 1 = τ 83 1 := (show s7 83 1 = τ 83 1 by rw [hs7, up2_k (by omega)]).trans O83_τ
    have O0_s7 : s7 0 7 = τ 0 7 := (show s7 0 7 = τ 0 7 by rw [hs7, up2_k (by omega)]).trans O0_τ
    rw [j_X2_nextSlot_48_e]
    exact sf_ret ⟨Is7, Fs7, O83_s7, O0_s7, by omega, by omega⟩
  have C6 : (τ 70 5).toInt < (8 : Int) := ti_nle c6
  refine sf_lt (fun s10 hs10 => ?_)
  have t11 : ((τ 70 5) + (1 : Int32)).toInt = (τ 70 5).toInt + (1 : Int) := ti_add (show -2147483648 ≤ (τ 70 5).toInt + (1 : Int) by omega) (show (τ 70 5).toInt + (1 : Int) ≤ 2147483647 by omega)
  have Is10 : wiX s10 := by rw [hs10]; exact wx_put_X2_5 hI (by omega) (by omega)
  have Fs10 : ∀ k, 101 ≤ k → s10 k = τ k := fun k hk => (show s10 k = τ k by rw [hs10, up2_k (by omega)]).trans (Fτ k hk)
  have O83_s10 : s10 83 1 = τ 83 1 := (show s10 83 1 = τ 83 1 by rw [hs10, up2_k (by omega)]).trans O83_τ
  have O0_s10 : s10 0 7 = τ 0 7 := (show s10 0 7 = τ 0 7 by rw [hs10, up2_k (by omega)]).trans O0_τ
  rw [j_X2_nextSlot_48_e]
  exact sf_ret ⟨Is10, Fs10, O83_s10, O0_s10, by omega, by omega⟩
set_option maxHeartbeats 4000000 in
set_option maxRecDepth 100000 in
theorem s_X2_keep {F : Nat} (hF : 100000 ≤ F) {x1 : Int32} {x2 : Int32} {x3 : Int32} {τ : Mem} (hI : wiX τ) (x1_1 : 1 ≤ x1.toInt) (x1_2 : x1.toInt ≤ 3) (x2_1 : 0 ≤ x2.toInt) (x2_2 : x2.toInt ≤ 7) : sf (f_X2_keep F x1 x2 x3 τ) (fun _ s => wiX s ∧ (∀ k, 101 ≤ k → s k = τ k) ∧ s 83 1 = τ 83 1 ∧ s 0 7 = τ 0 7 ∧ True) := by
  have Fτ : ∀ k, 101 ≤ k → τ k = τ k := fun _ _ => rfl
  have O83_τ : τ 83 1 = τ 83 1 := rfl
  have O0_τ : τ 0 7 = τ 0 7 := rfl
  rw [f_X2_keep_e]
  refine sf_bnd (s_X2_nextSlot hF hI) (fun r1 u2 p3 => ?_)
  obtain ⟨Iu2, Fu2_, O83_u2_, O0_u2_, p3_1, p3_2⟩ := p3
  have Fu2 : ∀ k, 101 ≤ k → u2 k = τ k := fun k hk => (Fu2_ k hk).trans (Fτ k hk)
  have O83_u2 : u2 83 1 = τ 83 1 := O83_u2_.trans O83_τ
  have O0_u2 : u2 0 7 = τ 0 7 := O0_u2_.trans O0_τ
  refine sf_chk (ti_in (by omega) (by omega)) ?_
  have v4 : Int32.toNatClampNeg r1 = r1.toInt.toNat := rfl
  refine sf_lt (fun s5 hs5 => ?_)
  have Is5 : wiX s5 := by rw [hs5]; exact wx_oth Iu2 (fun q hq e => by have := wt_Hcs hq; omega) (fun e => by omega) (fun e => by omega) (fun e => by omega)
  have Fs5 : ∀ k, 101 ≤ k → s5 k = τ k := fun k hk => (show s5 k = u2 k by rw [hs5, up2_k (by omega)]).trans (Fu2 k hk)
  have O83_s5 : s5 83 1 = τ 83 1 := (show s5 83 1 = u2 83 1 by rw [hs5, up2_k (by omega)]).trans O83_u2
  have O0_s5 : s5 0 7 = τ 0 7 := (show s5 0 7 = u2 0 7 by rw [hs5, up2_k (by omega)]).trans O0_u2
  refine sf_lt (fun s6 hs6 => ?_)
  have Is6 : wiX s6 := by rw [hs6]; exact wx_oth Is5 (fun q hq e => by have := wt_Hcs hq; omega) (fun e => by omega) (fun e => by omega) (fun e => by omega)
  have Fs6 : ∀ k, 101 ≤ k → s6 k = τ k := fun k hk => (show s6 k = s5 k by rw [hs6, up2_k (by omega)]).trans (Fs5 k hk)
  have O83_s6 : s6 83 1 = τ 83 1 := (show s6 83 1 = s5 83 1 by rw [hs6, up2_k (by omega)]).trans O83_s5
  have O0_s6 : s6 0 7 = τ 0 7 := (show s6 0 7 = s5 0 7 by rw [hs6, up2_k (by omega)]).trans O0_s5
  refine sf_lt (fun s7 hs7 => ?_)
  have Is7 : wiX s7 := by rw [hs7]; exact wx_oth Is6 (fun q hq e => by have := wt_Hcs hq; omega) (fun e => by omega) (fun e => by omega) (fun e => by omega)
  have Fs7 : ∀ k, 101 ≤ k → s7 k = τ k := fun k hk => (show s7 k = s6 k by rw [hs7, up2_k (by omega)]).trans (Fs6 k hk)
  have O83_s7 : s7 83 1 = τ 83 1 := (show s7 83 1 = s6 83 1 by rw [hs7, up2_k (by omega)]).trans O83_s6
  have O0_s7 : s7 0 7 = τ 0 7 := (show s7 0 7 = s6 0 7 by rw [hs7, up2_k (by omega)]).trans O0_s6
  exact sf_ret ⟨Is7, Fs7, O83_s7, O0_s7, trivial⟩
set_option maxHeartbeats 4000000 in
set_option maxRecDepth 100000 in
theorem sl_X2_keepRoster_22 {F : Nat} (hF : 100000 ≤ F) {a : Nat} {x3 : Int32} {τ : Mem} (ha : wt_isA a 24) (x3_1 : 0 ≤ x3.toInt) (x3_2 : x3.toInt ≤ 7) : ∀ (N : Nat) (x4 : Int32) (σ : Mem), wiX σ → (∀ k, 101 ≤ k → σ k = τ k) → σ 83 1 = τ 83 1 → σ 0 7 = τ 0 7 → 24 < x4.toInt + N → 0 ≤ x4.toInt → x4.toInt ≤ 24 → sf (lp_X2_keepRoster_22 F a x3 N x4 σ) (fun _ s => wiX s ∧ (∀ k, 101 ≤ k → s k = τ k) ∧ s 83 1 = τ 83 1 ∧ s 0 7 = τ 0 7 ∧ True) := by
  intro N
  induction N with
  | zero => intro x4 σ hI Fσ O83_σ O0_σ hN x4_1 x4_2; exfalso; omega
  | succ N ih =>
    intro x4 σ hI Fσ O83_σ O0_σ hN x4_1 x4_2
    rw [lp_X2_keepRoster_22_s]
    refine sf_ite (fun c1 => ?_) (fun c1 => ?_)
    · have C1 : (24 : Int) ≤ x4.toInt := ti_le c1
      exact sf_ret ⟨hI, Fσ, O83_σ, O0_σ, trivial⟩
    have C1 : x4.toInt < (24 : Int) := ti_nle c1
    refine sf_ite (fun c2 => ?_) (fun c2 => ?_)
    · have C2 : (24 : Int) ≤ x4.toInt := ti_le c2
      exfalso; omega
    have C2 : x4.toInt < (24 : Int) := ti_nle c2
    refine sf_chk (ti_in (by omega) (by omega)) ?_
    have v3 : Int32.toNatClampNeg x3 = x3.toInt.toNat := rfl
    refine sf_chk (ti_in (by omega) (by omega)) ?_
    have v4 : Int32.toNatClampNeg x4 = x4.toInt.toNat := rfl
    refine sf_lt (fun s5 hs5 => ?_)
    have Is5 : wiX s5 := by rw [hs5]; exact wx_oth hI (fun q hq e => by have := wt_Hcs hq; omega) (fun e => by omega) (fun e => by omega) (fun e => by omega)
    have Fs5 : ∀ k, 101 ≤ k → s5 k = τ k := fun k hk => (show s5 k = σ k by rw [hs5, up2_k (by omega)]).trans (Fσ k hk)
    have O83_s5 : s5 83 1 = τ 83 1 := (show s5 83 1 = σ 83 1 by rw [hs5, up2_k (by omega)]).trans O83_σ
    have O0_s5 : s5 0 7 = τ 0 7 := (show s5 0 7 = σ 0 7 by rw [hs5, up2_k (by omega)]).trans O0_σ
    have t6 : (x4 + (1 : Int32)).toInt = x4.toInt + (1 : Int) := ti_add (show -2147483648 ≤ x4.toInt + (1 : Int) by omega) (show x4.toInt + (1 : Int) ≤ 2147483647 by omega)
    exact ih _ _ Is5 Fs5 O83_s5 O0_s5 (by omega) (by omega) (by omega)
set_option maxHeartbeats 4000000 in
set_option maxRecDepth 100000 in
theorem s_X2_keepRoster {F : Nat} (hF : 100000 ≤ F) {x1 : Int32} {a : Nat} {τ : Mem} (ha : wt_isA a 24) (hI : wiX τ) (x1_1 : 0 ≤ x1.toInt) (x1_2 : x1.toInt ≤ 4) : sf (f_X2_keepRoster F x1 a τ) (fun _ s => wiX s ∧ (∀ k, 101 ≤ k → s k = τ k) ∧ s 83 1 = τ 83 1 ∧ s 0 7 = τ 0 7 ∧ True) := by
  have Fτ : ∀ k, 101 ≤ k → τ k = τ k := fun _ _ => rfl
  have O83_τ : τ 83 1 = τ 83 1 := rfl
  have O0_τ : τ 0 7 = τ 0 7 := rfl
  rw [f_X2_keepRoster_e]
  refine sf_bnd (s_X2_nextSlot hF hI) (fun r1 u2 p3 => ?_)
  obtain ⟨Iu2, Fu2_, O83_u2_, O0_u2_, p3_1, p3_2⟩ := p3
  have Fu2 : ∀ k, 101 ≤ k → u2 k = τ k := fun k hk => (Fu2_ k hk).trans (Fτ k hk)
  have O83_u2 : u2 83 1 = τ 83 1 := O83_u2_.trans O83_τ
  have O0_u2 : u2 0 7 = τ 0 7 := O0_u2_.trans O0_τ
  refine sf_chk (ti_in (by omega) (by omega)) ?_
  have v4 : Int32.toNatClampNeg r1 = r1.toInt.toNat := rfl
  refine sf_lt (fun s5 hs5 => ?_)
  have Is5 : wiX s5 := by rw [hs5]; exact wx_oth Iu2 (fun q hq e => by have := wt_Hcs hq; omega) (fun e => by omega) (fun e => by omega) (fun e => by omega)
  have Fs5 : ∀ k, 101 ≤ k → s5 k = τ k := fun k hk => (show s5 k = u2 k by rw [hs5, up2_k (by omega)]).trans (Fu2 k hk)
  have O83_s5 : s5 83 1 = τ 83 1 := (show s5 83 1 = u2 83 1 by rw [hs5, up2_k (by omega)]).trans O83_u2
  have O0_s5 : s5 0 7 = τ 0 7 := (show s5 0 7 = u2 0 7 by rw [hs5, up2_k (by omega)]).trans O0_u2
  refine sf_lt (fun s6 hs6 => ?_)
  have Is6 : wiX s6 := by rw [hs6]; exact wx_oth Is5 (fun q hq e => by have := wt_Hcs hq; omega) (fun e => by omega) (fun e => by omega) (fun e => by omega)
  have Fs6 : ∀ k, 101 ≤ k → s6 k = τ k := fun k hk => (show s6 k = s5 k by rw [hs6, up2_k (by omega)]).trans (Fs5 k hk)
  have O83_s6 : s6 83 1 = τ 83 1 := (show s6 83 1 = s5 83 1 by rw [hs6, up2_k (by omega)]).trans O83_s5
  have O0_s6 : s6 0 7 = τ 0 7 := (show s6 0 7 = s5 0 7 by rw [hs6, up2_k (by omega)]).trans O0_s5
  have l_0 : (0 : Int32).toInt = 0 := rfl
  exact sl_X2_keepRoster_22 hF ha (by omega) (by omega) _ _ _ Is6 Fs6 O83_s6 O0_s6 (by omega) (by decide) (by decide)
set_option maxHeartbeats 4000000 in
set_option maxRecDepth 100000 in
theorem sl_X2_undoLatest_75 {F : Nat} (hF : 100000 ≤ F) {g : Nat} {x2 : Int32} {x3 : Int32} {τ : Mem} (hg : wt_isH g) (x2_1 : 0 ≤ x2.toInt) (x2_2 : x2.toInt ≤ 7) : ∀ (N : Nat) (x4 : Int32) (σ : Mem), wiX σ → (∀ k, 101 ≤ k → σ k = τ k) → σ 83 1 = τ 83 1 → σ 0 7 = τ 0 7 → 24 < x4.toInt + N → 0 ≤ x4.toInt → x4.toInt ≤ 24 → sf (lp_X2_undoLatest_75 F g x2 x3 N x4 σ) (fun _ s => wiX s ∧ (∀ k, 101 ≤ k → s k = τ k) ∧ s 83 1 = τ 83 1 ∧ s 0 7 = τ 0 7 ∧ True) := by
  intro N
  induction N with
  | zero => intro x4 σ hI Fσ O83_σ O0_σ hN x4_1 x4_2; exfalso; omega
  | succ N ih =>
    intro x4 σ hI Fσ O83_σ O0_σ hN x4_1 x4_2
    have hc_g := wt_Hcs hg
    rw [lp_X2_undoLatest_75_s]
    refine sf_ite (fun c1 => ?_) (fun c1 => ?_)
    · have C1 : (24 : Int) ≤ x4.toInt := ti_le c1
      exact sf_ret ⟨hI, Fσ, O83_σ, O0_σ, trivial⟩
    have C1 : x4.toInt < (24 : Int) := ti_nle c1
    refine sf_chk (ti_in (by omega) (by omega)) ?_
    have v2 : Int32.toNatClampNeg x2 = x2.toInt.toNat := rfl
    refine sf_chk (ti_in (by omega) (by omega)) ?_
    have v3 : Int32.toNatClampNeg x4 = x4.toInt.toNat := rfl
    have b4 := ti_lo x3
    have b5 := ti_hi x3
    have b6 := ti_lo (σ (75 + (Int32.toNatClampNeg x2)) (Int32.toNatClampNeg x4))
    have b7 := ti_hi (σ (75 + (Int32.toNatClampNeg x2)) (Int32.toNatClampNeg x4))
    refine sf_bnd (s_X0_post hF hg hI) (fun r8 u9 p10 => ?_)
    obtain ⟨Iu9, Fu9_, O83_u9_, O0_u9_, p10_1, p10_2⟩ := p10
    have Fu9 : ∀ k, 101 ≤ k → u9 k = τ k := fun k hk => (Fu9_ k hk).trans (Fσ k hk)
    have O83_u9 : u9 83 1 = τ 83 1 := O83_u9_.trans O83_σ
    have O0_u9 : u9 0 7 = τ 0 7 := O0_u9_.trans O0_σ
    have hb_r8 : r8 = 0 ∨ r8 = 1 := wi_bool p10_1 p10_2
    have t11 : (x4 + (1 : Int32)).toInt = x4.toInt + (1 : Int) := ti_add (show -2147483648 ≤ x4.toInt + (1 : Int) by omega) (show x4.toInt + (1 : Int) ≤ 2147483647 by omega)
    exact ih _ _ Iu9 Fu9 O83_u9 O0_u9 (by omega) (by omega) (by omega)
set_option maxHeartbeats 4000000 in
set_option maxRecDepth 100000 in
theorem s_X2_undoLatest {F : Nat} (hF : 100000 ≤ F) {g : Nat} {τ : Mem} (hg : wt_isH g) (hI : wiX τ) : sf (f_X2_undoLatest F g τ) (fun _ s => wiX s ∧ (∀ k, 101 ≤ k → s k = τ k) ∧ s 83 1 = τ 83 1 ∧ s 0 7 = τ 0 7 ∧ True) := by
  have hc_g := wt_Hcs hg
  have Fτ : ∀ k, 101 ≤ k → τ k = τ k := fun _ _ => rfl
  have O83_τ : τ 83 1 = τ 83 1 := rfl
  have O0_τ : τ 0 7 = τ 0 7 := rfl
  rw [f_X2_undoLatest_e]
  have m1 := wx_X2_5 hI
  refine sf_ite (fun c2 => ?_) (fun c2 => ?_)
  · have C2 : (0 : Int) < (τ 70 5).toInt := ti_lt c2
    refine sf_lt (fun s3 hs3 => ?_)
    have t4 : ((τ 70 5) - (1 : Int32)).toInt = (τ 70 5).toInt - (1 : Int) := ti_sub (show -2147483648 ≤ (τ 70 5).toInt - (1 : Int) by omega) (show (τ 70 5).toInt - (1 : Int) ≤ 2147483647 by omega)
    have Is3 : wiX s3 := by rw [hs3]; exact wx_put_X2_5 hI (by omega) (by omega)
    have Fs3 : ∀ k, 101 ≤ k → s3 k = τ k := fun k hk => (show s3 k = τ k by rw [hs3, up2_k (by omega)]).trans (Fτ k hk)
    have O83_s3 : s3 83 1 = τ 83 1 := (show s3 83 1 = τ 83 1 by rw [hs3, up2_k (by omega)]).trans O83_τ
    have O0_s3 : s3 0 7 = τ 0 7 := (show s3 0 7 = τ 0 7 by rw [hs3, up2_k (by omega)]).trans O0_τ
    have m6 := wx_X2_4 Is3
    have m7 := wx_X2_4 hI
    have e8 : (s3 70 4).toInt = (τ 70 4).toInt := congrArg Int32.toInt (by rw [hs3, up2_i (by decide)])
    have m9 := wx_X2_5 Is3
    have e10 : (s3 70 5).toInt = ((τ 70 5) - (1 : Int32)).toInt := (show (s3 70 5).toInt = ((τ 70 5) - (1 : Int32)).toInt from congrArg Int32.toInt (by rw [hs3, up2_s]))
    have t11 : ((s3 70 4) + (s3 70 5)).toInt = (s3 70 4).toInt + (s3 70 5).toInt := ti_add (show -2147483648 ≤ (s3 70 4).toInt + (s3 70 5).toInt by omega) (show (s3 70 4).toInt + (s3 70 5).toInt ≤ 2147483647 by omega)
    have t12 : (((s3 70 4) + (s3 70 5)) - ((((s3 70 4) + (s3 70 5)) / (8 : Int32)) * (8 : Int32))).toInt = ((s3 70 4) + (s3 70 5)).toInt % 8 := by rw [ti_rem, Int.tmod_eq_emod_of_nonneg (by omega)]; rfl
    refine sf_lt (fun z5 hz5 => ?_)
    have hz5_ : z5.toInt = (((s3 70 4) + (s3 70 5)) - ((((s3 70 4) + (s3 70 5)) / (8 : Int32)) * (8 : Int32))).toInt := (show z5.toInt = (((s3 70 4) + (s3 70 5)) - ((((s3 70 4) + (s3 70 5)) / (8 : Int32)) * (8 : Int32))).toInt from congrArg Int32.toInt hz5)
    refine sf_chk (ti_in (by omega) (by omega)) ?_
    have v13 : Int32.toNatClampNeg z5 = z5.toInt.toNat := rfl
    have b15 := ti_lo (s3 72 (Int32.toNatClampNeg z5))
    have b16 := ti_hi (s3 72 (Int32.toNatClampNeg z5))
    refine sf_lt (fun z14 hz14 => ?_)
    have hz14_ : z14.toInt = (s3 72 (Int32.toNatClampNeg z5)).toInt := (show z14.toInt = (s3 72 (Int32.toNatClampNeg z5)).toInt from congrArg Int32.toInt hz14)
    have b17 := ti_lo (s3 71 (Int32.toNatClampNeg z5))
    have b18 := ti_hi (s3 71 (Int32.toNatClampNeg z5))
    refine sf_ite (fun c19 => ?_) (fun c19 => ?_)
    · have C19 : (s3 71 (Int32.toNatClampNeg z5)).toInt = (0 : Int) := ti_eq c19
      have b20 := ti_lo z14
      have b21 := ti_hi z14
      have l_0 : (0 : Int32).toInt = 0 := rfl
      exact sl_X2_undoLatest_75 hF hg (by omega) (by omega) _ _ _ Is3 Fs3 O83_s3 O0_s3 (by omega) (by decide) (by decide)
    have C19 : ¬ (s3 71 (Int32.toNatClampNeg z5)).toInt = (0 : Int) := ti_ne c19
    refine sf_ite (fun c22 => ?_) (fun c22 => ?_)
    · have C22 : (s3 71 (Int32.toNatClampNeg z5)).toInt = (1 : Int) := ti_eq c22
      have b23 := ti_lo z14
      have b24 := ti_hi z14
      refine sf_bnd (s_X0_isPane hF hg Is3) (fun r25 u26 p27 => ?_)
      obtain ⟨e9, p27⟩ := p27
      have e9 := e9.symm
      subst e9
      rcases p27 with ⟨rfl, q28, q29⟩ | p27
      · refine sf_ite (fun c30 => ?_) (fun c30 => ?_)
        · have C30 : (1 : Int) = (0 : Int) := ti_eq c30
          exfalso; omega
        have C30 : ¬ (1 : Int) = (0 : Int) := ti_ne c30
        refine sf_chk (ti_in (by omega) (by omega)) ?_
        have v31 : Int32.toNatClampNeg z14 = z14.toInt.toNat := rfl
        refine sf_lt (fun s32 hs32 => ?_)
        have Is32 : wiX s32 := by rw [hs32]; exact wx_oth Is3 (fun q hq e => by have := wt_Hcs hq; omega) (fun e => by omega) (fun e => by omega) (fun e => by omega)
        have Fs32 : ∀ k, 101 ≤ k → s32 k = τ k := fun k hk => (show s32 k = s3 k by rw [hs32, up2_k (by omega)]).trans (Fs3 k hk)
        have O83_s32 : s32 83 1 = τ 83 1 := (show s32 83 1 = s3 83 1 by rw [hs32, up2_k (by omega)]).trans O83_s3
        have O0_s32 : s32 0 7 = τ 0 7 := (show s32 0 7 = s3 0 7 by rw [hs32, up2_k (by omega)]).trans O0_s3
        exact sf_ret ⟨Is32, Fs32, O83_s32, O0_s32, trivial⟩
      obtain rfl := p27
      refine sf_ite (fun c33 => ?_) (fun c33 => ?_)
      · have C33 : (0 : Int) = (0 : Int) := ti_eq c33
        exact sf_ret ⟨Is3, Fs3, O83_s3, O0_s3, trivial⟩
      have C33 : ¬ (0 : Int) = (0 : Int) := ti_ne c33
      exfalso; omega
    have C22 : ¬ (s3 71 (Int32.toNatClampNeg z5)).toInt = (1 : Int) := ti_ne c22
    refine sf_ite (fun c34 => ?_) (fun c34 => ?_)
    · have C34 : (s3 71 (Int32.toNatClampNeg z5)).toInt = (2 : Int) := ti_eq c34
      have b35 := ti_lo z14
      have b36 := ti_hi z14
      have b37 := ti_lo (s3 73 (Int32.toNatClampNeg z5))
      have b38 := ti_hi (s3 73 (Int32.toNatClampNeg z5))
      refine sf_bnd (s_X0_price hF hg Is3) (fun r39 u40 p41 => ?_)
      obtain ⟨Iu40, Fu40_, O83_u40_, O0_u40_, p41_1, p41_2⟩ := p41
      have Fu40 : ∀ k, 101 ≤ k → u40 k = τ k := fun k hk => (Fu40_ k hk).trans (Fs3 k hk)
      have O83_u40 : u40 83 1 = τ 83 1 := O83_u40_.trans O83_s3
      have O0_u40 : u40 0 7 = τ 0 7 := O0_u40_.trans O0_s3
      have hb_r39 : r39 = 0 ∨ r39 = 1 := wi_bool p41_1 p41_2
      exact sf_ret ⟨Iu40, Fu40, O83_u40, O0_u40, trivial⟩
    have C34 : ¬ (s3 71 (Int32.toNatClampNeg z5)).toInt = (2 : Int) := ti_ne c34
    have b42 := ti_lo (s3 73 (Int32.toNatClampNeg z5))
    have b43 := ti_hi (s3 73 (Int32.toNatClampNeg z5))
    refine sf_bnd (s_X0_rule hF hg Is3) (fun r44 u45 p46 => ?_)
    obtain ⟨Iu45, Fu45_, O83_u45_, O0_u45_, p46_1, p46_2⟩ := p46
    have Fu45 : ∀ k, 101 ≤ k → u45 k = τ k := fun k hk => (Fu45_ k hk).trans (Fs3 k hk)
    have O83_u45 : u45 83 1 = τ 83 1 := O83_u45_.trans O83_s3
    have O0_u45 : u45 0 7 = τ 0 7 := O0_u45_.trans O0_s3
    have hb_r44 : r44 = 0 ∨ r44 = 1 := wi_bool p46_1 p46_2
    exact sf_ret ⟨Iu45, Fu45, O83_u45, O0_u45, trivial⟩
  have C2 : (τ 70 5).toInt ≤ (0 : Int) := ti_nlt c2
  exact sf_ret ⟨hI, Fτ, O83_τ, O0_τ, trivial⟩
set_option maxHeartbeats 4000000 in
set_option maxRecDepth 100000 in
theorem s_X3_refuse {F : Nat} (hF : 100000 ≤ F) {x1 : Int32} {τ : Mem} (hI : wiX τ) (x1_1 : -6 ≤ x1.toInt) (x1_2 : x1.toInt ≤ -1) : sf (f_X3_refuse F x1 τ) (fun r s => wiX s ∧ (∀ k, 101 ≤ k → s k = τ k) ∧ s 83 1 = τ 83 1 ∧ s 0 7 = τ 0 7 ∧ -6 ≤ r.toInt ∧ r.toInt ≤ -1 ∧ (r.toInt = x1.toInt)) := by
  have Fτ : ∀ k, 101 ≤ k → τ k = τ k := fun _ _ => rfl
  have O83_τ : τ 83 1 = τ 83 1 := rfl
  have O0_τ : τ 0 7 = τ 0 7 := rfl
  rw [f_X3_refuse_e]
  have t1 : (-x1).toInt = -x1.toInt := ti_neg (by omega)
  refine sf_ite (fun c2 => ?_) (fun c2 => ?_)
  · have C2 : (-x1).toInt < (0 : Int) := ti_lt c2
    exfalso; omega
  have C2 : (0 : Int) ≤ (-x1).toInt := ti_nlt c2
  refine sf_ite (fun c3 => ?_) (fun c3 => ?_)
  · have C3 : (7 : Int) ≤ (-x1).toInt := ti_le c3
    exfalso; omega
  have C3 : (-x1).toInt < (7 : Int) := ti_nle c3
  refine sf_chk (ti_in (by omega) (by omega)) ?_
  have v4 : Int32.toNatClampNeg (-x1) = (-x1).toInt.toNat := rfl
  refine sf_lt (fun s5 hs5 => ?_)
  have Is5 : wiX s5 := by rw [hs5]; exact wx_oth hI (fun q hq e => by have := wt_Hcs hq; omega) (fun e => by omega) (fun e => by omega) (fun e => by omega)
  have Fs5 : ∀ k, 101 ≤ k → s5 k = τ k := fun k hk => (show s5 k = τ k by rw [hs5, up2_k (by omega)]).trans (Fτ k hk)
  have O83_s5 : s5 83 1 = τ 83 1 := (show s5 83 1 = τ 83 1 by rw [hs5, up2_k (by omega)]).trans O83_τ
  have O0_s5 : s5 0 7 = τ 0 7 := (show s5 0 7 = τ 0 7 by rw [hs5, up2_k (by omega)]).trans O0_τ
  rw [j_X3_refuse_23_e]
  exact sf_ret ⟨Is5, Fs5, O83_s5, O0_s5, by omega, by omega, (show x1.toInt = x1.toInt from by omega)⟩
set_option maxHeartbeats 4000000 in
set_option maxRecDepth 100000 in
theorem s_X3_refuseLong {F : Nat} (hF : 100000 ≤ F) {x1 : Int32} {τ : Mem} (hI : wiX τ) (x1_1 : -6 ≤ x1.toInt) (x1_2 : x1.toInt ≤ -1) : sf (f_X3_refuseLong F x1 τ) (fun r s => wiX s ∧ (∀ k, 101 ≤ k → s k = τ k) ∧ s 83 1 = τ 83 1 ∧ s 0 7 = τ 0 7 ∧ True) := by
  have Fτ : ∀ k, 101 ≤ k → τ k = τ k := fun _ _ => rfl
  have O83_τ : τ 83 1 = τ 83 1 := rfl
  have O0_τ : τ 0 7 = τ 0 7 := rfl
  rw [f_X3_refuseLong_e]
  refine sf_bnd (s_X3_refuse hF hI (by omega) (by omega)) (fun r1 u2 p3 => ?_)
  obtain ⟨Iu2, Fu2_, O83_u2_, O0_u2_, p3_1, p3_2, p3_x0⟩ := p3
  have Fu2 : ∀ k, 101 ≤ k → u2 k = τ k := fun k hk => (Fu2_ k hk).trans (Fτ k hk)
  have O83_u2 : u2 83 1 = τ 83 1 := O83_u2_.trans O83_τ
  have O0_u2 : u2 0 7 = τ 0 7 := O0_u2_.trans O0_τ
  replace p3_x0 : r1.toInt = x1.toInt := p3_x0
  exact sf_ret ⟨Iu2, Fu2, O83_u2, O0_u2, trivial⟩
set_option maxHeartbeats 4000000 in
set_option maxRecDepth 100000 in
theorem s_X3_noView {F : Nat} (hF : 100000 ≤ F) {x0 : Int32} {τ : Mem} (hI : wiX τ) : sf (f_X3_noView F x0 τ) (fun r s => s = τ ∧ ((r = 0 ∧ 0 ≤ x0.toInt ∧ x0.toInt ≤ 7) ∨ (r = -1 ∧ (x0.toInt < 0 ∨ 7 < x0.toInt)))) := by
  rw [f_X3_noView_e]
  have b1 := ti_lo x0
  have b2 := ti_hi x0
  refine sf_bnd (s_X0_isView hF hI) (fun r3 u4 p5 => ?_)
  obtain ⟨e9, p5⟩ := p5
  have e9 := e9.symm
  subst e9
  rcases p5 with ⟨rfl, q6, q7⟩ | p5
  · refine sf_ite (fun c8 => ?_) (fun c8 => ?_)
    · have C8 : (1 : Int) = (0 : Int) := ti_eq c8
      exfalso; omega
    have C8 : ¬ (1 : Int) = (0 : Int) := ti_ne c8
    exact sf_ret ⟨rfl, Or.inl ⟨rfl, by omega, by omega⟩⟩
  obtain ⟨rfl, q9⟩ := p5
  refine sf_ite (fun c10 => ?_) (fun c10 => ?_)
  · have C10 : (0 : Int) = (0 : Int) := ti_eq c10
    exact sf_ret ⟨rfl, Or.inr (⟨rfl, by omega⟩)⟩
  have C10 : ¬ (0 : Int) = (0 : Int) := ti_ne c10
  exfalso; omega
set_option maxHeartbeats 4000000 in
set_option maxRecDepth 100000 in
theorem s_X3_noHour {F : Nat} (hF : 100000 ≤ F) {x0 : Int32} {τ : Mem} (hI : wiX τ) : sf (f_X3_noHour F x0 τ) (fun r s => s = τ ∧ ((r = 0 ∧ 0 ≤ x0.toInt ∧ x0.toInt ≤ 23) ∨ (r = -1 ∧ (x0.toInt < 0 ∨ 23 < x0.toInt)))) := by
  rw [f_X3_noHour_e]
  have b1 := ti_lo x0
  have b2 := ti_hi x0
  refine sf_bnd (s_X0_isHour hF hI) (fun r3 u4 p5 => ?_)
  obtain ⟨e9, p5⟩ := p5
  have e9 := e9.symm
  subst e9
  rcases p5 with ⟨rfl, q6, q7⟩ | p5
  · refine sf_ite (fun c8 => ?_) (fun c8 => ?_)
    · have C8 : (1 : Int) = (0 : Int) := ti_eq c8
      exfalso; omega
    have C8 : ¬ (1 : Int) = (0 : Int) := ti_ne c8
    exact sf_ret ⟨rfl, Or.inl ⟨rfl, by omega, by omega⟩⟩
  obtain ⟨rfl, q9⟩ := p5
  refine sf_ite (fun c10 => ?_) (fun c10 => ?_)
  · have C10 : (0 : Int) = (0 : Int) := ti_eq c10
    exact sf_ret ⟨rfl, Or.inr (⟨rfl, by omega⟩)⟩
  have C10 : ¬ (0 : Int) = (0 : Int) := ti_ne c10
  exfalso; omega
set_option maxHeartbeats 4000000 in
set_option maxRecDepth 100000 in
theorem s_X3_noPane {F : Nat} (hF : 100000 ≤ F) {x1 : Int32} {τ : Mem} (hI : wiX τ) : sf (f_X3_noPane F x1 τ) (fun r s => s = τ ∧ ((r = 0 ∧ 0 ≤ x1.toInt ∧ x1.toInt ≤ 5) ∨ r = -1)) := by
  rw [f_X3_noPane_e]
  have b1 := ti_lo x1
  have b2 := ti_hi x1
  refine sf_bnd (s_X0_isPane hF wt_h1 hI) (fun r3 u4 p5 => ?_)
  obtain ⟨e9, p5⟩ := p5
  have e9 := e9.symm
  subst e9
  rcases p5 with ⟨rfl, q6, q7⟩ | p5
  · refine sf_ite (fun c8 => ?_) (fun c8 => ?_)
    · have C8 : (1 : Int) = (0 : Int) := ti_eq c8
      exfalso; omega
    have C8 : ¬ (1 : Int) = (0 : Int) := ti_ne c8
    exact sf_ret ⟨rfl, Or.inl ⟨rfl, by omega, by omega⟩⟩
  obtain rfl := p5
  refine sf_ite (fun c9 => ?_) (fun c9 => ?_)
  · have C9 : (0 : Int) = (0 : Int) := ti_eq c9
    exact sf_ret ⟨rfl, Or.inr (rfl)⟩
  have C9 : ¬ (0 : Int) = (0 : Int) := ti_ne c9
  exfalso; omega
set_option maxHeartbeats 4000000 in
set_option maxRecDepth 100000 in
theorem s_X3_noLooker {F : Nat} (hF : 100000 ≤ F) {x1 : Int32} {τ : Mem} (hI : wiX τ) : sf (f_X3_noLooker F x1 τ) (fun r s => s = τ ∧ ((r = 0 ∧ 0 ≤ x1.toInt ∧ x1.toInt ≤ 4) ∨ r = -1)) := by
  rw [f_X3_noLooker_e]
  have b1 := ti_lo x1
  have b2 := ti_hi x1
  refine sf_bnd (s_X0_isLooker hF wt_h1 hI) (fun r3 u4 p5 => ?_)
  obtain ⟨e9, p5⟩ := p5
  have e9 := e9.symm
  subst e9
  rcases p5 with ⟨rfl, q6, q7⟩ | p5
  · refine sf_ite (fun c8 => ?_) (fun c8 => ?_)
    · have C8 : (1 : Int) = (0 : Int) := ti_eq c8
      exfalso; omega
    have C8 : ¬ (1 : Int) = (0 : Int) := ti_ne c8
    exact sf_ret ⟨rfl, Or.inl ⟨rfl, by omega, by omega⟩⟩
  obtain rfl := p5
  refine sf_ite (fun c9 => ?_) (fun c9 => ?_)
  · have C9 : (0 : Int) = (0 : Int) := ti_eq c9
    exact sf_ret ⟨rfl, Or.inr (rfl)⟩
  have C9 : ¬ (0 : Int) = (0 : Int) := ti_ne c9
  exfalso; omega
set_option maxHeartbeats 4000000 in
set_option maxRecDepth 100000 in
theorem s_X3_noPair {F : Nat} (hF : 100000 ≤ F) {x1 : Int32} {x2 : Int32} {τ : Mem} (hI : wiX τ) : sf (f_X3_noPair F x1 x2 τ) (fun r s => s = τ ∧ ((r = 0 ∧ 0 ≤ x1.toInt ∧ x1.toInt ≤ 4 ∧ 0 ≤ x2.toInt ∧ x2.toInt ≤ 4) ∨ r = -1)) := by
  rw [f_X3_noPair_e]
  have b1 := ti_lo x1
  have b2 := ti_hi x1
  refine sf_bnd (s_X0_isLooker hF wt_h1 hI) (fun r3 u4 p5 => ?_)
  obtain ⟨e9, p5⟩ := p5
  have e9 := e9.symm
  subst e9
  rcases p5 with ⟨rfl, q6, q7⟩ | p5
  · refine sf_ite (fun c8 => ?_) (fun c8 => ?_)
    · have C8 : (1 : Int) = (0 : Int) := ti_eq c8
      exfalso; omega
    have C8 : ¬ (1 : Int) = (0 : Int) := ti_ne c8
    have b9 := ti_lo x2
    have b10 := ti_hi x2
    refine sf_bnd (s_X0_isLooker hF wt_h1 hI) (fun r11 u12 p13 => ?_)
    obtain ⟨e9, p13⟩ := p13
    have e9 := e9.symm
    subst e9
    rcases p13 with ⟨rfl, q14, q15⟩ | p13
    · refine sf_ite (fun c16 => ?_) (fun c16 => ?_)
      · have C16 : (1 : Int) = (0 : Int) := ti_eq c16
        exfalso; omega
      have C16 : ¬ (1 : Int) = (0 : Int) := ti_ne c16
      refine sf_ite (fun c17 => ?_) (fun c17 => ?_)
      · have C17 : x1.toInt = x2.toInt := ti_eq c17
        rw [j_X3_noPair_31_e]
        exact sf_ret ⟨rfl, Or.inr (rfl)⟩
      have C17 : ¬ x1.toInt = x2.toInt := ti_ne c17
      exact sf_ret ⟨rfl, Or.inl ⟨rfl, by omega, by omega, by omega, by omega⟩⟩
    obtain rfl := p13
    refine sf_ite (fun c18 => ?_) (fun c18 => ?_)
    · have C18 : (0 : Int) = (0 : Int) := ti_eq c18
      rw [j_X3_noPair_31_e]
      exact sf_ret ⟨rfl, Or.inr (rfl)⟩
    have C18 : ¬ (0 : Int) = (0 : Int) := ti_ne c18
    exfalso; omega
  obtain rfl := p5
  refine sf_ite (fun c19 => ?_) (fun c19 => ?_)
  · have C19 : (0 : Int) = (0 : Int) := ti_eq c19
    rw [j_X3_noPair_31_e]
    exact sf_ret ⟨rfl, Or.inr (rfl)⟩
  have C19 : ¬ (0 : Int) = (0 : Int) := ti_ne c19
  exfalso; omega
set_option maxHeartbeats 4000000 in
set_option maxRecDepth 100000 in
theorem s_X3_noLookerFar {F : Nat} (hF : 100000 ≤ F) {x1 : Int32} {x2 : Int32} {τ : Mem} (hI : wiX τ) : sf (f_X3_noLookerFar F x1 x2 τ) (fun r s => s = τ ∧ ((r = 0 ∧ 0 ≤ x1.toInt ∧ x1.toInt ≤ 4 ∧ 0 ≤ x2.toInt ∧ x2.toInt ≤ 999) ∨ r = -1 ∨ r = -4 ∨ r = -6)) := by
  rw [f_X3_noLookerFar_e]
  have b1 := ti_lo x1
  have b2 := ti_hi x1
  refine sf_bnd (s_X3_noLooker hF hI) (fun r3 u4 p5 => ?_)
  obtain ⟨e9, p5⟩ := p5
  have e9 := e9.symm
  subst e9
  rcases p5 with ⟨rfl, q6, q7⟩ | p5
  · refine sf_in ?_
    rw [f_X3_outside_e]
    have b8 := ti_lo x2
    have b9 := ti_hi x2
    refine sf_ite (fun c10 => ?_) (fun c10 => ?_)
    · have C10 : (0 : Int) ≤ x2.toInt := ti_le c10
      refine sf_ite (fun c11 => ?_) (fun c11 => ?_)
      · have C11 : x2.toInt ≤ (999 : Int) := ti_le c11
        refine sf_ret ?_
        refine sf_in ?_
        rw [f_X3_firstOf_e]
        refine sf_ite (fun c12 => ?_) (fun c12 => ?_)
        · have C12 : (0 : Int) = (0 : Int) := ti_eq c12
          refine sf_ret ?_
          exact sf_ret ⟨rfl, Or.inl ⟨rfl, by omega, by omega, by omega, by omega⟩⟩
        have C12 : ¬ (0 : Int) = (0 : Int) := ti_ne c12
        exfalso; omega
      have C11 : (999 : Int) < x2.toInt := ti_nle c11
      refine sf_ret ?_
      refine sf_in ?_
      rw [f_X3_firstOf_e]
      refine sf_ite (fun c13 => ?_) (fun c13 => ?_)
      · have C13 : (0 : Int) = (0 : Int) := ti_eq c13
        refine sf_ret ?_
        exact sf_ret ⟨rfl, Or.inr (Or.inr (Or.inr (rfl)))⟩
      have C13 : ¬ (0 : Int) = (0 : Int) := ti_ne c13
      exfalso; omega
    have C10 : x2.toInt < (0 : Int) := ti_nle c10
    refine sf_ret ?_
    refine sf_in ?_
    rw [f_X3_firstOf_e]
    refine sf_ite (fun c14 => ?_) (fun c14 => ?_)
    · have C14 : (0 : Int) = (0 : Int) := ti_eq c14
      refine sf_ret ?_
      exact sf_ret ⟨rfl, Or.inr (Or.inr (Or.inl rfl))⟩
    have C14 : ¬ (0 : Int) = (0 : Int) := ti_ne c14
    exfalso; omega
  obtain rfl := p5
  refine sf_in ?_
  rw [f_X3_outside_e]
  have b15 := ti_lo x2
  have b16 := ti_hi x2
  refine sf_ite (fun c17 => ?_) (fun c17 => ?_)
  · have C17 : (0 : Int) ≤ x2.toInt := ti_le c17
    refine sf_ite (fun c18 => ?_) (fun c18 => ?_)
    · have C18 : x2.toInt ≤ (999 : Int) := ti_le c18
      refine sf_ret ?_
      refine sf_in ?_
      rw [f_X3_firstOf_e]
      refine sf_ite (fun c19 => ?_) (fun c19 => ?_)
      · have C19 : (-1 : Int) = (0 : Int) := ti_eq c19
        exfalso; omega
      have C19 : ¬ (-1 : Int) = (0 : Int) := ti_ne c19
      refine sf_ret ?_
      exact sf_ret ⟨rfl, Or.inr (Or.inl rfl)⟩
    have C18 : (999 : Int) < x2.toInt := ti_nle c18
    refine sf_ret ?_
    refine sf_in ?_
    rw [f_X3_firstOf_e]
    refine sf_ite (fun c20 => ?_) (fun c20 => ?_)
    · have C20 : (-1 : Int) = (0 : Int) := ti_eq c20
      exfalso; omega
    have C20 : ¬ (-1 : Int) = (0 : Int) := ti_ne c20
    refine sf_ret ?_
    exact sf_ret ⟨rfl, Or.inr (Or.inl rfl)⟩
  have C17 : x2.toInt < (0 : Int) := ti_nle c17
  refine sf_ret ?_
  refine sf_in ?_
  rw [f_X3_firstOf_e]
  refine sf_ite (fun c21 => ?_) (fun c21 => ?_)
  · have C21 : (-1 : Int) = (0 : Int) := ti_eq c21
    exfalso; omega
  have C21 : ¬ (-1 : Int) = (0 : Int) := ti_ne c21
  refine sf_ret ?_
  exact sf_ret ⟨rfl, Or.inr (Or.inl rfl)⟩
set_option maxHeartbeats 4000000 in
set_option maxRecDepth 100000 in
theorem s_X3_noPairFar {F : Nat} (hF : 100000 ≤ F) {x1 : Int32} {x2 : Int32} {x3 : Int32} {τ : Mem} (hI : wiX τ) : sf (f_X3_noPairFar F x1 x2 x3 τ) (fun r s => s = τ ∧ ((r = 0 ∧ 0 ≤ x1.toInt ∧ x1.toInt ≤ 4 ∧ 0 ≤ x2.toInt ∧ x2.toInt ≤ 4 ∧ 0 ≤ x3.toInt ∧ x3.toInt ≤ 999) ∨ r = -1 ∨ r = -4 ∨ r = -6)) := by
  rw [f_X3_noPairFar_e]
  have b1 := ti_lo x1
  have b2 := ti_hi x1
  have b3 := ti_lo x2
  have b4 := ti_hi x2
  refine sf_bnd (s_X3_noPair hF hI) (fun r5 u6 p7 => ?_)
  obtain ⟨e9, p7⟩ := p7
  have e9 := e9.symm
  subst e9
  rcases p7 with ⟨rfl, q8, q9, q10, q11⟩ | p7
  · refine sf_in ?_
    rw [f_X3_outside_e]
    have b12 := ti_lo x3
    have b13 := ti_hi x3
    refine sf_ite (fun c14 => ?_) (fun c14 => ?_)
    · have C14 : (0 : Int) ≤ x3.toInt := ti_le c14
      refine sf_ite (fun c15 => ?_) (fun c15 => ?_)
      · have C15 : x3.toInt ≤ (999 : Int) := ti_le c15
        refine sf_ret ?_
        refine sf_in ?_
        rw [f_X3_firstOf_e]
        refine sf_ite (fun c16 => ?_) (fun c16 => ?_)
        · have C16 : (0 : Int) = (0 : Int) := ti_eq c16
          refine sf_ret ?_
          exact sf_ret ⟨rfl, Or.inl ⟨rfl, by omega, by omega, by omega, by omega, by omega, by omega⟩⟩
        have C16 : ¬ (0 : Int) = (0 : Int) := ti_ne c16
        exfalso; omega
      have C15 : (999 : Int) < x3.toInt := ti_nle c15
      refine sf_ret ?_
      refine sf_in ?_
      rw [f_X3_firstOf_e]
      refine sf_ite (fun c17 => ?_) (fun c17 => ?_)
      · have C17 : (0 : Int) = (0 : Int) := ti_eq c17
        refine sf_ret ?_
        exact sf_ret ⟨rfl, Or.inr (Or.inr (Or.inr (rfl)))⟩
      have C17 : ¬ (0 : Int) = (0 : Int) := ti_ne c17
      exfalso; omega
    have C14 : x3.toInt < (0 : Int) := ti_nle c14
    refine sf_ret ?_
    refine sf_in ?_
    rw [f_X3_firstOf_e]
    refine sf_ite (fun c18 => ?_) (fun c18 => ?_)
    · have C18 : (0 : Int) = (0 : Int) := ti_eq c18
      refine sf_ret ?_
      exact sf_ret ⟨rfl, Or.inr (Or.inr (Or.inl rfl))⟩
    have C18 : ¬ (0 : Int) = (0 : Int) := ti_ne c18
    exfalso; omega
  obtain rfl := p7
  refine sf_in ?_
  rw [f_X3_outside_e]
  have b19 := ti_lo x3
  have b20 := ti_hi x3
  refine sf_ite (fun c21 => ?_) (fun c21 => ?_)
  · have C21 : (0 : Int) ≤ x3.toInt := ti_le c21
    refine sf_ite (fun c22 => ?_) (fun c22 => ?_)
    · have C22 : x3.toInt ≤ (999 : Int) := ti_le c22
      refine sf_ret ?_
      refine sf_in ?_
      rw [f_X3_firstOf_e]
      refine sf_ite (fun c23 => ?_) (fun c23 => ?_)
      · have C23 : (-1 : Int) = (0 : Int) := ti_eq c23
        exfalso; omega
      have C23 : ¬ (-1 : Int) = (0 : Int) := ti_ne c23
      refine sf_ret ?_
      exact sf_ret ⟨rfl, Or.inr (Or.inl rfl)⟩
    have C22 : (999 : Int) < x3.toInt := ti_nle c22
    refine sf_ret ?_
    refine sf_in ?_
    rw [f_X3_firstOf_e]
    refine sf_ite (fun c24 => ?_) (fun c24 => ?_)
    · have C24 : (-1 : Int) = (0 : Int) := ti_eq c24
      exfalso; omega
    have C24 : ¬ (-1 : Int) = (0 : Int) := ti_ne c24
    refine sf_ret ?_
    exact sf_ret ⟨rfl, Or.inr (Or.inl rfl)⟩
  have C21 : x3.toInt < (0 : Int) := ti_nle c21
  refine sf_ret ?_
  refine sf_in ?_
  rw [f_X3_firstOf_e]
  refine sf_ite (fun c25 => ?_) (fun c25 => ?_)
  · have C25 : (-1 : Int) = (0 : Int) := ti_eq c25
    exfalso; omega
  have C25 : ¬ (-1 : Int) = (0 : Int) := ti_ne c25
  refine sf_ret ?_
  exact sf_ret ⟨rfl, Or.inr (Or.inl rfl)⟩
set_option maxHeartbeats 4000000 in
set_option maxRecDepth 100000 in
theorem s_X3_longRow {F : Nat} (hF : 100000 ≤ F) {τ : Mem} (hI : wiX τ) : sf (f_X3_longRow F τ) (fun r s => s = τ ∧ (r = 0 ∨ r = -3)) := by
  rw [f_X3_longRow_e]
  have m1 := wx_X3_7 hI
  refine sf_ite (fun c2 => ?_) (fun c2 => ?_)
  · have C2 : (τ 0 7).toInt ≤ (8 : Int) := ti_le c2
    exact sf_ret ⟨rfl, Or.inl rfl⟩
  have C2 : (8 : Int) < (τ 0 7).toInt := ti_nle c2
  exact sf_ret ⟨rfl, Or.inr (rfl)⟩
set_option maxHeartbeats 4000000 in
set_option maxRecDepth 100000 in
theorem s_X3_feed {F : Nat} (hF : 100000 ≤ F) {x1 : Int32} {τ : Mem} (hI : wiX τ) : sf (f_X3_feed F x1 τ) (fun r s => wiX s ∧ (∀ k, 101 ≤ k → s k = τ k) ∧ s 0 7 = τ 0 7 ∧ -2147483648 ≤ r.toInt ∧ r.toInt ≤ 2147483647 ∧ ((0 ≤ x1.toInt ∧ x1.toInt ≤ 255 ∧ (τ 83 1).toInt ≤ 95 ∧ (s 83 1).toInt = (τ 83 1).toInt + 1 ∧ r.toInt = (s 83 1).toInt) ∨ (x1.toInt < 0 ∧ (s 83 1).toInt = (τ 83 1).toInt ∧ r.toInt = -4) ∨ (0 ≤ x1.toInt ∧ (255 < x1.toInt ∨ 96 ≤ (τ 83 1).toInt) ∧ (s 83 1).toInt = (τ 83 1).toInt ∧ r.toInt = -6))) := by
  have Fτ : ∀ k, 101 ≤ k → τ k = τ k := fun _ _ => rfl
  have O83_τ : τ 83 1 = τ 83 1 := rfl
  have O0_τ : τ 0 7 = τ 0 7 := rfl
  rw [f_X3_feed_e]
  refine sf_in ?_
  rw [f_X3_outside_e]
  have b1 := ti_lo x1
  have b2 := ti_hi x1
  refine sf_ite (fun c3 => ?_) (fun c3 => ?_)
  · have C3 : (0 : Int) ≤ x1.toInt := ti_le c3
    refine sf_ite (fun c4 => ?_) (fun c4 => ?_)
    · have C4 : x1.toInt ≤ (255 : Int) := ti_le c4
      refine sf_ret ?_
      refine sf_ite (fun c5 => ?_) (fun c5 => ?_)
      · have C5 : (0 : Int) = (0 : Int) := ti_eq c5
        have m6 := wx_X1_1 hI
        refine sf_ite (fun c7 => ?_) (fun c7 => ?_)
        · have C7 : (τ 83 1).toInt < (96 : Int) := ti_lt c7
          rw [j_X3_feed_28_e]
          refine sf_ite (fun c8 => ?_) (fun c8 => ?_)
          · have C8 : (0 : Int) = (0 : Int) := ti_eq c8
            refine sf_bnd (s_X1_add hF hI (by omega) (by omega)) (fun r9 u10 p11 => ?_)
            obtain ⟨Iu10, Fu10_, O0_u10_, -, p11_x0⟩ := p11
            have Fu10 : ∀ k, 101 ≤ k → u10 k = τ k := fun k hk => (Fu10_ k hk).trans (Fτ k hk)
            have O0_u10 : u10 0 7 = τ 0 7 := O0_u10_.trans O0_τ
            replace p11_x0 : ((τ 83 1).toInt ≤ 95 → (u10 83 1).toInt = (τ 83 1).toInt + 1) ∧ (96 ≤ (τ 83 1).toInt → (u10 83 1).toInt = (τ 83 1).toInt) := p11_x0
            have m12 := wx_X1_1 Iu10
            exact sf_ret ⟨Iu10, Fu10, O0_u10, ti_lo _, ti_hi _, (show (0 ≤ x1.toInt ∧ x1.toInt ≤ 255 ∧ (τ 83 1).toInt ≤ 95 ∧ (u10 83 1).toInt = (τ 83 1).toInt + 1 ∧ (u10 83 1).toInt = (u10 83 1).toInt) ∨ (x1.toInt < 0 ∧ (u10 83 1).toInt = (τ 83 1).toInt ∧ (u10 83 1).toInt = -4) ∨ (0 ≤ x1.toInt ∧ (255 < x1.toInt ∨ 96 ≤ (τ 83 1).toInt) ∧ (u10 83 1).toInt = (τ 83 1).toInt ∧ (u10 83 1).toInt = -6) from by omega)⟩
          have C8 : ¬ (0 : Int) = (0 : Int) := ti_ne c8
          exfalso; omega
        have C7 : (96 : Int) ≤ (τ 83 1).toInt := ti_nlt c7
        rw [j_X3_feed_28_e]
        refine sf_ite (fun c13 => ?_) (fun c13 => ?_)
        · have C13 : (-6 : Int) = (0 : Int) := ti_eq c13
          exfalso; omega
        have C13 : ¬ (-6 : Int) = (0 : Int) := ti_ne c13
        refine sf_bnd (s_X3_refuse hF hI (by decide) (by decide)) (fun r14 u15 p16 => ?_)
        obtain ⟨Iu15, Fu15_, O83_u15_, O0_u15_, p16_1, p16_2, p16_x0⟩ := p16
        have Fu15 : ∀ k, 101 ≤ k → u15 k = τ k := fun k hk => (Fu15_ k hk).trans (Fτ k hk)
        have O83_u15 : u15 83 1 = τ 83 1 := O83_u15_.trans O83_τ
        have O0_u15 : u15 0 7 = τ 0 7 := O0_u15_.trans O0_τ
        replace p16_x0 : r14.toInt = (-6 : Int) := p16_x0
        have m17 := wx_X1_1 Iu15
        have e18 : (u15 83 1).toInt = (τ 83 1).toInt := congrArg Int32.toInt O83_u15_
        exact sf_ret ⟨Iu15, Fu15, O0_u15, ti_lo _, ti_hi _, (show (0 ≤ x1.toInt ∧ x1.toInt ≤ 255 ∧ (τ 83 1).toInt ≤ 95 ∧ (u15 83 1).toInt = (τ 83 1).toInt + 1 ∧ r14.toInt = (u15 83 1).toInt) ∨ (x1.toInt < 0 ∧ (u15 83 1).toInt = (τ 83 1).toInt ∧ r14.toInt = -4) ∨ (0 ≤ x1.toInt ∧ (255 < x1.toInt ∨ 96 ≤ (τ 83 1).toInt) ∧ (u15 83 1).toInt = (τ 83 1).toInt ∧ r14.toInt = -6) from by omega)⟩
      have C5 : ¬ (0 : Int) = (0 : Int) := ti_ne c5
      exfalso; omega
    have C4 : (255 : Int) < x1.toInt := ti_nle c4
    refine sf_ret ?_
    refine sf_ite (fun c19 => ?_) (fun c19 => ?_)
    · have C19 : (-6 : Int) = (0 : Int) := ti_eq c19
      exfalso; omega
    have C19 : ¬ (-6 : Int) = (0 : Int) := ti_ne c19
    rw [j_X3_feed_28_e]
    refine sf_ite (fun c20 => ?_) (fun c20 => ?_)
    · have C20 : (-6 : Int) = (0 : Int) := ti_eq c20
      exfalso; omega
    have C20 : ¬ (-6 : Int) = (0 : Int) := ti_ne c20
    refine sf_bnd (s_X3_refuse hF hI (by decide) (by decide)) (fun r21 u22 p23 => ?_)
    obtain ⟨Iu22, Fu22_, O83_u22_, O0_u22_, p23_1, p23_2, p23_x0⟩ := p23
    have Fu22 : ∀ k, 101 ≤ k → u22 k = τ k := fun k hk => (Fu22_ k hk).trans (Fτ k hk)
    have O83_u22 : u22 83 1 = τ 83 1 := O83_u22_.trans O83_τ
    have O0_u22 : u22 0 7 = τ 0 7 := O0_u22_.trans O0_τ
    replace p23_x0 : r21.toInt = (-6 : Int) := p23_x0
    have m24 := wx_X1_1 Iu22
    have m25 := wx_X1_1 hI
    have e26 : (u22 83 1).toInt = (τ 83 1).toInt := congrArg Int32.toInt O83_u22_
    exact sf_ret ⟨Iu22, Fu22, O0_u22, ti_lo _, ti_hi _, (show (0 ≤ x1.toInt ∧ x1.toInt ≤ 255 ∧ (τ 83 1).toInt ≤ 95 ∧ (u22 83 1).toInt = (τ 83 1).toInt + 1 ∧ r21.toInt = (u22 83 1).toInt) ∨ (x1.toInt < 0 ∧ (u22 83 1).toInt = (τ 83 1).toInt ∧ r21.toInt = -4) ∨ (0 ≤ x1.toInt ∧ (255 < x1.toInt ∨ 96 ≤ (τ 83 1).toInt) ∧ (u22 83 1).toInt = (τ 83 1).toInt ∧ r21.toInt = -6) from by omega)⟩
  have C3 : x1.toInt < (0 : Int) := ti_nle c3
  refine sf_ret ?_
  refine sf_ite (fun c27 => ?_) (fun c27 => ?_)
  · have C27 : (-4 : Int) = (0 : Int) := ti_eq c27
    exfalso; omega
  have C27 : ¬ (-4 : Int) = (0 : Int) := ti_ne c27
  rw [j_X3_feed_28_e]
  refine sf_ite (fun c28 => ?_) (fun c28 => ?_)
  · have C28 : (-4 : Int) = (0 : Int) := ti_eq c28
    exfalso; omega
  have C28 : ¬ (-4 : Int) = (0 : Int) := ti_ne c28
  refine sf_bnd (s_X3_refuse hF hI (by decide) (by decide)) (fun r29 u30 p31 => ?_)
  obtain ⟨Iu30, Fu30_, O83_u30_, O0_u30_, p31_1, p31_2, p31_x0⟩ := p31
  have Fu30 : ∀ k, 101 ≤ k → u30 k = τ k := fun k hk => (Fu30_ k hk).trans (Fτ k hk)
  have O83_u30 : u30 83 1 = τ 83 1 := O83_u30_.trans O83_τ
  have O0_u30 : u30 0 7 = τ 0 7 := O0_u30_.trans O0_τ
  replace p31_x0 : r29.toInt = (-4 : Int) := p31_x0
  have m32 := wx_X1_1 Iu30
  have m33 := wx_X1_1 hI
  have e34 : (u30 83 1).toInt = (τ 83 1).toInt := congrArg Int32.toInt O83_u30_
  exact sf_ret ⟨Iu30, Fu30, O0_u30, ti_lo _, ti_hi _, (show (0 ≤ x1.toInt ∧ x1.toInt ≤ 255 ∧ (τ 83 1).toInt ≤ 95 ∧ (u30 83 1).toInt = (τ 83 1).toInt + 1 ∧ r29.toInt = (u30 83 1).toInt) ∨ (x1.toInt < 0 ∧ (u30 83 1).toInt = (τ 83 1).toInt ∧ r29.toInt = -4) ∨ (0 ≤ x1.toInt ∧ (255 < x1.toInt ∨ 96 ≤ (τ 83 1).toInt) ∧ (u30 83 1).toInt = (τ 83 1).toInt ∧ r29.toInt = -6) from by omega)⟩
