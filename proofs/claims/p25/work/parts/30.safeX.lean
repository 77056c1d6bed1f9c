set_option maxHeartbeats 4000000 in
set_option maxRecDepth 100000 in
theorem s_X1_digitsOf {F : Nat} (hF : 100000 ≤ F) {x0 : Int32} {τ : Mem} (hI : wiX τ) : sf (f_X1_digitsOf F x0 τ) (fun r s => s = τ ∧ -9 ≤ r.toInt ∧ r.toInt ≤ 6) := by
  rw [f_X1_digitsOf_e]
  have b1 := ti_lo x0
  have b2 := ti_hi x0
  refine sf_ite (fun c3 => ?_) (fun c3 => ?_)
  · have C3 : x0.toInt = (100 : Int) := ti_eq c3
    exact sf_ret ⟨rfl, by decide, by decide⟩
  have C3 : ¬ x0.toInt = (100 : Int) := ti_ne c3
  refine sf_ite (fun c4 => ?_) (fun c4 => ?_)
  · have C4 : x0.toInt = (108 : Int) := ti_eq c4
    exact sf_ret ⟨rfl, by decide, by decide⟩
  have C4 : ¬ x0.toInt = (108 : Int) := ti_ne c4
  refine sf_ite (fun c5 => ?_) (fun c5 => ?_)
  · have C5 : x0.toInt = (112 : Int) := ti_eq c5
    exact sf_ret ⟨rfl, by decide, by decide⟩
  have C5 : ¬ x0.toInt = (112 : Int) := ti_ne c5
  refine sf_ite (fun c6 => ?_) (fun c6 => ?_)
  · have C6 : x0.toInt = (115 : Int) := ti_eq c6
    exact sf_ret ⟨rfl, by decide, by decide⟩
  have C6 : ¬ x0.toInt = (115 : Int) := ti_ne c6
  refine sf_ite (fun c7 => ?_) (fun c7 => ?_)
  · have C7 : x0.toInt = (117 : Int) := ti_eq c7
    exact sf_ret ⟨rfl, by decide, by decide⟩
  have C7 : ¬ x0.toInt = (117 : Int) := ti_ne c7
  refine sf_ite (fun c8 => ?_) (fun c8 => ?_)
  · have C8 : x0.toInt = (118 : Int) := ti_eq c8
    exact sf_ret ⟨rfl, by decide, by decide⟩
  have C8 : ¬ x0.toInt = (118 : Int) := ti_ne c8
  refine sf_ite (fun c9 => ?_) (fun c9 => ?_)
  · have C9 : x0.toInt = (119 : Int) := ti_eq c9
    exact sf_ret ⟨rfl, by decide, by decide⟩
  have C9 : ¬ x0.toInt = (119 : Int) := ti_ne c9
  exact sf_ret ⟨rfl, by decide, by decide⟩
set_option maxHeartbeats 4000000 in
set_option maxRecDepth 100000 in
theorem s_X1_isDigit {F : Nat} (hF : 100000 ≤ F) {x1 : Int32} {τ : Mem} (hI : wiX τ) : sf (f_X1_isDigit F x1 τ) (fun r s => s = τ ∧ ((r = 1 ∧ 0 ≤ x1.toInt ∧ x1.toInt ≤ 95) ∨ r = 0)) := by
  rw [f_X1_isDigit_e]
  have b1 := ti_lo x1
  have b2 := ti_hi x1
  refine sf_ite (fun c3 => ?_) (fun c3 => ?_)
  · have C3 : x1.toInt < (0 : Int) := ti_lt c3
    rw [j_X1_isDigit_38_e]
    exact sf_ret ⟨rfl, Or.inr (rfl)⟩
  have C3 : (0 : Int) ≤ x1.toInt := ti_nlt c3
  have m4 := wx_X1_1 hI
  refine sf_ite (fun c5 => ?_) (fun c5 => ?_)
  · have C5 : (τ 83 1).toInt ≤ x1.toInt := ti_le c5
    rw [j_X1_isDigit_38_e]
    exact sf_ret ⟨rfl, Or.inr (rfl)⟩
  have C5 : x1.toInt < (τ 83 1).toInt := ti_nle c5
  refine sf_chk (ti_in (by omega) (by omega)) ?_
  have v6 : Int32.toNatClampNeg x1 = x1.toInt.toNat := rfl
  have b7 := ti_lo (τ 84 (Int32.toNatClampNeg x1))
  have b8 := ti_hi (τ 84 (Int32.toNatClampNeg x1))
  refine sf_ite (fun c9 => ?_) (fun c9 => ?_)
  · have C9 : (τ 84 (Int32.toNatClampNeg x1)).toInt < (48 : Int) := ti_lt c9
    rw [j_X1_isDigit_38_e]
    exact sf_ret ⟨rfl, Or.inr (rfl)⟩
  have C9 : (48 : Int) ≤ (τ 84 (Int32.toNatClampNeg x1)).toInt := ti_nlt c9
  refine sf_ite (fun c10 => ?_) (fun c10 => ?_)
  · have C10 : (57 : Int) < (τ 84 (Int32.toNatClampNeg x1)).toInt := ti_lt c10
    rw [j_X1_isDigit_38_e]
    exact sf_ret ⟨rfl, Or.inr (rfl)⟩
  have C10 : (τ 84 (Int32.toNatClampNeg x1)).toInt ≤ (57 : Int) := ti_nlt c10
  exact sf_ret ⟨rfl, Or.inl ⟨rfl, by omega, by omega⟩⟩
set_option maxHeartbeats 4000000 in
set_option maxRecDepth 100000 in
theorem s_X1_behind {F : Nat} (hF : 100000 ≤ F) {x1 : Int32} {τ : Mem} (hI : wiX τ) (x1_1 : -2147483648 ≤ x1.toInt) (x1_2 : x1.toInt ≤ 95) : sf (f_X1_behind F x1 τ) (fun r s => s = τ ∧ -2147483648 ≤ r.toInt ∧ r.toInt ≤ 2147483647) := by
  rw [f_X1_behind_e]
  have b1 := ti_lo x1
  have b2 := ti_hi x1
  refine sf_ite (fun c3 => ?_) (fun c3 => ?_)
  · have C3 : x1.toInt < (0 : Int) := ti_lt c3
    rw [j_X1_behind_12_e]
    exact sf_ret ⟨rfl, ti_lo _, ti_hi _⟩
  have C3 : (0 : Int) ≤ x1.toInt := ti_nlt c3
  have m4 := wx_X1_1 hI
  refine sf_ite (fun c5 => ?_) (fun c5 => ?_)
  · have C5 : x1.toInt < (τ 83 1).toInt := ti_lt c5
    refine sf_chk (ti_in (by omega) (by omega)) ?_
    have v6 : Int32.toNatClampNeg x1 = x1.toInt.toNat := rfl
    have b7 := ti_lo (τ 84 (Int32.toNatClampNeg x1))
    have b8 := ti_hi (τ 84 (Int32.toNatClampNeg x1))
    refine sf_bnd (s_X1_digitsOf hF hI) (fun r9 u10 p11 => ?_)
    obtain ⟨e9, p11_1, p11_2⟩ := p11
    have e9 := e9.symm
    subst e9
    have b12 := ti_lo (wt_max r9 (0 : Int32))
    have b13 := ti_hi (wt_max r9 (0 : Int32))
    have b14 := ti_lo (x1 + (wt_max r9 (0 : Int32)))
    have b15 := ti_hi (x1 + (wt_max r9 (0 : Int32)))
    have b16 := ti_lo ((x1 + (wt_max r9 (0 : Int32))) + (2 : Int32))
    have b17 := ti_hi ((x1 + (wt_max r9 (0 : Int32))) + (2 : Int32))
    exact sf_ret ⟨rfl, ti_lo _, ti_hi _⟩
  have C5 : (τ 83 1).toInt ≤ x1.toInt := ti_nlt c5
  rw [j_X1_behind_12_e]
  exact sf_ret ⟨rfl, ti_lo _, ti_hi _⟩
set_option maxHeartbeats 4000000 in
set_option maxRecDepth 100000 in
theorem sl_X1_faultOfForm_15 {F : Nat} (hF : 100000 ≤ F) {τ : Mem} (hI : wiX τ) : ∀ (N : Nat) (x1 : Int32) (x2 : Int32) (x3 : Int32) , 96 < x3.toInt + N → 0 ≤ x2.toInt → x2.toInt ≤ 1 → 0 ≤ x3.toInt → x3.toInt ≤ 96 → sf (lp_X1_faultOfForm_15 F N x1 x2 x3 τ) (fun r s => s = τ ∧ -9 ≤ r.toInt ∧ r.toInt ≤ 96) := by
  intro N
  induction N with
  | zero => intro x1 x2 x3 hN x2_1 x2_2 x3_1 x3_2; exfalso; omega
  | succ N ih =>
    intro x1 x2 x3 hN x2_1 x2_2 x3_1 x3_2
    rw [lp_X1_faultOfForm_15_s]
    have m1 := wx_X1_1 hI
    refine sf_ite (fun c2 => ?_) (fun c2 => ?_)
    · have C2 : (τ 83 1).toInt ≤ x3.toInt := ti_le c2
      refine sf_ite (fun c3 => ?_) (fun c3 => ?_)
      · have C3 : x2.toInt = (0 : Int) := ti_eq c3
        exact sf_ret ⟨rfl, by decide, by decide⟩
      have C3 : ¬ x2.toInt = (0 : Int) := ti_ne c3
      exact sf_ret ⟨rfl, by omega, by omega⟩
    have C2 : x3.toInt < (τ 83 1).toInt := ti_nle c2
    refine sf_ite (fun c4 => ?_) (fun c4 => ?_)
    · have C4 : x2.toInt = (0 : Int) := ti_eq c4
      refine sf_chk (ti_in (by omega) (by omega)) ?_
      have v5 : Int32.toNatClampNeg x3 = x3.toInt.toNat := rfl
      have b6 := ti_lo (τ 84 (Int32.toNatClampNeg x3))
      have b7 := ti_hi (τ 84 (Int32.toNatClampNeg x3))
      refine sf_bnd (s_X1_digitsOf hF hI) (fun r8 u9 p10 => ?_)
      obtain ⟨e9, p10_1, p10_2⟩ := p10
      have e9 := e9.symm
      subst e9
      refine sf_ite (fun c11 => ?_) (fun c11 => ?_)
      · have C11 : r8.toInt = (-9 : Int) := ti_eq c11
        rw [j_X1_faultOfForm_48_e]
        refine sf_ite (fun c12 => ?_) (fun c12 => ?_)
        · have C12 : (0 : Int) = (0 : Int) := ti_eq c12
          exact sf_ret ⟨rfl, by omega, by omega⟩
        have C12 : ¬ (0 : Int) = (0 : Int) := ti_ne c12
        exfalso; omega
      have C11 : ¬ r8.toInt = (-9 : Int) := ti_ne c11
      rw [j_X1_faultOfForm_48_e]
      refine sf_ite (fun c13 => ?_) (fun c13 => ?_)
      · have C13 : (1 : Int) = (0 : Int) := ti_eq c13
        exfalso; omega
      have C13 : ¬ (1 : Int) = (0 : Int) := ti_ne c13
      rw [j_X1_faultOfForm_90_e]
      have t14 : (x3 + (1 : Int32)).toInt = x3.toInt + (1 : Int) := ti_add (show -2147483648 ≤ x3.toInt + (1 : Int) by omega) (show x3.toInt + (1 : Int) ≤ 2147483647 by omega)
      exact ih _ _ _ (by omega) (by decide) (by decide) (by omega) (by omega)
    have C4 : ¬ x2.toInt = (0 : Int) := ti_ne c4
    have b15 := ti_lo x1
    have b16 := ti_hi x1
    refine sf_ite (fun c17 => ?_) (fun c17 => ?_)
    · have C17 : x1.toInt ≤ (0 : Int) := ti_le c17
      refine sf_chk (ti_in (by omega) (by omega)) ?_
      have v18 : Int32.toNatClampNeg x3 = x3.toInt.toNat := rfl
      have b19 := ti_lo (τ 84 (Int32.toNatClampNeg x3))
      have b20 := ti_hi (τ 84 (Int32.toNatClampNeg x3))
      refine sf_ite (fun c21 => ?_) (fun c21 => ?_)
      · have C21 : (τ 84 (Int32.toNatClampNeg x3)).toInt = (59 : Int) := ti_eq c21
        rw [j_X1_faultOfForm_90_e]
        have t22 : (x3 + (1 : Int32)).toInt = x3.toInt + (1 : Int) := ti_add (show -2147483648 ≤ x3.toInt + (1 : Int) by omega) (show x3.toInt + (1 : Int) ≤ 2147483647 by omega)
        exact ih _ _ _ (by omega) (by decide) (by decide) (by omega) (by omega)
      have C21 : ¬ (τ 84 (Int32.toNatClampNeg x3)).toInt = (59 : Int) := ti_ne c21
      exact sf_ret ⟨rfl, by omega, by omega⟩
    have C17 : (0 : Int) < x1.toInt := ti_nle c17
    refine sf_bnd (s_X1_isDigit hF hI) (fun r23 u24 p25 => ?_)
    obtain ⟨e9, p25⟩ := p25
    have e9 := e9.symm
    subst e9
    rcases p25 with ⟨rfl, q26, q27⟩ | p25
    · refine sf_ite (fun c28 => ?_) (fun c28 => ?_)
      · have C28 : (1 : Int) = (0 : Int) := ti_eq c28
        exfalso; omega
      have C28 : ¬ (1 : Int) = (0 : Int) := ti_ne c28
      rw [j_X1_faultOfForm_90_e]
      have t29 : (x1 + (-1 : Int32)).toInt = x1.toInt + (-1 : Int) := ti_add (show -2147483648 ≤ x1.toInt + (-1 : Int) by omega) (show x1.toInt + (-1 : Int) ≤ 2147483647 by omega)
      have t30 : (x3 + (1 : Int32)).toInt = x3.toInt + (1 : Int) := ti_add (show -2147483648 ≤ x3.toInt + (1 : Int) by omega) (show x3.toInt + (1 : Int) ≤ 2147483647 by omega)
      exact ih _ _ _ (by omega) (by omega) (by omega) (by omega) (by omega)
    obtain rfl := p25
    refine sf_ite (fun c31 => ?_) (fun c31 => ?_)
    · have C31 : (0 : Int) = (0 : Int) := ti_eq c31
      exact sf_ret ⟨rfl, by omega, by omega⟩
    have C31 : ¬ (0 : Int) = (0 : Int) := ti_ne c31
    exfalso; omega
set_option maxHeartbeats 4000000 in
set_option maxRecDepth 100000 in
theorem s_X1_faultOfForm {F : Nat} (hF : 100000 ≤ F) {τ : Mem} (hI : wiX τ) : sf (f_X1_faultOfForm F τ) (fun r s => s = τ ∧ -9 ≤ r.toInt ∧ r.toInt ≤ 96) := by
  rw [f_X1_faultOfForm_e]
  have m1 := wx_X1_1 hI
  refine sf_ite (fun c2 => ?_) (fun c2 => ?_)
  · have C2 : (τ 83 1).toInt = (0 : Int) := ti_eq c2
    exact sf_ret ⟨rfl, by decide, by decide⟩
  have C2 : ¬ (τ 83 1).toInt = (0 : Int) := ti_ne c2
  have l_0 : (0 : Int32).toInt = 0 := rfl
  exact sl_X1_faultOfForm_15 hF hI _ _ _ _  (by omega) (by decide) (by decide) (by decide) (by decide)
set_option maxHeartbeats 4000000 in
set_option maxRecDepth 100000 in
theorem sl_X1_number_5 {F : Nat} (hF : 100000 ≤ F) {x1 : Int32} {x2 : Int32} {τ : Mem} (hI : wiX τ) (x1_1 : 1 ≤ x1.toInt) (x1_2 : x1.toInt ≤ 120) (x2_1 : 1 ≤ x2.toInt) (x2_2 : x2.toInt ≤ 3) : ∀ (N : Nat) (x3 : Int32) (x4 : Int32) , 188 < x4.toInt + N → 1 ≤ x4.toInt → x4.toInt ≤ 188 → sf (lp_X1_number_5 F x1 x2 N x3 x4 τ) (fun r s => s = τ ∧ -2147483648 ≤ r.toInt ∧ r.toInt ≤ 2147483647) := by
  intro N
  induction N with
  | zero => intro x3 x4 hN x4_1 x4_2; exfalso; omega
  | succ N ih =>
    intro x3 x4 hN x4_1 x4_2
    rw [lp_X1_number_5_s]
    have t1 : (x1 + x2).toInt = x1.toInt + x2.toInt := ti_add (show -2147483648 ≤ x1.toInt + x2.toInt by omega) (show x1.toInt + x2.toInt ≤ 2147483647 by omega)
    refine sf_ite (fun c2 => ?_) (fun c2 => ?_)
    · have C2 : (x1 + x2).toInt ≤ x4.toInt := ti_le c2
      have b3 := ti_lo x3
      have b4 := ti_hi x3
      exact sf_ret ⟨rfl, ti_lo _, ti_hi _⟩
    have C2 : x4.toInt < (x1 + x2).toInt := ti_nle c2
    refine sf_bnd (s_X1_isDigit hF hI) (fun r5 u6 p7 => ?_)
    obtain ⟨e9, p7⟩ := p7
    have e9 := e9.symm
    subst e9
    rcases p7 with ⟨rfl, q8, q9⟩ | p7
    · refine sf_ite (fun c10 => ?_) (fun c10 => ?_)
      · have C10 : (1 : Int) = (0 : Int) := ti_eq c10
        exfalso; omega
      have C10 : ¬ (1 : Int) = (0 : Int) := ti_ne c10
      refine sf_chk (ti_in (by omega) (by omega)) ?_
      have v11 : Int32.toNatClampNeg x4 = x4.toInt.toNat := rfl
      rw [j_X1_number_40_e]
      have b12 := ti_lo x3
      have b13 := ti_hi x3
      have b14 := ti_lo (x3 * (10 : Int32))
      have b15 := ti_hi (x3 * (10 : Int32))
      have b16 := ti_lo (τ 84 (Int32.toNatClampNeg x4))
      have b17 := ti_hi (τ 84 (Int32.toNatClampNeg x4))
      have b18 := ti_lo ((τ 84 (Int32.toNatClampNeg x4)) - (48 : Int32))
      have b19 := ti_hi ((τ 84 (Int32.toNatClampNeg x4)) - (48 : Int32))
      have b20 := ti_lo ((x3 * (10 : Int32)) + ((τ 84 (Int32.toNatClampNeg x4)) - (48 : Int32)))
      have b21 := ti_hi ((x3 * (10 : Int32)) + ((τ 84 (Int32.toNatClampNeg x4)) - (48 : Int32)))
      have t22 : (x4 + (1 : Int32)).toInt = x4.toInt + (1 : Int) := ti_add (show -2147483648 ≤ x4.toInt + (1 : Int) by omega) (show x4.toInt + (1 : Int) ≤ 2147483647 by omega)
      exact ih _ _ (by omega) (by omega) (by omega)
    obtain rfl := p7
    refine sf_ite (fun c23 => ?_) (fun c23 => ?_)
    · have C23 : (0 : Int) = (0 : Int) := ti_eq c23
      rw [j_X1_number_40_e]
      have b24 := ti_lo x3
      have b25 := ti_hi x3
      have b26 := ti_lo (x3 * (10 : Int32))
      have b27 := ti_hi (x3 * (10 : Int32))
      have t28 : ((x3 * (10 : Int32)) + (0 : Int32)).toInt = (x3 * (10 : Int32)).toInt + (0 : Int) := ti_add (show -2147483648 ≤ (x3 * (10 : Int32)).toInt + (0 : Int) by omega) (show (x3 * (10 : Int32)).toInt + (0 : Int) ≤ 2147483647 by omega)
      have t29 : (x4 + (1 : Int32)).toInt = x4.toInt + (1 : Int) := ti_add (show -2147483648 ≤ x4.toInt + (1 : Int) by omega) (show x4.toInt + (1 : Int) ≤ 2147483647 by omega)
      exact ih _ _ (by omega) (by omega) (by omega)
    have C23 : ¬ (0 : Int) = (0 : Int) := ti_ne c23
    exfalso; omega
set_option maxHeartbeats 4000000 in
set_option maxRecDepth 100000 in
theorem s_X1_number {F : Nat} (hF : 100000 ≤ F) {x1 : Int32} {x2 : Int32} {τ : Mem} (hI : wiX τ) (x1_1 : 1 ≤ x1.toInt) (x1_2 : x1.toInt ≤ 101) (x2_1 : 1 ≤ x2.toInt) (x2_2 : x2.toInt ≤ 3) : sf (f_X1_number F x1 x2 τ) (fun r s => s = τ ∧ -2147483648 ≤ r.toInt ∧ r.toInt ≤ 2147483647) := by
  rw [f_X1_number_e]
  exact sl_X1_number_5 hF hI (by omega) (by omega) (by omega) (by omega) _ _ _  (by omega) (by omega) (by omega)
set_option maxHeartbeats 4000000 in
set_option maxRecDepth 100000 in
theorem s_X1_tell {F : Nat} (hF : 100000 ≤ F) {g : Nat} {x2 : Int32} {τ : Mem} (hg : wt_isH g) (hI : wiX τ) (x2_1 : -2147483648 ≤ x2.toInt) (x2_2 : x2.toInt ≤ 95) : sf (f_X1_tell F g x2 τ) (fun r s => wiX s ∧ (∀ k, 101 ≤ k → s k = τ k) ∧ s 83 1 = τ 83 1 ∧ s 0 7 = τ 0 7 ∧ 0 ≤ r.toInt ∧ r.toInt ≤ 1) := by
  have hc_g := wt_Hcs hg
  have Fτ : ∀ k, 101 ≤ k → τ k = τ k := fun _ _ => rfl
  have O83_τ : τ 83 1 = τ 83 1 := rfl
  have O0_τ : τ 0 7 = τ 0 7 := rfl
  rw [f_X1_tell_e]
  have b1 := ti_lo x2
  have b2 := ti_hi x2
  refine sf_ite (fun c3 => ?_) (fun c3 => ?_)
  · have C3 : x2.toInt < (0 : Int) := ti_lt c3
    rw [j_X1_tell_12_e]
    exact sf_ret ⟨hI, Fτ, O83_τ, O0_τ, by decide, by decide⟩
  have C3 : (0 : Int) ≤ x2.toInt := ti_nlt c3
  have m4 := wx_X1_1 hI
  refine sf_ite (fun c5 => ?_) (fun c5 => ?_)
  · have C5 : x2.toInt < (τ 83 1).toInt := ti_lt c5
    refine sf_chk (ti_in (by omega) (by omega)) ?_
    have v6 : Int32.toNatClampNeg x2 = x2.toInt.toNat := rfl
    have b7 := ti_lo (τ 84 (Int32.toNatClampNeg x2))
    have b8 := ti_hi (τ 84 (Int32.toNatClampNeg x2))
    refine sf_ite (fun c9 => ?_) (fun c9 => ?_)
    · have C9 : (τ 84 (Int32.toNatClampNeg x2)).toInt = (100 : Int) := ti_eq c9
      have t10 : (x2 + (1 : Int32)).toInt = x2.toInt + (1 : Int) := ti_add (show -2147483648 ≤ x2.toInt + (1 : Int) by omega) (show x2.toInt + (1 : Int) ≤ 2147483647 by omega)
      refine sf_bnd (s_X1_number hF hI (by omega) (by omega) (by decide) (by decide)) (fun r11 u12 p13 => ?_)
      obtain ⟨e9, p13_1, p13_2⟩ := p13
      have e9 := e9.symm
      subst e9
      have b14 := ti_lo r11
      have b15 := ti_hi r11
      refine sf_ite (fun c16 => ?_) (fun c16 => ?_)
      · have C16 : (60 : Int) < r11.toInt := ti_lt c16
        rw [j_X1_tell_262_e]
        exact sf_ret ⟨hI, Fτ, O83_τ, O0_τ, by decide, by decide⟩
      have C16 : r11.toInt ≤ (60 : Int) := ti_nlt c16
      refine sf_bnd (s_X1_number hF hI (by omega) (by omega) (by decide) (by decide)) (fun r17 u18 p19 => ?_)
      obtain ⟨e9, p19_1, p19_2⟩ := p19
      have e9 := e9.symm
      subst e9
      have b20 := ti_lo r17
      have b21 := ti_hi r17
      refine sf_bnd (s_X0_pass hF hg hI) (fun r22 u23 p24 => ?_)
      obtain ⟨Iu23, Fu23_, O83_u23_, O0_u23_, p24_1, p24_2⟩ := p24
      have Fu23 : ∀ k, 101 ≤ k → u23 k = τ k := fun k hk => (Fu23_ k hk).trans (Fτ k hk)
      have O83_u23 : u23 83 1 = τ 83 1 := O83_u23_.trans O83_τ
      have O0_u23 : u23 0 7 = τ 0 7 := O0_u23_.trans O0_τ
      have hb_r22 : r22 = 0 ∨ r22 = 1 := wi_bool p24_1 p24_2
      refine sf_ite (fun c25 => ?_) (fun c25 => ?_)
      · have C25 : r22.toInt = (0 : Int) := ti_eq c25
        rw [j_X1_tell_262_e]
        exact sf_ret ⟨Iu23, Fu23, O83_u23, O0_u23, by decide, by decide⟩
      have C25 : ¬ r22.toInt = (0 : Int) := ti_ne c25
      exact sf_ret ⟨Iu23, Fu23, O83_u23, O0_u23, by decide, by decide⟩
    have C9 : ¬ (τ 84 (Int32.toNatClampNeg x2)).toInt = (100 : Int) := ti_ne c9
    refine sf_ite (fun c26 => ?_) (fun c26 => ?_)
    · have C26 : (τ 84 (Int32.toNatClampNeg x2)).toInt = (108 : Int) := ti_eq c26
      have t27 : (x2 + (1 : Int32)).toInt = x2.toInt + (1 : Int) := ti_add (show -2147483648 ≤ x2.toInt + (1 : Int) by omega) (show x2.toInt + (1 : Int) ≤ 2147483647 by omega)
      refine sf_bnd (s_X1_number hF hI (by omega) (by omega) (by decide) (by decide)) (fun r28 u29 p30 => ?_)
      obtain ⟨e9, p30_1, p30_2⟩ := p30
      have e9 := e9.symm
      subst e9
      have t31 : ((x2 + (1 : Int32)) + (1 : Int32)).toInt = (x2 + (1 : Int32)).toInt + (1 : Int) := ti_add (show -2147483648 ≤ (x2 + (1 : Int32)).toInt + (1 : Int) by omega) (show (x2 + (1 : Int32)).toInt + (1 : Int) ≤ 2147483647 by omega)
      refine sf_bnd (s_X1_number hF hI (by omega) (by omega) (by decide) (by decide)) (fun r32 u33 p34 => ?_)
      obtain ⟨e9, p34_1, p34_2⟩ := p34
      have e9 := e9.symm
      subst e9
      have b35 := ti_lo r28
      have b36 := ti_hi r28
      have b37 := ti_lo r32
      have b38 := ti_hi r32
      refine sf_bnd (s_X0_addLooker hF hg hI) (fun r39 u40 p41 => ?_)
      obtain ⟨Iu40, Fu40_, O83_u40_, O0_u40_, p41_1, p41_2⟩ := p41
      have Fu40 : ∀ k, 101 ≤ k → u40 k = τ k := fun k hk => (Fu40_ k hk).trans (Fτ k hk)
      have O83_u40 : u40 83 1 = τ 83 1 := O83_u40_.trans O83_τ
      have O0_u40 : u40 0 7 = τ 0 7 := O0_u40_.trans O0_τ
      have hb_r39 : r39 = 0 ∨ r39 = 1 := wi_bool p41_1 p41_2
      refine sf_bz hb_r39 ?_
      exact sf_ret ⟨Iu40, Fu40, O83_u40, O0_u40, by omega, by omega⟩
    have C26 : ¬ (τ 84 (Int32.toNatClampNeg x2)).toInt = (108 : Int) := ti_ne c26
    refine sf_ite (fun c42 => ?_) (fun c42 => ?_)
    · have C42 : (τ 84 (Int32.toNatClampNeg x2)).toInt = (112 : Int) := ti_eq c42
      have t43 : (x2 + (1 : Int32)).toInt = x2.toInt + (1 : Int) := ti_add (show -2147483648 ≤ x2.toInt + (1 : Int) by omega) (show x2.toInt + (1 : Int) ≤ 2147483647 by omega)
      refine sf_bnd (s_X1_number hF hI (by omega) (by omega) (by decide) (by decide)) (fun r44 u45 p46 => ?_)
      obtain ⟨e9, p46_1, p46_2⟩ := p46
      have e9 := e9.symm
      subst e9
      have b47 := ti_lo r44
      have b48 := ti_hi r44
      refine sf_bnd (s_X0_addPane hF hg hI) (fun r49 u50 p51 => ?_)
      obtain ⟨Iu50, Fu50_, O83_u50_, O0_u50_, p51_1, p51_2⟩ := p51
      have Fu50 : ∀ k, 101 ≤ k → u50 k = τ k := fun k hk => (Fu50_ k hk).trans (Fτ k hk)
      have O83_u50 : u50 83 1 = τ 83 1 := O83_u50_.trans O83_τ
      have O0_u50 : u50 0 7 = τ 0 7 := O0_u50_.trans O0_τ
      have hb_r49 : r49 = 0 ∨ r49 = 1 := wi_bool p51_1 p51_2
      refine sf_bz hb_r49 ?_
      exact sf_ret ⟨Iu50, Fu50, O83_u50, O0_u50, by omega, by omega⟩
    have C42 : ¬ (τ 84 (Int32.toNatClampNeg x2)).toInt = (112 : Int) := ti_ne c42
    refine sf_ite (fun c52 => ?_) (fun c52 => ?_)
    · have C52 : (τ 84 (Int32.toNatClampNeg x2)).toInt = (115 : Int) := ti_eq c52
      have t53 : (x2 + (1 : Int32)).toInt = x2.toInt + (1 : Int) := ti_add (show -2147483648 ≤ x2.toInt + (1 : Int) by omega) (show x2.toInt + (1 : Int) ≤ 2147483647 by omega)
      refine sf_bnd (s_X1_number hF hI (by omega) (by omega) (by decide) (by decide)) (fun r54 u55 p56 => ?_)
      obtain ⟨e9, p56_1, p56_2⟩ := p56
      have e9 := e9.symm
      subst e9
      have t57 : ((x2 + (1 : Int32)) + (1 : Int32)).toInt = (x2 + (1 : Int32)).toInt + (1 : Int) := ti_add (show -2147483648 ≤ (x2 + (1 : Int32)).toInt + (1 : Int) by omega) (show (x2 + (1 : Int32)).toInt + (1 : Int) ≤ 2147483647 by omega)
      refine sf_bnd (s_X1_number hF hI (by omega) (by omega) (by decide) (by decide)) (fun r58 u59 p60 => ?_)
      obtain ⟨e9, p60_1, p60_2⟩ := p60
      have e9 := e9.symm
      subst e9
      have t61 : ((x2 + (1 : Int32)) + (3 : Int32)).toInt = (x2 + (1 : Int32)).toInt + (3 : Int) := ti_add (show -2147483648 ≤ (x2 + (1 : Int32)).toInt + (3 : Int) by omega) (show (x2 + (1 : Int32)).toInt + (3 : Int) ≤ 2147483647 by omega)
      refine sf_bnd (s_X1_number hF hI (by omega) (by omega) (by decide) (by decide)) (fun r62 u63 p64 => ?_)
      obtain ⟨e9, p64_1, p64_2⟩ := p64
      have e9 := e9.symm
      subst e9
      have t65 : ((x2 + (1 : Int32)) + (5 : Int32)).toInt = (x2 + (1 : Int32)).toInt + (5 : Int) := ti_add (show -2147483648 ≤ (x2 + (1 : Int32)).toInt + (5 : Int) by omega) (show (x2 + (1 : Int32)).toInt + (5 : Int) ≤ 2147483647 by omega)
      refine sf_bnd (s_X1_number hF hI (by omega) (by omega) (by decide) (by decide)) (fun r66 u67 p68 => ?_)
      obtain ⟨e9, p68_1, p68_2⟩ := p68
      have e9 := e9.symm
      subst e9
      have b69 := ti_lo r54
      have b70 := ti_hi r54
      have b71 := ti_lo r58
      have b72 := ti_hi r58
      have b73 := ti_lo r62
      have b74 := ti_hi r62
      have b75 := ti_lo r66
      have b76 := ti_hi r66
      refine sf_bnd (s_X0_post hF hg hI) (fun r77 u78 p79 => ?_)
      obtain ⟨Iu78, Fu78_, O83_u78_, O0_u78_, p79_1, p79_2⟩ := p79
      have Fu78 : ∀ k, 101 ≤ k → u78 k = τ k := fun k hk => (Fu78_ k hk).trans (Fτ k hk)
      have O83_u78 : u78 83 1 = τ 83 1 := O83_u78_.trans O83_τ
      have O0_u78 : u78 0 7 = τ 0 7 := O0_u78_.trans O0_τ
      have hb_r77 : r77 = 0 ∨ r77 = 1 := wi_bool p79_1 p79_2
      refine sf_bz hb_r77 ?_
      exact sf_ret ⟨Iu78, Fu78, O83_u78, O0_u78, by omega, by omega⟩
    have C52 : ¬ (τ 84 (Int32.toNatClampNeg x2)).toInt = (115 : Int) := ti_ne c52
    refine sf_ite (fun c80 => ?_) (fun c80 => ?_)
    · have C80 : (τ 84 (Int32.toNatClampNeg x2)).toInt = (117 : Int) := ti_eq c80
      have t81 : (x2 + (1 : Int32)).toInt = x2.toInt + (1 : Int) := ti_add (show -2147483648 ≤ x2.toInt + (1 : Int) by omega) (show x2.toInt + (1 : Int) ≤ 2147483647 by omega)
      refine sf_bnd (s_X1_number hF hI (by omega) (by omega) (by decide) (by decide)) (fun r82 u83 p84 => ?_)
      obtain ⟨e9, p84_1, p84_2⟩ := p84
      have e9 := e9.symm
      subst e9
      have b85 := ti_lo r82
      have b86 := ti_hi r82
      refine sf_bnd (s_X0_rule hF hg hI) (fun r87 u88 p89 => ?_)
      obtain ⟨Iu88, Fu88_, O83_u88_, O0_u88_, p89_1, p89_2⟩ := p89
      have Fu88 : ∀ k, 101 ≤ k → u88 k = τ k := fun k hk => (Fu88_ k hk).trans (Fτ k hk)
      have O83_u88 : u88 83 1 = τ 83 1 := O83_u88_.trans O83_τ
      have O0_u88 : u88 0 7 = τ 0 7 := O0_u88_.trans O0_τ
      have hb_r87 : r87 = 0 ∨ r87 = 1 := wi_bool p89_1 p89_2
      refine sf_bz hb_r87 ?_
      exact sf_ret ⟨Iu88, Fu88, O83_u88, O0_u88, by omega, by omega⟩
    have C80 : ¬ (τ 84 (Int32.toNatClampNeg x2)).toInt = (117 : Int) := ti_ne c80
    refine sf_ite (fun c90 => ?_) (fun c90 => ?_)
    · have C90 : (τ 84 (Int32.toNatClampNeg x2)).toInt = (118 : Int) := ti_eq c90
      have t91 : (x2 + (1 : Int32)).toInt = x2.toInt + (1 : Int) := ti_add (show -2147483648 ≤ x2.toInt + (1 : Int) by omega) (show x2.toInt + (1 : Int) ≤ 2147483647 by omega)
      refine sf_bnd (s_X1_number hF hI (by omega) (by omega) (by decide) (by decide)) (fun r92 u93 p94 => ?_)
      obtain ⟨e9, p94_1, p94_2⟩ := p94
      have e9 := e9.symm
      subst e9
      have t95 : ((x2 + (1 : Int32)) + (1 : Int32)).toInt = (x2 + (1 : Int32)).toInt + (1 : Int) := ti_add (show -2147483648 ≤ (x2 + (1 : Int32)).toInt + (1 : Int) by omega) (show (x2 + (1 : Int32)).toInt + (1 : Int) ≤ 2147483647 by omega)
      refine sf_bnd (s_X1_number hF hI (by omega) (by omega) (by decide) (by decide)) (fun r96 u97 p98 => ?_)
      obtain ⟨e9, p98_1, p98_2⟩ := p98
      have e9 := e9.symm
      subst e9
      have b99 := ti_lo r92
      have b100 := ti_hi r92
      have b101 := ti_lo r96
      have b102 := ti_hi r96
      refine sf_bnd (s_X0_price hF hg hI) (fun r103 u104 p105 => ?_)
      obtain ⟨Iu104, Fu104_, O83_u104_, O0_u104_, p105_1, p105_2⟩ := p105
      have Fu104 : ∀ k, 101 ≤ k → u104 k = τ k := fun k hk => (Fu104_ k hk).trans (Fτ k hk)
      have O83_u104 : u104 83 1 = τ 83 1 := O83_u104_.trans O83_τ
      have O0_u104 : u104 0 7 = τ 0 7 := O0_u104_.trans O0_τ
      have hb_r103 : r103 = 0 ∨ r103 = 1 := wi_bool p105_1 p105_2
      refine sf_bz hb_r103 ?_
      exact sf_ret ⟨Iu104, Fu104, O83_u104, O0_u104, by omega, by omega⟩
    have C90 : ¬ (τ 84 (Int32.toNatClampNeg x2)).toInt = (118 : Int) := ti_ne c90
    refine sf_ite (fun c106 => ?_) (fun c106 => ?_)
    · have C106 : (τ 84 (Int32.toNatClampNeg x2)).toInt = (119 : Int) := ti_eq c106
      have t107 : (x2 + (1 : Int32)).toInt = x2.toInt + (1 : Int) := ti_add (show -2147483648 ≤ x2.toInt + (1 : Int) by omega) (show x2.toInt + (1 : Int) ≤ 2147483647 by omega)
      refine sf_bnd (s_X1_number hF hI (by omega) (by omega) (by decide) (by decide)) (fun r108 u109 p110 => ?_)
      obtain ⟨e9, p110_1, p110_2⟩ := p110
      have e9 := e9.symm
      subst e9
      have t111 : ((x2 + (1 : Int32)) + (1 : Int32)).toInt = (x2 + (1 : Int32)).toInt + (1 : Int) := ti_add (show -2147483648 ≤ (x2 + (1 : Int32)).toInt + (1 : Int) by omega) (show (x2 + (1 : Int32)).toInt + (1 : Int) ≤ 2147483647 by omega)
      refine sf_bnd (s_X1_number hF hI (by omega) (by omega) (by decide) (by decide)) (fun r112 u113 p114 => ?_)
      obtain ⟨e9, p114_1, p114_2⟩ := p114
      have e9 := e9.symm
      subst e9
      have b115 := ti_lo r108
      have b116 := ti_hi r108
      have b117 := ti_lo r112
      have b118 := ti_hi r112
      refine sf_bnd (s_X0_flip hF hg hI) (fun r119 u120 p121 => ?_)
      obtain ⟨Iu120, Fu120_, O83_u120_, O0_u120_, p121_1, p121_2⟩ := p121
      have Fu120 : ∀ k, 101 ≤ k → u120 k = τ k := fun k hk => (Fu120_ k hk).trans (Fτ k hk)
      have O83_u120 : u120 83 1 = τ 83 1 := O83_u120_.trans O83_τ
      have O0_u120 : u120 0 7 = τ 0 7 := O0_u120_.trans O0_τ
      have hb_r119 : r119 = 0 ∨ r119 = 1 := wi_bool p121_1 p121_2
      refine sf_bz hb_r119 ?_
      exact sf_ret ⟨Iu120, Fu120, O83_u120, O0_u120, by omega, by omega⟩
    have C106 : ¬ (τ 84 (Int32.toNatClampNeg x2)).toInt = (119 : Int) := ti_ne c106
    exact sf_ret ⟨hI, Fτ, O83_τ, O0_τ, by decide, by decide⟩
  have C5 : (τ 83 1).toInt ≤ x2.toInt := ti_nlt c5
  rw [j_X1_tell_12_e]
  exact sf_ret ⟨hI, Fτ, O83_τ, O0_τ, by decide, by decide⟩
set_option maxHeartbeats 4000000 in
set_option maxRecDepth 100000 in
theorem s_X2_forget {F : Nat} (hF : 100000 ≤ F) {τ : Mem} (hI : wiX τ) : sf (f_X2_forget F τ) (fun _ s => wiX s ∧ (∀ k, 101 ≤ k → s k = τ k) ∧ s 83 1 = τ 83 1 ∧ s 0 7 = τ 0 7 ∧ True) := by
  have Fτ : ∀ k, 101 ≤ k → τ k = τ k := fun _ _ => rfl
  have O83_τ : τ 83 1 = τ 83 1 := rfl
  have O0_τ : τ 0 7 = τ 0 7 := rfl
  rw [f_X2_forget_e]
  refine sf_lt (fun s1 hs1 => ?_)
  have Is1 : wiX s1 := by rw [hs1]; exact wx_put_X2_5 hI (by decide) (by decide)
  have Fs1 : ∀ k, 101 ≤ k → s1 k = τ k := fun k hk => (show s1 k = τ k by rw [hs1, up2_k (by omega)]).trans (Fτ k hk)
  have O83_s1 : s1 83 1 = τ 83 1 := (show s1 83 1 = τ 83 1 by rw [hs1, up2_k (by omega)]).trans O83_τ
  have O0_s1 : s1 0 7 = τ 0 7 := (show s1 0 7 = τ 0 7 by rw [hs1, up2_k (by omega)]).trans O0_τ
  exact sf_ret ⟨Is1, Fs1, O83_s1, O0_s1, trivial⟩
set_option maxHeartbeats 4000000 in
set_option maxRecDepth 100000 in
theorem s_X2_nextSlot {F : Nat} (hF : 100000 ≤ F) {τ : Mem} (hI : wiX τ) : sf (f_X2_nextSlot F τ) (fun r s => wiX s ∧ (∀ k, 101 ≤ k → s k = τ k) ∧ s 83 1 = τ 83 1 ∧ s 0 7 = τ 0 7 ∧ 0 ≤ r.toInt ∧ r.toInt ≤ 7) := by
  have Fτ : ∀ k, 101 ≤ k → τ k = τ k := fun _ _ => rfl
  have O83_τ : τ 83 1 = τ 83 1 := rfl
  have O0_τ : τ 0 7 = τ 0 7 := rfl
  rw [f_X2_nextSlot_e]
  have m2 := wx_X2_4 hI
  have m3 := wx_X2_5 hI
  have t4 : ((τ 70 4) + (τ 70 5)).toInt = (τ 70 4).toInt + (τ 70 5).toInt := ti_add (show -2147483648 ≤ (τ 70 4).toInt + (τ 70 5).toInt by omega) (show (τ 70 4).toInt + (τ 70 5).toInt ≤ 2147483647 by omega)
  have t5 : (((τ 70 4) + (τ 70 5)) - ((((τ 70 4) + (τ 70 5)) / (8 : Int32)) * (8 : Int32))).toInt = ((τ 70 4) + (τ 70 5)).toInt % 8 := by rw [ti_rem, Int.tmod_eq_emod_of_nonneg (by omega)]; rfl
  refine sf_lt (fun z1 hz1 => ?_)
  have hz1_ : z1.toInt = (((τ 70 4) + (τ 70 5)) - ((((τ 70 4) + (τ 70 5)) / (8 : Int32)) * (8 : Int32))).toInt := (show z1.toInt = (((τ 70 4) + (τ 70 5)) - ((((τ 70 4) + (τ 70 5)) / (8 : Int32)) * (8 : Int32))).toInt from congrArg Int32.toInt hz1)
  refine sf_ite (fun c6 => ?_) (fun c6 => ?_)
  · have C6 : (8 : Int) ≤ (τ 70 5).toInt := ti_le c6
    refine sf_lt (fun s7 hs7 => ?_)
    have t8 : ((τ 70 4) + (1 : Int32)).toInt = (τ 70 4).toInt + (1 : Int) := ti_add (show -2147483648 ≤ (τ 70 4).toInt + (1 : Int) by omega) (show (τ 70 4).toInt + (1 : Int) ≤ 2147483647 by omega)
    have t9 : (((τ 70 4) + (1 : Int32)) - ((((τ 70 4) + (1 : Int32)) / (8 : Int32)) * (8 : Int32))).toInt = ((τ 70 4) + (1 : Int32)).toInt % 8 := by rw [ti_rem, Int.tmod_eq_emod_of_nonneg (by omega)]; rfl
    have Is7 : wiX s7 := by rw [hs7]; exact wx_put_X2_4 hI (by omega) (by omega)
    have Fs7 : ∀ k, 101 ≤ k → s7 k = τ k := fun k hk => (show s7 k = τ k by rw [hs7, up2_k (by omega)]).trans (Fτ k hk)
    have O83_s7 : s7 83 1 = τ 83 1 := (show s7 83 1 = τ 83 1 by rw [hs7, up2_k (by omega)]).trans O83_τ
    have O0_s7 : s7 0 7 = τ 0 7 := (show s7 0 7 = τ 0 7 by rw [hs7, up2_k (by omega)]).trans O0_τ
    rw [j_X2_nextSlot_48_e]
    exact sf_ret ⟨Is7, Fs7, O83_s7, O0_s7, by omega, by omega⟩
  have C6 : (τ 70 5).toInt < (8 : Int) := ti_nle c6
  refine sf_lt (fun s10 hs10 => ?_)
  have t11 : ((τ 70 5) + (1 : Int32)).toInt = (τ 70 5).toInt + (1 : Int) := ti_add (show -2147483648 ≤ (τ 70 5).toInt + (1 : Int) by omega) (show (τ 70 5).toInt + (1 : Int) ≤ 2147483647 by omega)
  have Is10 : wiX s10 := by rw [hs10]; exact wx_put_X2_5 hI (by omega) (by omega)
  have Fs10 : ∀ k, 101 ≤ k → s10 k = τ k := fun k hk => (show s10 k = τ k by rw [hs10, up2_k (by omega)]).trans (Fτ k hk)
  have O83_s10 : s10 83 1 = τ 83 1 := (show s10 83 1 = τ 83 1 by rw [hs10, up2_k (by omega)]).trans O83_τ
  have O0_s10 : s10 0 7 = τ 0 7 := (show s10 0 7 = τ 0 7 by rw [hs10, up2_k (by omega)]).trans O0_τ
  rw [j_X2_nextSlot_48_e]
  exact sf_ret ⟨Is10, Fs10, O83_s10, O0_s10, by omega, by omega⟩
set_option maxHeartbeats 4000000 in
set_option maxRecDepth 100000 in
theorem s_X2_keep {F : Nat} (hF : 100000 ≤ F) {x1 : Int32} {x2 : Int32} {x3 : Int32} {τ : Mem} (hI : wiX τ) (x1_1 : 1 ≤ x1.toInt) (x1_2 : x1.toInt ≤ 3) (x2_1 : 0 ≤ x2.toInt) (x2_2 : x2.toInt ≤ 7) : sf (f_X2_keep F x1 x2 x3 τ) (fun _ s => wiX s ∧ (∀ k, 101 ≤ k → s k = τ k) ∧ s 83 1 = τ 83 1 ∧ s 0 7 = τ 0 7 ∧ True) := by
  have Fτ : ∀ k, 101 ≤ k → τ k = τ k := fun _ _ => rfl
  have O83_τ : τ 83 1 = τ 83 1 := rfl
  have O0_τ : τ 0 7 = τ 0 7 := rfl
  rw [f_X2_keep_e]
  refine sf_bnd (s_X2_nextSlot hF hI) (fun r1 u2 p3 => ?_)
  obtain ⟨Iu2, Fu2_, O83_u2_, O0_u2_, p3_1, p3_2⟩ := p3
  have Fu2 : ∀ k, 101 ≤ k → u2 k = τ k := fun k hk => (Fu2_ k hk).trans (Fτ k hk)
  have O83_u2 : u2 83 1 = τ 83 1 := O83_u2_.trans O83_τ
  have O0_u2 : u2 0 7 = τ 0 7 := O0_u2_.trans O0_τ
  refine sf_chk (ti_in (by omega) (by omega)) ?_
  have v4 : Int32.toNatClampNeg r1 = r1.toInt.toNat := rfl
  refine sf_lt (fun s5 hs5 => ?_)
  have Is5 : wiX s5 := by rw [hs5]; exact wx_oth Iu2 (fun q hq e => by have := wt_Hcs hq; omega) (fun e => by omega) (fun e => by omega) (fun e => by omega)
  have Fs5 : ∀ k, 101 ≤ k → s5 k = τ k := fun k hk => (show s5 k = u2 k by rw [hs5, up2_k (by omega)]).trans (Fu2 k hk)
  have O83_s5 : s5 83 1 = τ 83 1 := (show s5 83 1 = u2 83 1 by rw [hs5, up2_k (by omega)]).trans O83_u2
  have O0_s5 : s5 0 7 = τ 0 7 := (show s5 0 7 = u2 0 7 by rw [hs5, up2_k (by omega)]).trans O0_u2
  refine sf_lt (fun s6 hs6 => ?_)
  have Is6 : wiX s6 := by rw [hs6]; exact wx_oth Is5 (fun q hq e => by have := wt_Hcs hq; omega) (fun e => by omega) (fun e => by omega) (fun e => by omega)
  have Fs6 : ∀ k, 101 ≤ k → s6 k = τ k := fun k hk => (show s6 k = s5 k by rw [hs6, up2_k (by omega)]).trans (Fs5 k hk)
  have O83_s6 : s6 83 1 = τ 83 1 := (show s6 83 1 = s5 83 1 by rw [hs6, up2_k (by omega)]).trans O83_s5
  have O0_s6 : s6 0 7 = τ 0 7 := (show s6 0 7 = s5 0 7 by rw [hs6, up2_k (by omega)]).trans O0_s5
  refine sf_lt (fun s7 hs7 => ?_)
  have Is7 : wiX s7 := by rw [hs7]; exact wx_oth Is6 (fun q hq e => by have := wt_Hcs hq; omega) (fun e => by omega) (fun e => by omega) (fun e => by omega)
  have Fs7 : ∀ k, 101 ≤ k → s7 k = τ k := fun k hk => (show s7 k = s6 k by rw [hs7, up2_k (by omega)]).trans (Fs6 k hk)
  have O83_s7 : s7 83 1 = τ 83 1 := (show s7 83 1 = s6 83 1 by rw [hs7, up2_k (by omega)]).trans O83_s6
  have O0_s7 : s7 0 7 = τ 0 7 := (show s7 0 7 = s6 0 7 by rw [hs7, up2_k (by omega)]).trans O0_s6
  exact sf_ret ⟨Is7, Fs7, O83_s7, O0_s7, trivial⟩
set_option maxHeartbeats 4000000 in
set_option maxRecDepth 100000 in
theorem sl_X2_keepRoster_22 {F : Nat} (hF : 100000 ≤ F) {a : Nat} {x3 : Int32} {τ : Mem} (ha : wt_isA a 24) (x3_1 : 0 ≤ x3.toInt) (x3_2 : x3.toInt ≤ 7) : ∀ (N : Nat) (x4 : Int32) (σ : Mem), wiX σ → (∀ k, 101 ≤ k → σ k = τ k) → σ 83 1 = τ 83 1 → σ 0 7 = τ 0 7 → 24 < x4.toInt + N → 0 ≤ x4.toInt → x4.toInt ≤ 24 → sf (lp_X2_keepRoster_22 F a x3 N x4 σ) (fun _ s => wiX s ∧ (∀ k, 101 ≤ k → s k = τ k) ∧ s 83 1 = τ 83 1 ∧ s 0 7 = τ 0 7 ∧ True) := by
  intro N
  induction N with
  | zero => intro x4 σ hI Fσ O83_σ O0_σ hN x4_1 x4_2; exfalso; omega
  | succ N ih =>
    intro x4 σ hI Fσ O83_σ O0_σ hN x4_1 x4_2
    rw [lp_X2_keepRoster_22_s]
    refine sf_ite (fun c1 => ?_) (fun c1 => ?_)
    · have C1 : (24 : Int) ≤ x4.toInt := ti_le c1
      exact sf_ret ⟨hI, Fσ, O83_σ, O0_σ, trivial⟩
    have C1 : x4.toInt < (24 : Int) := ti_nle c1
    refine sf_ite (fun c2 => ?_) (fun c2 => ?_)
    · have C2 : (24 : Int) ≤ x4.toInt := ti_le c2
      exfalso; omega
    have C2 : x4.toInt < (24 : Int) := ti_nle c2
    refine sf_chk (ti_in (by omega) (by omega)) ?_
    have v3 : Int32.toNatClampNeg x3 = x3.toInt.toNat := rfl
    refine sf_chk (ti_in (by omega) (by omega)) ?_
    have v4 : Int32.toNatClampNeg x4 = x4.toInt.toNat := rfl
    refine sf_lt (fun s5 hs5 => ?_)
    have Is5 : wiX s5 := by rw [hs5]; exact wx_oth hI (fun q hq e => by have := wt_Hcs hq; omega) (fun e => by omega) (fun e => by omega) (fun e => by omega)
    have Fs5 : ∀ k, 101 ≤ k → s5 k = τ k := fun k hk => (show s5 k = σ k by rw [hs5, up2_k (by omega)]).trans (Fσ k hk)
    have O83_s5 : s5 83 1 = τ 83 1 := (show s5 83 1 = σ 83 1 by rw [hs5, up2_k (by omega)]).trans O83_σ
    have O0_s5 : s5 0 7 = τ 0 7 := (show s5 0 7 = σ 0 7 by rw [hs5, up2_k (by omega)]).trans O0_σ
    have t6 : (x4 + (1 : Int32)).toInt = x4.toInt + (1 : Int) := ti_add (show -2147483648 ≤ x4.toInt + (1 : Int) by omega) (show x4.toInt + (1 : Int) ≤ 2147483647 by omega)
    exact ih _ _ Is5 Fs5 O83_s5 O0_s5 (by omega) (by omega) (by omega)
set_option maxHeartbeats 4000000 in
set_option maxRecDepth 100000 in
theorem s_X2_keepRoster {F : Nat} (hF : 100000 ≤ F) {x1 : Int32} {a : Nat} {τ : Mem} (ha : wt_isA a 24) (hI : wiX τ) (x1_1 : 0 ≤ x1.toInt) (x1_2 : x1.toInt ≤ 4) : sf (f_X2_keepRoster F x1 a τ) (fun _ s => wiX s ∧ (∀ k, 101 ≤ k → s k = τ k) ∧ s 83 1 = τ 83 1 ∧ s 0 7 = τ 0 7 ∧ True) := by
  have Fτ : ∀ k, 101 ≤ k → τ k = τ k := fun _ _ => rfl
  have O83_τ : τ 83 1 = τ 83 1 := rfl
  have O0_τ : τ 0 7 = τ 0 7 := rfl
  rw [f_X2_keepRoster_e]
  refine sf_bnd (s_X2_nextSlot hF hI) (fun r1 u2 p3 => ?_)
  obtain ⟨Iu2, Fu2_, O83_u2_, O0_u2_, p3_1, p3_2⟩ := p3
  have Fu2 : ∀ k, 101 ≤ k → u2 k = τ k := fun k hk => (Fu2_ k hk).trans (Fτ k hk)
  have O83_u2 : u2 83 1 = τ 83 1 := O83_u2_.trans O83_τ
  have O0_u2 : u2 0 7 = τ 0 7 := O0_u2_.trans O0_τ
  refine sf_chk (ti_in (by omega) (by omega)) ?_
  have v4 : Int32.toNatClampNeg r1 = r1.toInt.toNat := rfl
  refine sf_lt (fun s5 hs5 => ?_)
  have Is5 : wiX s5 := by rw [hs5]; exact wx_oth Iu2 (fun q hq e => by have := wt_Hcs hq; omega) (fun e => by omega) (fun e => by omega) (fun e => by omega)
  have Fs5 : ∀ k, 101 ≤ k → s5 k = τ k := fun k hk => (show s5 k = u2 k by rw [hs5, up2_k (by omega)]).trans (Fu2 k hk)
  have O83_s5 : s5 83 1 = τ 83 1 := (show s5 83 1 = u2 83 1 by rw [hs5, up2_k (by omega)]).trans O83_u2
  have O0_s5 : s5 0 7 = τ 0 7 := (show s5 0 7 = u2 0 7 by rw [hs5, up2_k (by omega)]).trans O0_u2
  refine sf_lt (fun s6 hs6 => ?_)
  have Is6 : wiX s6 := by rw [hs6]; exact wx_oth Is5 (fun q hq e => by have := wt_Hcs hq; omega) (fun e => by omega) (fun e => by omega) (fun e => by omega)
  have Fs6 : ∀ k, 101 ≤ k → s6 k = τ k := fun k hk => (show s6 k = s5 k by rw [hs6, up2_k (by omega)]).trans (Fs5 k hk)
  have O83_s6 : s6 83 1 = τ 83 1 := (show s6 83 1 = s5 83 1 by rw [hs6, up2_k (by omega)]).trans O83_s5
  have O0_s6 : s6 0 7 = τ 0 7 := (show s6 0 7 = s5 0 7 by rw [hs6, up2_k (by omega)]).trans O0_s5
  have l_0 : (0 : Int32).toInt = 0 := rfl
  exact sl_X2_keepRoster_22 hF ha (by omega) (by omega) _ _ _ Is6 Fs6 O83_s6 O0_s6 (by omega) (by decide) (by decide)
set_option maxHeartbeats 4000000 in
set_option maxRecDepth 100000 in
theorem sl_X2_undoLatest_75 {F : Nat} (hF : 100000 ≤ F) {g : Nat} {x2 : Int32} {x3 : Int32} {τ : Mem} (hg : wt_isH g) (x2_1 : 0 ≤ x2.toInt) (x2_2 : x2.toInt ≤ 7) : ∀ (N : Nat) (x4 : Int32) (σ : Mem), wiX σ → (∀ k, 101 ≤ k → σ k = τ k) → σ 83 1 = τ 83 1 → σ 0 7 = τ 0 7 → 24 < x4.toInt + N → 0 ≤ x4.toInt → x4.toInt ≤ 24 → sf (lp_X2_undoLatest_75 F g x2 x3 N x4 σ) (fun _ s => wiX s ∧ (∀ k, 101 ≤ k → s k = τ k) ∧ s 83 1 = τ 83 1 ∧ s 0 7 = τ 0 7 ∧ True) := by
  intro N
  induction N with
  | zero => intro x4 σ hI Fσ O83_σ O0_σ hN x4_1 x4_2; exfalso; omega
  | succ N ih =>
    intro x4 σ hI Fσ O83_σ O0_σ hN x4_1 x4_2
    have hc_g := wt_Hcs hg
    rw [lp_X2_undoLatest_75_s]
    refine sf_ite (fun c1 => ?_) (fun c1 => ?_)
    · have C1 : (24 : Int) ≤ x4.toInt := ti_le c1
      exact sf_ret ⟨hI, Fσ, O83_σ, O0_σ, trivial⟩
    have C1 : x4.toInt < (24 : Int) := ti_nle c1
    refine sf_chk (ti_in (by omega) (by omega)) ?_
    have v2 : Int32.toNatClampNeg x2 = x2.toInt.toNat := rfl
    refine sf_chk (ti_in (by omega) (by omega)) ?_
    have v3 : Int32.toNatClampNeg x4 = x4.toInt.toNat := rfl
    have b4 := ti_lo x3
    have b5 := ti_hi x3
    have b6 := ti_lo (σ (75 + (Int32.toNatClampNeg x2)) (Int32.toNatClampNeg x4))
    have b7 := ti_hi (σ (75 + (Int32.toNatClampNeg x2)) (Int32.toNatClampNeg x4))
    refine sf_bnd (s_X0_post hF hg hI) (fun r8 u9 p10 => ?_)
    obtain ⟨Iu9, Fu9_, O83_u9_, O0_u9_, p10_1, p10_2⟩ := p10
    have Fu9 : ∀ k, 101 ≤ k → u9 k = τ k := fun k hk => (Fu9_ k hk).trans (Fσ k hk)
    have O83_u9 : u9 83 1 = τ 83 1 := O83_u9_.trans O83_σ
    have O0_u9 : u9 0 7 = τ 0 7 := O0_u9_.trans O0_σ
    have hb_r8 : r8 = 0 ∨ r8 = 1 := wi_bool p10_1 p10_2
    have t11 : (x4 + (1 : Int32)).toInt = x4.toInt + (1 : Int) := ti_add (show -2147483648 ≤ x4.toInt + (1 : Int) by omega) (show x4.toInt + (1 : Int) ≤ 2147483647 by omega)
    exact ih _ _ Iu9 Fu9 O83_u9 O0_u9 (by omega) (by omega) (by omega)
set_option maxHeartbeats 4000000 in
set_option maxRecDepth 100000 in
theorem s_X2_undoLatest {F : Nat} (hF : 100000 ≤ F) {g : Nat} {τ : Mem} (hg : wt_isH g) (hI : wiX τ) : sf (f_X2_undoLatest F g τ) (fun _ s => wiX s ∧ (∀ k, 101 ≤ k → s k = τ k) ∧ s 83 1 = τ 83 1 ∧ s 0 7 = τ 0 7 ∧ True) := by
  have hc_g := wt_Hcs hg
  have Fτ : ∀ k, 101 ≤ k → τ k = τ k := fun _ _ => rfl
  have O83_τ : τ 83 1 = τ 83 1 := rfl
  have O0_τ : τ 0 7 = τ 0 7 := rfl
  rw [f_X2_undoLatest_e]
  have m1 := wx_X2_5 hI
  refine sf_ite (fun c2 => ?_) (fun c2 => ?_)
  · have C2 : (0 : Int) < (τ 70 5).toInt := ti_lt c2
    refine sf_lt (fun s3 hs3 => ?_)
    have t4 : ((τ 70 5) - (1 : Int32)).toInt = (τ 70 5).toInt - (1 : Int) := ti_sub (show -2147483648 ≤ (τ 70 5).toInt - (1 : Int) by omega) (show (τ 70 5).toInt - (1 : Int) ≤ 2147483647 by omega)
    have Is3 : wiX s3 := by rw [hs3]; exact wx_put_X2_5 hI (by omega) (by omega)
    have Fs3 : ∀ k, 101 ≤ k → s3 k = τ k := fun k hk => (show s3 k = τ k by rw [hs3, up2_k (by omega)]).trans (Fτ k hk)
    have O83_s3 : s3 83 1 = τ 83 1 := (show s3 83 1 = τ 83 1 by rw [hs3, up2_k (by omega)]).trans O83_τ
    have O0_s3 : s3 0 7 = τ 0 7 := (show s3 0 7 = τ 0 7 by rw [hs3, up2_k (by omega)]).trans O0_τ
    have m6 := wx_X2_4 Is3
    have m7 := wx_X2_4 hI
    have e8 : (s3 70 4).toInt = (τ 70 4).toInt := congrArg Int32.toInt (by rw [hs3, up2_i (by decide)])
    have m9 := wx_X2_5 Is3
    have e10 : (s3 70 5).toInt = ((τ 70 5) - (1 : Int32)).toInt := (show (s3 70 5).toInt = ((τ 70 5) - (1 : Int32)).toInt from congrArg Int32.toInt (by rw [hs3, up2_s]))
    have t11 : ((s3 70 4) + (s3 70 5)).toInt = (s3 70 4).toInt + (s3 70 5).toInt := ti_add (show -2147483648 ≤ (s3 70 4).toInt + (s3 70 5).toInt by omega) (show (s3 70 4).toInt + (s3 70 5).toInt ≤ 2147483647 by omega)
    have t12 : (((s3 70 4) + (s3 70 5)) - ((((s3 70 4) + (s3 70 5)) / (8 : Int32)) * (8 : Int32))).toInt = ((s3 70 4) + (s3 70 5)).toInt % 8 := by rw [ti_rem, Int.tmod_eq_emod_of_nonneg (by omega)]; rfl
    refine sf_lt (fun z5 hz5 => ?_)
    have hz5_ : z5.toInt = (((s3 70 4) + (s3 70 5)) - ((((s3 70 4) + (s3 70 5)) / (8 : Int32)) * (8 : Int32))).toInt := (show z5.toInt = (((s3 70 4) + (s3 70 5)) - ((((s3 70 4) + (s3 70 5)) / (8 : Int32)) * (8 : Int32))).toInt from congrArg Int32.toInt hz5)
    refine sf_chk (ti_in (by omega) (by omega)) ?_
    have v13 : Int32.toNatClampNeg z5 = z5.toInt.toNat := rfl
    have b15 := ti_lo (s3 72 (Int32.toNatClampNeg z5))
    have b16 := ti_hi (s3 72 (Int32.toNatClampNeg z5))
    refine sf_lt (fun z14 hz14 => ?_)
    have hz14_ : z14.toInt = (s3 72 (Int32.toNatClampNeg z5)).toInt := (show z14.toInt = (s3 72 (Int32.toNatClampNeg z5)).toInt from congrArg Int32.toInt hz14)
    have b17 := ti_lo (s3 71 (Int32.toNatClampNeg z5))
    have b18 := ti_hi (s3 71 (Int32.toNatClampNeg z5))
    refine sf_ite (fun c19 => ?_) (fun c19 => ?_)
    · have C19 : (s3 71 (Int32.toNatClampNeg z5)).toInt = (0 : Int) := ti_eq c19
      have b20 := ti_lo z14
      have b21 := ti_hi z14
      have l_0 : (0 : Int32).toInt = 0 := rfl
      exact sl_X2_undoLatest_75 hF hg (by omega) (by omega) _ _ _ Is3 Fs3 O83_s3 O0_s3 (by omega) (by decide) (by decide)
    have C19 : ¬ (s3 71 (Int32.toNatClampNeg z5)).toInt = (0 : Int) := ti_ne c19
    refine sf_ite (fun c22 => ?_) (fun c22 => ?_)
    · have C22 : (s3 71 (Int32.toNatClampNeg z5)).toInt = (1 : Int) := ti_eq c22
      have b23 := ti_lo z14
      have b24 := ti_hi z14
      refine sf_bnd (s_X0_isPane hF hg Is3) (fun r25 u26 p27 => ?_)
      obtain ⟨e9, p27⟩ := p27
      have e9 := e9.symm
      subst e9
      rcases p27 with ⟨rfl, q28, q29⟩ | p27
      · refine sf_ite (fun c30 => ?_) (fun c30 => ?_)
        · have C30 : (1 : Int) = (0 : Int) := ti_eq c30
          exfalso; omega
        have C30 : ¬ (1 : Int) = (0 : Int) := ti_ne c30
        refine sf_chk (ti_in (by omega) (by omega)) ?_
        have v31 : Int32.toNatClampNeg z14 = z14.toInt.toNat := rfl
        refine sf_lt (fun s32 hs32 => ?_)
        have Is32 : wiX s32 := by rw [hs32]; exact wx_oth Is3 (fun q hq e => by have := wt_Hcs hq; omega) (fun e => by omega) (fun e => by omega) (fun e => by omega)
        have Fs32 : ∀ k, 101 ≤ k → s32 k = τ k := fun k hk => (show s32 k = s3 k by rw [hs32, up2_k (by omega)]).trans (Fs3 k hk)
        have O83_s32 : s32 83 1 = τ 83 1 := (show s32 83 1 = s3 83 1 by rw [hs32, up2_k (by omega)]).trans O83_s3
        have O0_s32 : s32 0 7 = τ 0 7 := (show s32 0 7 = s3 0 7 by rw [hs32, up2_k (by omega)]).trans O0_s3
        exact sf_ret ⟨Is32, Fs32, O83_s32, O0_s32, trivial⟩
      obtain rfl := p27
      refine sf_ite (fun c33 => ?_) (fun c33 => ?_)
      · have C33 : (0 : Int) = (0 : Int) := ti_eq c33
        exact sf_ret ⟨Is3, Fs3, O83_s3, O0_s3, trivial⟩
      have C33 : ¬ (0 : Int) = (0 : Int) := ti_ne c33
      exfalso; omega
    have C22 : ¬ (s3 71 (Int32.toNatClampNeg z5)).toInt = (1 : Int) := ti_ne c22
    refine sf_ite (fun c34 => ?_) (fun c34 => ?_)
    · have C34 : (s3 71 (Int32.toNatClampNeg z5)).toInt = (2 : Int) := ti_eq c34
      have b35 := ti_lo z14
      have b36 := ti_hi z14
      have b37 := ti_lo (s3 73 (Int32.toNatClampNeg z5))
      have b38 := ti_hi (s3 73 (Int32.toNatClampNeg z5))
      refine sf_bnd (s_X0_price hF hg Is3) (fun r39 u40 p41 => ?_)
      obtain ⟨Iu40, Fu40_, O83_u40_, O0_u40_, p41_1, p41_2⟩ := p41
      have Fu40 : ∀ k, 101 ≤ k → u40 k = τ k := fun k hk => (Fu40_ k hk).trans (Fs3 k hk)
      have O83_u40 : u40 83 1 = τ 83 1 := O83_u40_.trans O83_s3
      have O0_u40 : u40 0 7 = τ 0 7 := O0_u40_.trans O0_s3
      have hb_r39 : r39 = 0 ∨ r39 = 1 := wi_bool p41_1 p41_2
      exact sf_ret ⟨Iu40, Fu40, O83_u40, O0_u40, trivial⟩
    have C34 : ¬ (s3 71 (Int32.toNatClampNeg z5)).toInt = (2 : Int) := ti_ne c34
    have b42 := ti_lo (s3 73 (Int32.toNatClampNeg z5))
    have b43 := ti_hi (s3 73 (Int32.toNatClampNeg z5))
    refine sf_bnd (s_X0_rule hF hg Is3) (fun r44 u45 p46 => ?_)
    obtain ⟨Iu45, Fu45_, O83_u45_, O0_u45_, p46_1, p46_2⟩ := p46
    have Fu45 : ∀ k, 101 ≤ k → u45 k = τ k := fun k hk => (Fu45_ k hk).trans (Fs3 k hk)
    have O83_u45 : u45 83 1 = τ 83 1 := O83_u45_.trans O83_s3
    have O0_u45 : u45 0 7 = τ 0 7 := O0_u45_.trans O0_s3
    have hb_r44 : r44 = 0 ∨ r44 = 1 := wi_bool p46_1 p46_2
    exact sf_ret ⟨Iu45, Fu45, O83_u45, O0_u45, trivial⟩
  have C2 : (τ 70 5).toInt ≤ (0 : Int) := ti_nlt c2
  exact sf_ret ⟨hI, Fτ, O83_τ, O0_τ, trivial⟩
set_option maxHeartbeats 4000000 in
set_option maxRecDepth 100000 in
theorem s_X3_refuse {F : Nat} (hF : 100000 ≤ F) {x1 : Int32} {τ : Mem} (hI : wiX τ) (x1_1 : -6 ≤ x1.toInt) (x1_2 : x1.toInt ≤ -1) : sf (f_X3_refuse F x1 τ) (fun r s => wiX s ∧ (∀ k, 101 ≤ k → s k = τ k) ∧ s 83 1 = τ 83 1 ∧ s 0 7 = τ 0 7 ∧ -6 ≤ r.toInt ∧ r.toInt ≤ -1 ∧ (r.toInt = x1.toInt)) := by
  have Fτ : ∀ k, 101 ≤ k → τ k = τ k := fun _ _ => rfl
  have O83_τ : τ 83 1 = τ 83 1 := rfl
  have O0_τ : τ 0 7 = τ 0 7 := rfl
  rw [f_X3_refuse_e]
  have t1 : (-x1).toInt = -x1.toInt := ti_neg (by omega)
  refine sf_ite (fun c2 => ?_) (fun c2 => ?_)
  · have C2 : (-x1).toInt < (0 : Int) := ti_lt c2
    exfalso; omega
  have C2 : (0 : Int) ≤ (-x1).toInt := ti_nlt c2
  refine sf_ite (fun c3 => ?_) (fun c3 => ?_)
  · have C3 : (7 : Int) ≤ (-x1).toInt := ti_le c3
    exfalso; omega
  have C3 : (-x1).toInt < (7 : Int) := ti_nle c3
  refine sf_chk (ti_in (by omega) (by omega)) ?_
  have v4 : Int32.toNatClampNeg (-x1) = (-x1).toInt.toNat := rfl
  refine sf_lt (fun s5 hs5 => ?_)
  have Is5 : wiX s5 := by rw [hs5]; exact wx_oth hI (fun q hq e => by have := wt_Hcs hq; omega) (fun e => by omega) (fun e => by omega) (fun e => by omega)
  have Fs5 : ∀ k, 101 ≤ k → s5 k = τ k := fun k hk => (show s5 k = τ k by rw [hs5, up2_k (by omega)]).trans (Fτ k hk)
  have O83_s5 : s5 83 1 = τ 83 1 := (show s5 83 1 = τ 83 1 by rw [hs5, up2_k (by omega)]).trans O83_τ
  have O0_s5 : s5 0 7 = τ 0 7 := (show s5 0 7 = τ 0 7 by rw [hs5, up2_k (by omega)]).trans O0_τ
  rw [j_X3_refuse_23_e]
  exact sf_ret ⟨Is5, Fs5, O83_s5, O0_s5, by omega, by omega, (show x1.toInt = x1.toInt from by omega)⟩
set_option maxHeartbeats 4000000 in
set_option maxRecDepth 100000 in
theorem s_X3_refuseLong {F : Nat} (hF : 100000 ≤ F) {x1 : Int32} {τ : Mem} (hI : wiX τ) (x1_1 : -6 ≤ x1.toInt) (x1_2 : x1.toInt ≤ -1) : sf (f_X3_refuseLong F x1 τ) (fun r s => wiX s ∧ (∀ k, 101 ≤ k → s k = τ k) ∧ s 83 1 = τ 83 1 ∧ s 0 7 = τ 0 7 ∧ True) := by
  have Fτ : ∀ k, 101 ≤ k → τ k = τ k := fun _ _ => rfl
  have O83_τ : τ 83 1 = τ 83 1 := rfl
  have O0_τ : τ 0 7 = τ 0 7 := rfl
  rw [f_X3_refuseLong_e]
  refine sf_bnd (s_X3_refuse hF hI (by omega) (by omega)) (fun r1 u2 p3 => ?_)
  obtain ⟨Iu2, Fu2_, O83_u2_, O0_u2_, p3_1, p3_2, p3_x0⟩ := p3
  have Fu2 : ∀ k, 101 ≤ k → u2 k = τ k := fun k hk => (Fu2_ k hk).trans (Fτ k hk)
  have O83_u2 : u2 83 1 = τ 83 1 := O83_u2_.trans O83_τ
  have O0_u2 : u2 0 7 = τ 0 7 := O0_u2_.trans O0_τ
  replace p3_x0 : r1.toInt = x1.toInt := p3_x0
  exact sf_ret ⟨Iu2, Fu2, O83_u2, O0_u2, trivial⟩
set_option maxHeartbeats 4000000 in
set_option maxRecDepth 100000 in
theorem s_X3_noView {F : Nat} (hF : 100000 ≤ F) {x0 : Int32} {τ : Mem} (hI : wiX τ) : sf (f_X3_noView F x0 τ) (fun r s => s = τ ∧ ((r = 0 ∧ 0 ≤ x0.toInt ∧ x0.toInt ≤ 7) ∨ (r = -1 ∧ (x0.toInt < 0 ∨ 7 < x0.toInt)))) := by
  rw [f_X3_noView_e]
  have b1 := ti_lo x0
  have b2 := ti_hi x0
  refine sf_bnd (s_X0_isView hF hI) (fun r3 u4 p5 => ?_)
  obtain ⟨e9, p5⟩ := p5
  have e9 := e9.symm
  subst e9
  rcases p5 with ⟨rfl, q6, q7⟩ | p5
  · refine sf_ite (fun c8 => ?_) (fun c8 => ?_)
    · have C8 : (1 : Int) = (0 : Int) := ti_eq c8
      exfalso; omega
    have C8 : ¬ (1 : Int) = (0 : Int) := ti_ne c8
    exact sf_ret ⟨rfl, Or.inl ⟨rfl, by omega, by omega⟩⟩
  obtain ⟨rfl, q9⟩ := p5
  refine sf_ite (fun c10 => ?_) (fun c10 => ?_)
  · have C10 : (0 : Int) = (0 : Int) := ti_eq c10
    exact sf_ret ⟨rfl, Or.inr (⟨rfl, by omega⟩)⟩
  have C10 : ¬ (0 : Int) = (0 : Int) := ti_ne c10
  exfalso; omega
set_option maxHeartbeats 4000000 in
set_option maxRecDepth 100000 in
theorem s_X3_noHour {F : Nat} (hF : 100000 ≤ F) {x0 : Int32} {τ : Mem} (hI : wiX τ) : sf (f_X3_noHour F x0 τ) (fun r s => s = τ ∧ ((r = 0 ∧ 0 ≤ x0.toInt ∧ x0.toInt ≤ 23) ∨ (r = -1 ∧ (x0.toInt < 0 ∨ 23 < x0.toInt)))) := by
  rw [f_X3_noHour_e]
  have b1 := ti_lo x0
  have b2 := ti_hi x0
  refine sf_bnd (s_X0_isHour hF hI) (fun r3 u4 p5 => ?_)
  obtain ⟨e9, p5⟩ := p5
  have e9 := e9.symm
  subst e9
  rcases p5 with ⟨rfl, q6, q7⟩ | p5
  · refine sf_ite (fun c8 => ?_) (fun c8 => ?_)
    · have C8 : (1 : Int) = (0 : Int) := ti_eq c8
      exfalso; omega
    have C8 : ¬ (1 : Int) = (0 : Int) := ti_ne c8
    exact sf_ret ⟨rfl, Or.inl ⟨rfl, by omega, by omega⟩⟩
  obtain ⟨rfl, q9⟩ := p5
  refine sf_ite (fun c10 => ?_) (fun c10 => ?_)
  · have C10 : (0 : Int) = (0 : Int) := ti_eq c10
    exact sf_ret ⟨rfl, Or.inr (⟨rfl, by omega⟩)⟩
  have C10 : ¬ (0 : Int) = (0 : Int) := ti_ne c10
  exfalso; omega
set_option maxHeartbeats 4000000 in
set_option maxRecDepth 100000 in
theorem s_X3_noPane {F : Nat} (hF : 100000 ≤ F) {x1 : Int32} {τ : Mem} (hI : wiX τ) : sf (f_X3_noPane F x1 τ) (fun r s => s = τ ∧ ((r = 0 ∧ 0 ≤ x1.toInt ∧ x1.toInt ≤ 5) ∨ r = -1)) := by
  rw [f_X3_noPane_e]
  have b1 := ti_lo x1
  have b2 := ti_hi x1
  refine sf_bnd (s_X0_isPane hF wt_h1 hI) (fun r3 u4 p5 => ?_)
  obtain ⟨e9, p5⟩ := p5
  have e9 := e9.symm
  subst e9
  rcases p5 with ⟨rfl, q6, q7⟩ | p5
  · refine sf_ite (fun c8 => ?_) (fun c8 => ?_)
    · have C8 : (1 : Int) = (0 : Int) := ti_eq c8
      exfalso; omega
    have C8 : ¬ (1 : Int) = (0 : Int) := ti_ne c8
    exact sf_ret ⟨rfl, Or.inl ⟨rfl, by omega, by omega⟩⟩
  obtain rfl := p5
  refine sf_ite (fun c9 => ?_) (fun c9 => ?_)
  · have C9 : (0 : Int) = (0 : Int) := ti_eq c9
    exact sf_ret ⟨rfl, Or.inr (rfl)⟩
  have C9 : ¬ (0 : Int) = (0 : Int) := ti_ne c9
  exfalso; omega
set_option maxHeartbeats 4000000 in
set_option maxRecDepth 100000 in
theorem s_X3_noLooker {F : Nat} (hF : 100000 ≤ F) {x1 : Int32} {τ : Mem} (hI : wiX τ) : sf (f_X3_noLooker F x1 τ) (fun r s => s = τ ∧ ((r = 0 ∧ 0 ≤ x1.toInt ∧ x1.toInt ≤ 4) ∨ r = -1)) := by
  rw [f_X3_noLooker_e]
  have b1 := ti_lo x1
  have b2 := ti_hi x1
  refine sf_bnd (s_X0_isLooker hF wt_h1 hI) (fun r3 u4 p5 => ?_)
  obtain ⟨e9, p5⟩ := p5
  have e9 := e9.symm
  subst e9
  rcases p5 with ⟨rfl, q6, q7⟩ | p5
  · refine sf_ite (fun c8 => ?_) (fun c8 => ?_)
    · have C8 : (1 : Int) = (0 : Int) := ti_eq c8
      exfalso; omega
    have C8 : ¬ (1 : Int) = (0 : Int) := ti_ne c8
    exact sf_ret ⟨rfl, Or.inl ⟨rfl, by omega, by omega⟩⟩
  obtain rfl := p5
  refine sf_ite (fun c9 => ?_) (fun c9 => ?_)
  · have C9 : (0 : Int) = (0 : Int) := ti_eq c9
    exact sf_ret ⟨rfl, Or.inr (rfl)⟩
  have C9 : ¬ (0 : Int) = (0 : Int) := ti_ne c9
  exfalso; omega
set_option maxHeartbeats 4000000 in
set_option maxRecDepth 100000 in
theorem s_X3_noPair {F : Nat} (hF : 100000 ≤ F) {x1 : Int32} {x2 : Int32} {τ : Mem} (hI : wiX τ) : sf (f_X3_noPair F x1 x2 τ) (fun r s => s = τ ∧ ((r = 0 ∧ 0 ≤ x1.toInt ∧ x1.toInt ≤ 4 ∧ 0 ≤ x2.toInt ∧ x2.toInt ≤ 4) ∨ r = -1)) := by
  rw [f_X3_noPair_e]
  have b1 := ti_lo x1
  have b2 := ti_hi x1
  refine sf_bnd (s_X0_isLooker hF wt_h1 hI) (fun r3 u4 p5 => ?_)
  obtain ⟨e9, p5⟩ := p5
  have e9 := e9.symm
  subst e9
  rcases p5 with ⟨rfl, q6, q7⟩ | p5
  · refine sf_ite (fun c8 => ?_) (fun c8 => ?_)
    · have C8 : (1 : Int) = (0 : Int) := ti_eq c8
      exfalso; omega
    have C8 : ¬ (1 : Int) = (0 : Int) := ti_ne c8
    have b9 := ti_lo x2
    have b10 := ti_hi x2
    refine sf_bnd (s_X0_isLooker hF wt_h1 hI) (fun r11 u12 p13 => ?_)
    obtain ⟨e9, p13⟩ := p13
    have e9 := e9.symm
    subst e9
    rcases p13 with ⟨rfl, q14, q15⟩ | p13
    · refine sf_ite (fun c16 => ?_) (fun c16 => ?_)
      · have C16 : (1 : Int) = (0 : Int) := ti_eq c16
        exfalso; omega
      have C16 : ¬ (1 : Int) = (0 : Int) := ti_ne c16
      refine sf_ite (fun c17 => ?_) (fun c17 => ?_)
      · have C17 : x1.toInt = x2.toInt := ti_eq c17
        rw [j_X3_noPair_31_e]
        exact sf_ret ⟨rfl, Or.inr (rfl)⟩
      have C17 : ¬ x1.toInt = x2.toInt := ti_ne c17
      exact sf_ret ⟨rfl, Or.inl ⟨rfl, by omega, by omega, by omega, by omega⟩⟩
    obtain rfl := p13
    refine sf_ite (fun c18 => ?_) (fun c18 => ?_)
    · have C18 : (0 : Int) = (0 : Int) := ti_eq c18
      rw [j_X3_noPair_31_e]
      exact sf_ret ⟨rfl, Or.inr (rfl)⟩
    have C18 : ¬ (0 : Int) = (0 : Int) := ti_ne c18
    exfalso; omega
  obtain rfl := p5
  refine sf_ite (fun c19 => ?_) (fun c19 => ?_)
  · have C19 : (0 : Int) = (0 : Int) := ti_eq c19
    rw [j_X3_noPair_31_e]
    exact sf_ret ⟨rfl, Or.inr (rfl)⟩
  have C19 : ¬ (0 : Int) = (0 : Int) := ti_ne c19
  exfalso; omega
set_option maxHeartbeats 4000000 in
set_option maxRecDepth 100000 in
theorem s_X3_noLookerFar {F : Nat} (hF : 100000 ≤ F) {x1 : Int32} {x2 : Int32} {τ : Mem} (hI : wiX τ) : sf (f_X3_noLookerFar F x1 x2 τ) (fun r s => s = τ ∧ ((r = 0 ∧ 0 ≤ x1.toInt ∧ x1.toInt ≤ 4 ∧ 0 ≤ x2.toInt ∧ x2.toInt ≤ 999) ∨ r = -1 ∨ r = -4 ∨ r = -6)) := by
  rw [f_X3_noLookerFar_e]
  have b1 := ti_lo x1
  have b2 := ti_hi x1
  refine sf_bnd (s_X3_noLooker hF hI) (fun r3 u4 p5 => ?_)
  obtain ⟨e9, p5⟩ := p5
  have e9 := e9.symm
  subst e9
  rcases p5 with ⟨rfl, q6, q7⟩ | p5
  · refine sf_in ?_
    rw [f_X3_outside_e]
    have b8 := ti_lo x2
    have b9 := ti_hi x2
    refine sf_ite (fun c10 => ?_) (fun c10 => ?_)
    · have C10 : (0 : Int) ≤ x2.toInt := ti_le c10
      refine sf_ite (fun c11 => ?_) (fun c11 => ?_)
      · have C11 : x2.toInt ≤ (999 : Int) := ti_le c11
        refine sf_ret ?_
        refine sf_in ?_
        rw [f_X3_firstOf_e]
        refine sf_ite (fun c12 => ?_) (fun c12 => ?_)
        · have C12 : (0 : Int) = (0 : Int) := ti_eq c12
          refine sf_ret ?_
          exact sf_ret ⟨rfl, Or.inl ⟨rfl, by omega, by omega, by omega, by omega⟩⟩
        have C12 : ¬ (0 : Int) = (0 : Int) := ti_ne c12
        exfalso; omega
      have C11 : (999 : Int) < x2.toInt := ti_nle c11
      refine sf_ret ?_
      refine sf_in ?_
      rw [f_X3_firstOf_e]
      refine sf_ite (fun c13 => ?_) (fun c13 => ?_)
      · have C13 : (0 : Int) = (0 : Int) := ti_eq c13
        refine sf_ret ?_
        exact sf_ret ⟨rfl, Or.inr (Or.inr (Or.inr (rfl)))⟩
      have C13 : ¬ (0 : Int) = (0 : Int) := ti_ne c13
      exfalso; omega
    have C10 : x2.toInt < (0 : Int) := ti_nle c10
    refine sf_ret ?_
    refine sf_in ?_
    rw [f_X3_firstOf_e]
    refine sf_ite (fun c14 => ?_) (fun c14 => ?_)
    · have C14 : (0 : Int) = (0 : Int) := ti_eq c14
      refine sf_ret ?_
      exact sf_ret ⟨rfl, Or.inr (Or.inr (Or.inl rfl))⟩
    have C14 : ¬ (0 : Int) = (0 : Int) := ti_ne c14
    exfalso; omega
  obtain rfl := p5
  refine sf_in ?_
  rw [f_X3_outside_e]
  have b15 := ti_lo x2
  have b16 := ti_hi x2
  refine sf_ite (fun c17 => ?_) (fun c17 => ?_)
  · have C17 : (0 : Int) ≤ x2.toInt := ti_le c17
    refine sf_ite (fun c18 => ?_) (fun c18 => ?_)
    · have C18 : x2.toInt ≤ (999 : Int) := ti_le c18
      refine sf_ret ?_
      refine sf_in ?_
      rw [f_X3_firstOf_e]
      refine sf_ite (fun c19 => ?_) (fun c19 => ?_)
      · have C19 : (-1 : Int) = (0 : Int) := ti_eq c19
        exfalso; omega
      have C19 : ¬ (-1 : Int) = (0 : Int) := ti_ne c19
      refine sf_ret ?_
      exact sf_ret ⟨rfl, Or.inr (Or.inl rfl)⟩
    have C18 : (999 : Int) < x2.toInt := ti_nle c18
    refine sf_ret ?_
    refine sf_in ?_
    rw [f_X3_firstOf_e]
    refine sf_ite (fun c20 => ?_) (fun c20 => ?_)
    · have C20 : (-1 : Int) = (0 : Int) := ti_eq c20
      exfalso; omega
    have C20 : ¬ (-1 : Int) = (0 : Int) := ti_ne c20
    refine sf_ret ?_
    exact sf_ret ⟨rfl, Or.inr (Or.inl rfl)⟩
  have C17 : x2.toInt < (0 : Int) := ti_nle c17
  refine sf_ret ?_
  refine sf_in ?_
  rw [f_X3_firstOf_e]
  refine sf_ite (fun c21 => ?_) (fun c21 => ?_)
  · have C21 : (-1 : Int) = (0 : Int) := ti_eq c21
    exfalso; omega
  have C21 : ¬ (-1 : Int) = (0 : Int) := ti_ne c21
  refine sf_ret ?_
  exact sf_ret ⟨rfl, Or.inr (Or.inl rfl)⟩
set_option maxHeartbeats 4000000 in
set_option maxRecDepth 100000 in
theorem s_X3_noPairFar {F : Nat} (hF : 100000 ≤ F) {x1 : Int32} {x2 : Int32} {x3 : Int32} {τ : Mem} (hI : wiX τ) : sf (f_X3_noPairFar F x1 x2 x3 τ) (fun r s => s = τ ∧ ((r = 0 ∧ 0 ≤ x1.toInt ∧ x1.toInt ≤ 4 ∧ 0 ≤ x2.toInt ∧ x2.toInt ≤ 4 ∧ 0 ≤ x3.toInt ∧ x3.toInt ≤ 999) ∨ r = -1 ∨ r = -4 ∨ r = -6)) := by
  rw [f_X3_noPairFar_e]
  have b1 := ti_lo x1
  have b2 := ti_hi x1
  have b3 := ti_lo x2
  have b4 := ti_hi x2
  refine sf_bnd (s_X3_noPair hF hI) (fun r5 u6 p7 => ?_)
  obtain ⟨e9, p7⟩ := p7
  have e9 := e9.symm
  subst e9
  rcases p7 with ⟨rfl, q8, q9, q10, q11⟩ | p7
  · refine sf_in ?_
    rw [f_X3_outside_e]
    have b12 := ti_lo x3
    have b13 := ti_hi x3
    refine sf_ite (fun c14 => ?_) (fun c14 => ?_)
    · have C14 : (0 : Int) ≤ x3.toInt := ti_le c14
      refine sf_ite (fun c15 => ?_) (fun c15 => ?_)
      · have C15 : x3.toInt ≤ (999 : Int) := ti_le c15
        refine sf_ret ?_
        refine sf_in ?_
        rw [f_X3_firstOf_e]
        refine sf_ite (fun c16 => ?_) (fun c16 => ?_)
        · have C16 : (0 : Int) = (0 : Int) := ti_eq c16
          refine sf_ret ?_
          exact sf_ret ⟨rfl, Or.inl ⟨rfl, by omega, by omega, by omega, by omega, by omega, by omega⟩⟩
        have C16 : ¬ (0 : Int) = (0 : Int) := ti_ne c16
        exfalso; omega
      have C15 : (999 : Int) < x3.toInt := ti_nle c15
      refine sf_ret ?_
      refine sf_in ?_
      rw [f_X3_firstOf_e]
      refine sf_ite (fun c17 => ?_) (fun c17 => ?_)
      · have C17 : (0 : Int) = (0 : Int) := ti_eq c17
        refine sf_ret ?_
        exact sf_ret ⟨rfl, Or.inr (Or.inr (Or.inr (rfl)))⟩
      have C17 : ¬ (0 : Int) = (0 : Int) := ti_ne c17
      exfalso; omega
    have C14 : x3.toInt < (0 : Int) := ti_nle c14
    refine sf_ret ?_
    refine sf_in ?_
    rw [f_X3_firstOf_e]
    refine sf_ite (fun c18 => ?_) (fun c18 => ?_)
    · have C18 : (0 : Int) = (0 : Int) := ti_eq c18
      refine sf_ret ?_
      exact sf_ret ⟨rfl, Or.inr (Or.inr (Or.inl rfl))⟩
    have C18 : ¬ (0 : Int) = (0 : Int) := ti_ne c18
    exfalso; omega
  obtain rfl := p7
  refine sf_in ?_
  rw [f_X3_outside_e]
  have b19 := ti_lo x3
  have b20 := ti_hi x3
  refine sf_ite (fun c21 => ?_) (fun c21 => ?_)
  · have C21 : (0 : Int) ≤ x3.toInt := ti_le c21
    refine sf_ite (fun c22 => ?_) (fun c22 => ?_)
    · have C22 : x3.toInt ≤ (999 : Int) := ti_le c22
      refine sf_ret ?_
      refine sf_in ?_
      rw [f_X3_firstOf_e]
      refine sf_ite (fun c23 => ?_) (fun c23 => ?_)
      · have C23 : (-1 : Int) = (0 : Int) := ti_eq c23
        exfalso; omega
      have C23 : ¬ (-1 : Int) = (0 : Int) := ti_ne c23
      refine sf_ret ?_
      exact sf_ret ⟨rfl, Or.inr (Or.inl rfl)⟩
    have C22 : (999 : Int) < x3.toInt := ti_nle c22
    refine sf_ret ?_
    refine sf_in ?_
    rw [f_X3_firstOf_e]
    refine sf_ite (fun c24 => ?_) (fun c24 => ?_)
    · have C24 : (-1 : Int) = (0 : Int) := ti_eq c24
      exfalso; omega
    have C24 : ¬ (-1 : Int) = (0 : Int) := ti_ne c24
    refine sf_ret ?_
    exact sf_ret ⟨rfl, Or.inr (Or.inl rfl)⟩
  have C21 : x3.toInt < (0 : Int) := ti_nle c21
  refine sf_ret ?_
  refine sf_in ?_
  rw [f_X3_firstOf_e]
  refine sf_ite (fun c25 => ?_) (fun c25 => ?_)
  · have C25 : (-1 : Int) = (0 : Int) := ti_eq c25
    exfalso; omega
  have C25 : ¬ (-1 : Int) = (0 : Int) := ti_ne c25
  refine sf_ret ?_
  exact sf_ret ⟨rfl, Or.inr (Or.inl rfl)⟩
set_option maxHeartbeats 4000000 in
set_option maxRecDepth 100000 in
theorem s_X3_longRow {F : Nat} (hF : 100000 ≤ F) {τ : Mem} (hI : wiX τ) : sf (f_X3_longRow F τ) (fun r s => s = τ ∧ (r = 0 ∨ r = -3)) := by
  rw [f_X3_longRow_e]
  have m1 := wx_X3_7 hI
  refine sf_ite (fun c2 => ?_) (fun c2 => ?_)
  · have C2 : (τ 0 7).toInt ≤ (8 : Int) := ti_le c2
    exact sf_ret ⟨rfl, Or.inl rfl⟩
  have C2 : (8 : Int) < (τ 0 7).toInt := ti_nle c2
  exact sf_ret ⟨rfl, Or.inr (rfl)⟩
set_option maxHeartbeats 4000000 in
set_option maxRecDepth 100000 in
theorem s_X3_feed {F : Nat} (hF : 100000 ≤ F) {x1 : Int32} {τ : Mem} (hI : wiX τ) : sf (f_X3_feed F x1 τ) (fun r s => wiX s ∧ (∀ k, 101 ≤ k → s k = τ k) ∧ s 0 7 = τ 0 7 ∧ -2147483648 ≤ r.toInt ∧ r.toInt ≤ 2147483647 ∧ ((0 ≤ x1.toInt ∧ x1.toInt ≤ 255 ∧ (τ 83 1).toInt ≤ 95 ∧ (s 83 1).toInt = (τ 83 1).toInt + 1 ∧ r.toInt = (s 83 1).toInt) ∨ (x1.toInt < 0 ∧ (s 83 1).toInt = (τ 83 1).toInt ∧ r.toInt = -4) ∨ (0 ≤ x1.toInt ∧ (255 < x1.toInt ∨ 96 ≤ (τ 83 1).toInt) ∧ (s 83 1).toInt = (τ 83 1).toInt ∧ r.toInt = -6))) := by
  have Fτ : ∀ k, 101 ≤ k → τ k = τ k := fun _ _ => rfl
  have O83_τ : τ 83 1 = τ 83 1 := rfl
  have O0_τ : τ 0 7 = τ 0 7 := rfl
  rw [f_X3_feed_e]
  refine sf_in ?_
  rw [f_X3_outside_e]
  have b1 := ti_lo x1
  have b2 := ti_hi x1
  refine sf_ite (fun c3 => ?_) (fun c3 => ?_)
  · have C3 : (0 : Int) ≤ x1.toInt := ti_le c3
    refine sf_ite (fun c4 => ?_) (fun c4 => ?_)
    · have C4 : x1.toInt ≤ (255 : Int) := ti_le c4
      refine sf_ret ?_
      refine sf_ite (fun c5 => ?_) (fun c5 => ?_)
      · have C5 : (0 : Int) = (0 : Int) := ti_eq c5
        have m6 := wx_X1_1 hI
        refine sf_ite (fun c7 => ?_) (fun c7 => ?_)
        · have C7 : (τ 83 1).toInt < (96 : Int) := ti_lt c7
          rw [j_X3_feed_28_e]
          refine sf_ite (fun c8 => ?_) (fun c8 => ?_)
          · have C8 : (0 : Int) = (0 : Int) := ti_eq c8
            refine sf_bnd (s_X1_add hF hI (by omega) (by omega)) (fun r9 u10 p11 => ?_)
            obtain ⟨Iu10, Fu10_, O0_u10_, -, p11_x0⟩ := p11
            have Fu10 : ∀ k, 101 ≤ k → u10 k = τ k := fun k hk => (Fu10_ k hk).trans (Fτ k hk)
            have O0_u10 : u10 0 7 = τ 0 7 := O0_u10_.trans O0_τ
            replace p11_x0 : ((τ 83 1).toInt ≤ 95 → (u10 83 1).toInt = (τ 83 1).toInt + 1) ∧ (96 ≤ (τ 83 1).toInt → (u10 83 1).toInt = (τ 83 1).toInt) := p11_x0
            have m12 := wx_X1_1 Iu10
            exact sf_ret ⟨Iu10, Fu10, O0_u10, ti_lo _, ti_hi _, (show (0 ≤ x1.toInt ∧ x1.toInt ≤ 255 ∧ (τ 83 1).toInt ≤ 95 ∧ (u10 83 1).toInt = (τ 83 1).toInt + 1 ∧ (u10 83 1).toInt = (u10 83 1).toInt) ∨ (x1.toInt < 0 ∧ (u10 83 1).toInt = (τ 83 1).toInt ∧ (u10 83 1).toInt = -4) ∨ (0 ≤ x1.toInt ∧ (255 < x1.toInt ∨ 96 ≤ (τ 83 1).toInt) ∧ (u10 83 1).toInt = (τ 83 1).toInt ∧ (u10 83 1).toInt = -6) from by omega)⟩
          have C8 : ¬ (0 : Int) = (0 : Int) := ti_ne c8
          exfalso; omega
        have C7 : (96 : Int) ≤ (τ 83 1).toInt := ti_nlt c7
        rw [j_X3_feed_28_e]
        refine sf_ite (fun c13 => ?_) (fun c13 => ?_)
        · have C13 : (-6 : Int) = (0 : Int) := ti_eq c13
          exfalso; omega
        have C13 : ¬ (-6 : Int) = (0 : Int) := ti_ne c13
        refine sf_bnd (s_X3_refuse hF hI (by decide) (by decide)) (fun r14 u15 p16 => ?_)
        obtain ⟨Iu15, Fu15_, O83_u15_, O0_u15_, p16_1, p16_2, p16_x0⟩ := p16
        have Fu15 : ∀ k, 101 ≤ k → u15 k = τ k := fun k hk => (Fu15_ k hk).trans (Fτ k hk)
        have O83_u15 : u15 83 1 = τ 83 1 := O83_u15_.trans O83_τ
        have O0_u15 : u15 0 7 = τ 0 7 := O0_u15_.trans O0_τ
        replace p16_x0 : r14.toInt = (-6 : Int) := p16_x0
        have m17 := wx_X1_1 Iu15
        have e18 : (u15 83 1).toInt = (τ 83 1).toInt := congrArg Int32.toInt O83_u15_
        exact sf_ret ⟨Iu15, Fu15, O0_u15, ti_lo _, ti_hi _, (show (0 ≤ x1.toInt ∧ x1.toInt ≤ 255 ∧ (τ 83 1).toInt ≤ 95 ∧ (u15 83 1).toInt = (τ 83 1).toInt + 1 ∧ r14.toInt = (u15 83 1).toInt) ∨ (x1.toInt < 0 ∧ (u15 83 1).toInt = (τ 83 1).toInt ∧ r14.toInt = -4) ∨ (0 ≤ x1.toInt ∧ (255 < x1.toInt ∨ 96 ≤ (τ 83 1).toInt) ∧ (u15 83 1).toInt = (τ 83 1).toInt ∧ r14.toInt = -6) from by omega)⟩
      have C5 : ¬ (0 : Int) = (0 : Int) := ti_ne c5
      exfalso; omega
    have C4 : (255 : Int) < x1.toInt := ti_nle c4
    refine sf_ret ?_
    refine sf_ite (fun c19 => ?_) (fun c19 => ?_)
    · have C19 : (-6 : Int) = (0 : Int) := ti_eq c19
      exfalso; omega
    have C19 : ¬ (-6 : Int) = (0 : Int) := ti_ne c19
    rw [j_X3_feed_28_e]
    refine sf_ite (fun c20 => ?_) (fun c20 => ?_)
    · have C20 : (-6 : Int) = (0 : Int) := ti_eq c20
      exfalso; omega
    have C20 : ¬ (-6 : Int) = (0 : Int) := ti_ne c20
    refine sf_bnd (s_X3_refuse hF hI (by decide) (by decide)) (fun r21 u22 p23 => ?_)
    obtain ⟨Iu22, Fu22_, O83_u22_, O0_u22_, p23_1, p23_2, p23_x0⟩ := p23
    have Fu22 : ∀ k, 101 ≤ k → u22 k = τ k := fun k hk => (Fu22_ k hk).trans (Fτ k hk)
    have O83_u22 : u22 83 1 = τ 83 1 := O83_u22_.trans O83_τ
    have O0_u22 : u22 0 7 = τ 0 7 := O0_u22_.trans O0_τ
    replace p23_x0 : r21.toInt = (-6 : Int) := p23_x0
    have m24 := wx_X1_1 Iu22
    have m25 := wx_X1_1 hI
    have e26 : (u22 83 1).toInt = (τ 83 1).toInt := congrArg Int32.toInt O83_u22_
    exact sf_ret ⟨Iu22, Fu22, O0_u22, ti_lo _, ti_hi _, (show (0 ≤ x1.toInt ∧ x1.toInt ≤ 255 ∧ (τ 83 1).toInt ≤ 95 ∧ (u22 83 1).toInt = (τ 83 1).toInt + 1 ∧ r21.toInt = (u22 83 1).toInt) ∨ (x1.toInt < 0 ∧ (u22 83 1).toInt = (τ 83 1).toInt ∧ r21.toInt = -4) ∨ (0 ≤ x1.toInt ∧ (255 < x1.toInt ∨ 96 ≤ (τ 83 1).toInt) ∧ (u22 83 1).toInt = (τ 83 1).toInt ∧ r21.toInt = -6) from by omega)⟩
  have C3 : x1.toInt < (0 : Int) := ti_nle c3
  refine sf_ret ?_
  refine sf_ite (fun c27 => ?_) (fun c27 => ?_)
  · have C27 : (-4 : Int) = (0 : Int) := ti_eq c27
    exfalso; omega
  have C27 : ¬ (-4 : Int) = (0 : Int) := ti_ne c27
  rw [j_X3_feed_28_e]
  refine sf_ite (fun c28 => ?_) (fun c28 => ?_)
  · have C28 : (-4 : Int) = (0 : Int) := ti_eq c28
    exfalso; omega
  have C28 : ¬ (-4 : Int) = (0 : Int) := ti_ne c28
  refine sf_bnd (s_X3_refuse hF hI (by decide) (by decide)) (fun r29 u30 p31 => ?_)
  obtain ⟨Iu30, Fu30_, O83_u30_, O0_u30_, p31_1, p31_2, p31_x0⟩ := p31
  have Fu30 : ∀ k, 101 ≤ k → u30 k = τ k := fun k hk => (Fu30_ k hk).trans (Fτ k hk)
  have O83_u30 : u30 83 1 = τ 83 1 := O83_u30_.trans O83_τ
  have O0_u30 : u30 0 7 = τ 0 7 := O0_u30_.trans O0_τ
  replace p31_x0 : r29.toInt = (-4 : Int) := p31_x0
  have m32 := wx_X1_1 Iu30
  have m33 := wx_X1_1 hI
  have e34 : (u30 83 1).toInt = (τ 83 1).toInt := congrArg Int32.toInt O83_u30_
  exact sf_ret ⟨Iu30, Fu30, O0_u30, ti_lo _, ti_hi _, (show (0 ≤ x1.toInt ∧ x1.toInt ≤ 255 ∧ (τ 83 1).toInt ≤ 95 ∧ (u30 83 1).toInt = (τ 83 1).toInt + 1 ∧ r29.toInt = (u30 83 1).toInt) ∨ (x1.toInt < 0 ∧ (u30 83 1).toInt = (τ 83 1).toInt ∧ r29.toInt = -4) ∨ (0 ≤ x1.toInt ∧ (255 < x1.toInt ∨ 96 ≤ (τ 83 1).toInt) ∧ (u30 83 1).toInt = (τ 83 1).toInt ∧ r29.toInt = -6) from by omega)⟩
set_option maxHeartbeats 4000000 in
set_option maxRecDepth 100000 in
theorem sl_X3_tellTerrace_35 {F : Nat} (hF : 100000 ≤ F) {τ : Mem} : ∀ (N : Nat) (x1 : Int32) (x2 : Int32) (x3 : Int32) (σ : Mem), wiX σ → (∀ k, 101 ≤ k → σ k = τ k) → σ 83 1 = τ 83 1 → σ 0 7 = τ 0 7 → 96 < x3.toInt + N → 0 ≤ x3.toInt → x3.toInt ≤ 96 → sf (lp_X3_tellTerrace_35 F N x1 x2 x3 σ) (fun r s => wiX s ∧ (∀ k, 101 ≤ k → s k = τ k) ∧ s 83 1 = τ 83 1 ∧ s 0 7 = τ 0 7 ∧ -2147483648 ≤ r.toInt ∧ r.toInt ≤ 2147483647) := by
  intro N
  induction N with
  | zero => intro x1 x2 x3 σ hI Fσ O83_σ O0_σ hN x3_1 x3_2; exfalso; omega
  | succ N ih =>
    intro x1 x2 x3 σ hI Fσ O83_σ O0_σ hN x3_1 x3_2
    rw [lp_X3_tellTerrace_35_s]
    refine sf_ite (fun c1 => ?_) (fun c1 => ?_)
    · have C1 : (96 : Int) ≤ x3.toInt := ti_le c1
      rw [j_X3_tellTerrace_91_e]
      refine sf_bnd (s_X0_takeFrom hF wt_h1 wt_h24 hI) (fun r2 u3 p4 => ?_)
      obtain ⟨Iu3, Fu3_, O83_u3_, O0_u3_, -⟩ := p4
      have Fu3 : ∀ k, 101 ≤ k → u3 k = τ k := fun k hk => (Fu3_ k hk).trans (Fσ k hk)
      have O83_u3 : u3 83 1 = τ 83 1 := O83_u3_.trans O83_σ
      have O0_u3 : u3 0 7 = τ 0 7 := O0_u3_.trans O0_σ
      refine sf_bnd (s_X2_forget hF Iu3) (fun r5 u6 p7 => ?_)
      obtain ⟨Iu6, Fu6_, O83_u6_, O0_u6_, -⟩ := p7
      have Fu6 : ∀ k, 101 ≤ k → u6 k = τ k := fun k hk => (Fu6_ k hk).trans (Fu3 k hk)
      have O83_u6 : u6 83 1 = τ 83 1 := O83_u6_.trans O83_u3
      have O0_u6 : u6 0 7 = τ 0 7 := O0_u6_.trans O0_u3
      have b8 := ti_lo x2
      have b9 := ti_hi x2
      exact sf_ret ⟨Iu6, Fu6, O83_u6, O0_u6, ti_lo _, ti_hi _⟩
    have C1 : x3.toInt < (96 : Int) := ti_nle c1
    have m10 := wx_X1_1 hI
    have e11 : (σ 83 1).toInt = (τ 83 1).toInt := congrArg Int32.toInt O83_σ
    have b12 := ti_lo x1
    have b13 := ti_hi x1
    refine sf_ite (fun c14 => ?_) (fun c14 => ?_)
    · have C14 : (σ 83 1).toInt ≤ x1.toInt := ti_le c14
      rw [j_X3_tellTerrace_91_e]
      refine sf_bnd (s_X0_takeFrom hF wt_h1 wt_h24 hI) (fun r15 u16 p17 => ?_)
      obtain ⟨Iu16, Fu16_, O83_u16_, O0_u16_, -⟩ := p17
      have Fu16 : ∀ k, 101 ≤ k → u16 k = τ k := fun k hk => (Fu16_ k hk).trans (Fσ k hk)
      have O83_u16 : u16 83 1 = τ 83 1 := O83_u16_.trans O83_σ
      have O0_u16 : u16 0 7 = τ 0 7 := O0_u16_.trans O0_σ
      refine sf_bnd (s_X2_forget hF Iu16) (fun r18 u19 p20 => ?_)
      obtain ⟨Iu19, Fu19_, O83_u19_, O0_u19_, -⟩ := p20
      have Fu19 : ∀ k, 101 ≤ k → u19 k = τ k := fun k hk => (Fu19_ k hk).trans (Fu16 k hk)
      have O83_u19 : u19 83 1 = τ 83 1 := O83_u19_.trans O83_u16
      have O0_u19 : u19 0 7 = τ 0 7 := O0_u19_.trans O0_u16
      have b21 := ti_lo x2
      have b22 := ti_hi x2
      exact sf_ret ⟨Iu19, Fu19, O83_u19, O0_u19, ti_lo _, ti_hi _⟩
    have C14 : x1.toInt < (σ 83 1).toInt := ti_nle c14
    refine sf_bnd (s_X1_tell hF wt_h24 hI (by omega) (by omega)) (fun r23 u24 p25 => ?_)
    obtain ⟨Iu24, Fu24_, O83_u24_, O0_u24_, p25_1, p25_2⟩ := p25
    have Fu24 : ∀ k, 101 ≤ k → u24 k = τ k := fun k hk => (Fu24_ k hk).trans (Fσ k hk)
    have O83_u24 : u24 83 1 = τ 83 1 := O83_u24_.trans O83_σ
    have O0_u24 : u24 0 7 = τ 0 7 := O0_u24_.trans O0_σ
    have hb_r23 : r23 = 0 ∨ r23 = 1 := wi_bool p25_1 p25_2
    refine sf_ite (fun c26 => ?_) (fun c26 => ?_)
    · have C26 : r23.toInt = (0 : Int) := ti_eq c26
      have t27 : ((-2000 : Int32) - x1).toInt = (-2000 : Int) - x1.toInt := ti_sub (show -2147483648 ≤ (-2000 : Int) - x1.toInt by omega) (show (-2000 : Int) - x1.toInt ≤ 2147483647 by omega)
      exact sf_ret ⟨Iu24, Fu24, O83_u24, O0_u24, ti_lo _, ti_hi _⟩
    have C26 : ¬ r23.toInt = (0 : Int) := ti_ne c26
    refine sf_bnd (s_X1_behind hF Iu24 (by omega) (by omega)) (fun r28 u29 p30 => ?_)
    obtain ⟨e9, p30_1, p30_2⟩ := p30
    have e9 := e9.symm
    subst e9
    have b31 := ti_lo r28
    have b32 := ti_hi r28
    have b33 := ti_lo x2
    have b34 := ti_hi x2
    have b35 := ti_lo (x2 + (1 : Int32))
    have b36 := ti_hi (x2 + (1 : Int32))
    have t37 : (x3 + (1 : Int32)).toInt = x3.toInt + (1 : Int) := ti_add (show -2147483648 ≤ x3.toInt + (1 : Int) by omega) (show x3.toInt + (1 : Int) ≤ 2147483647 by omega)
    exact ih _ _ _ _ Iu24 Fu24 O83_u24 O0_u24 (by omega) (by omega) (by omega)
set_option maxHeartbeats 4000000 in
set_option maxRecDepth 100000 in
theorem s_X3_tellTerrace {F : Nat} (hF : 100000 ≤ F) {τ : Mem} (hI : wiX τ) : sf (f_X3_tellTerrace F τ) (fun r s => wiX s ∧ (∀ k, 101 ≤ k → s k = τ k) ∧ s 83 1 = τ 83 1 ∧ s 0 7 = τ 0 7 ∧ -2147483648 ≤ r.toInt ∧ r.toInt ≤ 2147483647) := by
  have Fτ : ∀ k, 101 ≤ k → τ k = τ k := fun _ _ => rfl
  have O83_τ : τ 83 1 = τ 83 1 := rfl
  have O0_τ : τ 0 7 = τ 0 7 := rfl
  rw [f_X3_tellTerrace_e]
  refine sf_bnd (s_X1_faultOfForm hF hI) (fun r1 u2 p3 => ?_)
  obtain ⟨e9, p3_1, p3_2⟩ := p3
  have e9 := e9.symm
  subst e9
  refine sf_ite (fun c4 => ?_) (fun c4 => ?_)
  · have C4 : r1.toInt < (0 : Int) := ti_lt c4
    refine sf_bnd (s_X0_takeFrom hF wt_h24 wt_h1 hI) (fun r5 u6 p7 => ?_)
    obtain ⟨Iu6, Fu6_, O83_u6_, O0_u6_, -⟩ := p7
    have Fu6 : ∀ k, 101 ≤ k → u6 k = τ k := fun k hk => (Fu6_ k hk).trans (Fτ k hk)
    have O83_u6 : u6 83 1 = τ 83 1 := O83_u6_.trans O83_τ
    have O0_u6 : u6 0 7 = τ 0 7 := O0_u6_.trans O0_τ
    have l_0 : (0 : Int32).toInt = 0 := rfl
    exact sl_X3_tellTerrace_35 hF _ _ _ _ _ Iu6 Fu6 O83_u6 O0_u6 (by omega) (by decide) (by decide)
  have C4 : (0 : Int) ≤ r1.toInt := ti_nlt c4
  have t8 : ((-1000 : Int32) - r1).toInt = (-1000 : Int) - r1.toInt := ti_sub (show -2147483648 ≤ (-1000 : Int) - r1.toInt by omega) (show (-1000 : Int) - r1.toInt ≤ 2147483647 by omega)
  exact sf_ret ⟨hI, Fτ, O83_τ, O0_τ, ti_lo _, ti_hi _⟩
set_option maxHeartbeats 4000000 in
set_option maxRecDepth 100000 in
theorem s_X3_terrace {F : Nat} (hF : 100000 ≤ F) {τ : Mem} (hI : wiX τ) : sf (f_X3_terrace F τ) (fun r s => wiX s ∧ (∀ k, 101 ≤ k → s k = τ k) ∧ s 0 7 = τ 0 7 ∧ -2147483648 ≤ r.toInt ∧ r.toInt ≤ 2147483647 ∧ ((s 83 1).toInt = 0)) := by
  have Fτ : ∀ k, 101 ≤ k → τ k = τ k := fun _ _ => rfl
  have O83_τ : τ 83 1 = τ 83 1 := rfl
  have O0_τ : τ 0 7 = τ 0 7 := rfl
  rw [f_X3_terrace_e]
  refine sf_bnd (s_X3_tellTerrace hF hI) (fun r1 u2 p3 => ?_)
  obtain ⟨Iu2, Fu2_, O83_u2_, O0_u2_, p3_1, p3_2⟩ := p3
  have Fu2 : ∀ k, 101 ≤ k → u2 k = τ k := fun k hk => (Fu2_ k hk).trans (Fτ k hk)
  have O83_u2 : u2 83 1 = τ 83 1 := O83_u2_.trans O83_τ
  have O0_u2 : u2 0 7 = τ 0 7 := O0_u2_.trans O0_τ
  refine sf_lt (fun s4 hs4 => ?_)
  have Is4 : wiX s4 := by rw [hs4]; exact wx_put_X1_1 Iu2 (by decide) (by decide)
  have Fs4 : ∀ k, 101 ≤ k → s4 k = τ k := fun k hk => (show s4 k = u2 k by rw [hs4, up2_k (by omega)]).trans (Fu2 k hk)
  have O0_s4 : s4 0 7 = τ 0 7 := (show s4 0 7 = u2 0 7 by rw [hs4, up2_k (by omega)]).trans O0_u2
  have b5 := ti_lo r1
  have b6 := ti_hi r1
  have m7 := wx_X1_1 Is4
  have e8 : (s4 83 1).toInt = (0 : Int) := (show (s4 83 1).toInt = (0 : Int32).toInt from congrArg Int32.toInt (by rw [hs4, up2_s]))
  have m9 := wx_X1_1 hI
  exact sf_ret ⟨Is4, Fs4, O0_s4, ti_lo _, ti_hi _, (show (s4 83 1).toInt = 0 from by omega)⟩
set_option maxHeartbeats 4000000 in
set_option maxRecDepth 100000 in
theorem s_X3_paneOf {F : Nat} (hF : 100000 ≤ F) {x1 : Int32} {x2 : Int32} {τ : Mem} (hI : wiX τ) : sf (f_X3_paneOf F x1 x2 τ) (fun r s => wiX s ∧ (∀ k, 101 ≤ k → s k = τ k) ∧ s 83 1 = τ 83 1 ∧ s 0 7 = τ 0 7 ∧ -2147483648 ≤ r.toInt ∧ r.toInt ≤ 2147483647) := by
  have Fτ : ∀ k, 101 ≤ k → τ k = τ k := fun _ _ => rfl
  have O83_τ : τ 83 1 = τ 83 1 := rfl
  have O0_τ : τ 0 7 = τ 0 7 := rfl
  rw [f_X3_paneOf_e]
  have b1 := ti_lo x1
  have b2 := ti_hi x1
  refine sf_bnd (s_X3_noPane hF hI) (fun r3 u4 p5 => ?_)
  obtain ⟨e9, p5⟩ := p5
  have e9 := e9.symm
  subst e9
  rcases p5 with ⟨rfl, q6, q7⟩ | p5
  · refine sf_in ?_
    rw [f_X3_notBelow_e]
    have b8 := ti_lo x2
    have b9 := ti_hi x2
    refine sf_ite (fun c10 => ?_) (fun c10 => ?_)
    · have C10 : x2.toInt < (0 : Int) := ti_lt c10
      rw [j_X3_notBelow_13_e]
      refine sf_ret ?_
      refine sf_in ?_
      rw [f_X3_firstOf_e]
      refine sf_ite (fun c11 => ?_) (fun c11 => ?_)
      · have C11 : (0 : Int) = (0 : Int) := ti_eq c11
        refine sf_ret ?_
        refine sf_ite (fun c12 => ?_) (fun c12 => ?_)
        · have C12 : (-2 : Int) = (0 : Int) := ti_eq c12
          exfalso; omega
        have C12 : ¬ (-2 : Int) = (0 : Int) := ti_ne c12
        refine sf_bnd (s_X3_refuse hF hI (by decide) (by decide)) (fun r13 u14 p15 => ?_)
        obtain ⟨Iu14, Fu14_, O83_u14_, O0_u14_, p15_1, p15_2, p15_x0⟩ := p15
        have Fu14 : ∀ k, 101 ≤ k → u14 k = τ k := fun k hk => (Fu14_ k hk).trans (Fτ k hk)
        have O83_u14 : u14 83 1 = τ 83 1 := O83_u14_.trans O83_τ
        have O0_u14 : u14 0 7 = τ 0 7 := O0_u14_.trans O0_τ
        replace p15_x0 : r13.toInt = (-2 : Int) := p15_x0
        exact sf_ret ⟨Iu14, Fu14, O83_u14, O0_u14, ti_lo _, ti_hi _⟩
      have C11 : ¬ (0 : Int) = (0 : Int) := ti_ne c11
      exfalso; omega
    have C10 : (0 : Int) ≤ x2.toInt := ti_nlt c10
    refine sf_ite (fun c16 => ?_) (fun c16 => ?_)
    · have C16 : (2 : Int) ≤ x2.toInt := ti_le c16
      rw [j_X3_notBelow_13_e]
      refine sf_ret ?_
      refine sf_in ?_
      rw [f_X3_firstOf_e]
      refine sf_ite (fun c17 => ?_) (fun c17 => ?_)
      · have C17 : (0 : Int) = (0 : Int) := ti_eq c17
        refine sf_ret ?_
        refine sf_ite (fun c18 => ?_) (fun c18 => ?_)
        · have C18 : (-2 : Int) = (0 : Int) := ti_eq c18
          exfalso; omega
        have C18 : ¬ (-2 : Int) = (0 : Int) := ti_ne c18
        refine sf_bnd (s_X3_refuse hF hI (by decide) (by decide)) (fun r19 u20 p21 => ?_)
        obtain ⟨Iu20, Fu20_, O83_u20_, O0_u20_, p21_1, p21_2, p21_x0⟩ := p21
        have Fu20 : ∀ k, 101 ≤ k → u20 k = τ k := fun k hk => (Fu20_ k hk).trans (Fτ k hk)
        have O83_u20 : u20 83 1 = τ 83 1 := O83_u20_.trans O83_τ
        have O0_u20 : u20 0 7 = τ 0 7 := O0_u20_.trans O0_τ
        replace p21_x0 : r19.toInt = (-2 : Int) := p21_x0
        exact sf_ret ⟨Iu20, Fu20, O83_u20, O0_u20, ti_lo _, ti_hi _⟩
      have C17 : ¬ (0 : Int) = (0 : Int) := ti_ne c17
      exfalso; omega
    have C16 : x2.toInt < (2 : Int) := ti_nle c16
    refine sf_ret ?_
    refine sf_in ?_
    rw [f_X3_firstOf_e]
    refine sf_ite (fun c22 => ?_) (fun c22 => ?_)
    · have C22 : (0 : Int) = (0 : Int) := ti_eq c22
      refine sf_ret ?_
      refine sf_ite (fun c23 => ?_) (fun c23 => ?_)
      · have C23 : (0 : Int) = (0 : Int) := ti_eq c23
        refine sf_ite (fun c24 => ?_) (fun c24 => ?_)
        · have C24 : x2.toInt = (0 : Int) := ti_eq c24
          refine sf_chk (ti_in (by omega) (by omega)) ?_
          have v25 : Int32.toNatClampNeg x1 = x1.toInt.toNat := rfl
          have b26 := ti_lo (τ (1 + 1) (Int32.toNatClampNeg x1))
          have b27 := ti_hi (τ (1 + 1) (Int32.toNatClampNeg x1))
          exact sf_ret ⟨hI, Fτ, O83_τ, O0_τ, ti_lo _, ti_hi _⟩
        have C24 : ¬ x2.toInt = (0 : Int) := ti_ne c24
        refine sf_bnd (s_X0_hoursAt hF wt_h1 hI (by omega) (by omega)) (fun r28 u29 p30 => ?_)
        obtain ⟨e9, p30_1, p30_2⟩ := p30
        have e9 := e9.symm
        subst e9
        have b31 := ti_lo r28
        have b32 := ti_hi r28
        exact sf_ret ⟨hI, Fτ, O83_τ, O0_τ, ti_lo _, ti_hi _⟩
      have C23 : ¬ (0 : Int) = (0 : Int) := ti_ne c23
      exfalso; omega
    have C22 : ¬ (0 : Int) = (0 : Int) := ti_ne c22
    exfalso; omega
  obtain rfl := p5
  refine sf_in ?_
  rw [f_X3_notBelow_e]
  have b33 := ti_lo x2
  have b34 := ti_hi x2
  refine sf_ite (fun c35 => ?_) (fun c35 => ?_)
  · have C35 : x2.toInt < (0 : Int) := ti_lt c35
    rw [j_X3_notBelow_13_e]
    refine sf_ret ?_
    refine sf_in ?_
    rw [f_X3_firstOf_e]
    refine sf_ite (fun c36 => ?_) (fun c36 => ?_)
    · have C36 : (-1 : Int) = (0 : Int) := ti_eq c36
      exfalso; omega
    have C36 : ¬ (-1 : Int) = (0 : Int) := ti_ne c36
    refine sf_ret ?_
    refine sf_ite (fun c37 => ?_) (fun c37 => ?_)
    · have C37 : (-1 : Int) = (0 : Int) := ti_eq c37
      exfalso; omega
    have C37 : ¬ (-1 : Int) = (0 : Int) := ti_ne c37
    refine sf_bnd (s_X3_refuse hF hI (by decide) (by decide)) (fun r38 u39 p40 => ?_)
    obtain ⟨Iu39, Fu39_, O83_u39_, O0_u39_, p40_1, p40_2, p40_x0⟩ := p40
    have Fu39 : ∀ k, 101 ≤ k → u39 k = τ k := fun k hk => (Fu39_ k hk).trans (Fτ k hk)
    have O83_u39 : u39 83 1 = τ 83 1 := O83_u39_.trans O83_τ
    have O0_u39 : u39 0 7 = τ 0 7 := O0_u39_.trans O0_τ
    replace p40_x0 : r38.toInt = (-1 : Int) := p40_x0
    exact sf_ret ⟨Iu39, Fu39, O83_u39, O0_u39, ti_lo _, ti_hi _⟩
  have C35 : (0 : Int) ≤ x2.toInt := ti_nlt c35
  refine sf_ite (fun c41 => ?_) (fun c41 => ?_)
  · have C41 : (2 : Int) ≤ x2.toInt := ti_le c41
    rw [j_X3_notBelow_13_e]
    refine sf_ret ?_
    refine sf_in ?_
    rw [f_X3_firstOf_e]
    refine sf_ite (fun c42 => ?_) (fun c42 => ?_)
    · have C42 : (-1 : Int) = (0 : Int) := ti_eq c42
      exfalso; omega
    have C42 : ¬ (-1 : Int) = (0 : Int) := ti_ne c42
    refine sf_ret ?_
    refine sf_ite (fun c43 => ?_) (fun c43 => ?_)
    · have C43 : (-1 : Int) = (0 : Int) := ti_eq c43
      exfalso; omega
    have C43 : ¬ (-1 : Int) = (0 : Int) := ti_ne c43
    refine sf_bnd (s_X3_refuse hF hI (by decide) (by decide)) (fun r44 u45 p46 => ?_)
    obtain ⟨Iu45, Fu45_, O83_u45_, O0_u45_, p46_1, p46_2, p46_x0⟩ := p46
    have Fu45 : ∀ k, 101 ≤ k → u45 k = τ k := fun k hk => (Fu45_ k hk).trans (Fτ k hk)
    have O83_u45 : u45 83 1 = τ 83 1 := O83_u45_.trans O83_τ
    have O0_u45 : u45 0 7 = τ 0 7 := O0_u45_.trans O0_τ
    replace p46_x0 : r44.toInt = (-1 : Int) := p46_x0
    exact sf_ret ⟨Iu45, Fu45, O83_u45, O0_u45, ti_lo _, ti_hi _⟩
  have C41 : x2.toInt < (2 : Int) := ti_nle c41
  refine sf_ret ?_
  refine sf_in ?_
  rw [f_X3_firstOf_e]
  refine sf_ite (fun c47 => ?_) (fun c47 => ?_)
  · have C47 : (-1 : Int) = (0 : Int) := ti_eq c47
    exfalso; omega
  have C47 : ¬ (-1 : Int) = (0 : Int) := ti_ne c47
  refine sf_ret ?_
  refine sf_ite (fun c48 => ?_) (fun c48 => ?_)
  · have C48 : (-1 : Int) = (0 : Int) := ti_eq c48
    exfalso; omega
  have C48 : ¬ (-1 : Int) = (0 : Int) := ti_ne c48
  refine sf_bnd (s_X3_refuse hF hI (by decide) (by decide)) (fun r49 u50 p51 => ?_)
  obtain ⟨Iu50, Fu50_, O83_u50_, O0_u50_, p51_1, p51_2, p51_x0⟩ := p51
  have Fu50 : ∀ k, 101 ≤ k → u50 k = τ k := fun k hk => (Fu50_ k hk).trans (Fτ k hk)
  have O83_u50 : u50 83 1 = τ 83 1 := O83_u50_.trans O83_τ
  have O0_u50 : u50 0 7 = τ 0 7 := O0_u50_.trans O0_τ
  replace p51_x0 : r49.toInt = (-1 : Int) := p51_x0
  exact sf_ret ⟨Iu50, Fu50, O83_u50, O0_u50, ti_lo _, ti_hi _⟩
set_option maxHeartbeats 4000000 in
set_option maxRecDepth 100000 in
theorem s_X3_lookerOf {F : Nat} (hF : 100000 ≤ F) {x1 : Int32} {x2 : Int32} {τ : Mem} (hI : wiX τ) : sf (f_X3_lookerOf F x1 x2 τ) (fun r s => wiX s ∧ (∀ k, 101 ≤ k → s k = τ k) ∧ s 83 1 = τ 83 1 ∧ s 0 7 = τ 0 7 ∧ -2147483648 ≤ r.toInt ∧ r.toInt ≤ 2147483647) := by
  have Fτ : ∀ k, 101 ≤ k → τ k = τ k := fun _ _ => rfl
  have O83_τ : τ 83 1 = τ 83 1 := rfl
  have O0_τ : τ 0 7 = τ 0 7 := rfl
  rw [f_X3_lookerOf_e]
  have b1 := ti_lo x1
  have b2 := ti_hi x1
  refine sf_bnd (s_X3_noLooker hF hI) (fun r3 u4 p5 => ?_)
  obtain ⟨e9, p5⟩ := p5
  have e9 := e9.symm
  subst e9
  rcases p5 with ⟨rfl, q6, q7⟩ | p5
  · refine sf_in ?_
    rw [f_X3_notBelow_e]
    have b8 := ti_lo x2
    have b9 := ti_hi x2
    refine sf_ite (fun c10 => ?_) (fun c10 => ?_)
    · have C10 : x2.toInt < (0 : Int) := ti_lt c10
      rw [j_X3_notBelow_13_e]
      refine sf_ret ?_
      refine sf_in ?_
      rw [f_X3_firstOf_e]
      refine sf_ite (fun c11 => ?_) (fun c11 => ?_)
      · have C11 : (0 : Int) = (0 : Int) := ti_eq c11
        refine sf_ret ?_
        refine sf_ite (fun c12 => ?_) (fun c12 => ?_)
        · have C12 : (-2 : Int) = (0 : Int) := ti_eq c12
          exfalso; omega
        have C12 : ¬ (-2 : Int) = (0 : Int) := ti_ne c12
        refine sf_bnd (s_X3_refuse hF hI (by decide) (by decide)) (fun r13 u14 p15 => ?_)
        obtain ⟨Iu14, Fu14_, O83_u14_, O0_u14_, p15_1, p15_2, p15_x0⟩ := p15
        have Fu14 : ∀ k, 101 ≤ k → u14 k = τ k := fun k hk => (Fu14_ k hk).trans (Fτ k hk)
        have O83_u14 : u14 83 1 = τ 83 1 := O83_u14_.trans O83_τ
        have O0_u14 : u14 0 7 = τ 0 7 := O0_u14_.trans O0_τ
        replace p15_x0 : r13.toInt = (-2 : Int) := p15_x0
        exact sf_ret ⟨Iu14, Fu14, O83_u14, O0_u14, ti_lo _, ti_hi _⟩
      have C11 : ¬ (0 : Int) = (0 : Int) := ti_ne c11
      exfalso; omega
    have C10 : (0 : Int) ≤ x2.toInt := ti_nlt c10
    refine sf_ite (fun c16 => ?_) (fun c16 => ?_)
    · have C16 : (4 : Int) ≤ x2.toInt := ti_le c16
      rw [j_X3_notBelow_13_e]
      refine sf_ret ?_
      refine sf_in ?_
      rw [f_X3_firstOf_e]
      refine sf_ite (fun c17 => ?_) (fun c17 => ?_)
      · have C17 : (0 : Int) = (0 : Int) := ti_eq c17
        refine sf_ret ?_
        refine sf_ite (fun c18 => ?_) (fun c18 => ?_)
        · have C18 : (-2 : Int) = (0 : Int) := ti_eq c18
          exfalso; omega
        have C18 : ¬ (-2 : Int) = (0 : Int) := ti_ne c18
        refine sf_bnd (s_X3_refuse hF hI (by decide) (by decide)) (fun r19 u20 p21 => ?_)
        obtain ⟨Iu20, Fu20_, O83_u20_, O0_u20_, p21_1, p21_2, p21_x0⟩ := p21
        have Fu20 : ∀ k, 101 ≤ k → u20 k = τ k := fun k hk => (Fu20_ k hk).trans (Fτ k hk)
        have O83_u20 : u20 83 1 = τ 83 1 := O83_u20_.trans O83_τ
        have O0_u20 : u20 0 7 = τ 0 7 := O0_u20_.trans O0_τ
        replace p21_x0 : r19.toInt = (-2 : Int) := p21_x0
        exact sf_ret ⟨Iu20, Fu20, O83_u20, O0_u20, ti_lo _, ti_hi _⟩
      have C17 : ¬ (0 : Int) = (0 : Int) := ti_ne c17
      exfalso; omega
    have C16 : x2.toInt < (4 : Int) := ti_nle c16
    refine sf_ret ?_
    refine sf_in ?_
    rw [f_X3_firstOf_e]
    refine sf_ite (fun c22 => ?_) (fun c22 => ?_)
    · have C22 : (0 : Int) = (0 : Int) := ti_eq c22
      refine sf_ret ?_
      refine sf_ite (fun c23 => ?_) (fun c23 => ?_)
      · have C23 : (0 : Int) = (0 : Int) := ti_eq c23
        refine sf_ite (fun c24 => ?_) (fun c24 => ?_)
        · have C24 : x2.toInt = (0 : Int) := ti_eq c24
          refine sf_chk (ti_in (by omega) (by omega)) ?_
          have v25 : Int32.toNatClampNeg x1 = x1.toInt.toNat := rfl
          have b26 := ti_lo (τ (1 + 2) (Int32.toNatClampNeg x1))
          have b27 := ti_hi (τ (1 + 2) (Int32.toNatClampNeg x1))
          exact sf_ret ⟨hI, Fτ, O83_τ, O0_τ, ti_lo _, ti_hi _⟩
        have C24 : ¬ x2.toInt = (0 : Int) := ti_ne c24
        refine sf_ite (fun c28 => ?_) (fun c28 => ?_)
        · have C28 : x2.toInt = (1 : Int) := ti_eq c28
          refine sf_chk (ti_in (by omega) (by omega)) ?_
          have v29 : Int32.toNatClampNeg x1 = x1.toInt.toNat := rfl
          have b30 := ti_lo (τ (1 + 3) (Int32.toNatClampNeg x1))
          have b31 := ti_hi (τ (1 + 3) (Int32.toNatClampNeg x1))
          exact sf_ret ⟨hI, Fτ, O83_τ, O0_τ, ti_lo _, ti_hi _⟩
        have C28 : ¬ x2.toInt = (1 : Int) := ti_ne c28
        refine sf_ite (fun c32 => ?_) (fun c32 => ?_)
        · have C32 : x2.toInt = (2 : Int) := ti_eq c32
          refine sf_bnd (s_X0_hoursOf hF wt_h1 hI (by omega) (by omega)) (fun r33 u34 p35 => ?_)
          obtain ⟨e9, p35_1, p35_2⟩ := p35
          have e9 := e9.symm
          subst e9
          have b36 := ti_lo r33
          have b37 := ti_hi r33
          exact sf_ret ⟨hI, Fτ, O83_τ, O0_τ, ti_lo _, ti_hi _⟩
        have C32 : ¬ x2.toInt = (2 : Int) := ti_ne c32
        refine sf_bnd (s_X0_reckon hF wt_h1 hI) (fun r38 u39 p40 => ?_)
        obtain ⟨Iu39, Fu39_, O83_u39_, O0_u39_, -⟩ := p40
        have Fu39 : ∀ k, 101 ≤ k → u39 k = τ k := fun k hk => (Fu39_ k hk).trans (Fτ k hk)
        have O83_u39 : u39 83 1 = τ 83 1 := O83_u39_.trans O83_τ
        have O0_u39 : u39 0 7 = τ 0 7 := O0_u39_.trans O0_τ
        refine sf_bnd (s_X0_holdings hF wt_h1 Iu39 (by omega) (by omega) (by decide) (by decide)) (fun r41 u42 p43 => ?_)
        obtain ⟨e9, p43_1, p43_2⟩ := p43
        have e9 := e9.symm
        subst e9
        have b44 := ti_lo r41
        have b45 := ti_hi r41
        exact sf_ret ⟨Iu39, Fu39, O83_u39, O0_u39, ti_lo _, ti_hi _⟩
      have C23 : ¬ (0 : Int) = (0 : Int) := ti_ne c23
      exfalso; omega
    have C22 : ¬ (0 : Int) = (0 : Int) := ti_ne c22
    exfalso; omega
  obtain rfl := p5
  refine sf_in ?_
  rw [f_X3_notBelow_e]
  have b46 := ti_lo x2
  have b47 := ti_hi x2
  refine sf_ite (fun c48 => ?_) (fun c48 => ?_)
  · have C48 : x2.toInt < (0 : Int) := ti_lt c48
    rw [j_X3_notBelow_13_e]
    refine sf_ret ?_
    refine sf_in ?_
    rw [f_X3_firstOf_e]
    refine sf_ite (fun c49 => ?_) (fun c49 => ?_)
    · have C49 : (-1 : Int) = (0 : Int) := ti_eq c49
      exfalso; omega
    have C49 : ¬ (-1 : Int) = (0 : Int) := ti_ne c49
    refine sf_ret ?_
    refine sf_ite (fun c50 => ?_) (fun c50 => ?_)
    · have C50 : (-1 : Int) = (0 : Int) := ti_eq c50
      exfalso; omega
    have C50 : ¬ (-1 : Int) = (0 : Int) := ti_ne c50
    refine sf_bnd (s_X3_refuse hF hI (by decide) (by decide)) (fun r51 u52 p53 => ?_)
    obtain ⟨Iu52, Fu52_, O83_u52_, O0_u52_, p53_1, p53_2, p53_x0⟩ := p53
    have Fu52 : ∀ k, 101 ≤ k → u52 k = τ k := fun k hk => (Fu52_ k hk).trans (Fτ k hk)
    have O83_u52 : u52 83 1 = τ 83 1 := O83_u52_.trans O83_τ
    have O0_u52 : u52 0 7 = τ 0 7 := O0_u52_.trans O0_τ
    replace p53_x0 : r51.toInt = (-1 : Int) := p53_x0
    exact sf_ret ⟨Iu52, Fu52, O83_u52, O0_u52, ti_lo _, ti_hi _⟩
  have C48 : (0 : Int) ≤ x2.toInt := ti_nlt c48
  refine sf_ite (fun c54 => ?_) (fun c54 => ?_)
  · have C54 : (4 : Int) ≤ x2.toInt := ti_le c54
    rw [j_X3_notBelow_13_e]
    refine sf_ret ?_
    refine sf_in ?_
    rw [f_X3_firstOf_e]
    refine sf_ite (fun c55 => ?_) (fun c55 => ?_)
    · have C55 : (-1 : Int) = (0 : Int) := ti_eq c55
      exfalso; omega
    have C55 : ¬ (-1 : Int) = (0 : Int) := ti_ne c55
    refine sf_ret ?_
    refine sf_ite (fun c56 => ?_) (fun c56 => ?_)
    · have C56 : (-1 : Int) = (0 : Int) := ti_eq c56
      exfalso; omega
    have C56 : ¬ (-1 : Int) = (0 : Int) := ti_ne c56
    refine sf_bnd (s_X3_refuse hF hI (by decide) (by decide)) (fun r57 u58 p59 => ?_)
    obtain ⟨Iu58, Fu58_, O83_u58_, O0_u58_, p59_1, p59_2, p59_x0⟩ := p59
    have Fu58 : ∀ k, 101 ≤ k → u58 k = τ k := fun k hk => (Fu58_ k hk).trans (Fτ k hk)
    have O83_u58 : u58 83 1 = τ 83 1 := O83_u58_.trans O83_τ
    have O0_u58 : u58 0 7 = τ 0 7 := O0_u58_.trans O0_τ
    replace p59_x0 : r57.toInt = (-1 : Int) := p59_x0
    exact sf_ret ⟨Iu58, Fu58, O83_u58, O0_u58, ti_lo _, ti_hi _⟩
  have C54 : x2.toInt < (4 : Int) := ti_nle c54
  refine sf_ret ?_
  refine sf_in ?_
  rw [f_X3_firstOf_e]
  refine sf_ite (fun c60 => ?_) (fun c60 => ?_)
  · have C60 : (-1 : Int) = (0 : Int) := ti_eq c60
    exfalso; omega
  have C60 : ¬ (-1 : Int) = (0 : Int) := ti_ne c60
  refine sf_ret ?_
  refine sf_ite (fun c61 => ?_) (fun c61 => ?_)
  · have C61 : (-1 : Int) = (0 : Int) := ti_eq c61
    exfalso; omega
  have C61 : ¬ (-1 : Int) = (0 : Int) := ti_ne c61
  refine sf_bnd (s_X3_refuse hF hI (by decide) (by decide)) (fun r62 u63 p64 => ?_)
  obtain ⟨Iu63, Fu63_, O83_u63_, O0_u63_, p64_1, p64_2, p64_x0⟩ := p64
  have Fu63 : ∀ k, 101 ≤ k → u63 k = τ k := fun k hk => (Fu63_ k hk).trans (Fτ k hk)
  have O83_u63 : u63 83 1 = τ 83 1 := O83_u63_.trans O83_τ
  have O0_u63 : u63 0 7 = τ 0 7 := O0_u63_.trans O0_τ
  replace p64_x0 : r62.toInt = (-1 : Int) := p64_x0
  exact sf_ret ⟨Iu63, Fu63, O83_u63, O0_u63, ti_lo _, ti_hi _⟩
set_option maxHeartbeats 4000000 in
set_option maxRecDepth 100000 in
theorem s_X3_pane {F : Nat} (hF : 100000 ≤ F) {x1 : Int32} {τ : Mem} (hI : wiX τ) : sf (f_X3_pane F x1 τ) (fun r s => wiX s ∧ (∀ k, 101 ≤ k → s k = τ k) ∧ s 83 1 = τ 83 1 ∧ s 0 7 = τ 0 7 ∧ -2147483648 ≤ r.toInt ∧ r.toInt ≤ 2147483647) := by
  have Fτ : ∀ k, 101 ≤ k → τ k = τ k := fun _ _ => rfl
  have O83_τ : τ 83 1 = τ 83 1 := rfl
  have O0_τ : τ 0 7 = τ 0 7 := rfl
  rw [f_X3_pane_e]
  refine sf_in ?_
  rw [f_X3_outside_e]
  have b1 := ti_lo x1
  have b2 := ti_hi x1
  refine sf_ite (fun c3 => ?_) (fun c3 => ?_)
  · have C3 : (0 : Int) ≤ x1.toInt := ti_le c3
    refine sf_ite (fun c4 => ?_) (fun c4 => ?_)
    · have C4 : x1.toInt ≤ (255 : Int) := ti_le c4
      refine sf_ret ?_
      refine sf_ite (fun c5 => ?_) (fun c5 => ?_)
      · have C5 : (0 : Int) = (0 : Int) := ti_eq c5
        have m6 := wx_X0_0 hI wt_h1
        refine sf_ite (fun c7 => ?_) (fun c7 => ?_)
        · have C7 : (τ 1 0).toInt < (6 : Int) := ti_lt c7
          rw [j_X3_pane_28_e]
          refine sf_ite (fun c8 => ?_) (fun c8 => ?_)
          · have C8 : (0 : Int) = (0 : Int) := ti_eq c8
            refine sf_bnd (s_X0_addPane hF wt_h1 hI) (fun r9 u10 p11 => ?_)
            obtain ⟨Iu10, Fu10_, O83_u10_, O0_u10_, p11_1, p11_2⟩ := p11
            have Fu10 : ∀ k, 101 ≤ k → u10 k = τ k := fun k hk => (Fu10_ k hk).trans (Fτ k hk)
            have O83_u10 : u10 83 1 = τ 83 1 := O83_u10_.trans O83_τ
            have O0_u10 : u10 0 7 = τ 0 7 := O0_u10_.trans O0_τ
            have hb_r9 : r9 = 0 ∨ r9 = 1 := wi_bool p11_1 p11_2
            refine sf_bnd (s_X2_forget hF Iu10) (fun r12 u13 p14 => ?_)
            obtain ⟨Iu13, Fu13_, O83_u13_, O0_u13_, -⟩ := p14
            have Fu13 : ∀ k, 101 ≤ k → u13 k = τ k := fun k hk => (Fu13_ k hk).trans (Fu10 k hk)
            have O83_u13 : u13 83 1 = τ 83 1 := O83_u13_.trans O83_u10
            have O0_u13 : u13 0 7 = τ 0 7 := O0_u13_.trans O0_u10
            have m15 := wx_X0_0 Iu13 wt_h1
            have t16 : ((u13 1 0) - (1 : Int32)).toInt = (u13 1 0).toInt - (1 : Int) := ti_sub (show -2147483648 ≤ (u13 1 0).toInt - (1 : Int) by omega) (show (u13 1 0).toInt - (1 : Int) ≤ 2147483647 by omega)
            exact sf_ret ⟨Iu13, Fu13, O83_u13, O0_u13, ti_lo _, ti_hi _⟩
          have C8 : ¬ (0 : Int) = (0 : Int) := ti_ne c8
          exfalso; omega
        have C7 : (6 : Int) ≤ (τ 1 0).toInt := ti_nlt c7
        rw [j_X3_pane_28_e]
        refine sf_ite (fun c17 => ?_) (fun c17 => ?_)
        · have C17 : (-6 : Int) = (0 : Int) := ti_eq c17
          exfalso; omega
        have C17 : ¬ (-6 : Int) = (0 : Int) := ti_ne c17
        refine sf_bnd (s_X3_refuse hF hI (by decide) (by decide)) (fun r18 u19 p20 => ?_)
        obtain ⟨Iu19, Fu19_, O83_u19_, O0_u19_, p20_1, p20_2, p20_x0⟩ := p20
        have Fu19 : ∀ k, 101 ≤ k → u19 k = τ k := fun k hk => (Fu19_ k hk).trans (Fτ k hk)
        have O83_u19 : u19 83 1 = τ 83 1 := O83_u19_.trans O83_τ
        have O0_u19 : u19 0 7 = τ 0 7 := O0_u19_.trans O0_τ
        replace p20_x0 : r18.toInt = (-6 : Int) := p20_x0
        exact sf_ret ⟨Iu19, Fu19, O83_u19, O0_u19, ti_lo _, ti_hi _⟩
      have C5 : ¬ (0 : Int) = (0 : Int) := ti_ne c5
      exfalso; omega
    have C4 : (255 : Int) < x1.toInt := ti_nle c4
    refine sf_ret ?_
    refine sf_ite (fun c21 => ?_) (fun c21 => ?_)
    · have C21 : (-6 : Int) = (0 : Int) := ti_eq c21
      exfalso; omega
    have C21 : ¬ (-6 : Int) = (0 : Int) := ti_ne c21
    rw [j_X3_pane_28_e]
    refine sf_ite (fun c22 => ?_) (fun c22 => ?_)
    · have C22 : (-6 : Int) = (0 : Int) := ti_eq c22
      exfalso; omega
    have C22 : ¬ (-6 : Int) = (0 : Int) := ti_ne c22
    refine sf_bnd (s_X3_refuse hF hI (by decide) (by decide)) (fun r23 u24 p25 => ?_)
    obtain ⟨Iu24, Fu24_, O83_u24_, O0_u24_, p25_1, p25_2, p25_x0⟩ := p25
    have Fu24 : ∀ k, 101 ≤ k → u24 k = τ k := fun k hk => (Fu24_ k hk).trans (Fτ k hk)
    have O83_u24 : u24 83 1 = τ 83 1 := O83_u24_.trans O83_τ
    have O0_u24 : u24 0 7 = τ 0 7 := O0_u24_.trans O0_τ
    replace p25_x0 : r23.toInt = (-6 : Int) := p25_x0
    exact sf_ret ⟨Iu24, Fu24, O83_u24, O0_u24, ti_lo _, ti_hi _⟩
  have C3 : x1.toInt < (0 : Int) := ti_nle c3
  refine sf_ret ?_
  refine sf_ite (fun c26 => ?_) (fun c26 => ?_)
  · have C26 : (-4 : Int) = (0 : Int) := ti_eq c26
    exfalso; omega
  have C26 : ¬ (-4 : Int) = (0 : Int) := ti_ne c26
  rw [j_X3_pane_28_e]
  refine sf_ite (fun c27 => ?_) (fun c27 => ?_)
  · have C27 : (-4 : Int) = (0 : Int) := ti_eq c27
    exfalso; omega
  have C27 : ¬ (-4 : Int) = (0 : Int) := ti_ne c27
  refine sf_bnd (s_X3_refuse hF hI (by decide) (by decide)) (fun r28 u29 p30 => ?_)
  obtain ⟨Iu29, Fu29_, O83_u29_, O0_u29_, p30_1, p30_2, p30_x0⟩ := p30
  have Fu29 : ∀ k, 101 ≤ k → u29 k = τ k := fun k hk => (Fu29_ k hk).trans (Fτ k hk)
  have O83_u29 : u29 83 1 = τ 83 1 := O83_u29_.trans O83_τ
  have O0_u29 : u29 0 7 = τ 0 7 := O0_u29_.trans O0_τ
  replace p30_x0 : r28.toInt = (-4 : Int) := p30_x0
  exact sf_ret ⟨Iu29, Fu29, O83_u29, O0_u29, ti_lo _, ti_hi _⟩
set_option maxHeartbeats 4000000 in
set_option maxRecDepth 100000 in
theorem s_X3_looker {F : Nat} (hF : 100000 ≤ F) {x1 : Int32} {x2 : Int32} {τ : Mem} (hI : wiX τ) : sf (f_X3_looker F x1 x2 τ) (fun r s => wiX s ∧ (∀ k, 101 ≤ k → s k = τ k) ∧ s 83 1 = τ 83 1 ∧ s 0 7 = τ 0 7 ∧ -2147483648 ≤ r.toInt ∧ r.toInt ≤ 2147483647) := by
  have Fτ : ∀ k, 101 ≤ k → τ k = τ k := fun _ _ => rfl
  have O83_τ : τ 83 1 = τ 83 1 := rfl
  have O0_τ : τ 0 7 = τ 0 7 := rfl
  rw [f_X3_looker_e]
  refine sf_in ?_
  rw [f_X3_notBelow_e]
  have b1 := ti_lo x1
  have b2 := ti_hi x1
  refine sf_ite (fun c3 => ?_) (fun c3 => ?_)
  · have C3 : x1.toInt < (0 : Int) := ti_lt c3
    rw [j_X3_notBelow_13_e]
    refine sf_ret ?_
    refine sf_in ?_
    rw [f_X3_outside_e]
    have b4 := ti_lo x2
    have b5 := ti_hi x2
    refine sf_ite (fun c6 => ?_) (fun c6 => ?_)
    · have C6 : (0 : Int) ≤ x2.toInt := ti_le c6
      refine sf_ite (fun c7 => ?_) (fun c7 => ?_)
      · have C7 : x2.toInt ≤ (9 : Int) := ti_le c7
        refine sf_ret ?_
        refine sf_in ?_
        rw [f_X3_firstOf_e]
        refine sf_ite (fun c8 => ?_) (fun c8 => ?_)
        · have C8 : (-2 : Int) = (0 : Int) := ti_eq c8
          exfalso; omega
        have C8 : ¬ (-2 : Int) = (0 : Int) := ti_ne c8
        refine sf_ret ?_
        refine sf_ite (fun c9 => ?_) (fun c9 => ?_)
        · have C9 : (-2 : Int) = (0 : Int) := ti_eq c9
          exfalso; omega
        have C9 : ¬ (-2 : Int) = (0 : Int) := ti_ne c9
        rw [j_X3_looker_35_e]
        refine sf_ite (fun c10 => ?_) (fun c10 => ?_)
        · have C10 : (-2 : Int) = (0 : Int) := ti_eq c10
          exfalso; omega
        have C10 : ¬ (-2 : Int) = (0 : Int) := ti_ne c10
        refine sf_bnd (s_X3_refuse hF hI (by decide) (by decide)) (fun r11 u12 p13 => ?_)
        obtain ⟨Iu12, Fu12_, O83_u12_, O0_u12_, p13_1, p13_2, p13_x0⟩ := p13
        have Fu12 : ∀ k, 101 ≤ k → u12 k = τ k := fun k hk => (Fu12_ k hk).trans (Fτ k hk)
        have O83_u12 : u12 83 1 = τ 83 1 := O83_u12_.trans O83_τ
        have O0_u12 : u12 0 7 = τ 0 7 := O0_u12_.trans O0_τ
        replace p13_x0 : r11.toInt = (-2 : Int) := p13_x0
        exact sf_ret ⟨Iu12, Fu12, O83_u12, O0_u12, ti_lo _, ti_hi _⟩
      have C7 : (9 : Int) < x2.toInt := ti_nle c7
      refine sf_ret ?_
      refine sf_in ?_
      rw [f_X3_firstOf_e]
      refine sf_ite (fun c14 => ?_) (fun c14 => ?_)
      · have C14 : (-2 : Int) = (0 : Int) := ti_eq c14
        exfalso; omega
      have C14 : ¬ (-2 : Int) = (0 : Int) := ti_ne c14
      refine sf_ret ?_
      refine sf_ite (fun c15 => ?_) (fun c15 => ?_)
      · have C15 : (-2 : Int) = (0 : Int) := ti_eq c15
        exfalso; omega
      have C15 : ¬ (-2 : Int) = (0 : Int) := ti_ne c15
      rw [j_X3_looker_35_e]
      refine sf_ite (fun c16 => ?_) (fun c16 => ?_)
      · have C16 : (-2 : Int) = (0 : Int) := ti_eq c16
        exfalso; omega
      have C16 : ¬ (-2 : Int) = (0 : Int) := ti_ne c16
      refine sf_bnd (s_X3_refuse hF hI (by decide) (by decide)) (fun r17 u18 p19 => ?_)
      obtain ⟨Iu18, Fu18_, O83_u18_, O0_u18_, p19_1, p19_2, p19_x0⟩ := p19
      have Fu18 : ∀ k, 101 ≤ k → u18 k = τ k := fun k hk => (Fu18_ k hk).trans (Fτ k hk)
      have O83_u18 : u18 83 1 = τ 83 1 := O83_u18_.trans O83_τ
      have O0_u18 : u18 0 7 = τ 0 7 := O0_u18_.trans O0_τ
      replace p19_x0 : r17.toInt = (-2 : Int) := p19_x0
      exact sf_ret ⟨Iu18, Fu18, O83_u18, O0_u18, ti_lo _, ti_hi _⟩
    have C6 : x2.toInt < (0 : Int) := ti_nle c6
    refine sf_ret ?_
    refine sf_in ?_
    rw [f_X3_firstOf_e]
    refine sf_ite (fun c20 => ?_) (fun c20 => ?_)
    · have C20 : (-2 : Int) = (0 : Int) := ti_eq c20
      exfalso; omega
    have C20 : ¬ (-2 : Int) = (0 : Int) := ti_ne c20
    refine sf_ret ?_
    refine sf_ite (fun c21 => ?_) (fun c21 => ?_)
    · have C21 : (-2 : Int) = (0 : Int) := ti_eq c21
      exfalso; omega
    have C21 : ¬ (-2 : Int) = (0 : Int) := ti_ne c21
    rw [j_X3_looker_35_e]
    refine sf_ite (fun c22 => ?_) (fun c22 => ?_)
    · have C22 : (-2 : Int) = (0 : Int) := ti_eq c22
      exfalso; omega
    have C22 : ¬ (-2 : Int) = (0 : Int) := ti_ne c22
    refine sf_bnd (s_X3_refuse hF hI (by decide) (by decide)) (fun r23 u24 p25 => ?_)
    obtain ⟨Iu24, Fu24_, O83_u24_, O0_u24_, p25_1, p25_2, p25_x0⟩ := p25
    have Fu24 : ∀ k, 101 ≤ k → u24 k = τ k := fun k hk => (Fu24_ k hk).trans (Fτ k hk)
    have O83_u24 : u24 83 1 = τ 83 1 := O83_u24_.trans O83_τ
    have O0_u24 : u24 0 7 = τ 0 7 := O0_u24_.trans O0_τ
    replace p25_x0 : r23.toInt = (-2 : Int) := p25_x0
    exact sf_ret ⟨Iu24, Fu24, O83_u24, O0_u24, ti_lo _, ti_hi _⟩
  have C3 : (0 : Int) ≤ x1.toInt := ti_nlt c3
  refine sf_ite (fun c26 => ?_) (fun c26 => ?_)
  · have C26 : (6 : Int) ≤ x1.toInt := ti_le c26
    rw [j_X3_notBelow_13_e]
    refine sf_ret ?_
    refine sf_in ?_
    rw [f_X3_outside_e]
    have b27 := ti_lo x2
    have b28 := ti_hi x2
    refine sf_ite (fun c29 => ?_) (fun c29 => ?_)
    · have C29 : (0 : Int) ≤ x2.toInt := ti_le c29
      refine sf_ite (fun c30 => ?_) (fun c30 => ?_)
      · have C30 : x2.toInt ≤ (9 : Int) := ti_le c30
        refine sf_ret ?_
        refine sf_in ?_
        rw [f_X3_firstOf_e]
        refine sf_ite (fun c31 => ?_) (fun c31 => ?_)
        · have C31 : (-2 : Int) = (0 : Int) := ti_eq c31
          exfalso; omega
        have C31 : ¬ (-2 : Int) = (0 : Int) := ti_ne c31
        refine sf_ret ?_
        refine sf_ite (fun c32 => ?_) (fun c32 => ?_)
        · have C32 : (-2 : Int) = (0 : Int) := ti_eq c32
          exfalso; omega
        have C32 : ¬ (-2 : Int) = (0 : Int) := ti_ne c32
        rw [j_X3_looker_35_e]
        refine sf_ite (fun c33 => ?_) (fun c33 => ?_)
        · have C33 : (-2 : Int) = (0 : Int) := ti_eq c33
          exfalso; omega
        have C33 : ¬ (-2 : Int) = (0 : Int) := ti_ne c33
        refine sf_bnd (s_X3_refuse hF hI (by decide) (by decide)) (fun r34 u35 p36 => ?_)
        obtain ⟨Iu35, Fu35_, O83_u35_, O0_u35_, p36_1, p36_2, p36_x0⟩ := p36
        have Fu35 : ∀ k, 101 ≤ k → u35 k = τ k := fun k hk => (Fu35_ k hk).trans (Fτ k hk)
        have O83_u35 : u35 83 1 = τ 83 1 := O83_u35_.trans O83_τ
        have O0_u35 : u35 0 7 = τ 0 7 := O0_u35_.trans O0_τ
        replace p36_x0 : r34.toInt = (-2 : Int) := p36_x0
        exact sf_ret ⟨Iu35, Fu35, O83_u35, O0_u35, ti_lo _, ti_hi _⟩
      have C30 : (9 : Int) < x2.toInt := ti_nle c30
      refine sf_ret ?_
      refine sf_in ?_
      rw [f_X3_firstOf_e]
      refine sf_ite (fun c37 => ?_) (fun c37 => ?_)
      · have C37 : (-2 : Int) = (0 : Int) := ti_eq c37
        exfalso; omega
      have C37 : ¬ (-2 : Int) = (0 : Int) := ti_ne c37
      refine sf_ret ?_
      refine sf_ite (fun c38 => ?_) (fun c38 => ?_)
      · have C38 : (-2 : Int) = (0 : Int) := ti_eq c38
        exfalso; omega
      have C38 : ¬ (-2 : Int) = (0 : Int) := ti_ne c38
      rw [j_X3_looker_35_e]
      refine sf_ite (fun c39 => ?_) (fun c39 => ?_)
      · have C39 : (-2 : Int) = (0 : Int) := ti_eq c39
        exfalso; omega
      have C39 : ¬ (-2 : Int) = (0 : Int) := ti_ne c39
      refine sf_bnd (s_X3_refuse hF hI (by decide) (by decide)) (fun r40 u41 p42 => ?_)
      obtain ⟨Iu41, Fu41_, O83_u41_, O0_u41_, p42_1, p42_2, p42_x0⟩ := p42
      have Fu41 : ∀ k, 101 ≤ k → u41 k = τ k := fun k hk => (Fu41_ k hk).trans (Fτ k hk)
      have O83_u41 : u41 83 1 = τ 83 1 := O83_u41_.trans O83_τ
      have O0_u41 : u41 0 7 = τ 0 7 := O0_u41_.trans O0_τ
      replace p42_x0 : r40.toInt = (-2 : Int) := p42_x0
      exact sf_ret ⟨Iu41, Fu41, O83_u41, O0_u41, ti_lo _, ti_hi _⟩
    have C29 : x2.toInt < (0 : Int) := ti_nle c29
    refine sf_ret ?_
    refine sf_in ?_
    rw [f_X3_firstOf_e]
    refine sf_ite (fun c43 => ?_) (fun c43 => ?_)
    · have C43 : (-2 : Int) = (0 : Int) := ti_eq c43
      exfalso; omega
    have C43 : ¬ (-2 : Int) = (0 : Int) := ti_ne c43
    refine sf_ret ?_
    refine sf_ite (fun c44 => ?_) (fun c44 => ?_)
    · have C44 : (-2 : Int) = (0 : Int) := ti_eq c44
      exfalso; omega
    have C44 : ¬ (-2 : Int) = (0 : Int) := ti_ne c44
    rw [j_X3_looker_35_e]
    refine sf_ite (fun c45 => ?_) (fun c45 => ?_)
    · have C45 : (-2 : Int) = (0 : Int) := ti_eq c45
      exfalso; omega
    have C45 : ¬ (-2 : Int) = (0 : Int) := ti_ne c45
    refine sf_bnd (s_X3_refuse hF hI (by decide) (by decide)) (fun r46 u47 p48 => ?_)
    obtain ⟨Iu47, Fu47_, O83_u47_, O0_u47_, p48_1, p48_2, p48_x0⟩ := p48
    have Fu47 : ∀ k, 101 ≤ k → u47 k = τ k := fun k hk => (Fu47_ k hk).trans (Fτ k hk)
    have O83_u47 : u47 83 1 = τ 83 1 := O83_u47_.trans O83_τ
    have O0_u47 : u47 0 7 = τ 0 7 := O0_u47_.trans O0_τ
    replace p48_x0 : r46.toInt = (-2 : Int) := p48_x0
    exact sf_ret ⟨Iu47, Fu47, O83_u47, O0_u47, ti_lo _, ti_hi _⟩
  have C26 : x1.toInt < (6 : Int) := ti_nle c26
  refine sf_ret ?_
  refine sf_in ?_
  rw [f_X3_outside_e]
  have b49 := ti_lo x2
  have b50 := ti_hi x2
  refine sf_ite (fun c51 => ?_) (fun c51 => ?_)
  · have C51 : (0 : Int) ≤ x2.toInt := ti_le c51
    refine sf_ite (fun c52 => ?_) (fun c52 => ?_)
    · have C52 : x2.toInt ≤ (9 : Int) := ti_le c52
      refine sf_ret ?_
      refine sf_in ?_
      rw [f_X3_firstOf_e]
      refine sf_ite (fun c53 => ?_) (fun c53 => ?_)
      · have C53 : (0 : Int) = (0 : Int) := ti_eq c53
        refine sf_ret ?_
        refine sf_ite (fun c54 => ?_) (fun c54 => ?_)
        · have C54 : (0 : Int) = (0 : Int) := ti_eq c54
          have m55 := wx_X0_2 hI wt_h1
          refine sf_ite (fun c56 => ?_) (fun c56 => ?_)
          · have C56 : (τ 1 2).toInt < (5 : Int) := ti_lt c56
            rw [j_X3_looker_35_e]
            refine sf_ite (fun c57 => ?_) (fun c57 => ?_)
            · have C57 : (0 : Int) = (0 : Int) := ti_eq c57
              refine sf_bnd (s_X0_addLooker hF wt_h1 hI) (fun r58 u59 p60 => ?_)
              obtain ⟨Iu59, Fu59_, O83_u59_, O0_u59_, p60_1, p60_2⟩ := p60
              have Fu59 : ∀ k, 101 ≤ k → u59 k = τ k := fun k hk => (Fu59_ k hk).trans (Fτ k hk)
              have O83_u59 : u59 83 1 = τ 83 1 := O83_u59_.trans O83_τ
              have O0_u59 : u59 0 7 = τ 0 7 := O0_u59_.trans O0_τ
              have hb_r58 : r58 = 0 ∨ r58 = 1 := wi_bool p60_1 p60_2
              refine sf_bnd (s_X2_forget hF Iu59) (fun r61 u62 p63 => ?_)
              obtain ⟨Iu62, Fu62_, O83_u62_, O0_u62_, -⟩ := p63
              have Fu62 : ∀ k, 101 ≤ k → u62 k = τ k := fun k hk => (Fu62_ k hk).trans (Fu59 k hk)
              have O83_u62 : u62 83 1 = τ 83 1 := O83_u62_.trans O83_u59
              have O0_u62 : u62 0 7 = τ 0 7 := O0_u62_.trans O0_u59
              have m64 := wx_X0_2 Iu62 wt_h1
              have t65 : ((u62 1 2) - (1 : Int32)).toInt = (u62 1 2).toInt - (1 : Int) := ti_sub (show -2147483648 ≤ (u62 1 2).toInt - (1 : Int) by omega) (show (u62 1 2).toInt - (1 : Int) ≤ 2147483647 by omega)
              exact sf_ret ⟨Iu62, Fu62, O83_u62, O0_u62, ti_lo _, ti_hi _⟩
            have C57 : ¬ (0 : Int) = (0 : Int) := ti_ne c57
            exfalso; omega
          have C56 : (5 : Int) ≤ (τ 1 2).toInt := ti_nlt c56
          rw [j_X3_looker_35_e]
          refine sf_ite (fun c66 => ?_) (fun c66 => ?_)
          · have C66 : (-6 : Int) = (0 : Int) := ti_eq c66
            exfalso; omega
          have C66 : ¬ (-6 : Int) = (0 : Int) := ti_ne c66
          refine sf_bnd (s_X3_refuse hF hI (by decide) (by decide)) (fun r67 u68 p69 => ?_)
          obtain ⟨Iu68, Fu68_, O83_u68_, O0_u68_, p69_1, p69_2, p69_x0⟩ := p69
          have Fu68 : ∀ k, 101 ≤ k → u68 k = τ k := fun k hk => (Fu68_ k hk).trans (Fτ k hk)
          have O83_u68 : u68 83 1 = τ 83 1 := O83_u68_.trans O83_τ
          have O0_u68 : u68 0 7 = τ 0 7 := O0_u68_.trans O0_τ
          replace p69_x0 : r67.toInt = (-6 : Int) := p69_x0
          exact sf_ret ⟨Iu68, Fu68, O83_u68, O0_u68, ti_lo _, ti_hi _⟩
        have C54 : ¬ (0 : Int) = (0 : Int) := ti_ne c54
        exfalso; omega
      have C53 : ¬ (0 : Int) = (0 : Int) := ti_ne c53
      exfalso; omega
    have C52 : (9 : Int) < x2.toInt := ti_nle c52
    refine sf_ret ?_
    refine sf_in ?_
    rw [f_X3_firstOf_e]
    refine sf_ite (fun c70 => ?_) (fun c70 => ?_)
    · have C70 : (0 : Int) = (0 : Int) := ti_eq c70
      refine sf_ret ?_
      refine sf_ite (fun c71 => ?_) (fun c71 => ?_)
      · have C71 : (-6 : Int) = (0 : Int) := ti_eq c71
        exfalso; omega
      have C71 : ¬ (-6 : Int) = (0 : Int) := ti_ne c71
      rw [j_X3_looker_35_e]
      refine sf_ite (fun c72 => ?_) (fun c72 => ?_)
      · have C72 : (-6 : Int) = (0 : Int) := ti_eq c72
        exfalso; omega
      have C72 : ¬ (-6 : Int) = (0 : Int) := ti_ne c72
      refine sf_bnd (s_X3_refuse hF hI (by decide) (by decide)) (fun r73 u74 p75 => ?_)
      obtain ⟨Iu74, Fu74_, O83_u74_, O0_u74_, p75_1, p75_2, p75_x0⟩ := p75
      have Fu74 : ∀ k, 101 ≤ k → u74 k = τ k := fun k hk => (Fu74_ k hk).trans (Fτ k hk)
      have O83_u74 : u74 83 1 = τ 83 1 := O83_u74_.trans O83_τ
      have O0_u74 : u74 0 7 = τ 0 7 := O0_u74_.trans O0_τ
      replace p75_x0 : r73.toInt = (-6 : Int) := p75_x0
      exact sf_ret ⟨Iu74, Fu74, O83_u74, O0_u74, ti_lo _, ti_hi _⟩
    have C70 : ¬ (0 : Int) = (0 : Int) := ti_ne c70
    exfalso; omega
  have C51 : x2.toInt < (0 : Int) := ti_nle c51
  refine sf_ret ?_
  refine sf_in ?_
  rw [f_X3_firstOf_e]
  refine sf_ite (fun c76 => ?_) (fun c76 => ?_)
  · have C76 : (0 : Int) = (0 : Int) := ti_eq c76
    refine sf_ret ?_
    refine sf_ite (fun c77 => ?_) (fun c77 => ?_)
    · have C77 : (-4 : Int) = (0 : Int) := ti_eq c77
      exfalso; omega
    have C77 : ¬ (-4 : Int) = (0 : Int) := ti_ne c77
    rw [j_X3_looker_35_e]
    refine sf_ite (fun c78 => ?_) (fun c78 => ?_)
    · have C78 : (-4 : Int) = (0 : Int) := ti_eq c78
      exfalso; omega
    have C78 : ¬ (-4 : Int) = (0 : Int) := ti_ne c78
    refine sf_bnd (s_X3_refuse hF hI (by decide) (by decide)) (fun r79 u80 p81 => ?_)
    obtain ⟨Iu80, Fu80_, O83_u80_, O0_u80_, p81_1, p81_2, p81_x0⟩ := p81
    have Fu80 : ∀ k, 101 ≤ k → u80 k = τ k := fun k hk => (Fu80_ k hk).trans (Fτ k hk)
    have O83_u80 : u80 83 1 = τ 83 1 := O83_u80_.trans O83_τ
    have O0_u80 : u80 0 7 = τ 0 7 := O0_u80_.trans O0_τ
    replace p81_x0 : r79.toInt = (-4 : Int) := p81_x0
    exact sf_ret ⟨Iu80, Fu80, O83_u80, O0_u80, ti_lo _, ti_hi _⟩
  have C76 : ¬ (0 : Int) = (0 : Int) := ti_ne c76
  exfalso; omega
set_option maxHeartbeats 4000000 in
set_option maxRecDepth 100000 in
theorem s_X3_stands {F : Nat} (hF : 100000 ≤ F) {x1 : Int32} {x2 : Int32} {x3 : Int32} {x4 : Int32} {τ : Mem} (hI : wiX τ) : sf (f_X3_stands F x1 x2 x3 x4 τ) (fun r s => wiX s ∧ (∀ k, 101 ≤ k → s k = τ k) ∧ s 83 1 = τ 83 1 ∧ s 0 7 = τ 0 7 ∧ -2147483648 ≤ r.toInt ∧ r.toInt ≤ 2147483647) := by
  have Fτ : ∀ k, 101 ≤ k → τ k = τ k := fun _ _ => rfl
  have O83_τ : τ 83 1 = τ 83 1 := rfl
  have O0_τ : τ 0 7 = τ 0 7 := rfl
  rw [f_X3_stands_e]
  have b1 := ti_lo x1
  have b2 := ti_hi x1
  refine sf_bnd (s_X3_noLooker hF hI) (fun r3 u4 p5 => ?_)
  obtain ⟨e9, p5⟩ := p5
  have e9 := e9.symm
  subst e9
  rcases p5 with ⟨rfl, q6, q7⟩ | p5
  · have b8 := ti_lo x2
    have b9 := ti_hi x2
    refine sf_bnd (s_X3_noHour hF hI) (fun r10 u11 p12 => ?_)
    obtain ⟨e9, p12⟩ := p12
    have e9 := e9.symm
    subst e9
    rcases p12 with ⟨rfl, q13, q14⟩ | p12
    · have b15 := ti_lo x3
      have b16 := ti_hi x3
      refine sf_bnd (s_X3_noHour hF hI) (fun r17 u18 p19 => ?_)
      obtain ⟨e9, p19⟩ := p19
      have e9 := e9.symm
      subst e9
      rcases p19 with ⟨rfl, q20, q21⟩ | p19
      · refine sf_in ?_
        rw [f_X3_firstOf_e]
        refine sf_ite (fun c22 => ?_) (fun c22 => ?_)
        · have C22 : (0 : Int) = (0 : Int) := ti_eq c22
          refine sf_ret ?_
          refine sf_in ?_
          rw [f_X3_firstOf_e]
          refine sf_ite (fun c23 => ?_) (fun c23 => ?_)
          · have C23 : (0 : Int) = (0 : Int) := ti_eq c23
            refine sf_ret ?_
            refine sf_ite (fun c24 => ?_) (fun c24 => ?_)
            · have C24 : (0 : Int) = (0 : Int) := ti_eq c24
              have b25 := ti_lo x4
              have b26 := ti_hi x4
              refine sf_ite (fun c27 => ?_) (fun c27 => ?_)
              · have C27 : x4.toInt = (9 : Int) := ti_eq c27
                rw [j_X3_stands_41_e]
                refine sf_ite (fun c28 => ?_) (fun c28 => ?_)
                · have C28 : (0 : Int) = (0 : Int) := ti_eq c28
                  refine sf_ite (fun c29 => ?_) (fun c29 => ?_)
                  · have C29 : x2.toInt ≤ x3.toInt := ti_le c29
                    rw [j_X3_stands_55_e]
                    refine sf_ite (fun c30 => ?_) (fun c30 => ?_)
                    · have C30 : (0 : Int) = (0 : Int) := ti_eq c30
                      refine sf_chk (ti_in (by omega) (by omega)) ?_
                      have v31 : Int32.toNatClampNeg x1 = x1.toInt.toNat := rfl
                      refine sf_bnd (s_X2_keepRoster hF (wt_rH_4 wt_h1 (ti_in (by omega) (by omega))) hI (by omega) (by omega)) (fun r32 u33 p34 => ?_)
                      obtain ⟨Iu33, Fu33_, O83_u33_, O0_u33_, -⟩ := p34
                      have Fu33 : ∀ k, 101 ≤ k → u33 k = τ k := fun k hk => (Fu33_ k hk).trans (Fτ k hk)
                      have O83_u33 : u33 83 1 = τ 83 1 := O83_u33_.trans O83_τ
                      have O0_u33 : u33 0 7 = τ 0 7 := O0_u33_.trans O0_τ
                      refine sf_bnd (s_X0_post hF wt_h1 Iu33) (fun r35 u36 p37 => ?_)
                      obtain ⟨Iu36, Fu36_, O83_u36_, O0_u36_, p37_1, p37_2⟩ := p37
                      have Fu36 : ∀ k, 101 ≤ k → u36 k = τ k := fun k hk => (Fu36_ k hk).trans (Fu33 k hk)
                      have O83_u36 : u36 83 1 = τ 83 1 := O83_u36_.trans O83_u33
                      have O0_u36 : u36 0 7 = τ 0 7 := O0_u36_.trans O0_u33
                      have hb_r35 : r35 = 0 ∨ r35 = 1 := wi_bool p37_1 p37_2
                      refine sf_bnd (s_X0_hoursOf hF wt_h1 Iu36 (by omega) (by omega)) (fun r38 u39 p40 => ?_)
                      obtain ⟨e9, p40_1, p40_2⟩ := p40
                      have e9 := e9.symm
                      subst e9
                      have b41 := ti_lo r38
                      have b42 := ti_hi r38
                      exact sf_ret ⟨Iu36, Fu36, O83_u36, O0_u36, ti_lo _, ti_hi _⟩
                    have C30 : ¬ (0 : Int) = (0 : Int) := ti_ne c30
                    exfalso; omega
                  have C29 : x3.toInt < x2.toInt := ti_nle c29
                  rw [j_X3_stands_55_e]
                  refine sf_ite (fun c43 => ?_) (fun c43 => ?_)
                  · have C43 : (-3 : Int) = (0 : Int) := ti_eq c43
                    exfalso; omega
                  have C43 : ¬ (-3 : Int) = (0 : Int) := ti_ne c43
                  refine sf_bnd (s_X3_refuse hF hI (by decide) (by decide)) (fun r44 u45 p46 => ?_)
                  obtain ⟨Iu45, Fu45_, O83_u45_, O0_u45_, p46_1, p46_2, p46_x0⟩ := p46
                  have Fu45 : ∀ k, 101 ≤ k → u45 k = τ k := fun k hk => (Fu45_ k hk).trans (Fτ k hk)
                  have O83_u45 : u45 83 1 = τ 83 1 := O83_u45_.trans O83_τ
                  have O0_u45 : u45 0 7 = τ 0 7 := O0_u45_.trans O0_τ
                  replace p46_x0 : r44.toInt = (-3 : Int) := p46_x0
                  exact sf_ret ⟨Iu45, Fu45, O83_u45, O0_u45, ti_lo _, ti_hi _⟩
                have C28 : ¬ (0 : Int) = (0 : Int) := ti_ne c28
                exfalso; omega
              have C27 : ¬ x4.toInt = (9 : Int) := ti_ne c27
              refine sf_bnd (s_X3_noPane hF hI) (fun r47 u48 p49 => ?_)
              obtain ⟨e9, p49⟩ := p49
              have e9 := e9.symm
              subst e9
              rcases p49 with ⟨rfl, q50, q51⟩ | p49
              · rw [j_X3_stands_41_e]
                refine sf_ite (fun c52 => ?_) (fun c52 => ?_)
                · have C52 : (0 : Int) = (0 : Int) := ti_eq c52
                  refine sf_ite (fun c53 => ?_) (fun c53 => ?_)
                  · have C53 : x2.toInt ≤ x3.toInt := ti_le c53
                    rw [j_X3_stands_55_e]
                    refine sf_ite (fun c54 => ?_) (fun c54 => ?_)
                    · have C54 : (0 : Int) = (0 : Int) := ti_eq c54
                      refine sf_chk (ti_in (by omega) (by omega)) ?_
                      have v55 : Int32.toNatClampNeg x1 = x1.toInt.toNat := rfl
                      refine sf_bnd (s_X2_keepRoster hF (wt_rH_4 wt_h1 (ti_in (by omega) (by omega))) hI (by omega) (by omega)) (fun r56 u57 p58 => ?_)
                      obtain ⟨Iu57, Fu57_, O83_u57_, O0_u57_, -⟩ := p58
                      have Fu57 : ∀ k, 101 ≤ k → u57 k = τ k := fun k hk => (Fu57_ k hk).trans (Fτ k hk)
                      have O83_u57 : u57 83 1 = τ 83 1 := O83_u57_.trans O83_τ
                      have O0_u57 : u57 0 7 = τ 0 7 := O0_u57_.trans O0_τ
                      refine sf_bnd (s_X0_post hF wt_h1 Iu57) (fun r59 u60 p61 => ?_)
                      obtain ⟨Iu60, Fu60_, O83_u60_, O0_u60_, p61_1, p61_2⟩ := p61
                      have Fu60 : ∀ k, 101 ≤ k → u60 k = τ k := fun k hk => (Fu60_ k hk).trans (Fu57 k hk)
                      have O83_u60 : u60 83 1 = τ 83 1 := O83_u60_.trans O83_u57
                      have O0_u60 : u60 0 7 = τ 0 7 := O0_u60_.trans O0_u57
                      have hb_r59 : r59 = 0 ∨ r59 = 1 := wi_bool p61_1 p61_2
                      refine sf_bnd (s_X0_hoursOf hF wt_h1 Iu60 (by omega) (by omega)) (fun r62 u63 p64 => ?_)
                      obtain ⟨e9, p64_1, p64_2⟩ := p64
                      have e9 := e9.symm
                      subst e9
                      have b65 := ti_lo r62
                      have b66 := ti_hi r62
                      exact sf_ret ⟨Iu60, Fu60, O83_u60, O0_u60, ti_lo _, ti_hi _⟩
                    have C54 : ¬ (0 : Int) = (0 : Int) := ti_ne c54
                    exfalso; omega
                  have C53 : x3.toInt < x2.toInt := ti_nle c53
                  rw [j_X3_stands_55_e]
                  refine sf_ite (fun c67 => ?_) (fun c67 => ?_)
                  · have C67 : (-3 : Int) = (0 : Int) := ti_eq c67
                    exfalso; omega
                  have C67 : ¬ (-3 : Int) = (0 : Int) := ti_ne c67
                  refine sf_bnd (s_X3_refuse hF hI (by decide) (by decide)) (fun r68 u69 p70 => ?_)
                  obtain ⟨Iu69, Fu69_, O83_u69_, O0_u69_, p70_1, p70_2, p70_x0⟩ := p70
                  have Fu69 : ∀ k, 101 ≤ k → u69 k = τ k := fun k hk => (Fu69_ k hk).trans (Fτ k hk)
                  have O83_u69 : u69 83 1 = τ 83 1 := O83_u69_.trans O83_τ
                  have O0_u69 : u69 0 7 = τ 0 7 := O0_u69_.trans O0_τ
                  replace p70_x0 : r68.toInt = (-3 : Int) := p70_x0
                  exact sf_ret ⟨Iu69, Fu69, O83_u69, O0_u69, ti_lo _, ti_hi _⟩
                have C52 : ¬ (0 : Int) = (0 : Int) := ti_ne c52
                exfalso; omega
              obtain rfl := p49
              rw [j_X3_stands_41_e]
              refine sf_ite (fun c71 => ?_) (fun c71 => ?_)
              · have C71 : (-1 : Int) = (0 : Int) := ti_eq c71
                exfalso; omega
              have C71 : ¬ (-1 : Int) = (0 : Int) := ti_ne c71
              rw [j_X3_stands_55_e]
              refine sf_ite (fun c72 => ?_) (fun c72 => ?_)
              · have C72 : (-1 : Int) = (0 : Int) := ti_eq c72
                exfalso; omega
              have C72 : ¬ (-1 : Int) = (0 : Int) := ti_ne c72
              refine sf_bnd (s_X3_refuse hF hI (by decide) (by decide)) (fun r73 u74 p75 => ?_)
              obtain ⟨Iu74, Fu74_, O83_u74_, O0_u74_, p75_1, p75_2, p75_x0⟩ := p75
              have Fu74 : ∀ k, 101 ≤ k → u74 k = τ k := fun k hk => (Fu74_ k hk).trans (Fτ k hk)
              have O83_u74 : u74 83 1 = τ 83 1 := O83_u74_.trans O83_τ
              have O0_u74 : u74 0 7 = τ 0 7 := O0_u74_.trans O0_τ
              replace p75_x0 : r73.toInt = (-1 : Int) := p75_x0
              exact sf_ret ⟨Iu74, Fu74, O83_u74, O0_u74, ti_lo _, ti_hi _⟩
            have C24 : ¬ (0 : Int) = (0 : Int) := ti_ne c24
            exfalso; omega
          have C23 : ¬ (0 : Int) = (0 : Int) := ti_ne c23
          exfalso; omega
        have C22 : ¬ (0 : Int) = (0 : Int) := ti_ne c22
        exfalso; omega
      obtain ⟨rfl, q76⟩ := p19
      refine sf_in ?_
      rw [f_X3_firstOf_e]
      refine sf_ite (fun c77 => ?_) (fun c77 => ?_)
      · have C77 : (0 : Int) = (0 : Int) := ti_eq c77
        refine sf_ret ?_
        refine sf_in ?_
        rw [f_X3_firstOf_e]
        refine sf_ite (fun c78 => ?_) (fun c78 => ?_)
        · have C78 : (0 : Int) = (0 : Int) := ti_eq c78
          refine sf_ret ?_
          refine sf_ite (fun c79 => ?_) (fun c79 => ?_)
          · have C79 : (-1 : Int) = (0 : Int) := ti_eq c79
            exfalso; omega
          have C79 : ¬ (-1 : Int) = (0 : Int) := ti_ne c79
          rw [j_X3_stands_41_e]
          refine sf_ite (fun c80 => ?_) (fun c80 => ?_)
          · have C80 : (-1 : Int) = (0 : Int) := ti_eq c80
            exfalso; omega
          have C80 : ¬ (-1 : Int) = (0 : Int) := ti_ne c80
          rw [j_X3_stands_55_e]
          refine sf_ite (fun c81 => ?_) (fun c81 => ?_)
          · have C81 : (-1 : Int) = (0 : Int) := ti_eq c81
            exfalso; omega
          have C81 : ¬ (-1 : Int) = (0 : Int) := ti_ne c81
          refine sf_bnd (s_X3_refuse hF hI (by decide) (by decide)) (fun r82 u83 p84 => ?_)
          obtain ⟨Iu83, Fu83_, O83_u83_, O0_u83_, p84_1, p84_2, p84_x0⟩ := p84
          have Fu83 : ∀ k, 101 ≤ k → u83 k = τ k := fun k hk => (Fu83_ k hk).trans (Fτ k hk)
          have O83_u83 : u83 83 1 = τ 83 1 := O83_u83_.trans O83_τ
          have O0_u83 : u83 0 7 = τ 0 7 := O0_u83_.trans O0_τ
          replace p84_x0 : r82.toInt = (-1 : Int) := p84_x0
          exact sf_ret ⟨Iu83, Fu83, O83_u83, O0_u83, ti_lo _, ti_hi _⟩
        have C78 : ¬ (0 : Int) = (0 : Int) := ti_ne c78
        exfalso; omega
      have C77 : ¬ (0 : Int) = (0 : Int) := ti_ne c77
      exfalso; omega
    obtain ⟨rfl, q85⟩ := p12
    have b86 := ti_lo x3
    have b87 := ti_hi x3
    refine sf_bnd (s_X3_noHour hF hI) (fun r88 u89 p90 => ?_)
    obtain ⟨e9, p90⟩ := p90
    have e9 := e9.symm
    subst e9
    rcases p90 with ⟨rfl, q91, q92⟩ | p90
    · refine sf_in ?_
      rw [f_X3_firstOf_e]
      refine sf_ite (fun c93 => ?_) (fun c93 => ?_)
      · have C93 : (-1 : Int) = (0 : Int) := ti_eq c93
        exfalso; omega
      have C93 : ¬ (-1 : Int) = (0 : Int) := ti_ne c93
      refine sf_ret ?_
      refine sf_in ?_
      rw [f_X3_firstOf_e]
      refine sf_ite (fun c94 => ?_) (fun c94 => ?_)
      · have C94 : (0 : Int) = (0 : Int) := ti_eq c94
        refine sf_ret ?_
        refine sf_ite (fun c95 => ?_) (fun c95 => ?_)
        · have C95 : (-1 : Int) = (0 : Int) := ti_eq c95
          exfalso; omega
        have C95 : ¬ (-1 : Int) = (0 : Int) := ti_ne c95
        rw [j_X3_stands_41_e]
        refine sf_ite (fun c96 => ?_) (fun c96 => ?_)
        · have C96 : (-1 : Int) = (0 : Int) := ti_eq c96
          exfalso; omega
        have C96 : ¬ (-1 : Int) = (0 : Int) := ti_ne c96
        rw [j_X3_stands_55_e]
        refine sf_ite (fun c97 => ?_) (fun c97 => ?_)
        · have C97 : (-1 : Int) = (0 : Int) := ti_eq c97
          exfalso; omega
        have C97 : ¬ (-1 : Int) = (0 : Int) := ti_ne c97
        refine sf_bnd (s_X3_refuse hF hI (by decide) (by decide)) (fun r98 u99 p100 => ?_)
        obtain ⟨Iu99, Fu99_, O83_u99_, O0_u99_, p100_1, p100_2, p100_x0⟩ := p100
        have Fu99 : ∀ k, 101 ≤ k → u99 k = τ k := fun k hk => (Fu99_ k hk).trans (Fτ k hk)
        have O83_u99 : u99 83 1 = τ 83 1 := O83_u99_.trans O83_τ
        have O0_u99 : u99 0 7 = τ 0 7 := O0_u99_.trans O0_τ
        replace p100_x0 : r98.toInt = (-1 : Int) := p100_x0
        exact sf_ret ⟨Iu99, Fu99, O83_u99, O0_u99, ti_lo _, ti_hi _⟩
      have C94 : ¬ (0 : Int) = (0 : Int) := ti_ne c94
      exfalso; omega
    obtain ⟨rfl, q101⟩ := p90
    refine sf_in ?_
    rw [f_X3_firstOf_e]
    refine sf_ite (fun c102 => ?_) (fun c102 => ?_)
    · have C102 : (-1 : Int) = (0 : Int) := ti_eq c102
      exfalso; omega
    have C102 : ¬ (-1 : Int) = (0 : Int) := ti_ne c102
    refine sf_ret ?_
    refine sf_in ?_
    rw [f_X3_firstOf_e]
    refine sf_ite (fun c103 => ?_) (fun c103 => ?_)
    · have C103 : (0 : Int) = (0 : Int) := ti_eq c103
      refine sf_ret ?_
      refine sf_ite (fun c104 => ?_) (fun c104 => ?_)
      · have C104 : (-1 : Int) = (0 : Int) := ti_eq c104
        exfalso; omega
      have C104 : ¬ (-1 : Int) = (0 : Int) := ti_ne c104
      rw [j_X3_stands_41_e]
      refine sf_ite (fun c105 => ?_) (fun c105 => ?_)
      · have C105 : (-1 : Int) = (0 : Int) := ti_eq c105
        exfalso; omega
      have C105 : ¬ (-1 : Int) = (0 : Int) := ti_ne c105
      rw [j_X3_stands_55_e]
      refine sf_ite (fun c106 => ?_) (fun c106 => ?_)
      · have C106 : (-1 : Int) = (0 : Int) := ti_eq c106
        exfalso; omega
      have C106 : ¬ (-1 : Int) = (0 : Int) := ti_ne c106
      refine sf_bnd (s_X3_refuse hF hI (by decide) (by decide)) (fun r107 u108 p109 => ?_)
      obtain ⟨Iu108, Fu108_, O83_u108_, O0_u108_, p109_1, p109_2, p109_x0⟩ := p109
      have Fu108 : ∀ k, 101 ≤ k → u108 k = τ k := fun k hk => (Fu108_ k hk).trans (Fτ k hk)
      have O83_u108 : u108 83 1 = τ 83 1 := O83_u108_.trans O83_τ
      have O0_u108 : u108 0 7 = τ 0 7 := O0_u108_.trans O0_τ
      replace p109_x0 : r107.toInt = (-1 : Int) := p109_x0
      exact sf_ret ⟨Iu108, Fu108, O83_u108, O0_u108, ti_lo _, ti_hi _⟩
    have C103 : ¬ (0 : Int) = (0 : Int) := ti_ne c103
    exfalso; omega
  obtain rfl := p5
  have b110 := ti_lo x2
  have b111 := ti_hi x2
  refine sf_bnd (s_X3_noHour hF hI) (fun r112 u113 p114 => ?_)
  obtain ⟨e9, p114⟩ := p114
  have e9 := e9.symm
  subst e9
  rcases p114 with ⟨rfl, q115, q116⟩ | p114
  · have b117 := ti_lo x3
    have b118 := ti_hi x3
    refine sf_bnd (s_X3_noHour hF hI) (fun r119 u120 p121 => ?_)
    obtain ⟨e9, p121⟩ := p121
    have e9 := e9.symm
    subst e9
    rcases p121 with ⟨rfl, q122, q123⟩ | p121
    · refine sf_in ?_
      rw [f_X3_firstOf_e]
      refine sf_ite (fun c124 => ?_) (fun c124 => ?_)
      · have C124 : (0 : Int) = (0 : Int) := ti_eq c124
        refine sf_ret ?_
        refine sf_in ?_
        rw [f_X3_firstOf_e]
        refine sf_ite (fun c125 => ?_) (fun c125 => ?_)
        · have C125 : (-1 : Int) = (0 : Int) := ti_eq c125
          exfalso; omega
        have C125 : ¬ (-1 : Int) = (0 : Int) := ti_ne c125
        refine sf_ret ?_
        refine sf_ite (fun c126 => ?_) (fun c126 => ?_)
        · have C126 : (-1 : Int) = (0 : Int) := ti_eq c126
          exfalso; omega
        have C126 : ¬ (-1 : Int) = (0 : Int) := ti_ne c126
        rw [j_X3_stands_41_e]
        refine sf_ite (fun c127 => ?_) (fun c127 => ?_)
        · have C127 : (-1 : Int) = (0 : Int) := ti_eq c127
          exfalso; omega
        have C127 : ¬ (-1 : Int) = (0 : Int) := ti_ne c127
        rw [j_X3_stands_55_e]
        refine sf_ite (fun c128 => ?_) (fun c128 => ?_)
        · have C128 : (-1 : Int) = (0 : Int) := ti_eq c128
          exfalso; omega
        have C128 : ¬ (-1 : Int) = (0 : Int) := ti_ne c128
        refine sf_bnd (s_X3_refuse hF hI (by decide) (by decide)) (fun r129 u130 p131 => ?_)
        obtain ⟨Iu130, Fu130_, O83_u130_, O0_u130_, p131_1, p131_2, p131_x0⟩ := p131
        have Fu130 : ∀ k, 101 ≤ k → u130 k = τ k := fun k hk => (Fu130_ k hk).trans (Fτ k hk)
        have O83_u130 : u130 83 1 = τ 83 1 := O83_u130_.trans O83_τ
        have O0_u130 : u130 0 7 = τ 0 7 := O0_u130_.trans O0_τ
        replace p131_x0 : r129.toInt = (-1 : Int) := p131_x0
        exact sf_ret ⟨Iu130, Fu130, O83_u130, O0_u130, ti_lo _, ti_hi _⟩
      have C124 : ¬ (0 : Int) = (0 : Int) := ti_ne c124
      exfalso; omega
    obtain ⟨rfl, q132⟩ := p121
    refine sf_in ?_
    rw [f_X3_firstOf_e]
    refine sf_ite (fun c133 => ?_) (fun c133 => ?_)
    · have C133 : (0 : Int) = (0 : Int) := ti_eq c133
      refine sf_ret ?_
      refine sf_in ?_
      rw [f_X3_firstOf_e]
      refine sf_ite (fun c134 => ?_) (fun c134 => ?_)
      · have C134 : (-1 : Int) = (0 : Int) := ti_eq c134
        exfalso; omega
      have C134 : ¬ (-1 : Int) = (0 : Int) := ti_ne c134
      refine sf_ret ?_
      refine sf_ite (fun c135 => ?_) (fun c135 => ?_)
      · have C135 : (-1 : Int) = (0 : Int) := ti_eq c135
        exfalso; omega
      have C135 : ¬ (-1 : Int) = (0 : Int) := ti_ne c135
      rw [j_X3_stands_41_e]
      refine sf_ite (fun c136 => ?_) (fun c136 => ?_)
      · have C136 : (-1 : Int) = (0 : Int) := ti_eq c136
        exfalso; omega
      have C136 : ¬ (-1 : Int) = (0 : Int) := ti_ne c136
      rw [j_X3_stands_55_e]
      refine sf_ite (fun c137 => ?_) (fun c137 => ?_)
      · have C137 : (-1 : Int) = (0 : Int) := ti_eq c137
        exfalso; omega
      have C137 : ¬ (-1 : Int) = (0 : Int) := ti_ne c137
      refine sf_bnd (s_X3_refuse hF hI (by decide) (by decide)) (fun r138 u139 p140 => ?_)
      obtain ⟨Iu139, Fu139_, O83_u139_, O0_u139_, p140_1, p140_2, p140_x0⟩ := p140
      have Fu139 : ∀ k, 101 ≤ k → u139 k = τ k := fun k hk => (Fu139_ k hk).trans (Fτ k hk)
      have O83_u139 : u139 83 1 = τ 83 1 := O83_u139_.trans O83_τ
      have O0_u139 : u139 0 7 = τ 0 7 := O0_u139_.trans O0_τ
      replace p140_x0 : r138.toInt = (-1 : Int) := p140_x0
      exact sf_ret ⟨Iu139, Fu139, O83_u139, O0_u139, ti_lo _, ti_hi _⟩
    have C133 : ¬ (0 : Int) = (0 : Int) := ti_ne c133
    exfalso; omega
  obtain ⟨rfl, q141⟩ := p114
  have b142 := ti_lo x3
  have b143 := ti_hi x3
  refine sf_bnd (s_X3_noHour hF hI) (fun r144 u145 p146 => ?_)
  obtain ⟨e9, p146⟩ := p146
  have e9 := e9.symm
  subst e9
  rcases p146 with ⟨rfl, q147, q148⟩ | p146
  · refine sf_in ?_
    rw [f_X3_firstOf_e]
    refine sf_ite (fun c149 => ?_) (fun c149 => ?_)
    · have C149 : (-1 : Int) = (0 : Int) := ti_eq c149
      exfalso; omega
    have C149 : ¬ (-1 : Int) = (0 : Int) := ti_ne c149
    refine sf_ret ?_
    refine sf_in ?_
    rw [f_X3_firstOf_e]
    refine sf_ite (fun c150 => ?_) (fun c150 => ?_)
    · have C150 : (-1 : Int) = (0 : Int) := ti_eq c150
      exfalso; omega
    have C150 : ¬ (-1 : Int) = (0 : Int) := ti_ne c150
    refine sf_ret ?_
    refine sf_ite (fun c151 => ?_) (fun c151 => ?_)
    · have C151 : (-1 : Int) = (0 : Int) := ti_eq c151
      exfalso; omega
    have C151 : ¬ (-1 : Int) = (0 : Int) := ti_ne c151
    rw [j_X3_stands_41_e]
    refine sf_ite (fun c152 => ?_) (fun c152 => ?_)
    · have C152 : (-1 : Int) = (0 : Int) := ti_eq c152
      exfalso; omega
    have C152 : ¬ (-1 : Int) = (0 : Int) := ti_ne c152
    rw [j_X3_stands_55_e]
    refine sf_ite (fun c153 => ?_) (fun c153 => ?_)
    · have C153 : (-1 : Int) = (0 : Int) := ti_eq c153
      exfalso; omega
    have C153 : ¬ (-1 : Int) = (0 : Int) := ti_ne c153
    refine sf_bnd (s_X3_refuse hF hI (by decide) (by decide)) (fun r154 u155 p156 => ?_)
    obtain ⟨Iu155, Fu155_, O83_u155_, O0_u155_, p156_1, p156_2, p156_x0⟩ := p156
    have Fu155 : ∀ k, 101 ≤ k → u155 k = τ k := fun k hk => (Fu155_ k hk).trans (Fτ k hk)
    have O83_u155 : u155 83 1 = τ 83 1 := O83_u155_.trans O83_τ
    have O0_u155 : u155 0 7 = τ 0 7 := O0_u155_.trans O0_τ
    replace p156_x0 : r154.toInt = (-1 : Int) := p156_x0
    exact sf_ret ⟨Iu155, Fu155, O83_u155, O0_u155, ti_lo _, ti_hi _⟩
  obtain ⟨rfl, q157⟩ := p146
  refine sf_in ?_
  rw [f_X3_firstOf_e]
  refine sf_ite (fun c158 => ?_) (fun c158 => ?_)
  · have C158 : (-1 : Int) = (0 : Int) := ti_eq c158
    exfalso; omega
  have C158 : ¬ (-1 : Int) = (0 : Int) := ti_ne c158
  refine sf_ret ?_
  refine sf_in ?_
  rw [f_X3_firstOf_e]
  refine sf_ite (fun c159 => ?_) (fun c159 => ?_)
  · have C159 : (-1 : Int) = (0 : Int) := ti_eq c159
    exfalso; omega
  have C159 : ¬ (-1 : Int) = (0 : Int) := ti_ne c159
  refine sf_ret ?_
  refine sf_ite (fun c160 => ?_) (fun c160 => ?_)
  · have C160 : (-1 : Int) = (0 : Int) := ti_eq c160
    exfalso; omega
  have C160 : ¬ (-1 : Int) = (0 : Int) := ti_ne c160
  rw [j_X3_stands_41_e]
  refine sf_ite (fun c161 => ?_) (fun c161 => ?_)
  · have C161 : (-1 : Int) = (0 : Int) := ti_eq c161
    exfalso; omega
  have C161 : ¬ (-1 : Int) = (0 : Int) := ti_ne c161
  rw [j_X3_stands_55_e]
  refine sf_ite (fun c162 => ?_) (fun c162 => ?_)
  · have C162 : (-1 : Int) = (0 : Int) := ti_eq c162
    exfalso; omega
  have C162 : ¬ (-1 : Int) = (0 : Int) := ti_ne c162
  refine sf_bnd (s_X3_refuse hF hI (by decide) (by decide)) (fun r163 u164 p165 => ?_)
  obtain ⟨Iu164, Fu164_, O83_u164_, O0_u164_, p165_1, p165_2, p165_x0⟩ := p165
  have Fu164 : ∀ k, 101 ≤ k → u164 k = τ k := fun k hk => (Fu164_ k hk).trans (Fτ k hk)
  have O83_u164 : u164 83 1 = τ 83 1 := O83_u164_.trans O83_τ
  have O0_u164 : u164 0 7 = τ 0 7 := O0_u164_.trans O0_τ
  replace p165_x0 : r163.toInt = (-1 : Int) := p165_x0
  exact sf_ret ⟨Iu164, Fu164, O83_u164, O0_u164, ti_lo _, ti_hi _⟩
