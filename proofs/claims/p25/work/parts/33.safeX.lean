set_option maxHeartbeats 4000000 in
set_option maxRecDepth 100000 in
theorem sl_X3_bothContent_2 {F : Nat} (hF : 100000 ≤ F) {x1 : Int32} {x2 : Int32} {τ : Mem} (hI : wiX τ) (x1_1 : 0 ≤ x1.toInt) (x1_2 : x1.toInt ≤ 5) (x2_1 : 0 ≤ x2.toInt) (x2_2 : x2.toInt ≤ 5) : ∀ (N : Nat) (x3 : Int32) , 6 < x3.toInt + N → 0 ≤ x3.toInt → x3.toInt ≤ 6 → sf (lp_X3_bothContent_2 F x1 x2 N x3 τ) (fun r s => s = τ ∧ 0 ≤ r.toInt ∧ r.toInt ≤ 1) := by
  intro N
  induction N with
  | zero => intro x3 hN x3_1 x3_2; exfalso; omega
  | succ N ih =>
    intro x3 hN x3_1 x3_2
    rw [lp_X3_bothContent_2_s]
    have m1 := wx_X0_0 hI wt_h1
    refine sf_ite (fun c2 => ?_) (fun c2 => ?_)
    · have C2 : (τ 1 0).toInt ≤ x3.toInt := ti_le c2
      exact sf_ret ⟨rfl, by decide, by decide⟩
    have C2 : x3.toInt < (τ 1 0).toInt := ti_nle c2
    refine sf_chk (ti_in (by omega) (by omega)) ?_
    have v3 : Int32.toNatClampNeg x3 = x3.toInt.toNat := rfl
    refine sf_chk (ti_in (by omega) (by omega)) ?_
    have v4 : Int32.toNatClampNeg x2 = x2.toInt.toNat := rfl
    refine sf_chk (ti_in (by omega) (by omega)) ?_
    have v5 : Int32.toNatClampNeg x1 = x1.toInt.toNat := rfl
    have b6 := ti_lo (τ (88 + (Int32.toNatClampNeg x1)) (Int32.toNatClampNeg x2))
    have b7 := ti_hi (τ (88 + (Int32.toNatClampNeg x1)) (Int32.toNatClampNeg x2))
    have b8 := ti_lo (τ (88 + (Int32.toNatClampNeg x3)) (Int32.toNatClampNeg x2))
    have b9 := ti_hi (τ (88 + (Int32.toNatClampNeg x3)) (Int32.toNatClampNeg x2))
    refine sf_ite (fun c10 => ?_) (fun c10 => ?_)
    · have C10 : (τ (88 + (Int32.toNatClampNeg x1)) (Int32.toNatClampNeg x2)).toInt < (τ (88 + (Int32.toNatClampNeg x3)) (Int32.toNatClampNeg x2)).toInt := ti_lt c10
      rw [j_X3_bothContent_51_e]
      exact sf_ret ⟨rfl, by decide, by decide⟩
    have C10 : (τ (88 + (Int32.toNatClampNeg x3)) (Int32.toNatClampNeg x2)).toInt ≤ (τ (88 + (Int32.toNatClampNeg x1)) (Int32.toNatClampNeg x2)).toInt := ti_nlt c10
    have b11 := ti_lo (τ (95 + (Int32.toNatClampNeg x1)) (Int32.toNatClampNeg x3))
    have b12 := ti_hi (τ (95 + (Int32.toNatClampNeg x1)) (Int32.toNatClampNeg x3))
    have b13 := ti_lo (τ (95 + (Int32.toNatClampNeg x1)) (Int32.toNatClampNeg x2))
    have b14 := ti_hi (τ (95 + (Int32.toNatClampNeg x1)) (Int32.toNatClampNeg x2))
    refine sf_ite (fun c15 => ?_) (fun c15 => ?_)
    · have C15 : (τ (95 + (Int32.toNatClampNeg x1)) (Int32.toNatClampNeg x3)).toInt ≤ (τ (95 + (Int32.toNatClampNeg x1)) (Int32.toNatClampNeg x2)).toInt := ti_le c15
      have t16 : (x3 + (1 : Int32)).toInt = x3.toInt + (1 : Int) := ti_add (show -2147483648 ≤ x3.toInt + (1 : Int) by omega) (show x3.toInt + (1 : Int) ≤ 2147483647 by omega)
      exact ih _ (by omega) (by omega) (by omega)
    have C15 : (τ (95 + (Int32.toNatClampNeg x1)) (Int32.toNatClampNeg x2)).toInt < (τ (95 + (Int32.toNatClampNeg x1)) (Int32.toNatClampNeg x3)).toInt := ti_nle c15
    rw [j_X3_bothContent_51_e]
    exact sf_ret ⟨rfl, by decide, by decide⟩
set_option maxHeartbeats 4000000 in
set_option maxRecDepth 100000 in
theorem s_X3_bothContent {F : Nat} (hF : 100000 ≤ F) {x1 : Int32} {x2 : Int32} {τ : Mem} (hI : wiX τ) (x1_1 : 0 ≤ x1.toInt) (x1_2 : x1.toInt ≤ 5) (x2_1 : 0 ≤ x2.toInt) (x2_2 : x2.toInt ≤ 5) : sf (f_X3_bothContent F x1 x2 τ) (fun r s => s = τ ∧ 0 ≤ r.toInt ∧ r.toInt ≤ 1) := by
  rw [f_X3_bothContent_e]
  have l_0 : (0 : Int32).toInt = 0 := rfl
  exact sl_X3_bothContent_2 hF hI (by omega) (by omega) (by omega) (by omega) _ _  (by omega) (by decide) (by decide)
set_option maxHeartbeats 4000000 in
set_option maxRecDepth 100000 in
theorem sl_X3_two_66 {F : Nat} (hF : 100000 ≤ F) {x6 : Int32} {k51 : Int32 → Mem → Option (Int32 × Mem)} {τ : Mem} (x6_1 : 0 ≤ x6.toInt) (x6_2 : x6.toInt ≤ 5) {N51 : Nat} (hM51 : 6 < x6.toInt + (N51 + 1)) (hk51 : ∀ (x6 : Int32) (σ : Mem), wiX σ → (∀ k, 101 ≤ k → σ k = τ k) → σ 83 1 = τ 83 1 → σ 0 7 = τ 0 7 → 6 < x6.toInt + N51 → 0 ≤ x6.toInt → x6.toInt ≤ 6 → sf (k51 x6 σ) (fun r s => wiX s ∧ (∀ k, 101 ≤ k → s k = τ k) ∧ s 83 1 = τ 83 1 ∧ s 0 7 = τ 0 7 ∧ -2147483648 ≤ r.toInt ∧ r.toInt ≤ 2147483647)) : ∀ (N : Nat) (x7 : Int32) (σ : Mem), wiX σ → (∀ k, 101 ≤ k → σ k = τ k) → σ 83 1 = τ 83 1 → σ 0 7 = τ 0 7 → 6 < x7.toInt + N → 0 ≤ x7.toInt → x7.toInt ≤ 6 → sf (lp_X3_two_66 F k51 x6 N x7 σ) (fun r s => wiX s ∧ (∀ k, 101 ≤ k → s k = τ k) ∧ s 83 1 = τ 83 1 ∧ s 0 7 = τ 0 7 ∧ -2147483648 ≤ r.toInt ∧ r.toInt ≤ 2147483647) := by
  intro N
  induction N with
  | zero => intro x7 σ hI Fσ O83_σ O0_σ hN x7_1 x7_2; exfalso; omega
  | succ N ih =>
    intro x7 σ hI Fσ O83_σ O0_σ hN x7_1 x7_2
    rw [lp_X3_two_66_s]
    have m1 := wx_X0_0 hI wt_h1
    refine sf_ite (fun c2 => ?_) (fun c2 => ?_)
    · have C2 : (σ 1 0).toInt ≤ x7.toInt := ti_le c2
      have t3 : (x6 + (1 : Int32)).toInt = x6.toInt + (1 : Int) := ti_add (show -2147483648 ≤ x6.toInt + (1 : Int) by omega) (show x6.toInt + (1 : Int) ≤ 2147483647 by omega)
      exact hk51 _ _ hI Fσ O83_σ O0_σ (by omega) (by omega) (by omega)
    have C2 : x7.toInt < (σ 1 0).toInt := ti_nle c2
    refine sf_bnd (s_X3_bothContent hF hI (by omega) (by omega) (by omega) (by omega)) (fun r4 u5 p6 => ?_)
    obtain ⟨e9, p6_1, p6_2⟩ := p6
    have e9 := e9.symm
    subst e9
    have hb_r4 : r4 = 0 ∨ r4 = 1 := wi_bool p6_1 p6_2
    refine sf_ite (fun c7 => ?_) (fun c7 => ?_)
    · have C7 : r4.toInt = (0 : Int) := ti_eq c7
      have t8 : (x7 + (1 : Int32)).toInt = x7.toInt + (1 : Int) := ti_add (show -2147483648 ≤ x7.toInt + (1 : Int) by omega) (show x7.toInt + (1 : Int) ≤ 2147483647 by omega)
      exact ih _ _ hI Fσ O83_σ O0_σ (by omega) (by omega) (by omega)
    have C7 : ¬ r4.toInt = (0 : Int) := ti_ne c7
    have t9 : ((10 : Int32) * x6).toInt = (10 : Int) * x6.toInt := ti_mul (show -2147483648 ≤ (10 : Int) * x6.toInt by omega) (show (10 : Int) * x6.toInt ≤ 2147483647 by omega)
    have t10 : (((10 : Int32) * x6) + x7).toInt = ((10 : Int32) * x6).toInt + x7.toInt := ti_add (show -2147483648 ≤ ((10 : Int32) * x6).toInt + x7.toInt by omega) (show ((10 : Int32) * x6).toInt + x7.toInt ≤ 2147483647 by omega)
    exact sf_ret ⟨hI, Fσ, O83_σ, O0_σ, ti_lo _, ti_hi _⟩
set_option maxHeartbeats 4000000 in
set_option maxRecDepth 100000 in
theorem sl_X3_two_51 {F : Nat} (hF : 100000 ≤ F) {τ : Mem} : ∀ (N : Nat) (x6 : Int32) (σ : Mem), wiX σ → (∀ k, 101 ≤ k → σ k = τ k) → σ 83 1 = τ 83 1 → σ 0 7 = τ 0 7 → 6 < x6.toInt + N → 0 ≤ x6.toInt → x6.toInt ≤ 6 → sf (lp_X3_two_51 F N x6 σ) (fun r s => wiX s ∧ (∀ k, 101 ≤ k → s k = τ k) ∧ s 83 1 = τ 83 1 ∧ s 0 7 = τ 0 7 ∧ -2147483648 ≤ r.toInt ∧ r.toInt ≤ 2147483647) := by
  intro N
  induction N with
  | zero => intro x6 σ hI Fσ O83_σ O0_σ hN x6_1 x6_2; exfalso; omega
  | succ N ih =>
    intro x6 σ hI Fσ O83_σ O0_σ hN x6_1 x6_2
    rw [lp_X3_two_51_s]
    have m1 := wx_X0_0 hI wt_h1
    refine sf_ite (fun c2 => ?_) (fun c2 => ?_)
    · have C2 : (σ 1 0).toInt ≤ x6.toInt := ti_le c2
      exact sf_ret ⟨hI, Fσ, O83_σ, O0_σ, ti_lo _, ti_hi _⟩
    have C2 : x6.toInt < (σ 1 0).toInt := ti_nle c2
    have l_0 : (0 : Int32).toInt = 0 := rfl
    exact sl_X3_two_66 hF (by omega) (by omega) (by omega) ih _ _ _ hI Fσ O83_σ O0_σ (by omega) (by decide) (by decide)
set_option maxHeartbeats 4000000 in
set_option maxRecDepth 100000 in
theorem s_X3_two {F : Nat} (hF : 100000 ≤ F) {x1 : Int32} {x2 : Int32} {x3 : Int32} {x4 : Int32} {τ : Mem} (hI : wiX τ) : sf (f_X3_two F x1 x2 x3 x4 τ) (fun r s => wiX s ∧ (∀ k, 101 ≤ k → s k = τ k) ∧ s 83 1 = τ 83 1 ∧ s 0 7 = τ 0 7 ∧ -2147483648 ≤ r.toInt ∧ r.toInt ≤ 2147483647) := by
  have Fτ : ∀ k, 101 ≤ k → τ k = τ k := fun _ _ => rfl
  have O83_τ : τ 83 1 = τ 83 1 := rfl
  have O0_τ : τ 0 7 = τ 0 7 := rfl
  rw [f_X3_two_e]
  have b1 := ti_lo x1
  have b2 := ti_hi x1
  have b3 := ti_lo x2
  have b4 := ti_hi x2
  refine sf_bnd (s_X3_noPair hF hI) (fun r5 u6 p7 => ?_)
  obtain ⟨e9, p7⟩ := p7
  have e9 := e9.symm
  subst e9
  rcases p7 with ⟨rfl, q8, q9, q10, q11⟩ | p7
  · have b12 := ti_lo x3
    have b13 := ti_hi x3
    refine sf_bnd (s_X3_noHour hF hI) (fun r14 u15 p16 => ?_)
    obtain ⟨e9, p16⟩ := p16
    have e9 := e9.symm
    subst e9
    rcases p16 with ⟨rfl, q17, q18⟩ | p16
    · refine sf_in ?_
      rw [f_X3_firstOf_e]
      refine sf_ite (fun c19 => ?_) (fun c19 => ?_)
      · have C19 : (0 : Int) = (0 : Int) := ti_eq c19
        refine sf_ret ?_
        refine sf_in ?_
        rw [f_X3_outside_e]
        have b20 := ti_lo x4
        have b21 := ti_hi x4
        refine sf_ite (fun c22 => ?_) (fun c22 => ?_)
        · have C22 : (0 : Int) ≤ x4.toInt := ti_le c22
          refine sf_ite (fun c23 => ?_) (fun c23 => ?_)
          · have C23 : x4.toInt ≤ (999 : Int) := ti_le c23
            refine sf_ret ?_
            refine sf_in ?_
            rw [f_X3_firstOf_e]
            refine sf_ite (fun c24 => ?_) (fun c24 => ?_)
            · have C24 : (0 : Int) = (0 : Int) := ti_eq c24
              refine sf_ret ?_
              refine sf_ite (fun c25 => ?_) (fun c25 => ?_)
              · have C25 : (0 : Int) = (0 : Int) := ti_eq c25
                refine sf_bnd (s_X3_fillPays hF hI (by omega) (by omega) (by omega) (by omega) (by omega) (by omega) (by omega) (by omega)) (fun r26 u27 p28 => ?_)
                obtain ⟨Iu27, Fu27_, O83_u27_, O0_u27_, -⟩ := p28
                have Fu27 : ∀ k, 101 ≤ k → u27 k = τ k := fun k hk => (Fu27_ k hk).trans (Fτ k hk)
                have O83_u27 : u27 83 1 = τ 83 1 := O83_u27_.trans O83_τ
                have O0_u27 : u27 0 7 = τ 0 7 := O0_u27_.trans O0_τ
                have l_0 : (0 : Int32).toInt = 0 := rfl
                exact sl_X3_two_51 hF _ _ _ Iu27 Fu27 O83_u27 O0_u27 (by omega) (by decide) (by decide)
              have C25 : ¬ (0 : Int) = (0 : Int) := ti_ne c25
              exfalso; omega
            have C24 : ¬ (0 : Int) = (0 : Int) := ti_ne c24
            exfalso; omega
          have C23 : (999 : Int) < x4.toInt := ti_nle c23
          refine sf_ret ?_
          refine sf_in ?_
          rw [f_X3_firstOf_e]
          refine sf_ite (fun c29 => ?_) (fun c29 => ?_)
          · have C29 : (0 : Int) = (0 : Int) := ti_eq c29
            refine sf_ret ?_
            refine sf_ite (fun c30 => ?_) (fun c30 => ?_)
            · have C30 : (-6 : Int) = (0 : Int) := ti_eq c30
              exfalso; omega
            have C30 : ¬ (-6 : Int) = (0 : Int) := ti_ne c30
            refine sf_bnd (s_X3_refuse hF hI (by decide) (by decide)) (fun r31 u32 p33 => ?_)
            obtain ⟨Iu32, Fu32_, O83_u32_, O0_u32_, p33_1, p33_2, p33_x0⟩ := p33
            have Fu32 : ∀ k, 101 ≤ k → u32 k = τ k := fun k hk => (Fu32_ k hk).trans (Fτ k hk)
            have O83_u32 : u32 83 1 = τ 83 1 := O83_u32_.trans O83_τ
            have O0_u32 : u32 0 7 = τ 0 7 := O0_u32_.trans O0_τ
            replace p33_x0 : r31.toInt = (-6 : Int) := p33_x0
            exact sf_ret ⟨Iu32, Fu32, O83_u32, O0_u32, ti_lo _, ti_hi _⟩
          have C29 : ¬ (0 : Int) = (0 : Int) := ti_ne c29
          exfalso; omega
        have C22 : x4.toInt < (0 : Int) := ti_nle c22
        refine sf_ret ?_
        refine sf_in ?_
        rw [f_X3_firstOf_e]
        refine sf_ite (fun c34 => ?_) (fun c34 => ?_)
        · have C34 : (0 : Int) = (0 : Int) := ti_eq c34
          refine sf_ret ?_
          refine sf_ite (fun c35 => ?_) (fun c35 => ?_)
          · have C35 : (-4 : Int) = (0 : Int) := ti_eq c35
            exfalso; omega
          have C35 : ¬ (-4 : Int) = (0 : Int) := ti_ne c35
          refine sf_bnd (s_X3_refuse hF hI (by decide) (by decide)) (fun r36 u37 p38 => ?_)
          obtain ⟨Iu37, Fu37_, O83_u37_, O0_u37_, p38_1, p38_2, p38_x0⟩ := p38
          have Fu37 : ∀ k, 101 ≤ k → u37 k = τ k := fun k hk => (Fu37_ k hk).trans (Fτ k hk)
          have O83_u37 : u37 83 1 = τ 83 1 := O83_u37_.trans O83_τ
          have O0_u37 : u37 0 7 = τ 0 7 := O0_u37_.trans O0_τ
          replace p38_x0 : r36.toInt = (-4 : Int) := p38_x0
          exact sf_ret ⟨Iu37, Fu37, O83_u37, O0_u37, ti_lo _, ti_hi _⟩
        have C34 : ¬ (0 : Int) = (0 : Int) := ti_ne c34
        exfalso; omega
      have C19 : ¬ (0 : Int) = (0 : Int) := ti_ne c19
      exfalso; omega
    obtain ⟨rfl, q39⟩ := p16
    refine sf_in ?_
    rw [f_X3_firstOf_e]
    refine sf_ite (fun c40 => ?_) (fun c40 => ?_)
    · have C40 : (0 : Int) = (0 : Int) := ti_eq c40
      refine sf_ret ?_
      refine sf_in ?_
      rw [f_X3_outside_e]
      have b41 := ti_lo x4
      have b42 := ti_hi x4
      refine sf_ite (fun c43 => ?_) (fun c43 => ?_)
      · have C43 : (0 : Int) ≤ x4.toInt := ti_le c43
        refine sf_ite (fun c44 => ?_) (fun c44 => ?_)
        · have C44 : x4.toInt ≤ (999 : Int) := ti_le c44
          refine sf_ret ?_
          refine sf_in ?_
          rw [f_X3_firstOf_e]
          refine sf_ite (fun c45 => ?_) (fun c45 => ?_)
          · have C45 : (-1 : Int) = (0 : Int) := ti_eq c45
            exfalso; omega
          have C45 : ¬ (-1 : Int) = (0 : Int) := ti_ne c45
          refine sf_ret ?_
          refine sf_ite (fun c46 => ?_) (fun c46 => ?_)
          · have C46 : (-1 : Int) = (0 : Int) := ti_eq c46
            exfalso; omega
          have C46 : ¬ (-1 : Int) = (0 : Int) := ti_ne c46
          refine sf_bnd (s_X3_refuse hF hI (by decide) (by decide)) (fun r47 u48 p49 => ?_)
          obtain ⟨Iu48, Fu48_, O83_u48_, O0_u48_, p49_1, p49_2, p49_x0⟩ := p49
          have Fu48 : ∀ k, 101 ≤ k → u48 k = τ k := fun k hk => (Fu48_ k hk).trans (Fτ k hk)
          have O83_u48 : u48 83 1 = τ 83 1 := O83_u48_.trans O83_τ
          have O0_u48 : u48 0 7 = τ 0 7 := O0_u48_.trans O0_τ
          replace p49_x0 : r47.toInt = (-1 : Int) := p49_x0
          exact sf_ret ⟨Iu48, Fu48, O83_u48, O0_u48, ti_lo _, ti_hi _⟩
        have C44 : (999 : Int) < x4.toInt := ti_nle c44
        refine sf_ret ?_
        refine sf_in ?_
        rw [f_X3_firstOf_e]
        refine sf_ite (fun c50 => ?_) (fun c50 => ?_)
        · have C50 : (-1 : Int) = (0 : Int) := ti_eq c50
          exfalso; omega
        have C50 : ¬ (-1 : Int) = (0 : Int) := ti_ne c50
        refine sf_ret ?_
        refine sf_ite (fun c51 => ?_) (fun c51 => ?_)
        · have C51 : (-1 : Int) = (0 : Int) := ti_eq c51
          exfalso; omega
        have C51 : ¬ (-1 : Int) = (0 : Int) := ti_ne c51
        refine sf_bnd (s_X3_refuse hF hI (by decide) (by decide)) (fun r52 u53 p54 => ?_)
        obtain ⟨Iu53, Fu53_, O83_u53_, O0_u53_, p54_1, p54_2, p54_x0⟩ := p54
        have Fu53 : ∀ k, 101 ≤ k → u53 k = τ k := fun k hk => (Fu53_ k hk).trans (Fτ k hk)
        have O83_u53 : u53 83 1 = τ 83 1 := O83_u53_.trans O83_τ
        have O0_u53 : u53 0 7 = τ 0 7 := O0_u53_.trans O0_τ
        replace p54_x0 : r52.toInt = (-1 : Int) := p54_x0
        exact sf_ret ⟨Iu53, Fu53, O83_u53, O0_u53, ti_lo _, ti_hi _⟩
      have C43 : x4.toInt < (0 : Int) := ti_nle c43
      refine sf_ret ?_
      refine sf_in ?_
      rw [f_X3_firstOf_e]
      refine sf_ite (fun c55 => ?_) (fun c55 => ?_)
      · have C55 : (-1 : Int) = (0 : Int) := ti_eq c55
        exfalso; omega
      have C55 : ¬ (-1 : Int) = (0 : Int) := ti_ne c55
      refine sf_ret ?_
      refine sf_ite (fun c56 => ?_) (fun c56 => ?_)
      · have C56 : (-1 : Int) = (0 : Int) := ti_eq c56
        exfalso; omega
      have C56 : ¬ (-1 : Int) = (0 : Int) := ti_ne c56
      refine sf_bnd (s_X3_refuse hF hI (by decide) (by decide)) (fun r57 u58 p59 => ?_)
      obtain ⟨Iu58, Fu58_, O83_u58_, O0_u58_, p59_1, p59_2, p59_x0⟩ := p59
      have Fu58 : ∀ k, 101 ≤ k → u58 k = τ k := fun k hk => (Fu58_ k hk).trans (Fτ k hk)
      have O83_u58 : u58 83 1 = τ 83 1 := O83_u58_.trans O83_τ
      have O0_u58 : u58 0 7 = τ 0 7 := O0_u58_.trans O0_τ
      replace p59_x0 : r57.toInt = (-1 : Int) := p59_x0
      exact sf_ret ⟨Iu58, Fu58, O83_u58, O0_u58, ti_lo _, ti_hi _⟩
    have C40 : ¬ (0 : Int) = (0 : Int) := ti_ne c40
    exfalso; omega
  obtain rfl := p7
  have b60 := ti_lo x3
  have b61 := ti_hi x3
  refine sf_bnd (s_X3_noHour hF hI) (fun r62 u63 p64 => ?_)
  obtain ⟨e9, p64⟩ := p64
  have e9 := e9.symm
  subst e9
  rcases p64 with ⟨rfl, q65, q66⟩ | p64
  · refine sf_in ?_
    rw [f_X3_firstOf_e]
    refine sf_ite (fun c67 => ?_) (fun c67 => ?_)
    · have C67 : (-1 : Int) = (0 : Int) := ti_eq c67
      exfalso; omega
    have C67 : ¬ (-1 : Int) = (0 : Int) := ti_ne c67
    refine sf_ret ?_
    refine sf_in ?_
    rw [f_X3_outside_e]
    have b68 := ti_lo x4
    have b69 := ti_hi x4
    refine sf_ite (fun c70 => ?_) (fun c70 => ?_)
    · have C70 : (0 : Int) ≤ x4.toInt := ti_le c70
      refine sf_ite (fun c71 => ?_) (fun c71 => ?_)
      · have C71 : x4.toInt ≤ (999 : Int) := ti_le c71
        refine sf_ret ?_
        refine sf_in ?_
        rw [f_X3_firstOf_e]
        refine sf_ite (fun c72 => ?_) (fun c72 => ?_)
        · have C72 : (-1 : Int) = (0 : Int) := ti_eq c72
          exfalso; omega
        have C72 : ¬ (-1 : Int) = (0 : Int) := ti_ne c72
        refine sf_ret ?_
        refine sf_ite (fun c73 => ?_) (fun c73 => ?_)
        · have C73 : (-1 : Int) = (0 : Int) := ti_eq c73
          exfalso; omega
        have C73 : ¬ (-1 : Int) = (0 : Int) := ti_ne c73
        refine sf_bnd (s_X3_refuse hF hI (by decide) (by decide)) (fun r74 u75 p76 => ?_)
        obtain ⟨Iu75, Fu75_, O83_u75_, O0_u75_, p76_1, p76_2, p76_x0⟩ := p76
        have Fu75 : ∀ k, 101 ≤ k → u75 k = τ k := fun k hk => (Fu75_ k hk).trans (Fτ k hk)
        have O83_u75 : u75 83 1 = τ 83 1 := O83_u75_.trans O83_τ
        have O0_u75 : u75 0 7 = τ 0 7 := O0_u75_.trans O0_τ
        replace p76_x0 : r74.toInt = (-1 : Int) := p76_x0
        exact sf_ret ⟨Iu75, Fu75, O83_u75, O0_u75, ti_lo _, ti_hi _⟩
      have C71 : (999 : Int) < x4.toInt := ti_nle c71
      refine sf_ret ?_
      refine sf_in ?_
      rw [f_X3_firstOf_e]
      refine sf_ite (fun c77 => ?_) (fun c77 => ?_)
      · have C77 : (-1 : Int) = (0 : Int) := ti_eq c77
        exfalso; omega
      have C77 : ¬ (-1 : Int) = (0 : Int) := ti_ne c77
      refine sf_ret ?_
      refine sf_ite (fun c78 => ?_) (fun c78 => ?_)
      · have C78 : (-1 : Int) = (0 : Int) := ti_eq c78
        exfalso; omega
      have C78 : ¬ (-1 : Int) = (0 : Int) := ti_ne c78
      refine sf_bnd (s_X3_refuse hF hI (by decide) (by decide)) (fun r79 u80 p81 => ?_)
      obtain ⟨Iu80, Fu80_, O83_u80_, O0_u80_, p81_1, p81_2, p81_x0⟩ := p81
      have Fu80 : ∀ k, 101 ≤ k → u80 k = τ k := fun k hk => (Fu80_ k hk).trans (Fτ k hk)
      have O83_u80 : u80 83 1 = τ 83 1 := O83_u80_.trans O83_τ
      have O0_u80 : u80 0 7 = τ 0 7 := O0_u80_.trans O0_τ
      replace p81_x0 : r79.toInt = (-1 : Int) := p81_x0
      exact sf_ret ⟨Iu80, Fu80, O83_u80, O0_u80, ti_lo _, ti_hi _⟩
    have C70 : x4.toInt < (0 : Int) := ti_nle c70
    refine sf_ret ?_
    refine sf_in ?_
    rw [f_X3_firstOf_e]
    refine sf_ite (fun c82 => ?_) (fun c82 => ?_)
    · have C82 : (-1 : Int) = (0 : Int) := ti_eq c82
      exfalso; omega
    have C82 : ¬ (-1 : Int) = (0 : Int) := ti_ne c82
    refine sf_ret ?_
    refine sf_ite (fun c83 => ?_) (fun c83 => ?_)
    · have C83 : (-1 : Int) = (0 : Int) := ti_eq c83
      exfalso; omega
    have C83 : ¬ (-1 : Int) = (0 : Int) := ti_ne c83
    refine sf_bnd (s_X3_refuse hF hI (by decide) (by decide)) (fun r84 u85 p86 => ?_)
    obtain ⟨Iu85, Fu85_, O83_u85_, O0_u85_, p86_1, p86_2, p86_x0⟩ := p86
    have Fu85 : ∀ k, 101 ≤ k → u85 k = τ k := fun k hk => (Fu85_ k hk).trans (Fτ k hk)
    have O83_u85 : u85 83 1 = τ 83 1 := O83_u85_.trans O83_τ
    have O0_u85 : u85 0 7 = τ 0 7 := O0_u85_.trans O0_τ
    replace p86_x0 : r84.toInt = (-1 : Int) := p86_x0
    exact sf_ret ⟨Iu85, Fu85, O83_u85, O0_u85, ti_lo _, ti_hi _⟩
  obtain ⟨rfl, q87⟩ := p64
  refine sf_in ?_
  rw [f_X3_firstOf_e]
  refine sf_ite (fun c88 => ?_) (fun c88 => ?_)
  · have C88 : (-1 : Int) = (0 : Int) := ti_eq c88
    exfalso; omega
  have C88 : ¬ (-1 : Int) = (0 : Int) := ti_ne c88
  refine sf_ret ?_
  refine sf_in ?_
  rw [f_X3_outside_e]
  have b89 := ti_lo x4
  have b90 := ti_hi x4
  refine sf_ite (fun c91 => ?_) (fun c91 => ?_)
  · have C91 : (0 : Int) ≤ x4.toInt := ti_le c91
    refine sf_ite (fun c92 => ?_) (fun c92 => ?_)
    · have C92 : x4.toInt ≤ (999 : Int) := ti_le c92
      refine sf_ret ?_
      refine sf_in ?_
      rw [f_X3_firstOf_e]
      refine sf_ite (fun c93 => ?_) (fun c93 => ?_)
      · have C93 : (-1 : Int) = (0 : Int) := ti_eq c93
        exfalso; omega
      have C93 : ¬ (-1 : Int) = (0 : Int) := ti_ne c93
      refine sf_ret ?_
      refine sf_ite (fun c94 => ?_) (fun c94 => ?_)
      · have C94 : (-1 : Int) = (0 : Int) := ti_eq c94
        exfalso; omega
      have C94 : ¬ (-1 : Int) = (0 : Int) := ti_ne c94
      refine sf_bnd (s_X3_refuse hF hI (by decide) (by decide)) (fun r95 u96 p97 => ?_)
      obtain ⟨Iu96, Fu96_, O83_u96_, O0_u96_, p97_1, p97_2, p97_x0⟩ := p97
      have Fu96 : ∀ k, 101 ≤ k → u96 k = τ k := fun k hk => (Fu96_ k hk).trans (Fτ k hk)
      have O83_u96 : u96 83 1 = τ 83 1 := O83_u96_.trans O83_τ
      have O0_u96 : u96 0 7 = τ 0 7 := O0_u96_.trans O0_τ
      replace p97_x0 : r95.toInt = (-1 : Int) := p97_x0
      exact sf_ret ⟨Iu96, Fu96, O83_u96, O0_u96, ti_lo _, ti_hi _⟩
    have C92 : (999 : Int) < x4.toInt := ti_nle c92
    refine sf_ret ?_
    refine sf_in ?_
    rw [f_X3_firstOf_e]
    refine sf_ite (fun c98 => ?_) (fun c98 => ?_)
    · have C98 : (-1 : Int) = (0 : Int) := ti_eq c98
      exfalso; omega
    have C98 : ¬ (-1 : Int) = (0 : Int) := ti_ne c98
    refine sf_ret ?_
    refine sf_ite (fun c99 => ?_) (fun c99 => ?_)
    · have C99 : (-1 : Int) = (0 : Int) := ti_eq c99
      exfalso; omega
    have C99 : ¬ (-1 : Int) = (0 : Int) := ti_ne c99
    refine sf_bnd (s_X3_refuse hF hI (by decide) (by decide)) (fun r100 u101 p102 => ?_)
    obtain ⟨Iu101, Fu101_, O83_u101_, O0_u101_, p102_1, p102_2, p102_x0⟩ := p102
    have Fu101 : ∀ k, 101 ≤ k → u101 k = τ k := fun k hk => (Fu101_ k hk).trans (Fτ k hk)
    have O83_u101 : u101 83 1 = τ 83 1 := O83_u101_.trans O83_τ
    have O0_u101 : u101 0 7 = τ 0 7 := O0_u101_.trans O0_τ
    replace p102_x0 : r100.toInt = (-1 : Int) := p102_x0
    exact sf_ret ⟨Iu101, Fu101, O83_u101, O0_u101, ti_lo _, ti_hi _⟩
  have C91 : x4.toInt < (0 : Int) := ti_nle c91
  refine sf_ret ?_
  refine sf_in ?_
  rw [f_X3_firstOf_e]
  refine sf_ite (fun c103 => ?_) (fun c103 => ?_)
  · have C103 : (-1 : Int) = (0 : Int) := ti_eq c103
    exfalso; omega
  have C103 : ¬ (-1 : Int) = (0 : Int) := ti_ne c103
  refine sf_ret ?_
  refine sf_ite (fun c104 => ?_) (fun c104 => ?_)
  · have C104 : (-1 : Int) = (0 : Int) := ti_eq c104
    exfalso; omega
  have C104 : ¬ (-1 : Int) = (0 : Int) := ti_ne c104
  refine sf_bnd (s_X3_refuse hF hI (by decide) (by decide)) (fun r105 u106 p107 => ?_)
  obtain ⟨Iu106, Fu106_, O83_u106_, O0_u106_, p107_1, p107_2, p107_x0⟩ := p107
  have Fu106 : ∀ k, 101 ≤ k → u106 k = τ k := fun k hk => (Fu106_ k hk).trans (Fτ k hk)
  have O83_u106 : u106 83 1 = τ 83 1 := O83_u106_.trans O83_τ
  have O0_u106 : u106 0 7 = τ 0 7 := O0_u106_.trans O0_τ
  replace p107_x0 : r105.toInt = (-1 : Int) := p107_x0
  exact sf_ret ⟨Iu106, Fu106, O83_u106, O0_u106, ti_lo _, ti_hi _⟩
set_option maxHeartbeats 4000000 in
set_option maxRecDepth 100000 in
theorem sl_X3_rowTells_2 {F : Nat} (hF : 100000 ≤ F) {x1 : Int32} {τ : Mem} (hI : wiX τ) (x1_1 : 0 ≤ x1.toInt) (x1_2 : x1.toInt ≤ 999) : ∀ (N : Nat) (x2 : Int32) , 8 < x2.toInt + N → 0 ≤ x2.toInt → x2.toInt ≤ 8 → sf (lp_X3_rowTells_2 F x1 N x2 τ) (fun r s => s = τ ∧ 0 ≤ r.toInt ∧ r.toInt ≤ 1) := by
  intro N
  induction N with
  | zero => intro x2 hN x2_1 x2_2; exfalso; omega
  | succ N ih =>
    intro x2 hN x2_1 x2_2
    rw [lp_X3_rowTells_2_s]
    have m1 := wx_X3_7 hI
    refine sf_ite (fun c2 => ?_) (fun c2 => ?_)
    · have C2 : (τ 0 7).toInt ≤ x2.toInt := ti_le c2
      rw [j_X3_rowTells_45_e]
      exact sf_ret ⟨rfl, by decide, by decide⟩
    have C2 : x2.toInt < (τ 0 7).toInt := ti_nle c2
    refine sf_ite (fun c3 => ?_) (fun c3 => ?_)
    · have C3 : (8 : Int) ≤ x2.toInt := ti_le c3
      rw [j_X3_rowTells_45_e]
      exact sf_ret ⟨rfl, by decide, by decide⟩
    have C3 : x2.toInt < (8 : Int) := ti_nle c3
    refine sf_chk (ti_in (by omega) (by omega)) ?_
    have v4 : Int32.toNatClampNeg x2 = x2.toInt.toNat := rfl
    refine sf_bnd (s_X0_holder hF wt_h24 hI (by omega) (by omega) (by omega) (by omega)) (fun r5 u6 p7 => ?_)
    obtain ⟨e9, p7_1, p7_2⟩ := p7
    have e9 := e9.symm
    subst e9
    refine sf_in ?_
    rw [f_X3_inRow_e]
    refine sf_ite (fun c8 => ?_) (fun c8 => ?_)
    · have C8 : r5.toInt = (-9 : Int) := ti_eq c8
      refine sf_ret ?_
      have b9 := ti_lo (τ 85 (Int32.toNatClampNeg x2))
      have b10 := ti_hi (τ 85 (Int32.toNatClampNeg x2))
      refine sf_ite (fun c11 => ?_) (fun c11 => ?_)
      · have C11 : (τ 85 (Int32.toNatClampNeg x2)).toInt = (99 : Int) := ti_eq c11
        have t12 : (x2 + (1 : Int32)).toInt = x2.toInt + (1 : Int) := ti_add (show -2147483648 ≤ x2.toInt + (1 : Int) by omega) (show x2.toInt + (1 : Int) ≤ 2147483647 by omega)
        exact ih _ (by omega) (by omega) (by omega)
      have C11 : ¬ (τ 85 (Int32.toNatClampNeg x2)).toInt = (99 : Int) := ti_ne c11
      exact sf_ret ⟨rfl, by decide, by decide⟩
    have C8 : ¬ r5.toInt = (-9 : Int) := ti_ne c8
    refine sf_ret ?_
    have b13 := ti_lo (τ 85 (Int32.toNatClampNeg x2))
    have b14 := ti_hi (τ 85 (Int32.toNatClampNeg x2))
    refine sf_ite (fun c15 => ?_) (fun c15 => ?_)
    · have C15 : (τ 85 (Int32.toNatClampNeg x2)).toInt = r5.toInt := ti_eq c15
      have t16 : (x2 + (1 : Int32)).toInt = x2.toInt + (1 : Int) := ti_add (show -2147483648 ≤ x2.toInt + (1 : Int) by omega) (show x2.toInt + (1 : Int) ≤ 2147483647 by omega)
      exact ih _ (by omega) (by omega) (by omega)
    have C15 : ¬ (τ 85 (Int32.toNatClampNeg x2)).toInt = r5.toInt := ti_ne c15
    exact sf_ret ⟨rfl, by decide, by decide⟩
set_option maxHeartbeats 4000000 in
set_option maxRecDepth 100000 in
theorem s_X3_rowTells {F : Nat} (hF : 100000 ≤ F) {x1 : Int32} {τ : Mem} (hI : wiX τ) (x1_1 : 0 ≤ x1.toInt) (x1_2 : x1.toInt ≤ 999) : sf (f_X3_rowTells F x1 τ) (fun r s => s = τ ∧ 0 ≤ r.toInt ∧ r.toInt ≤ 1) := by
  rw [f_X3_rowTells_e]
  have l_0 : (0 : Int32).toInt = 0 := rfl
  exact sl_X3_rowTells_2 hF hI (by omega) (by omega) _ _  (by omega) (by decide) (by decide)
set_option maxHeartbeats 4000000 in
set_option maxRecDepth 100000 in
theorem sl_X3_whichLaw_30 {F : Nat} (hF : 100000 ≤ F) {τ : Mem} : ∀ (N : Nat) (x2 : Int32) (x3 : Int32) (σ : Mem), wiX σ → (∀ k, 101 ≤ k → σ k = τ k) → σ 83 1 = τ 83 1 → σ 0 7 = τ 0 7 → 3 < x3.toInt + N → 0 ≤ x3.toInt → x3.toInt ≤ 3 → sf (lp_X3_whichLaw_30 F N x2 x3 σ) (fun r s => wiX s ∧ (∀ k, 101 ≤ k → s k = τ k) ∧ s 83 1 = τ 83 1 ∧ s 0 7 = τ 0 7 ∧ -2147483648 ≤ r.toInt ∧ r.toInt ≤ 2147483647) := by
  intro N
  induction N with
  | zero => intro x2 x3 σ hI Fσ O83_σ O0_σ hN x3_1 x3_2; exfalso; omega
  | succ N ih =>
    intro x2 x3 σ hI Fσ O83_σ O0_σ hN x3_1 x3_2
    rw [lp_X3_whichLaw_30_s]
    refine sf_ite (fun c1 => ?_) (fun c1 => ?_)
    · have C1 : (3 : Int) ≤ x3.toInt := ti_le c1
      have b2 := ti_lo x2
      have b3 := ti_hi x2
      exact sf_ret ⟨hI, Fσ, O83_σ, O0_σ, ti_lo _, ti_hi _⟩
    have C1 : x3.toInt < (3 : Int) := ti_nle c1
    refine sf_bnd (s_X0_rule hF wt_h24 hI) (fun r4 u5 p6 => ?_)
    obtain ⟨Iu5, Fu5_, O83_u5_, O0_u5_, p6_1, p6_2⟩ := p6
    have Fu5 : ∀ k, 101 ≤ k → u5 k = τ k := fun k hk => (Fu5_ k hk).trans (Fσ k hk)
    have O83_u5 : u5 83 1 = τ 83 1 := O83_u5_.trans O83_σ
    have O0_u5 : u5 0 7 = τ 0 7 := O0_u5_.trans O0_σ
    have hb_r4 : r4 = 0 ∨ r4 = 1 := wi_bool p6_1 p6_2
    refine sf_bnd (s_X0_reckon hF wt_h24 Iu5) (fun r7 u8 p9 => ?_)
    obtain ⟨Iu8, Fu8_, O83_u8_, O0_u8_, -⟩ := p9
    have Fu8 : ∀ k, 101 ≤ k → u8 k = τ k := fun k hk => (Fu8_ k hk).trans (Fu5 k hk)
    have O83_u8 : u8 83 1 = τ 83 1 := O83_u8_.trans O83_u5
    have O0_u8 : u8 0 7 = τ 0 7 := O0_u8_.trans O0_u5
    refine sf_bnd (s_X3_rowTells hF Iu8 (by decide) (by decide)) (fun r10 u11 p12 => ?_)
    obtain ⟨e9, p12_1, p12_2⟩ := p12
    have e9 := e9.symm
    subst e9
    have hb_r10 : r10 = 0 ∨ r10 = 1 := wi_bool p12_1 p12_2
    refine sf_ite (fun c13 => ?_) (fun c13 => ?_)
    · have C13 : r10.toInt = (0 : Int) := ti_eq c13
      rw [j_X3_whichLaw_65_e]
      have b14 := ti_lo x2
      have b15 := ti_hi x2
      have t16 : (x3 + (1 : Int32)).toInt = x3.toInt + (1 : Int) := ti_add (show -2147483648 ≤ x3.toInt + (1 : Int) by omega) (show x3.toInt + (1 : Int) ≤ 2147483647 by omega)
      exact ih _ _ _ Iu8 Fu8 O83_u8 O0_u8 (by omega) (by omega) (by omega)
    have C13 : ¬ r10.toInt = (0 : Int) := ti_ne c13
    have b18 := ti_lo (x2 ||| ((1 : Int32) <<< (x3 &&& 31)))
    have b19 := ti_hi (x2 ||| ((1 : Int32) <<< (x3 &&& 31)))
    refine sf_lt (fun z17 hz17 => ?_)
    have hz17_ : z17.toInt = (x2 ||| ((1 : Int32) <<< (x3 &&& 31))).toInt := (show z17.toInt = (x2 ||| ((1 : Int32) <<< (x3 &&& 31))).toInt from congrArg Int32.toInt hz17)
    rw [j_X3_whichLaw_65_e]
    have b20 := ti_lo z17
    have b21 := ti_hi z17
    have t22 : (x3 + (1 : Int32)).toInt = x3.toInt + (1 : Int) := ti_add (show -2147483648 ≤ x3.toInt + (1 : Int) by omega) (show x3.toInt + (1 : Int) ≤ 2147483647 by omega)
    exact ih _ _ _ Iu8 Fu8 O83_u8 O0_u8 (by omega) (by omega) (by omega)
set_option maxHeartbeats 4000000 in
set_option maxRecDepth 100000 in
theorem s_X3_whichLaw {F : Nat} (hF : 100000 ≤ F) {τ : Mem} (hI : wiX τ) : sf (f_X3_whichLaw F τ) (fun r s => wiX s ∧ (∀ k, 101 ≤ k → s k = τ k) ∧ s 83 1 = τ 83 1 ∧ s 0 7 = τ 0 7 ∧ -2147483648 ≤ r.toInt ∧ r.toInt ≤ 2147483647) := by
  have Fτ : ∀ k, 101 ≤ k → τ k = τ k := fun _ _ => rfl
  have O83_τ : τ 83 1 = τ 83 1 := rfl
  have O0_τ : τ 0 7 = τ 0 7 := rfl
  rw [f_X3_whichLaw_e]
  refine sf_bnd (s_X3_longRow hF hI) (fun r1 u2 p3 => ?_)
  obtain ⟨e9, p3⟩ := p3
  have e9 := e9.symm
  subst e9
  rcases p3 with rfl | p3
  · refine sf_ite (fun c4 => ?_) (fun c4 => ?_)
    · have C4 : (0 : Int) = (0 : Int) := ti_eq c4
      refine sf_bnd (s_X0_takeFrom hF wt_h24 wt_h1 hI) (fun r5 u6 p7 => ?_)
      obtain ⟨Iu6, Fu6_, O83_u6_, O0_u6_, -⟩ := p7
      have Fu6 : ∀ k, 101 ≤ k → u6 k = τ k := fun k hk => (Fu6_ k hk).trans (Fτ k hk)
      have O83_u6 : u6 83 1 = τ 83 1 := O83_u6_.trans O83_τ
      have O0_u6 : u6 0 7 = τ 0 7 := O0_u6_.trans O0_τ
      have l_0 : (0 : Int32).toInt = 0 := rfl
      exact sl_X3_whichLaw_30 hF _ _ _ _ Iu6 Fu6 O83_u6 O0_u6 (by omega) (by decide) (by decide)
    have C4 : ¬ (0 : Int) = (0 : Int) := ti_ne c4
    exfalso; omega
  obtain rfl := p3
  refine sf_ite (fun c8 => ?_) (fun c8 => ?_)
  · have C8 : (-3 : Int) = (0 : Int) := ti_eq c8
    exfalso; omega
  have C8 : ¬ (-3 : Int) = (0 : Int) := ti_ne c8
  refine sf_bnd (s_X3_refuse hF hI (by decide) (by decide)) (fun r9 u10 p11 => ?_)
  obtain ⟨Iu10, Fu10_, O83_u10_, O0_u10_, p11_1, p11_2, p11_x0⟩ := p11
  have Fu10 : ∀ k, 101 ≤ k → u10 k = τ k := fun k hk => (Fu10_ k hk).trans (Fτ k hk)
  have O83_u10 : u10 83 1 = τ 83 1 := O83_u10_.trans O83_τ
  have O0_u10 : u10 0 7 = τ 0 7 := O0_u10_.trans O0_τ
  replace p11_x0 : r9.toInt = (-3 : Int) := p11_x0
  exact sf_ret ⟨Iu10, Fu10, O83_u10, O0_u10, ti_lo _, ti_hi _⟩
set_option maxHeartbeats 4000000 in
set_option maxRecDepth 100000 in
theorem sl_X3_whichKind_64 {F : Nat} (hF : 100000 ≤ F) {x1 : Int32} {x2 : Int32} {x3 : Int32} {x6 : Int32} {τ : Mem} (x1_1 : 0 ≤ x1.toInt) (x1_2 : x1.toInt ≤ 4) (x2_1 : 0 ≤ x2.toInt) (x2_2 : x2.toInt ≤ 999) (x3_1 : 0 ≤ x3.toInt) (x3_2 : x3.toInt ≤ 1) (x6_1 : 5 ≤ x6.toInt) (x6_2 : x6.toInt ≤ 9) : ∀ (N : Nat) (x5 : Int32) (x7 : Int32) (σ : Mem), wiX σ → (∀ k, 101 ≤ k → σ k = τ k) → σ 83 1 = τ 83 1 → σ 0 7 = τ 0 7 → 10 < x7.toInt + N → 0 ≤ x7.toInt → x7.toInt ≤ 10 → sf (lp_X3_whichKind_64 F x1 x2 x3 x6 N x5 x7 σ) (fun r s => wiX s ∧ (∀ k, 101 ≤ k → s k = τ k) ∧ s 83 1 = τ 83 1 ∧ s 0 7 = τ 0 7 ∧ -2147483648 ≤ r.toInt ∧ r.toInt ≤ 2147483647) := by
  intro N
  induction N with
  | zero => intro x5 x7 σ hI Fσ O83_σ O0_σ hN x7_1 x7_2; exfalso; omega
  | succ N ih =>
    intro x5 x7 σ hI Fσ O83_σ O0_σ hN x7_1 x7_2
    rw [lp_X3_whichKind_64_s]
    refine sf_ite (fun c1 => ?_) (fun c1 => ?_)
    · have C1 : x6.toInt < x7.toInt := ti_lt c1
      have b2 := ti_lo x5
      have b3 := ti_hi x5
      exact sf_ret ⟨hI, Fσ, O83_σ, O0_σ, ti_lo _, ti_hi _⟩
    have C1 : x7.toInt ≤ x6.toInt := ti_nlt c1
    refine sf_ite (fun c4 => ?_) (fun c4 => ?_)
    · have C4 : x3.toInt = (0 : Int) := ti_eq c4
      refine sf_chk (ti_in (by omega) (by omega)) ?_
      have v5 : Int32.toNatClampNeg x1 = x1.toInt.toNat := rfl
      refine sf_lt (fun s6 hs6 => ?_)
      have Is6 : wiX s6 := by rw [hs6]; exact wx_oth hI (fun q hq e => by have := wt_Hcs hq; omega) (fun e => by omega) (fun e => by omega) (fun e => by omega)
      have Fs6 : ∀ k, 101 ≤ k → s6 k = τ k := fun k hk => (show s6 k = σ k by rw [hs6, up2_k (by omega)]).trans (Fσ k hk)
      have O83_s6 : s6 83 1 = τ 83 1 := (show s6 83 1 = σ 83 1 by rw [hs6, up2_k (by omega)]).trans O83_σ
      have O0_s6 : s6 0 7 = τ 0 7 := (show s6 0 7 = σ 0 7 by rw [hs6, up2_k (by omega)]).trans O0_σ
      rw [j_X3_whichKind_100_e]
      refine sf_bnd (s_X0_reckon hF wt_h24 Is6) (fun r7 u8 p9 => ?_)
      obtain ⟨Iu8, Fu8_, O83_u8_, O0_u8_, -⟩ := p9
      have Fu8 : ∀ k, 101 ≤ k → u8 k = τ k := fun k hk => (Fu8_ k hk).trans (Fs6 k hk)
      have O83_u8 : u8 83 1 = τ 83 1 := O83_u8_.trans O83_s6
      have O0_u8 : u8 0 7 = τ 0 7 := O0_u8_.trans O0_s6
      refine sf_bnd (s_X3_rowTells hF Iu8 (by omega) (by omega)) (fun r10 u11 p12 => ?_)
      obtain ⟨e9, p12_1, p12_2⟩ := p12
      have e9 := e9.symm
      subst e9
      have hb_r10 : r10 = 0 ∨ r10 = 1 := wi_bool p12_1 p12_2
      refine sf_ite (fun c13 => ?_) (fun c13 => ?_)
      · have C13 : r10.toInt = (0 : Int) := ti_eq c13
        rw [j_X3_whichKind_124_e]
        have b14 := ti_lo x5
        have b15 := ti_hi x5
        have t16 : (x7 + (1 : Int32)).toInt = x7.toInt + (1 : Int) := ti_add (show -2147483648 ≤ x7.toInt + (1 : Int) by omega) (show x7.toInt + (1 : Int) ≤ 2147483647 by omega)
        exact ih _ _ _ Iu8 Fu8 O83_u8 O0_u8 (by omega) (by omega) (by omega)
      have C13 : ¬ r10.toInt = (0 : Int) := ti_ne c13
      have b18 := ti_lo (x5 ||| ((1 : Int32) <<< (x7 &&& 31)))
      have b19 := ti_hi (x5 ||| ((1 : Int32) <<< (x7 &&& 31)))
      refine sf_lt (fun z17 hz17 => ?_)
      have hz17_ : z17.toInt = (x5 ||| ((1 : Int32) <<< (x7 &&& 31))).toInt := (show z17.toInt = (x5 ||| ((1 : Int32) <<< (x7 &&& 31))).toInt from congrArg Int32.toInt hz17)
      rw [j_X3_whichKind_124_e]
      have b20 := ti_lo z17
      have b21 := ti_hi z17
      have t22 : (x7 + (1 : Int32)).toInt = x7.toInt + (1 : Int) := ti_add (show -2147483648 ≤ x7.toInt + (1 : Int) by omega) (show x7.toInt + (1 : Int) ≤ 2147483647 by omega)
      exact ih _ _ _ Iu8 Fu8 O83_u8 O0_u8 (by omega) (by omega) (by omega)
    have C4 : ¬ x3.toInt = (0 : Int) := ti_ne c4
    refine sf_chk (ti_in (by omega) (by omega)) ?_
    have v23 : Int32.toNatClampNeg x1 = x1.toInt.toNat := rfl
    refine sf_lt (fun s24 hs24 => ?_)
    have Is24 : wiX s24 := by rw [hs24]; exact wx_oth hI (fun q hq e => by have := wt_Hcs hq; omega) (fun e => by omega) (fun e => by omega) (fun e => by omega)
    have Fs24 : ∀ k, 101 ≤ k → s24 k = τ k := fun k hk => (show s24 k = σ k by rw [hs24, up2_k (by omega)]).trans (Fσ k hk)
    have O83_s24 : s24 83 1 = τ 83 1 := (show s24 83 1 = σ 83 1 by rw [hs24, up2_k (by omega)]).trans O83_σ
    have O0_s24 : s24 0 7 = τ 0 7 := (show s24 0 7 = σ 0 7 by rw [hs24, up2_k (by omega)]).trans O0_σ
    rw [j_X3_whichKind_100_e]
    refine sf_bnd (s_X0_reckon hF wt_h24 Is24) (fun r25 u26 p27 => ?_)
    obtain ⟨Iu26, Fu26_, O83_u26_, O0_u26_, -⟩ := p27
    have Fu26 : ∀ k, 101 ≤ k → u26 k = τ k := fun k hk => (Fu26_ k hk).trans (Fs24 k hk)
    have O83_u26 : u26 83 1 = τ 83 1 := O83_u26_.trans O83_s24
    have O0_u26 : u26 0 7 = τ 0 7 := O0_u26_.trans O0_s24
    refine sf_bnd (s_X3_rowTells hF Iu26 (by omega) (by omega)) (fun r28 u29 p30 => ?_)
    obtain ⟨e9, p30_1, p30_2⟩ := p30
    have e9 := e9.symm
    subst e9
    have hb_r28 : r28 = 0 ∨ r28 = 1 := wi_bool p30_1 p30_2
    refine sf_ite (fun c31 => ?_) (fun c31 => ?_)
    · have C31 : r28.toInt = (0 : Int) := ti_eq c31
      rw [j_X3_whichKind_124_e]
      have b32 := ti_lo x5
      have b33 := ti_hi x5
      have t34 : (x7 + (1 : Int32)).toInt = x7.toInt + (1 : Int) := ti_add (show -2147483648 ≤ x7.toInt + (1 : Int) by omega) (show x7.toInt + (1 : Int) ≤ 2147483647 by omega)
      exact ih _ _ _ Iu26 Fu26 O83_u26 O0_u26 (by omega) (by omega) (by omega)
    have C31 : ¬ r28.toInt = (0 : Int) := ti_ne c31
    have b36 := ti_lo (x5 ||| ((1 : Int32) <<< (x7 &&& 31)))
    have b37 := ti_hi (x5 ||| ((1 : Int32) <<< (x7 &&& 31)))
    refine sf_lt (fun z35 hz35 => ?_)
    have hz35_ : z35.toInt = (x5 ||| ((1 : Int32) <<< (x7 &&& 31))).toInt := (show z35.toInt = (x5 ||| ((1 : Int32) <<< (x7 &&& 31))).toInt from congrArg Int32.toInt hz35)
    rw [j_X3_whichKind_124_e]
    have b38 := ti_lo z35
    have b39 := ti_hi z35
    have t40 : (x7 + (1 : Int32)).toInt = x7.toInt + (1 : Int) := ti_add (show -2147483648 ≤ x7.toInt + (1 : Int) by omega) (show x7.toInt + (1 : Int) ≤ 2147483647 by omega)
    exact ih _ _ _ Iu26 Fu26 O83_u26 O0_u26 (by omega) (by omega) (by omega)
set_option maxHeartbeats 4000000 in
set_option maxRecDepth 100000 in
theorem s_X3_whichKind {F : Nat} (hF : 100000 ≤ F) {x1 : Int32} {x2 : Int32} {x3 : Int32} {τ : Mem} (hI : wiX τ) : sf (f_X3_whichKind F x1 x2 x3 τ) (fun r s => wiX s ∧ (∀ k, 101 ≤ k → s k = τ k) ∧ s 83 1 = τ 83 1 ∧ s 0 7 = τ 0 7 ∧ -2147483648 ≤ r.toInt ∧ r.toInt ≤ 2147483647) := by
  have Fτ : ∀ k, 101 ≤ k → τ k = τ k := fun _ _ => rfl
  have O83_τ : τ 83 1 = τ 83 1 := rfl
  have O0_τ : τ 0 7 = τ 0 7 := rfl
  rw [f_X3_whichKind_e]
  have b1 := ti_lo x1
  have b2 := ti_hi x1
  have b3 := ti_lo x2
  have b4 := ti_hi x2
  refine sf_bnd (s_X3_noLookerFar hF hI) (fun r5 u6 p7 => ?_)
  obtain ⟨e9, p7⟩ := p7
  have e9 := e9.symm
  subst e9
  rcases p7 with ⟨rfl, q8, q9, q10, q11⟩ | p7
  · refine sf_in ?_
    rw [f_X3_notBelow_e]
    have b12 := ti_lo x3
    have b13 := ti_hi x3
    refine sf_ite (fun c14 => ?_) (fun c14 => ?_)
    · have C14 : x3.toInt < (0 : Int) := ti_lt c14
      rw [j_X3_notBelow_13_e]
      refine sf_ret ?_
      refine sf_bnd (s_X3_longRow hF hI) (fun r15 u16 p17 => ?_)
      obtain ⟨e9, p17⟩ := p17
      have e9 := e9.symm
      subst e9
      rcases p17 with rfl | p17
      · refine sf_in ?_
        rw [f_X3_firstOf_e]
        refine sf_ite (fun c18 => ?_) (fun c18 => ?_)
        · have C18 : (-2 : Int) = (0 : Int) := ti_eq c18
          exfalso; omega
        have C18 : ¬ (-2 : Int) = (0 : Int) := ti_ne c18
        refine sf_ret ?_
        refine sf_in ?_
        rw [f_X3_firstOf_e]
        refine sf_ite (fun c19 => ?_) (fun c19 => ?_)
        · have C19 : (0 : Int) = (0 : Int) := ti_eq c19
          refine sf_ret ?_
          refine sf_ite (fun c20 => ?_) (fun c20 => ?_)
          · have C20 : (-2 : Int) = (0 : Int) := ti_eq c20
            exfalso; omega
          have C20 : ¬ (-2 : Int) = (0 : Int) := ti_ne c20
          refine sf_bnd (s_X3_refuse hF hI (by decide) (by decide)) (fun r21 u22 p23 => ?_)
          obtain ⟨Iu22, Fu22_, O83_u22_, O0_u22_, p23_1, p23_2, p23_x0⟩ := p23
          have Fu22 : ∀ k, 101 ≤ k → u22 k = τ k := fun k hk => (Fu22_ k hk).trans (Fτ k hk)
          have O83_u22 : u22 83 1 = τ 83 1 := O83_u22_.trans O83_τ
          have O0_u22 : u22 0 7 = τ 0 7 := O0_u22_.trans O0_τ
          replace p23_x0 : r21.toInt = (-2 : Int) := p23_x0
          exact sf_ret ⟨Iu22, Fu22, O83_u22, O0_u22, ti_lo _, ti_hi _⟩
        have C19 : ¬ (0 : Int) = (0 : Int) := ti_ne c19
        exfalso; omega
      obtain rfl := p17
      refine sf_in ?_
      rw [f_X3_firstOf_e]
      refine sf_ite (fun c24 => ?_) (fun c24 => ?_)
      · have C24 : (-2 : Int) = (0 : Int) := ti_eq c24
        exfalso; omega
      have C24 : ¬ (-2 : Int) = (0 : Int) := ti_ne c24
      refine sf_ret ?_
      refine sf_in ?_
      rw [f_X3_firstOf_e]
      refine sf_ite (fun c25 => ?_) (fun c25 => ?_)
      · have C25 : (0 : Int) = (0 : Int) := ti_eq c25
        refine sf_ret ?_
        refine sf_ite (fun c26 => ?_) (fun c26 => ?_)
        · have C26 : (-2 : Int) = (0 : Int) := ti_eq c26
          exfalso; omega
        have C26 : ¬ (-2 : Int) = (0 : Int) := ti_ne c26
        refine sf_bnd (s_X3_refuse hF hI (by decide) (by decide)) (fun r27 u28 p29 => ?_)
        obtain ⟨Iu28, Fu28_, O83_u28_, O0_u28_, p29_1, p29_2, p29_x0⟩ := p29
        have Fu28 : ∀ k, 101 ≤ k → u28 k = τ k := fun k hk => (Fu28_ k hk).trans (Fτ k hk)
        have O83_u28 : u28 83 1 = τ 83 1 := O83_u28_.trans O83_τ
        have O0_u28 : u28 0 7 = τ 0 7 := O0_u28_.trans O0_τ
        replace p29_x0 : r27.toInt = (-2 : Int) := p29_x0
        exact sf_ret ⟨Iu28, Fu28, O83_u28, O0_u28, ti_lo _, ti_hi _⟩
      have C25 : ¬ (0 : Int) = (0 : Int) := ti_ne c25
      exfalso; omega
    have C14 : (0 : Int) ≤ x3.toInt := ti_nlt c14
    refine sf_ite (fun c30 => ?_) (fun c30 => ?_)
    · have C30 : (2 : Int) ≤ x3.toInt := ti_le c30
      rw [j_X3_notBelow_13_e]
      refine sf_ret ?_
      refine sf_bnd (s_X3_longRow hF hI) (fun r31 u32 p33 => ?_)
      obtain ⟨e9, p33⟩ := p33
      have e9 := e9.symm
      subst e9
      rcases p33 with rfl | p33
      · refine sf_in ?_
        rw [f_X3_firstOf_e]
        refine sf_ite (fun c34 => ?_) (fun c34 => ?_)
        · have C34 : (-2 : Int) = (0 : Int) := ti_eq c34
          exfalso; omega
        have C34 : ¬ (-2 : Int) = (0 : Int) := ti_ne c34
        refine sf_ret ?_
        refine sf_in ?_
        rw [f_X3_firstOf_e]
        refine sf_ite (fun c35 => ?_) (fun c35 => ?_)
        · have C35 : (0 : Int) = (0 : Int) := ti_eq c35
          refine sf_ret ?_
          refine sf_ite (fun c36 => ?_) (fun c36 => ?_)
          · have C36 : (-2 : Int) = (0 : Int) := ti_eq c36
            exfalso; omega
          have C36 : ¬ (-2 : Int) = (0 : Int) := ti_ne c36
          refine sf_bnd (s_X3_refuse hF hI (by decide) (by decide)) (fun r37 u38 p39 => ?_)
          obtain ⟨Iu38, Fu38_, O83_u38_, O0_u38_, p39_1, p39_2, p39_x0⟩ := p39
          have Fu38 : ∀ k, 101 ≤ k → u38 k = τ k := fun k hk => (Fu38_ k hk).trans (Fτ k hk)
          have O83_u38 : u38 83 1 = τ 83 1 := O83_u38_.trans O83_τ
          have O0_u38 : u38 0 7 = τ 0 7 := O0_u38_.trans O0_τ
          replace p39_x0 : r37.toInt = (-2 : Int) := p39_x0
          exact sf_ret ⟨Iu38, Fu38, O83_u38, O0_u38, ti_lo _, ti_hi _⟩
        have C35 : ¬ (0 : Int) = (0 : Int) := ti_ne c35
        exfalso; omega
      obtain rfl := p33
      refine sf_in ?_
      rw [f_X3_firstOf_e]
      refine sf_ite (fun c40 => ?_) (fun c40 => ?_)
      · have C40 : (-2 : Int) = (0 : Int) := ti_eq c40
        exfalso; omega
      have C40 : ¬ (-2 : Int) = (0 : Int) := ti_ne c40
      refine sf_ret ?_
      refine sf_in ?_
      rw [f_X3_firstOf_e]
      refine sf_ite (fun c41 => ?_) (fun c41 => ?_)
      · have C41 : (0 : Int) = (0 : Int) := ti_eq c41
        refine sf_ret ?_
        refine sf_ite (fun c42 => ?_) (fun c42 => ?_)
        · have C42 : (-2 : Int) = (0 : Int) := ti_eq c42
          exfalso; omega
        have C42 : ¬ (-2 : Int) = (0 : Int) := ti_ne c42
        refine sf_bnd (s_X3_refuse hF hI (by decide) (by decide)) (fun r43 u44 p45 => ?_)
        obtain ⟨Iu44, Fu44_, O83_u44_, O0_u44_, p45_1, p45_2, p45_x0⟩ := p45
        have Fu44 : ∀ k, 101 ≤ k → u44 k = τ k := fun k hk => (Fu44_ k hk).trans (Fτ k hk)
        have O83_u44 : u44 83 1 = τ 83 1 := O83_u44_.trans O83_τ
        have O0_u44 : u44 0 7 = τ 0 7 := O0_u44_.trans O0_τ
        replace p45_x0 : r43.toInt = (-2 : Int) := p45_x0
        exact sf_ret ⟨Iu44, Fu44, O83_u44, O0_u44, ti_lo _, ti_hi _⟩
      have C41 : ¬ (0 : Int) = (0 : Int) := ti_ne c41
      exfalso; omega
    have C30 : x3.toInt < (2 : Int) := ti_nle c30
    refine sf_ret ?_
    refine sf_bnd (s_X3_longRow hF hI) (fun r46 u47 p48 => ?_)
    obtain ⟨e9, p48⟩ := p48
    have e9 := e9.symm
    subst e9
    rcases p48 with rfl | p48
    · refine sf_in ?_
      rw [f_X3_firstOf_e]
      refine sf_ite (fun c49 => ?_) (fun c49 => ?_)
      · have C49 : (0 : Int) = (0 : Int) := ti_eq c49
        refine sf_ret ?_
        refine sf_in ?_
        rw [f_X3_firstOf_e]
        refine sf_ite (fun c50 => ?_) (fun c50 => ?_)
        · have C50 : (0 : Int) = (0 : Int) := ti_eq c50
          refine sf_ret ?_
          refine sf_ite (fun c51 => ?_) (fun c51 => ?_)
          · have C51 : (0 : Int) = (0 : Int) := ti_eq c51
            refine sf_bnd (s_X0_takeFrom hF wt_h24 wt_h1 hI) (fun r52 u53 p54 => ?_)
            obtain ⟨Iu53, Fu53_, O83_u53_, O0_u53_, -⟩ := p54
            have Fu53 : ∀ k, 101 ≤ k → u53 k = τ k := fun k hk => (Fu53_ k hk).trans (Fτ k hk)
            have O83_u53 : u53 83 1 = τ 83 1 := O83_u53_.trans O83_τ
            have O0_u53 : u53 0 7 = τ 0 7 := O0_u53_.trans O0_τ
            refine sf_ite (fun c55 => ?_) (fun c55 => ?_)
            · have C55 : x3.toInt = (0 : Int) := ti_eq c55
              rw [j_X3_whichKind_59_e]
              have l_0 : (0 : Int32).toInt = 0 := rfl
              exact sl_X3_whichKind_64 hF (by omega) (by omega) (by omega) (by omega) (by omega) (by omega) (by decide) (by decide) _ _ _ _ Iu53 Fu53 O83_u53 O0_u53 (by omega) (by decide) (by decide)
            have C55 : ¬ x3.toInt = (0 : Int) := ti_ne c55
            rw [j_X3_whichKind_59_e]
            have l_0 : (0 : Int32).toInt = 0 := rfl
            exact sl_X3_whichKind_64 hF (by omega) (by omega) (by omega) (by omega) (by omega) (by omega) (by decide) (by decide) _ _ _ _ Iu53 Fu53 O83_u53 O0_u53 (by omega) (by decide) (by decide)
          have C51 : ¬ (0 : Int) = (0 : Int) := ti_ne c51
          exfalso; omega
        have C50 : ¬ (0 : Int) = (0 : Int) := ti_ne c50
        exfalso; omega
      have C49 : ¬ (0 : Int) = (0 : Int) := ti_ne c49
      exfalso; omega
    obtain rfl := p48
    refine sf_in ?_
    rw [f_X3_firstOf_e]
    refine sf_ite (fun c56 => ?_) (fun c56 => ?_)
    · have C56 : (0 : Int) = (0 : Int) := ti_eq c56
      refine sf_ret ?_
      refine sf_in ?_
      rw [f_X3_firstOf_e]
      refine sf_ite (fun c57 => ?_) (fun c57 => ?_)
      · have C57 : (0 : Int) = (0 : Int) := ti_eq c57
        refine sf_ret ?_
        refine sf_ite (fun c58 => ?_) (fun c58 => ?_)
        · have C58 : (-3 : Int) = (0 : Int) := ti_eq c58
          exfalso; omega
        have C58 : ¬ (-3 : Int) = (0 : Int) := ti_ne c58
        refine sf_bnd (s_X3_refuse hF hI (by decide) (by decide)) (fun r59 u60 p61 => ?_)
        obtain ⟨Iu60, Fu60_, O83_u60_, O0_u60_, p61_1, p61_2, p61_x0⟩ := p61
        have Fu60 : ∀ k, 101 ≤ k → u60 k = τ k := fun k hk => (Fu60_ k hk).trans (Fτ k hk)
        have O83_u60 : u60 83 1 = τ 83 1 := O83_u60_.trans O83_τ
        have O0_u60 : u60 0 7 = τ 0 7 := O0_u60_.trans O0_τ
        replace p61_x0 : r59.toInt = (-3 : Int) := p61_x0
        exact sf_ret ⟨Iu60, Fu60, O83_u60, O0_u60, ti_lo _, ti_hi _⟩
      have C57 : ¬ (0 : Int) = (0 : Int) := ti_ne c57
      exfalso; omega
    have C56 : ¬ (0 : Int) = (0 : Int) := ti_ne c56
    exfalso; omega
  rcases p7 with rfl | p7
  · refine sf_in ?_
    rw [f_X3_notBelow_e]
    have b62 := ti_lo x3
    have b63 := ti_hi x3
    refine sf_ite (fun c64 => ?_) (fun c64 => ?_)
    · have C64 : x3.toInt < (0 : Int) := ti_lt c64
      rw [j_X3_notBelow_13_e]
      refine sf_ret ?_
      refine sf_bnd (s_X3_longRow hF hI) (fun r65 u66 p67 => ?_)
      obtain ⟨e9, p67⟩ := p67
      have e9 := e9.symm
      subst e9
      rcases p67 with rfl | p67
      · refine sf_in ?_
        rw [f_X3_firstOf_e]
        refine sf_ite (fun c68 => ?_) (fun c68 => ?_)
        · have C68 : (-2 : Int) = (0 : Int) := ti_eq c68
          exfalso; omega
        have C68 : ¬ (-2 : Int) = (0 : Int) := ti_ne c68
        refine sf_ret ?_
        refine sf_in ?_
        rw [f_X3_firstOf_e]
        refine sf_ite (fun c69 => ?_) (fun c69 => ?_)
        · have C69 : (-1 : Int) = (0 : Int) := ti_eq c69
          exfalso; omega
        have C69 : ¬ (-1 : Int) = (0 : Int) := ti_ne c69
        refine sf_ret ?_
        refine sf_ite (fun c70 => ?_) (fun c70 => ?_)
        · have C70 : (-1 : Int) = (0 : Int) := ti_eq c70
          exfalso; omega
        have C70 : ¬ (-1 : Int) = (0 : Int) := ti_ne c70
        refine sf_bnd (s_X3_refuse hF hI (by decide) (by decide)) (fun r71 u72 p73 => ?_)
        obtain ⟨Iu72, Fu72_, O83_u72_, O0_u72_, p73_1, p73_2, p73_x0⟩ := p73
        have Fu72 : ∀ k, 101 ≤ k → u72 k = τ k := fun k hk => (Fu72_ k hk).trans (Fτ k hk)
        have O83_u72 : u72 83 1 = τ 83 1 := O83_u72_.trans O83_τ
        have O0_u72 : u72 0 7 = τ 0 7 := O0_u72_.trans O0_τ
        replace p73_x0 : r71.toInt = (-1 : Int) := p73_x0
        exact sf_ret ⟨Iu72, Fu72, O83_u72, O0_u72, ti_lo _, ti_hi _⟩
      obtain rfl := p67
      refine sf_in ?_
      rw [f_X3_firstOf_e]
      refine sf_ite (fun c74 => ?_) (fun c74 => ?_)
      · have C74 : (-2 : Int) = (0 : Int) := ti_eq c74
        exfalso; omega
      have C74 : ¬ (-2 : Int) = (0 : Int) := ti_ne c74
      refine sf_ret ?_
      refine sf_in ?_
      rw [f_X3_firstOf_e]
      refine sf_ite (fun c75 => ?_) (fun c75 => ?_)
      · have C75 : (-1 : Int) = (0 : Int) := ti_eq c75
        exfalso; omega
      have C75 : ¬ (-1 : Int) = (0 : Int) := ti_ne c75
      refine sf_ret ?_
      refine sf_ite (fun c76 => ?_) (fun c76 => ?_)
      · have C76 : (-1 : Int) = (0 : Int) := ti_eq c76
        exfalso; omega
      have C76 : ¬ (-1 : Int) = (0 : Int) := ti_ne c76
      refine sf_bnd (s_X3_refuse hF hI (by decide) (by decide)) (fun r77 u78 p79 => ?_)
      obtain ⟨Iu78, Fu78_, O83_u78_, O0_u78_, p79_1, p79_2, p79_x0⟩ := p79
      have Fu78 : ∀ k, 101 ≤ k → u78 k = τ k := fun k hk => (Fu78_ k hk).trans (Fτ k hk)
      have O83_u78 : u78 83 1 = τ 83 1 := O83_u78_.trans O83_τ
      have O0_u78 : u78 0 7 = τ 0 7 := O0_u78_.trans O0_τ
      replace p79_x0 : r77.toInt = (-1 : Int) := p79_x0
      exact sf_ret ⟨Iu78, Fu78, O83_u78, O0_u78, ti_lo _, ti_hi _⟩
    have C64 : (0 : Int) ≤ x3.toInt := ti_nlt c64
    refine sf_ite (fun c80 => ?_) (fun c80 => ?_)
    · have C80 : (2 : Int) ≤ x3.toInt := ti_le c80
      rw [j_X3_notBelow_13_e]
      refine sf_ret ?_
      refine sf_bnd (s_X3_longRow hF hI) (fun r81 u82 p83 => ?_)
      obtain ⟨e9, p83⟩ := p83
      have e9 := e9.symm
      subst e9
      rcases p83 with rfl | p83
      · refine sf_in ?_
        rw [f_X3_firstOf_e]
        refine sf_ite (fun c84 => ?_) (fun c84 => ?_)
        · have C84 : (-2 : Int) = (0 : Int) := ti_eq c84
          exfalso; omega
        have C84 : ¬ (-2 : Int) = (0 : Int) := ti_ne c84
        refine sf_ret ?_
        refine sf_in ?_
        rw [f_X3_firstOf_e]
        refine sf_ite (fun c85 => ?_) (fun c85 => ?_)
        · have C85 : (-1 : Int) = (0 : Int) := ti_eq c85
          exfalso; omega
        have C85 : ¬ (-1 : Int) = (0 : Int) := ti_ne c85
        refine sf_ret ?_
        refine sf_ite (fun c86 => ?_) (fun c86 => ?_)
        · have C86 : (-1 : Int) = (0 : Int) := ti_eq c86
          exfalso; omega
        have C86 : ¬ (-1 : Int) = (0 : Int) := ti_ne c86
        refine sf_bnd (s_X3_refuse hF hI (by decide) (by decide)) (fun r87 u88 p89 => ?_)
        obtain ⟨Iu88, Fu88_, O83_u88_, O0_u88_, p89_1, p89_2, p89_x0⟩ := p89
        have Fu88 : ∀ k, 101 ≤ k → u88 k = τ k := fun k hk => (Fu88_ k hk).trans (Fτ k hk)
        have O83_u88 : u88 83 1 = τ 83 1 := O83_u88_.trans O83_τ
        have O0_u88 : u88 0 7 = τ 0 7 := O0_u88_.trans O0_τ
        replace p89_x0 : r87.toInt = (-1 : Int) := p89_x0
        exact sf_ret ⟨Iu88, Fu88, O83_u88, O0_u88, ti_lo _, ti_hi _⟩
      obtain rfl := p83
      refine sf_in ?_
      rw [f_X3_firstOf_e]
      refine sf_ite (fun c90 => ?_) (fun c90 => ?_)
      · have C90 : (-2 : Int) = (0 : Int) := ti_eq c90
        exfalso; omega
      have C90 : ¬ (-2 : Int) = (0 : Int) := ti_ne c90
      refine sf_ret ?_
      refine sf_in ?_
      rw [f_X3_firstOf_e]
      refine sf_ite (fun c91 => ?_) (fun c91 => ?_)
      · have C91 : (-1 : Int) = (0 : Int) := ti_eq c91
        exfalso; omega
      have C91 : ¬ (-1 : Int) = (0 : Int) := ti_ne c91
      refine sf_ret ?_
      refine sf_ite (fun c92 => ?_) (fun c92 => ?_)
      · have C92 : (-1 : Int) = (0 : Int) := ti_eq c92
        exfalso; omega
      have C92 : ¬ (-1 : Int) = (0 : Int) := ti_ne c92
      refine sf_bnd (s_X3_refuse hF hI (by decide) (by decide)) (fun r93 u94 p95 => ?_)
      obtain ⟨Iu94, Fu94_, O83_u94_, O0_u94_, p95_1, p95_2, p95_x0⟩ := p95
      have Fu94 : ∀ k, 101 ≤ k → u94 k = τ k := fun k hk => (Fu94_ k hk).trans (Fτ k hk)
      have O83_u94 : u94 83 1 = τ 83 1 := O83_u94_.trans O83_τ
      have O0_u94 : u94 0 7 = τ 0 7 := O0_u94_.trans O0_τ
      replace p95_x0 : r93.toInt = (-1 : Int) := p95_x0
      exact sf_ret ⟨Iu94, Fu94, O83_u94, O0_u94, ti_lo _, ti_hi _⟩
    have C80 : x3.toInt < (2 : Int) := ti_nle c80
    refine sf_ret ?_
    refine sf_bnd (s_X3_longRow hF hI) (fun r96 u97 p98 => ?_)
    obtain ⟨e9, p98⟩ := p98
    have e9 := e9.symm
    subst e9
    rcases p98 with rfl | p98
    · refine sf_in ?_
      rw [f_X3_firstOf_e]
      refine sf_ite (fun c99 => ?_) (fun c99 => ?_)
      · have C99 : (0 : Int) = (0 : Int) := ti_eq c99
        refine sf_ret ?_
        refine sf_in ?_
        rw [f_X3_firstOf_e]
        refine sf_ite (fun c100 => ?_) (fun c100 => ?_)
        · have C100 : (-1 : Int) = (0 : Int) := ti_eq c100
          exfalso; omega
        have C100 : ¬ (-1 : Int) = (0 : Int) := ti_ne c100
        refine sf_ret ?_
        refine sf_ite (fun c101 => ?_) (fun c101 => ?_)
        · have C101 : (-1 : Int) = (0 : Int) := ti_eq c101
          exfalso; omega
        have C101 : ¬ (-1 : Int) = (0 : Int) := ti_ne c101
        refine sf_bnd (s_X3_refuse hF hI (by decide) (by decide)) (fun r102 u103 p104 => ?_)
        obtain ⟨Iu103, Fu103_, O83_u103_, O0_u103_, p104_1, p104_2, p104_x0⟩ := p104
        have Fu103 : ∀ k, 101 ≤ k → u103 k = τ k := fun k hk => (Fu103_ k hk).trans (Fτ k hk)
        have O83_u103 : u103 83 1 = τ 83 1 := O83_u103_.trans O83_τ
        have O0_u103 : u103 0 7 = τ 0 7 := O0_u103_.trans O0_τ
        replace p104_x0 : r102.toInt = (-1 : Int) := p104_x0
        exact sf_ret ⟨Iu103, Fu103, O83_u103, O0_u103, ti_lo _, ti_hi _⟩
      have C99 : ¬ (0 : Int) = (0 : Int) := ti_ne c99
      exfalso; omega
    obtain rfl := p98
    refine sf_in ?_
    rw [f_X3_firstOf_e]
    refine sf_ite (fun c105 => ?_) (fun c105 => ?_)
    · have C105 : (0 : Int) = (0 : Int) := ti_eq c105
      refine sf_ret ?_
      refine sf_in ?_
      rw [f_X3_firstOf_e]
      refine sf_ite (fun c106 => ?_) (fun c106 => ?_)
      · have C106 : (-1 : Int) = (0 : Int) := ti_eq c106
        exfalso; omega
      have C106 : ¬ (-1 : Int) = (0 : Int) := ti_ne c106
      refine sf_ret ?_
      refine sf_ite (fun c107 => ?_) (fun c107 => ?_)
      · have C107 : (-1 : Int) = (0 : Int) := ti_eq c107
        exfalso; omega
      have C107 : ¬ (-1 : Int) = (0 : Int) := ti_ne c107
      refine sf_bnd (s_X3_refuse hF hI (by decide) (by decide)) (fun r108 u109 p110 => ?_)
      obtain ⟨Iu109, Fu109_, O83_u109_, O0_u109_, p110_1, p110_2, p110_x0⟩ := p110
      have Fu109 : ∀ k, 101 ≤ k → u109 k = τ k := fun k hk => (Fu109_ k hk).trans (Fτ k hk)
      have O83_u109 : u109 83 1 = τ 83 1 := O83_u109_.trans O83_τ
      have O0_u109 : u109 0 7 = τ 0 7 := O0_u109_.trans O0_τ
      replace p110_x0 : r108.toInt = (-1 : Int) := p110_x0
      exact sf_ret ⟨Iu109, Fu109, O83_u109, O0_u109, ti_lo _, ti_hi _⟩
    have C105 : ¬ (0 : Int) = (0 : Int) := ti_ne c105
    exfalso; omega
  rcases p7 with rfl | p7
  · refine sf_in ?_
    rw [f_X3_notBelow_e]
    have b111 := ti_lo x3
    have b112 := ti_hi x3
    refine sf_ite (fun c113 => ?_) (fun c113 => ?_)
    · have C113 : x3.toInt < (0 : Int) := ti_lt c113
      rw [j_X3_notBelow_13_e]
      refine sf_ret ?_
      refine sf_bnd (s_X3_longRow hF hI) (fun r114 u115 p116 => ?_)
      obtain ⟨e9, p116⟩ := p116
      have e9 := e9.symm
      subst e9
      rcases p116 with rfl | p116
      · refine sf_in ?_
        rw [f_X3_firstOf_e]
        refine sf_ite (fun c117 => ?_) (fun c117 => ?_)
        · have C117 : (-2 : Int) = (0 : Int) := ti_eq c117
          exfalso; omega
        have C117 : ¬ (-2 : Int) = (0 : Int) := ti_ne c117
        refine sf_ret ?_
        refine sf_in ?_
        rw [f_X3_firstOf_e]
        refine sf_ite (fun c118 => ?_) (fun c118 => ?_)
        · have C118 : (-4 : Int) = (0 : Int) := ti_eq c118
          exfalso; omega
        have C118 : ¬ (-4 : Int) = (0 : Int) := ti_ne c118
        refine sf_ret ?_
        refine sf_ite (fun c119 => ?_) (fun c119 => ?_)
        · have C119 : (-4 : Int) = (0 : Int) := ti_eq c119
          exfalso; omega
        have C119 : ¬ (-4 : Int) = (0 : Int) := ti_ne c119
        refine sf_bnd (s_X3_refuse hF hI (by decide) (by decide)) (fun r120 u121 p122 => ?_)
        obtain ⟨Iu121, Fu121_, O83_u121_, O0_u121_, p122_1, p122_2, p122_x0⟩ := p122
        have Fu121 : ∀ k, 101 ≤ k → u121 k = τ k := fun k hk => (Fu121_ k hk).trans (Fτ k hk)
        have O83_u121 : u121 83 1 = τ 83 1 := O83_u121_.trans O83_τ
        have O0_u121 : u121 0 7 = τ 0 7 := O0_u121_.trans O0_τ
        replace p122_x0 : r120.toInt = (-4 : Int) := p122_x0
        exact sf_ret ⟨Iu121, Fu121, O83_u121, O0_u121, ti_lo _, ti_hi _⟩
      obtain rfl := p116
      refine sf_in ?_
      rw [f_X3_firstOf_e]
      refine sf_ite (fun c123 => ?_) (fun c123 => ?_)
      · have C123 : (-2 : Int) = (0 : Int) := ti_eq c123
        exfalso; omega
      have C123 : ¬ (-2 : Int) = (0 : Int) := ti_ne c123
      refine sf_ret ?_
      refine sf_in ?_
      rw [f_X3_firstOf_e]
      refine sf_ite (fun c124 => ?_) (fun c124 => ?_)
      · have C124 : (-4 : Int) = (0 : Int) := ti_eq c124
        exfalso; omega
      have C124 : ¬ (-4 : Int) = (0 : Int) := ti_ne c124
      refine sf_ret ?_
      refine sf_ite (fun c125 => ?_) (fun c125 => ?_)
      · have C125 : (-4 : Int) = (0 : Int) := ti_eq c125
        exfalso; omega
      have C125 : ¬ (-4 : Int) = (0 : Int) := ti_ne c125
      refine sf_bnd (s_X3_refuse hF hI (by decide) (by decide)) (fun r126 u127 p128 => ?_)
      obtain ⟨Iu127, Fu127_, O83_u127_, O0_u127_, p128_1, p128_2, p128_x0⟩ := p128
      have Fu127 : ∀ k, 101 ≤ k → u127 k = τ k := fun k hk => (Fu127_ k hk).trans (Fτ k hk)
      have O83_u127 : u127 83 1 = τ 83 1 := O83_u127_.trans O83_τ
      have O0_u127 : u127 0 7 = τ 0 7 := O0_u127_.trans O0_τ
      replace p128_x0 : r126.toInt = (-4 : Int) := p128_x0
      exact sf_ret ⟨Iu127, Fu127, O83_u127, O0_u127, ti_lo _, ti_hi _⟩
    have C113 : (0 : Int) ≤ x3.toInt := ti_nlt c113
    refine sf_ite (fun c129 => ?_) (fun c129 => ?_)
    · have C129 : (2 : Int) ≤ x3.toInt := ti_le c129
      rw [j_X3_notBelow_13_e]
      refine sf_ret ?_
      refine sf_bnd (s_X3_longRow hF hI) (fun r130 u131 p132 => ?_)
      obtain ⟨e9, p132⟩ := p132
      have e9 := e9.symm
      subst e9
      rcases p132 with rfl | p132
      · refine sf_in ?_
        rw [f_X3_firstOf_e]
        refine sf_ite (fun c133 => ?_) (fun c133 => ?_)
        · have C133 : (-2 : Int) = (0 : Int) := ti_eq c133
          exfalso; omega
        have C133 : ¬ (-2 : Int) = (0 : Int) := ti_ne c133
        refine sf_ret ?_
        refine sf_in ?_
        rw [f_X3_firstOf_e]
        refine sf_ite (fun c134 => ?_) (fun c134 => ?_)
        · have C134 : (-4 : Int) = (0 : Int) := ti_eq c134
          exfalso; omega
        have C134 : ¬ (-4 : Int) = (0 : Int) := ti_ne c134
        refine sf_ret ?_
        refine sf_ite (fun c135 => ?_) (fun c135 => ?_)
        · have C135 : (-4 : Int) = (0 : Int) := ti_eq c135
          exfalso; omega
        have C135 : ¬ (-4 : Int) = (0 : Int) := ti_ne c135
        refine sf_bnd (s_X3_refuse hF hI (by decide) (by decide)) (fun r136 u137 p138 => ?_)
        obtain ⟨Iu137, Fu137_, O83_u137_, O0_u137_, p138_1, p138_2, p138_x0⟩ := p138
        have Fu137 : ∀ k, 101 ≤ k → u137 k = τ k := fun k hk => (Fu137_ k hk).trans (Fτ k hk)
        have O83_u137 : u137 83 1 = τ 83 1 := O83_u137_.trans O83_τ
        have O0_u137 : u137 0 7 = τ 0 7 := O0_u137_.trans O0_τ
        replace p138_x0 : r136.toInt = (-4 : Int) := p138_x0
        exact sf_ret ⟨Iu137, Fu137, O83_u137, O0_u137, ti_lo _, ti_hi _⟩
      obtain rfl := p132
      refine sf_in ?_
      rw [f_X3_firstOf_e]
      refine sf_ite (fun c139 => ?_) (fun c139 => ?_)
      · have C139 : (-2 : Int) = (0 : Int) := ti_eq c139
        exfalso; omega
      have C139 : ¬ (-2 : Int) = (0 : Int) := ti_ne c139
      refine sf_ret ?_
      refine sf_in ?_
      rw [f_X3_firstOf_e]
      refine sf_ite (fun c140 => ?_) (fun c140 => ?_)
      · have C140 : (-4 : Int) = (0 : Int) := ti_eq c140
        exfalso; omega
      have C140 : ¬ (-4 : Int) = (0 : Int) := ti_ne c140
      refine sf_ret ?_
      refine sf_ite (fun c141 => ?_) (fun c141 => ?_)
      · have C141 : (-4 : Int) = (0 : Int) := ti_eq c141
        exfalso; omega
      have C141 : ¬ (-4 : Int) = (0 : Int) := ti_ne c141
      refine sf_bnd (s_X3_refuse hF hI (by decide) (by decide)) (fun r142 u143 p144 => ?_)
      obtain ⟨Iu143, Fu143_, O83_u143_, O0_u143_, p144_1, p144_2, p144_x0⟩ := p144
      have Fu143 : ∀ k, 101 ≤ k → u143 k = τ k := fun k hk => (Fu143_ k hk).trans (Fτ k hk)
      have O83_u143 : u143 83 1 = τ 83 1 := O83_u143_.trans O83_τ
      have O0_u143 : u143 0 7 = τ 0 7 := O0_u143_.trans O0_τ
      replace p144_x0 : r142.toInt = (-4 : Int) := p144_x0
      exact sf_ret ⟨Iu143, Fu143, O83_u143, O0_u143, ti_lo _, ti_hi _⟩
    have C129 : x3.toInt < (2 : Int) := ti_nle c129
    refine sf_ret ?_
    refine sf_bnd (s_X3_longRow hF hI) (fun r145 u146 p147 => ?_)
    obtain ⟨e9, p147⟩ := p147
    have e9 := e9.symm
    subst e9
    rcases p147 with rfl | p147
    · refine sf_in ?_
      rw [f_X3_firstOf_e]
      refine sf_ite (fun c148 => ?_) (fun c148 => ?_)
      · have C148 : (0 : Int) = (0 : Int) := ti_eq c148
        refine sf_ret ?_
        refine sf_in ?_
        rw [f_X3_firstOf_e]
        refine sf_ite (fun c149 => ?_) (fun c149 => ?_)
        · have C149 : (-4 : Int) = (0 : Int) := ti_eq c149
          exfalso; omega
        have C149 : ¬ (-4 : Int) = (0 : Int) := ti_ne c149
        refine sf_ret ?_
        refine sf_ite (fun c150 => ?_) (fun c150 => ?_)
        · have C150 : (-4 : Int) = (0 : Int) := ti_eq c150
          exfalso; omega
        have C150 : ¬ (-4 : Int) = (0 : Int) := ti_ne c150
        refine sf_bnd (s_X3_refuse hF hI (by decide) (by decide)) (fun r151 u152 p153 => ?_)
        obtain ⟨Iu152, Fu152_, O83_u152_, O0_u152_, p153_1, p153_2, p153_x0⟩ := p153
        have Fu152 : ∀ k, 101 ≤ k → u152 k = τ k := fun k hk => (Fu152_ k hk).trans (Fτ k hk)
        have O83_u152 : u152 83 1 = τ 83 1 := O83_u152_.trans O83_τ
        have O0_u152 : u152 0 7 = τ 0 7 := O0_u152_.trans O0_τ
        replace p153_x0 : r151.toInt = (-4 : Int) := p153_x0
        exact sf_ret ⟨Iu152, Fu152, O83_u152, O0_u152, ti_lo _, ti_hi _⟩
      have C148 : ¬ (0 : Int) = (0 : Int) := ti_ne c148
      exfalso; omega
    obtain rfl := p147
    refine sf_in ?_
    rw [f_X3_firstOf_e]
    refine sf_ite (fun c154 => ?_) (fun c154 => ?_)
    · have C154 : (0 : Int) = (0 : Int) := ti_eq c154
      refine sf_ret ?_
      refine sf_in ?_
      rw [f_X3_firstOf_e]
      refine sf_ite (fun c155 => ?_) (fun c155 => ?_)
      · have C155 : (-4 : Int) = (0 : Int) := ti_eq c155
        exfalso; omega
      have C155 : ¬ (-4 : Int) = (0 : Int) := ti_ne c155
      refine sf_ret ?_
      refine sf_ite (fun c156 => ?_) (fun c156 => ?_)
      · have C156 : (-4 : Int) = (0 : Int) := ti_eq c156
        exfalso; omega
      have C156 : ¬ (-4 : Int) = (0 : Int) := ti_ne c156
      refine sf_bnd (s_X3_refuse hF hI (by decide) (by decide)) (fun r157 u158 p159 => ?_)
      obtain ⟨Iu158, Fu158_, O83_u158_, O0_u158_, p159_1, p159_2, p159_x0⟩ := p159
      have Fu158 : ∀ k, 101 ≤ k → u158 k = τ k := fun k hk => (Fu158_ k hk).trans (Fτ k hk)
      have O83_u158 : u158 83 1 = τ 83 1 := O83_u158_.trans O83_τ
      have O0_u158 : u158 0 7 = τ 0 7 := O0_u158_.trans O0_τ
      replace p159_x0 : r157.toInt = (-4 : Int) := p159_x0
      exact sf_ret ⟨Iu158, Fu158, O83_u158, O0_u158, ti_lo _, ti_hi _⟩
    have C154 : ¬ (0 : Int) = (0 : Int) := ti_ne c154
    exfalso; omega
  obtain rfl := p7
  refine sf_in ?_
  rw [f_X3_notBelow_e]
  have b160 := ti_lo x3
  have b161 := ti_hi x3
  refine sf_ite (fun c162 => ?_) (fun c162 => ?_)
  · have C162 : x3.toInt < (0 : Int) := ti_lt c162
    rw [j_X3_notBelow_13_e]
    refine sf_ret ?_
    refine sf_bnd (s_X3_longRow hF hI) (fun r163 u164 p165 => ?_)
    obtain ⟨e9, p165⟩ := p165
    have e9 := e9.symm
    subst e9
    rcases p165 with rfl | p165
    · refine sf_in ?_
      rw [f_X3_firstOf_e]
      refine sf_ite (fun c166 => ?_) (fun c166 => ?_)
      · have C166 : (-2 : Int) = (0 : Int) := ti_eq c166
        exfalso; omega
      have C166 : ¬ (-2 : Int) = (0 : Int) := ti_ne c166
      refine sf_ret ?_
      refine sf_in ?_
      rw [f_X3_firstOf_e]
      refine sf_ite (fun c167 => ?_) (fun c167 => ?_)
      · have C167 : (-6 : Int) = (0 : Int) := ti_eq c167
        exfalso; omega
      have C167 : ¬ (-6 : Int) = (0 : Int) := ti_ne c167
      refine sf_ret ?_
      refine sf_ite (fun c168 => ?_) (fun c168 => ?_)
      · have C168 : (-6 : Int) = (0 : Int) := ti_eq c168
        exfalso; omega
      have C168 : ¬ (-6 : Int) = (0 : Int) := ti_ne c168
      refine sf_bnd (s_X3_refuse hF hI (by decide) (by decide)) (fun r169 u170 p171 => ?_)
      obtain ⟨Iu170, Fu170_, O83_u170_, O0_u170_, p171_1, p171_2, p171_x0⟩ := p171
      have Fu170 : ∀ k, 101 ≤ k → u170 k = τ k := fun k hk => (Fu170_ k hk).trans (Fτ k hk)
      have O83_u170 : u170 83 1 = τ 83 1 := O83_u170_.trans O83_τ
      have O0_u170 : u170 0 7 = τ 0 7 := O0_u170_.trans O0_τ
      replace p171_x0 : r169.toInt = (-6 : Int) := p171_x0
      exact sf_ret ⟨Iu170, Fu170, O83_u170, O0_u170, ti_lo _, ti_hi _⟩
    obtain rfl := p165
    refine sf_in ?_
    rw [f_X3_firstOf_e]
    refine sf_ite (fun c172 => ?_) (fun c172 => ?_)
    · have C172 : (-2 : Int) = (0 : Int) := ti_eq c172
      exfalso; omega
    have C172 : ¬ (-2 : Int) = (0 : Int) := ti_ne c172
    refine sf_ret ?_
    refine sf_in ?_
    rw [f_X3_firstOf_e]
    refine sf_ite (fun c173 => ?_) (fun c173 => ?_)
    · have C173 : (-6 : Int) = (0 : Int) := ti_eq c173
      exfalso; omega
    have C173 : ¬ (-6 : Int) = (0 : Int) := ti_ne c173
    refine sf_ret ?_
    refine sf_ite (fun c174 => ?_) (fun c174 => ?_)
    · have C174 : (-6 : Int) = (0 : Int) := ti_eq c174
      exfalso; omega
    have C174 : ¬ (-6 : Int) = (0 : Int) := ti_ne c174
    refine sf_bnd (s_X3_refuse hF hI (by decide) (by decide)) (fun r175 u176 p177 => ?_)
    obtain ⟨Iu176, Fu176_, O83_u176_, O0_u176_, p177_1, p177_2, p177_x0⟩ := p177
    have Fu176 : ∀ k, 101 ≤ k → u176 k = τ k := fun k hk => (Fu176_ k hk).trans (Fτ k hk)
    have O83_u176 : u176 83 1 = τ 83 1 := O83_u176_.trans O83_τ
    have O0_u176 : u176 0 7 = τ 0 7 := O0_u176_.trans O0_τ
    replace p177_x0 : r175.toInt = (-6 : Int) := p177_x0
    exact sf_ret ⟨Iu176, Fu176, O83_u176, O0_u176, ti_lo _, ti_hi _⟩
  have C162 : (0 : Int) ≤ x3.toInt := ti_nlt c162
  refine sf_ite (fun c178 => ?_) (fun c178 => ?_)
  · have C178 : (2 : Int) ≤ x3.toInt := ti_le c178
    rw [j_X3_notBelow_13_e]
    refine sf_ret ?_
    refine sf_bnd (s_X3_longRow hF hI) (fun r179 u180 p181 => ?_)
    obtain ⟨e9, p181⟩ := p181
    have e9 := e9.symm
    subst e9
    rcases p181 with rfl | p181
    · refine sf_in ?_
      rw [f_X3_firstOf_e]
      refine sf_ite (fun c182 => ?_) (fun c182 => ?_)
      · have C182 : (-2 : Int) = (0 : Int) := ti_eq c182
        exfalso; omega
      have C182 : ¬ (-2 : Int) = (0 : Int) := ti_ne c182
      refine sf_ret ?_
      refine sf_in ?_
      rw [f_X3_firstOf_e]
      refine sf_ite (fun c183 => ?_) (fun c183 => ?_)
      · have C183 : (-6 : Int) = (0 : Int) := ti_eq c183
        exfalso; omega
      have C183 : ¬ (-6 : Int) = (0 : Int) := ti_ne c183
      refine sf_ret ?_
      refine sf_ite (fun c184 => ?_) (fun c184 => ?_)
      · have C184 : (-6 : Int) = (0 : Int) := ti_eq c184
        exfalso; omega
      have C184 : ¬ (-6 : Int) = (0 : Int) := ti_ne c184
      refine sf_bnd (s_X3_refuse hF hI (by decide) (by decide)) (fun r185 u186 p187 => ?_)
      obtain ⟨Iu186, Fu186_, O83_u186_, O0_u186_, p187_1, p187_2, p187_x0⟩ := p187
      have Fu186 : ∀ k, 101 ≤ k → u186 k = τ k := fun k hk => (Fu186_ k hk).trans (Fτ k hk)
      have O83_u186 : u186 83 1 = τ 83 1 := O83_u186_.trans O83_τ
      have O0_u186 : u186 0 7 = τ 0 7 := O0_u186_.trans O0_τ
      replace p187_x0 : r185.toInt = (-6 : Int) := p187_x0
      exact sf_ret ⟨Iu186, Fu186, O83_u186, O0_u186, ti_lo _, ti_hi _⟩
    obtain rfl := p181
    refine sf_in ?_
    rw [f_X3_firstOf_e]
    refine sf_ite (fun c188 => ?_) (fun c188 => ?_)
    · have C188 : (-2 : Int) = (0 : Int) := ti_eq c188
      exfalso; omega
    have C188 : ¬ (-2 : Int) = (0 : Int) := ti_ne c188
    refine sf_ret ?_
    refine sf_in ?_
    rw [f_X3_firstOf_e]
    refine sf_ite (fun c189 => ?_) (fun c189 => ?_)
    · have C189 : (-6 : Int) = (0 : Int) := ti_eq c189
      exfalso; omega
    have C189 : ¬ (-6 : Int) = (0 : Int) := ti_ne c189
    refine sf_ret ?_
    refine sf_ite (fun c190 => ?_) (fun c190 => ?_)
    · have C190 : (-6 : Int) = (0 : Int) := ti_eq c190
      exfalso; omega
    have C190 : ¬ (-6 : Int) = (0 : Int) := ti_ne c190
    refine sf_bnd (s_X3_refuse hF hI (by decide) (by decide)) (fun r191 u192 p193 => ?_)
    obtain ⟨Iu192, Fu192_, O83_u192_, O0_u192_, p193_1, p193_2, p193_x0⟩ := p193
    have Fu192 : ∀ k, 101 ≤ k → u192 k = τ k := fun k hk => (Fu192_ k hk).trans (Fτ k hk)
    have O83_u192 : u192 83 1 = τ 83 1 := O83_u192_.trans O83_τ
    have O0_u192 : u192 0 7 = τ 0 7 := O0_u192_.trans O0_τ
    replace p193_x0 : r191.toInt = (-6 : Int) := p193_x0
    exact sf_ret ⟨Iu192, Fu192, O83_u192, O0_u192, ti_lo _, ti_hi _⟩
  have C178 : x3.toInt < (2 : Int) := ti_nle c178
  refine sf_ret ?_
  refine sf_bnd (s_X3_longRow hF hI) (fun r194 u195 p196 => ?_)
  obtain ⟨e9, p196⟩ := p196
  have e9 := e9.symm
  subst e9
  rcases p196 with rfl | p196
  · refine sf_in ?_
    rw [f_X3_firstOf_e]
    refine sf_ite (fun c197 => ?_) (fun c197 => ?_)
    · have C197 : (0 : Int) = (0 : Int) := ti_eq c197
      refine sf_ret ?_
      refine sf_in ?_
      rw [f_X3_firstOf_e]
      refine sf_ite (fun c198 => ?_) (fun c198 => ?_)
      · have C198 : (-6 : Int) = (0 : Int) := ti_eq c198
        exfalso; omega
      have C198 : ¬ (-6 : Int) = (0 : Int) := ti_ne c198
      refine sf_ret ?_
      refine sf_ite (fun c199 => ?_) (fun c199 => ?_)
      · have C199 : (-6 : Int) = (0 : Int) := ti_eq c199
        exfalso; omega
      have C199 : ¬ (-6 : Int) = (0 : Int) := ti_ne c199
      refine sf_bnd (s_X3_refuse hF hI (by decide) (by decide)) (fun r200 u201 p202 => ?_)
      obtain ⟨Iu201, Fu201_, O83_u201_, O0_u201_, p202_1, p202_2, p202_x0⟩ := p202
      have Fu201 : ∀ k, 101 ≤ k → u201 k = τ k := fun k hk => (Fu201_ k hk).trans (Fτ k hk)
      have O83_u201 : u201 83 1 = τ 83 1 := O83_u201_.trans O83_τ
      have O0_u201 : u201 0 7 = τ 0 7 := O0_u201_.trans O0_τ
      replace p202_x0 : r200.toInt = (-6 : Int) := p202_x0
      exact sf_ret ⟨Iu201, Fu201, O83_u201, O0_u201, ti_lo _, ti_hi _⟩
    have C197 : ¬ (0 : Int) = (0 : Int) := ti_ne c197
    exfalso; omega
  obtain rfl := p196
  refine sf_in ?_
  rw [f_X3_firstOf_e]
  refine sf_ite (fun c203 => ?_) (fun c203 => ?_)
  · have C203 : (0 : Int) = (0 : Int) := ti_eq c203
    refine sf_ret ?_
    refine sf_in ?_
    rw [f_X3_firstOf_e]
    refine sf_ite (fun c204 => ?_) (fun c204 => ?_)
    · have C204 : (-6 : Int) = (0 : Int) := ti_eq c204
      exfalso; omega
    have C204 : ¬ (-6 : Int) = (0 : Int) := ti_ne c204
    refine sf_ret ?_
    refine sf_ite (fun c205 => ?_) (fun c205 => ?_)
    · have C205 : (-6 : Int) = (0 : Int) := ti_eq c205
      exfalso; omega
    have C205 : ¬ (-6 : Int) = (0 : Int) := ti_ne c205
    refine sf_bnd (s_X3_refuse hF hI (by decide) (by decide)) (fun r206 u207 p208 => ?_)
    obtain ⟨Iu207, Fu207_, O83_u207_, O0_u207_, p208_1, p208_2, p208_x0⟩ := p208
    have Fu207 : ∀ k, 101 ≤ k → u207 k = τ k := fun k hk => (Fu207_ k hk).trans (Fτ k hk)
    have O83_u207 : u207 83 1 = τ 83 1 := O83_u207_.trans O83_τ
    have O0_u207 : u207 0 7 = τ 0 7 := O0_u207_.trans O0_τ
    replace p208_x0 : r206.toInt = (-6 : Int) := p208_x0
    exact sf_ret ⟨Iu207, Fu207, O83_u207, O0_u207, ti_lo _, ti_hi _⟩
  have C203 : ¬ (0 : Int) = (0 : Int) := ti_ne c203
  exfalso; omega
set_option maxHeartbeats 4000000 in
set_option maxRecDepth 100000 in
theorem s_X3_ownsWell {F : Nat} (hF : 100000 ≤ F) {x1 : Int32} {x2 : Int32} {x3 : Int32} {x4 : Int32} {τ : Mem} (hI : wiX τ) (x1_1 : 0 ≤ x1.toInt) (x1_2 : x1.toInt ≤ 4) (x2_1 : 0 ≤ x2.toInt) (x2_2 : x2.toInt ≤ 7) (x3_1 : 0 ≤ x3.toInt) (x3_2 : x3.toInt ≤ 8) (x4_1 : 0 ≤ x4.toInt) (x4_2 : x4.toInt ≤ 8) : sf (f_X3_ownsWell F x1 x2 x3 x4 τ) (fun r s => wiX s ∧ (∀ k, 101 ≤ k → s k = τ k) ∧ s 83 1 = τ 83 1 ∧ s 0 7 = τ 0 7 ∧ 0 ≤ r.toInt ∧ r.toInt ≤ 1) := by
  have Fτ : ∀ k, 101 ≤ k → τ k = τ k := fun _ _ => rfl
  have O83_τ : τ 83 1 = τ 83 1 := rfl
  have O0_τ : τ 0 7 = τ 0 7 := rfl
  rw [f_X3_ownsWell_e]
  refine sf_chk (ti_in (by omega) (by omega)) ?_
  have v1 : Int32.toNatClampNeg x1 = x1.toInt.toNat := rfl
  refine sf_bnd (s_X0_behind hF wt_h1 hI (by omega) (by omega) (by omega) (by omega) (by omega) (by omega)) (fun r2 u3 p4 => ?_)
  obtain ⟨e9, p4_1, p4_2⟩ := p4
  have e9 := e9.symm
  subst e9
  refine sf_chk (ti_in (by omega) (by omega)) ?_
  have v5 : Int32.toNatClampNeg x2 = x2.toInt.toNat := rfl
  refine sf_lt (fun s6 hs6 => ?_)
  have Is6 : wiX s6 := by rw [hs6]; exact wx_oth hI (fun q hq e => by have := wt_Hcs hq; omega) (fun e => by omega) (fun e => by omega) (fun e => by omega)
  have Fs6 : ∀ k, 101 ≤ k → s6 k = τ k := fun k hk => (show s6 k = τ k by rw [hs6, up2_k (by omega)]).trans (Fτ k hk)
  have O83_s6 : s6 83 1 = τ 83 1 := (show s6 83 1 = τ 83 1 by rw [hs6, up2_k (by omega)]).trans O83_τ
  have O0_s6 : s6 0 7 = τ 0 7 := (show s6 0 7 = τ 0 7 by rw [hs6, up2_k (by omega)]).trans O0_τ
  refine sf_lt (fun s7 hs7 => ?_)
  have Is7 : wiX s7 := by rw [hs7]; exact wx_oth Is6 (fun q hq e => by have := wt_Hcs hq; omega) (fun e => by omega) (fun e => by omega) (fun e => by omega)
  have Fs7 : ∀ k, 101 ≤ k → s7 k = τ k := fun k hk => (show s7 k = s6 k by rw [hs7, up2_k (by omega)]).trans (Fs6 k hk)
  have O83_s7 : s7 83 1 = τ 83 1 := (show s7 83 1 = s6 83 1 by rw [hs7, up2_k (by omega)]).trans O83_s6
  have O0_s7 : s7 0 7 = τ 0 7 := (show s7 0 7 = s6 0 7 by rw [hs7, up2_k (by omega)]).trans O0_s6
  refine sf_bnd (s_X0_holder hF wt_h24 Is7 (by omega) (by omega) (by omega) (by omega)) (fun r8 u9 p10 => ?_)
  obtain ⟨e9, p10_1, p10_2⟩ := p10
  have e9 := e9.symm
  subst e9
  refine sf_ite (fun c11 => ?_) (fun c11 => ?_)
  · have C11 : r8.toInt = x1.toInt := ti_eq c11
    exact sf_ret ⟨Is7, Fs7, O83_s7, O0_s7, by decide, by decide⟩
  have C11 : ¬ r8.toInt = x1.toInt := ti_ne c11
  exact sf_ret ⟨Is7, Fs7, O83_s7, O0_s7, by decide, by decide⟩
set_option maxHeartbeats 4000000 in
set_option maxRecDepth 100000 in
theorem sl_X3_ill_117 {F : Nat} (hF : 100000 ≤ F) {x1 : Int32} {x2 : Int32} {x3 : Int32} {x4 : Int32} {x5 : Int32} {τ : Mem} (x1_1 : 0 ≤ x1.toInt) (x1_2 : x1.toInt ≤ 4) (x2_1 : 0 ≤ x2.toInt) (x2_2 : x2.toInt ≤ 7) (x3_1 : 0 ≤ x3.toInt) (x3_2 : x3.toInt ≤ 8) (x4_1 : 2 ≤ x4.toInt) (x4_2 : x4.toInt ≤ 20) (x5_1 : 0 ≤ x5.toInt) (x5_2 : x5.toInt ≤ 1) : ∀ (N : Nat) (y7 : Int64) (y9 : Int64) (y11 : Int64) (x13 : Int32) (σ : Mem), wiX σ → (∀ k, 101 ≤ k → σ k = τ k) → σ 83 1 = τ 83 1 → σ 0 7 = τ 0 7 → 9 < x13.toInt + N → 0 ≤ x13.toInt → x13.toInt ≤ 9 → sf (lp_X3_ill_117 F x1 x2 x3 x4 x5 N y7 y9 y11 x13 σ) (fun r s => wiX s ∧ (∀ k, 101 ≤ k → s k = τ k) ∧ s 83 1 = τ 83 1 ∧ s 0 7 = τ 0 7 ∧ True) := by
  intro N
  induction N with
  | zero => intro y7 y9 y11 x13 σ hI Fσ O83_σ O0_σ hN x13_1 x13_2; exfalso; omega
  | succ N ih =>
    intro y7 y9 y11 x13 σ hI Fσ O83_σ O0_σ hN x13_1 x13_2
    rw [lp_X3_ill_117_s]
    refine sf_ite (fun c1 => ?_) (fun c1 => ?_)
    · have C1 : x3.toInt < x13.toInt := ti_lt c1
      refine sf_bnd (s_X3_fraction hF hI (by omega) (by omega)) (fun r2 u3 p4 => ?_)
      obtain ⟨e9, -⟩ := p4
      have e9 := e9.symm
      subst e9
      exact sf_ret ⟨hI, Fσ, O83_σ, O0_σ, trivial⟩
    have C1 : x13.toInt ≤ x3.toInt := ti_nlt c1
    refine sf_bnd (s_X3_ownsWell hF hI (by omega) (by omega) (by omega) (by omega) (by omega) (by omega) (by omega) (by omega)) (fun r5 u6 p7 => ?_)
    obtain ⟨Iu6, Fu6_, O83_u6_, O0_u6_, p7_1, p7_2⟩ := p7
    have Fu6 : ∀ k, 101 ≤ k → u6 k = τ k := fun k hk => (Fu6_ k hk).trans (Fσ k hk)
    have O83_u6 : u6 83 1 = τ 83 1 := O83_u6_.trans O83_σ
    have O0_u6 : u6 0 7 = τ 0 7 := O0_u6_.trans O0_σ
    have hb_r5 : r5 = 0 ∨ r5 = 1 := wi_bool p7_1 p7_2
    refine sf_ite (fun c8 => ?_) (fun c8 => ?_)
    · have C8 : r5.toInt = (0 : Int) := ti_eq c8
      rw [j_X3_ill_142_e]
      have t9 : (x13 + (1 : Int32)).toInt = x13.toInt + (1 : Int) := ti_add (show -2147483648 ≤ x13.toInt + (1 : Int) by omega) (show x13.toInt + (1 : Int) ≤ 2147483647 by omega)
      refine sf_nzl (ti_l64 (by omega)) ?_
      refine sf_lt (fun z10 hz10 => ?_)
      refine sf_ite (fun c11 => ?_) (fun c11 => ?_)
      · have C11 : x3.toInt ≤ x13.toInt := ti_le c11
        rw [j_X3_ill_181_e]
        exact ih _ _ _ _ _ Iu6 Fu6 O83_u6 O0_u6 (by omega) (by omega) (by omega)
      have C11 : x13.toInt < x3.toInt := ti_nle c11
      rw [j_X3_ill_181_e]
      exact ih _ _ _ _ _ Iu6 Fu6 O83_u6 O0_u6 (by omega) (by omega) (by omega)
    have C8 : ¬ r5.toInt = (0 : Int) := ti_ne c8
    rw [j_X3_ill_142_e]
    have t12 : (x13 + (1 : Int32)).toInt = x13.toInt + (1 : Int) := ti_add (show -2147483648 ≤ x13.toInt + (1 : Int) by omega) (show x13.toInt + (1 : Int) ≤ 2147483647 by omega)
    refine sf_nzl (ti_l64 (by omega)) ?_
    refine sf_lt (fun z13 hz13 => ?_)
    refine sf_ite (fun c14 => ?_) (fun c14 => ?_)
    · have C14 : x3.toInt ≤ x13.toInt := ti_le c14
      rw [j_X3_ill_181_e]
      exact ih _ _ _ _ _ Iu6 Fu6 O83_u6 O0_u6 (by omega) (by omega) (by omega)
    have C14 : x13.toInt < x3.toInt := ti_nle c14
    rw [j_X3_ill_181_e]
    exact ih _ _ _ _ _ Iu6 Fu6 O83_u6 O0_u6 (by omega) (by omega) (by omega)
set_option maxHeartbeats 4000000 in
set_option maxRecDepth 100000 in
theorem s_X3_ill {F : Nat} (hF : 100000 ≤ F) {x1 : Int32} {x2 : Int32} {x3 : Int32} {x4 : Int32} {x5 : Int32} {τ : Mem} (hI : wiX τ) : sf (f_X3_ill F x1 x2 x3 x4 x5 τ) (fun r s => wiX s ∧ (∀ k, 101 ≤ k → s k = τ k) ∧ s 83 1 = τ 83 1 ∧ s 0 7 = τ 0 7 ∧ True) := by
  have Fτ : ∀ k, 101 ≤ k → τ k = τ k := fun _ _ => rfl
  have O83_τ : τ 83 1 = τ 83 1 := rfl
  have O0_τ : τ 0 7 = τ 0 7 := rfl
  rw [f_X3_ill_e]
  have b1 := ti_lo x1
  have b2 := ti_hi x1
  refine sf_bnd (s_X3_noLooker hF hI) (fun r3 u4 p5 => ?_)
  obtain ⟨e9, p5⟩ := p5
  have e9 := e9.symm
  subst e9
  rcases p5 with ⟨rfl, q6, q7⟩ | p5
  · have b8 := ti_lo x2
    have b9 := ti_hi x2
    refine sf_bnd (s_X3_noView hF hI) (fun r10 u11 p12 => ?_)
    obtain ⟨e9, p12⟩ := p12
    have e9 := e9.symm
    subst e9
    rcases p12 with ⟨rfl, q13, q14⟩ | p12
    · refine sf_in ?_
      rw [f_X3_firstOf_e]
      refine sf_ite (fun c15 => ?_) (fun c15 => ?_)
      · have C15 : (0 : Int) = (0 : Int) := ti_eq c15
        refine sf_ret ?_
        refine sf_ite (fun c16 => ?_) (fun c16 => ?_)
        · have C16 : (0 : Int) = (0 : Int) := ti_eq c16
          have b17 := ti_lo x3
          have b18 := ti_hi x3
          refine sf_ite (fun c19 => ?_) (fun c19 => ?_)
          · have C19 : x3.toInt < (0 : Int) := ti_lt c19
            rw [j_X3_ill_29_e]
            rw [j_X3_ill_33_e]
            refine sf_ite (fun c20 => ?_) (fun c20 => ?_)
            · have C20 : (-4 : Int) = (0 : Int) := ti_eq c20
              exfalso; omega
            have C20 : ¬ (-4 : Int) = (0 : Int) := ti_ne c20
            rw [j_X3_ill_55_e]
            refine sf_in ?_
            rw [f_X3_notBelow_e]
            have b21 := ti_lo x5
            have b22 := ti_hi x5
            refine sf_ite (fun c23 => ?_) (fun c23 => ?_)
            · have C23 : x5.toInt < (0 : Int) := ti_lt c23
              rw [j_X3_notBelow_13_e]
              refine sf_ret ?_
              refine sf_in ?_
              rw [f_X3_firstOf_e]
              refine sf_ite (fun c24 => ?_) (fun c24 => ?_)
              · have C24 : (-4 : Int) = (0 : Int) := ti_eq c24
                exfalso; omega
              have C24 : ¬ (-4 : Int) = (0 : Int) := ti_ne c24
              refine sf_ret ?_
              refine sf_ite (fun c25 => ?_) (fun c25 => ?_)
              · have C25 : (-4 : Int) = (0 : Int) := ti_eq c25
                exfalso; omega
              have C25 : ¬ (-4 : Int) = (0 : Int) := ti_ne c25
              refine sf_bnd (s_X3_refuseLong hF hI (by decide) (by decide)) (fun r26 u27 p28 => ?_)
              obtain ⟨Iu27, Fu27_, O83_u27_, O0_u27_, -⟩ := p28
              have Fu27 : ∀ k, 101 ≤ k → u27 k = τ k := fun k hk => (Fu27_ k hk).trans (Fτ k hk)
              have O83_u27 : u27 83 1 = τ 83 1 := O83_u27_.trans O83_τ
              have O0_u27 : u27 0 7 = τ 0 7 := O0_u27_.trans O0_τ
              exact sf_ret ⟨Iu27, Fu27, O83_u27, O0_u27, trivial⟩
            have C23 : (0 : Int) ≤ x5.toInt := ti_nlt c23
            refine sf_ite (fun c29 => ?_) (fun c29 => ?_)
            · have C29 : (2 : Int) ≤ x5.toInt := ti_le c29
              rw [j_X3_notBelow_13_e]
              refine sf_ret ?_
              refine sf_in ?_
              rw [f_X3_firstOf_e]
              refine sf_ite (fun c30 => ?_) (fun c30 => ?_)
              · have C30 : (-4 : Int) = (0 : Int) := ti_eq c30
                exfalso; omega
              have C30 : ¬ (-4 : Int) = (0 : Int) := ti_ne c30
              refine sf_ret ?_
              refine sf_ite (fun c31 => ?_) (fun c31 => ?_)
              · have C31 : (-4 : Int) = (0 : Int) := ti_eq c31
                exfalso; omega
              have C31 : ¬ (-4 : Int) = (0 : Int) := ti_ne c31
              refine sf_bnd (s_X3_refuseLong hF hI (by decide) (by decide)) (fun r32 u33 p34 => ?_)
              obtain ⟨Iu33, Fu33_, O83_u33_, O0_u33_, -⟩ := p34
              have Fu33 : ∀ k, 101 ≤ k → u33 k = τ k := fun k hk => (Fu33_ k hk).trans (Fτ k hk)
              have O83_u33 : u33 83 1 = τ 83 1 := O83_u33_.trans O83_τ
              have O0_u33 : u33 0 7 = τ 0 7 := O0_u33_.trans O0_τ
              exact sf_ret ⟨Iu33, Fu33, O83_u33, O0_u33, trivial⟩
            have C29 : x5.toInt < (2 : Int) := ti_nle c29
            refine sf_ret ?_
            refine sf_in ?_
            rw [f_X3_firstOf_e]
            refine sf_ite (fun c35 => ?_) (fun c35 => ?_)
            · have C35 : (-4 : Int) = (0 : Int) := ti_eq c35
              exfalso; omega
            have C35 : ¬ (-4 : Int) = (0 : Int) := ti_ne c35
            refine sf_ret ?_
            refine sf_ite (fun c36 => ?_) (fun c36 => ?_)
            · have C36 : (-4 : Int) = (0 : Int) := ti_eq c36
              exfalso; omega
            have C36 : ¬ (-4 : Int) = (0 : Int) := ti_ne c36
            refine sf_bnd (s_X3_refuseLong hF hI (by decide) (by decide)) (fun r37 u38 p39 => ?_)
            obtain ⟨Iu38, Fu38_, O83_u38_, O0_u38_, -⟩ := p39
            have Fu38 : ∀ k, 101 ≤ k → u38 k = τ k := fun k hk => (Fu38_ k hk).trans (Fτ k hk)
            have O83_u38 : u38 83 1 = τ 83 1 := O83_u38_.trans O83_τ
            have O0_u38 : u38 0 7 = τ 0 7 := O0_u38_.trans O0_τ
            exact sf_ret ⟨Iu38, Fu38, O83_u38, O0_u38, trivial⟩
          have C19 : (0 : Int) ≤ x3.toInt := ti_nlt c19
          have b40 := ti_lo x4
          have b41 := ti_hi x4
          refine sf_ite (fun c42 => ?_) (fun c42 => ?_)
          · have C42 : (2 : Int) ≤ x4.toInt := ti_le c42
            rw [j_X3_ill_33_e]
            refine sf_ite (fun c43 => ?_) (fun c43 => ?_)
            · have C43 : (0 : Int) = (0 : Int) := ti_eq c43
              refine sf_ite (fun c44 => ?_) (fun c44 => ?_)
              · have C44 : (8 : Int) < x3.toInt := ti_lt c44
                rw [j_X3_ill_51_e]
                rw [j_X3_ill_55_e]
                refine sf_in ?_
                rw [f_X3_notBelow_e]
                have b45 := ti_lo x5
                have b46 := ti_hi x5
                refine sf_ite (fun c47 => ?_) (fun c47 => ?_)
                · have C47 : x5.toInt < (0 : Int) := ti_lt c47
                  rw [j_X3_notBelow_13_e]
                  refine sf_ret ?_
                  refine sf_in ?_
                  rw [f_X3_firstOf_e]
                  refine sf_ite (fun c48 => ?_) (fun c48 => ?_)
                  · have C48 : (-6 : Int) = (0 : Int) := ti_eq c48
                    exfalso; omega
                  have C48 : ¬ (-6 : Int) = (0 : Int) := ti_ne c48
                  refine sf_ret ?_
                  refine sf_ite (fun c49 => ?_) (fun c49 => ?_)
                  · have C49 : (-6 : Int) = (0 : Int) := ti_eq c49
                    exfalso; omega
                  have C49 : ¬ (-6 : Int) = (0 : Int) := ti_ne c49
                  refine sf_bnd (s_X3_refuseLong hF hI (by decide) (by decide)) (fun r50 u51 p52 => ?_)
                  obtain ⟨Iu51, Fu51_, O83_u51_, O0_u51_, -⟩ := p52
                  have Fu51 : ∀ k, 101 ≤ k → u51 k = τ k := fun k hk => (Fu51_ k hk).trans (Fτ k hk)
                  have O83_u51 : u51 83 1 = τ 83 1 := O83_u51_.trans O83_τ
                  have O0_u51 : u51 0 7 = τ 0 7 := O0_u51_.trans O0_τ
                  exact sf_ret ⟨Iu51, Fu51, O83_u51, O0_u51, trivial⟩
                have C47 : (0 : Int) ≤ x5.toInt := ti_nlt c47
                refine sf_ite (fun c53 => ?_) (fun c53 => ?_)
                · have C53 : (2 : Int) ≤ x5.toInt := ti_le c53
                  rw [j_X3_notBelow_13_e]
                  refine sf_ret ?_
                  refine sf_in ?_
                  rw [f_X3_firstOf_e]
                  refine sf_ite (fun c54 => ?_) (fun c54 => ?_)
                  · have C54 : (-6 : Int) = (0 : Int) := ti_eq c54
                    exfalso; omega
                  have C54 : ¬ (-6 : Int) = (0 : Int) := ti_ne c54
                  refine sf_ret ?_
                  refine sf_ite (fun c55 => ?_) (fun c55 => ?_)
                  · have C55 : (-6 : Int) = (0 : Int) := ti_eq c55
                    exfalso; omega
                  have C55 : ¬ (-6 : Int) = (0 : Int) := ti_ne c55
                  refine sf_bnd (s_X3_refuseLong hF hI (by decide) (by decide)) (fun r56 u57 p58 => ?_)
                  obtain ⟨Iu57, Fu57_, O83_u57_, O0_u57_, -⟩ := p58
                  have Fu57 : ∀ k, 101 ≤ k → u57 k = τ k := fun k hk => (Fu57_ k hk).trans (Fτ k hk)
                  have O83_u57 : u57 83 1 = τ 83 1 := O83_u57_.trans O83_τ
                  have O0_u57 : u57 0 7 = τ 0 7 := O0_u57_.trans O0_τ
                  exact sf_ret ⟨Iu57, Fu57, O83_u57, O0_u57, trivial⟩
                have C53 : x5.toInt < (2 : Int) := ti_nle c53
                refine sf_ret ?_
                refine sf_in ?_
                rw [f_X3_firstOf_e]
                refine sf_ite (fun c59 => ?_) (fun c59 => ?_)
                · have C59 : (-6 : Int) = (0 : Int) := ti_eq c59
                  exfalso; omega
                have C59 : ¬ (-6 : Int) = (0 : Int) := ti_ne c59
                refine sf_ret ?_
                refine sf_ite (fun c60 => ?_) (fun c60 => ?_)
                · have C60 : (-6 : Int) = (0 : Int) := ti_eq c60
                  exfalso; omega
                have C60 : ¬ (-6 : Int) = (0 : Int) := ti_ne c60
                refine sf_bnd (s_X3_refuseLong hF hI (by decide) (by decide)) (fun r61 u62 p63 => ?_)
                obtain ⟨Iu62, Fu62_, O83_u62_, O0_u62_, -⟩ := p63
                have Fu62 : ∀ k, 101 ≤ k → u62 k = τ k := fun k hk => (Fu62_ k hk).trans (Fτ k hk)
                have O83_u62 : u62 83 1 = τ 83 1 := O83_u62_.trans O83_τ
                have O0_u62 : u62 0 7 = τ 0 7 := O0_u62_.trans O0_τ
                exact sf_ret ⟨Iu62, Fu62, O83_u62, O0_u62, trivial⟩
              have C44 : x3.toInt ≤ (8 : Int) := ti_nlt c44
              refine sf_ite (fun c64 => ?_) (fun c64 => ?_)
              · have C64 : x4.toInt ≤ (20 : Int) := ti_le c64
                rw [j_X3_ill_55_e]
                refine sf_in ?_
                rw [f_X3_notBelow_e]
                have b65 := ti_lo x5
                have b66 := ti_hi x5
                refine sf_ite (fun c67 => ?_) (fun c67 => ?_)
                · have C67 : x5.toInt < (0 : Int) := ti_lt c67
                  rw [j_X3_notBelow_13_e]
                  refine sf_ret ?_
                  refine sf_in ?_
                  rw [f_X3_firstOf_e]
                  refine sf_ite (fun c68 => ?_) (fun c68 => ?_)
                  · have C68 : (0 : Int) = (0 : Int) := ti_eq c68
                    refine sf_ret ?_
                    refine sf_ite (fun c69 => ?_) (fun c69 => ?_)
                    · have C69 : (-2 : Int) = (0 : Int) := ti_eq c69
                      exfalso; omega
                    have C69 : ¬ (-2 : Int) = (0 : Int) := ti_ne c69
                    refine sf_bnd (s_X3_refuseLong hF hI (by decide) (by decide)) (fun r70 u71 p72 => ?_)
                    obtain ⟨Iu71, Fu71_, O83_u71_, O0_u71_, -⟩ := p72
                    have Fu71 : ∀ k, 101 ≤ k → u71 k = τ k := fun k hk => (Fu71_ k hk).trans (Fτ k hk)
                    have O83_u71 : u71 83 1 = τ 83 1 := O83_u71_.trans O83_τ
                    have O0_u71 : u71 0 7 = τ 0 7 := O0_u71_.trans O0_τ
                    exact sf_ret ⟨Iu71, Fu71, O83_u71, O0_u71, trivial⟩
                  have C68 : ¬ (0 : Int) = (0 : Int) := ti_ne c68
                  exfalso; omega
                have C67 : (0 : Int) ≤ x5.toInt := ti_nlt c67
                refine sf_ite (fun c73 => ?_) (fun c73 => ?_)
                · have C73 : (2 : Int) ≤ x5.toInt := ti_le c73
                  rw [j_X3_notBelow_13_e]
                  refine sf_ret ?_
                  refine sf_in ?_
                  rw [f_X3_firstOf_e]
                  refine sf_ite (fun c74 => ?_) (fun c74 => ?_)
                  · have C74 : (0 : Int) = (0 : Int) := ti_eq c74
                    refine sf_ret ?_
                    refine sf_ite (fun c75 => ?_) (fun c75 => ?_)
                    · have C75 : (-2 : Int) = (0 : Int) := ti_eq c75
                      exfalso; omega
                    have C75 : ¬ (-2 : Int) = (0 : Int) := ti_ne c75
                    refine sf_bnd (s_X3_refuseLong hF hI (by decide) (by decide)) (fun r76 u77 p78 => ?_)
                    obtain ⟨Iu77, Fu77_, O83_u77_, O0_u77_, -⟩ := p78
                    have Fu77 : ∀ k, 101 ≤ k → u77 k = τ k := fun k hk => (Fu77_ k hk).trans (Fτ k hk)
                    have O83_u77 : u77 83 1 = τ 83 1 := O83_u77_.trans O83_τ
                    have O0_u77 : u77 0 7 = τ 0 7 := O0_u77_.trans O0_τ
                    exact sf_ret ⟨Iu77, Fu77, O83_u77, O0_u77, trivial⟩
                  have C74 : ¬ (0 : Int) = (0 : Int) := ti_ne c74
                  exfalso; omega
                have C73 : x5.toInt < (2 : Int) := ti_nle c73
                refine sf_ret ?_
                refine sf_in ?_
                rw [f_X3_firstOf_e]
                refine sf_ite (fun c79 => ?_) (fun c79 => ?_)
                · have C79 : (0 : Int) = (0 : Int) := ti_eq c79
                  refine sf_ret ?_
                  refine sf_ite (fun c80 => ?_) (fun c80 => ?_)
                  · have C80 : (0 : Int) = (0 : Int) := ti_eq c80
                    refine sf_bnd (s_X0_reckon hF wt_h1 hI) (fun r81 u82 p83 => ?_)
                    obtain ⟨Iu82, Fu82_, O83_u82_, O0_u82_, -⟩ := p83
                    have Fu82 : ∀ k, 101 ≤ k → u82 k = τ k := fun k hk => (Fu82_ k hk).trans (Fτ k hk)
                    have O83_u82 : u82 83 1 = τ 83 1 := O83_u82_.trans O83_τ
                    have O0_u82 : u82 0 7 = τ 0 7 := O0_u82_.trans O0_τ
                    refine sf_bnd (s_X0_takeFrom hF wt_h24 wt_h1 Iu82) (fun r84 u85 p86 => ?_)
                    obtain ⟨Iu85, Fu85_, O83_u85_, O0_u85_, -⟩ := p86
                    have Fu85 : ∀ k, 101 ≤ k → u85 k = τ k := fun k hk => (Fu85_ k hk).trans (Fu82 k hk)
                    have O83_u85 : u85 83 1 = τ 83 1 := O83_u85_.trans O83_u82
                    have O0_u85 : u85 0 7 = τ 0 7 := O0_u85_.trans O0_u82
                    refine sf_bnd (s_X0_reckon hF wt_h24 Iu85) (fun r87 u88 p89 => ?_)
                    obtain ⟨Iu88, Fu88_, O83_u88_, O0_u88_, -⟩ := p89
                    have Fu88 : ∀ k, 101 ≤ k → u88 k = τ k := fun k hk => (Fu88_ k hk).trans (Fu85 k hk)
                    have O83_u88 : u88 83 1 = τ 83 1 := O83_u88_.trans O83_u85
                    have O0_u88 : u88 0 7 = τ 0 7 := O0_u88_.trans O0_u85
                    have l_0 : (0 : Int32).toInt = 0 := rfl
                    exact sl_X3_ill_117 hF (by omega) (by omega) (by omega) (by omega) (by omega) (by omega) (by omega) (by omega) (by omega) (by omega) _ _ _ _ _ _ Iu88 Fu88 O83_u88 O0_u88 (by omega) (by decide) (by decide)
                  have C80 : ¬ (0 : Int) = (0 : Int) := ti_ne c80
                  exfalso; omega
                have C79 : ¬ (0 : Int) = (0 : Int) := ti_ne c79
                exfalso; omega
              have C64 : (20 : Int) < x4.toInt := ti_nle c64
              rw [j_X3_ill_51_e]
              rw [j_X3_ill_55_e]
              refine sf_in ?_
              rw [f_X3_notBelow_e]
              have b90 := ti_lo x5
              have b91 := ti_hi x5
              refine sf_ite (fun c92 => ?_) (fun c92 => ?_)
              · have C92 : x5.toInt < (0 : Int) := ti_lt c92
                rw [j_X3_notBelow_13_e]
                refine sf_ret ?_
                refine sf_in ?_
                rw [f_X3_firstOf_e]
                refine sf_ite (fun c93 => ?_) (fun c93 => ?_)
                · have C93 : (-6 : Int) = (0 : Int) := ti_eq c93
                  exfalso; omega
                have C93 : ¬ (-6 : Int) = (0 : Int) := ti_ne c93
                refine sf_ret ?_
                refine sf_ite (fun c94 => ?_) (fun c94 => ?_)
                · have C94 : (-6 : Int) = (0 : Int) := ti_eq c94
                  exfalso; omega
                have C94 : ¬ (-6 : Int) = (0 : Int) := ti_ne c94
                refine sf_bnd (s_X3_refuseLong hF hI (by decide) (by decide)) (fun r95 u96 p97 => ?_)
                obtain ⟨Iu96, Fu96_, O83_u96_, O0_u96_, -⟩ := p97
                have Fu96 : ∀ k, 101 ≤ k → u96 k = τ k := fun k hk => (Fu96_ k hk).trans (Fτ k hk)
                have O83_u96 : u96 83 1 = τ 83 1 := O83_u96_.trans O83_τ
                have O0_u96 : u96 0 7 = τ 0 7 := O0_u96_.trans O0_τ
                exact sf_ret ⟨Iu96, Fu96, O83_u96, O0_u96, trivial⟩
              have C92 : (0 : Int) ≤ x5.toInt := ti_nlt c92
              refine sf_ite (fun c98 => ?_) (fun c98 => ?_)
              · have C98 : (2 : Int) ≤ x5.toInt := ti_le c98
                rw [j_X3_notBelow_13_e]
                refine sf_ret ?_
                refine sf_in ?_
                rw [f_X3_firstOf_e]
                refine sf_ite (fun c99 => ?_) (fun c99 => ?_)
                · have C99 : (-6 : Int) = (0 : Int) := ti_eq c99
                  exfalso; omega
                have C99 : ¬ (-6 : Int) = (0 : Int) := ti_ne c99
                refine sf_ret ?_
                refine sf_ite (fun c100 => ?_) (fun c100 => ?_)
                · have C100 : (-6 : Int) = (0 : Int) := ti_eq c100
                  exfalso; omega
                have C100 : ¬ (-6 : Int) = (0 : Int) := ti_ne c100
                refine sf_bnd (s_X3_refuseLong hF hI (by decide) (by decide)) (fun r101 u102 p103 => ?_)
                obtain ⟨Iu102, Fu102_, O83_u102_, O0_u102_, -⟩ := p103
                have Fu102 : ∀ k, 101 ≤ k → u102 k = τ k := fun k hk => (Fu102_ k hk).trans (Fτ k hk)
                have O83_u102 : u102 83 1 = τ 83 1 := O83_u102_.trans O83_τ
                have O0_u102 : u102 0 7 = τ 0 7 := O0_u102_.trans O0_τ
                exact sf_ret ⟨Iu102, Fu102, O83_u102, O0_u102, trivial⟩
              have C98 : x5.toInt < (2 : Int) := ti_nle c98
              refine sf_ret ?_
              refine sf_in ?_
              rw [f_X3_firstOf_e]
              refine sf_ite (fun c104 => ?_) (fun c104 => ?_)
              · have C104 : (-6 : Int) = (0 : Int) := ti_eq c104
                exfalso; omega
              have C104 : ¬ (-6 : Int) = (0 : Int) := ti_ne c104
              refine sf_ret ?_
              refine sf_ite (fun c105 => ?_) (fun c105 => ?_)
              · have C105 : (-6 : Int) = (0 : Int) := ti_eq c105
                exfalso; omega
              have C105 : ¬ (-6 : Int) = (0 : Int) := ti_ne c105
              refine sf_bnd (s_X3_refuseLong hF hI (by decide) (by decide)) (fun r106 u107 p108 => ?_)
              obtain ⟨Iu107, Fu107_, O83_u107_, O0_u107_, -⟩ := p108
              have Fu107 : ∀ k, 101 ≤ k → u107 k = τ k := fun k hk => (Fu107_ k hk).trans (Fτ k hk)
              have O83_u107 : u107 83 1 = τ 83 1 := O83_u107_.trans O83_τ
              have O0_u107 : u107 0 7 = τ 0 7 := O0_u107_.trans O0_τ
              exact sf_ret ⟨Iu107, Fu107, O83_u107, O0_u107, trivial⟩
            have C43 : ¬ (0 : Int) = (0 : Int) := ti_ne c43
            exfalso; omega
          have C42 : x4.toInt < (2 : Int) := ti_nle c42
          rw [j_X3_ill_29_e]
          rw [j_X3_ill_33_e]
          refine sf_ite (fun c109 => ?_) (fun c109 => ?_)
          · have C109 : (-4 : Int) = (0 : Int) := ti_eq c109
            exfalso; omega
          have C109 : ¬ (-4 : Int) = (0 : Int) := ti_ne c109
          rw [j_X3_ill_55_e]
          refine sf_in ?_
          rw [f_X3_notBelow_e]
          have b110 := ti_lo x5
          have b111 := ti_hi x5
          refine sf_ite (fun c112 => ?_) (fun c112 => ?_)
          · have C112 : x5.toInt < (0 : Int) := ti_lt c112
            rw [j_X3_notBelow_13_e]
            refine sf_ret ?_
            refine sf_in ?_
            rw [f_X3_firstOf_e]
            refine sf_ite (fun c113 => ?_) (fun c113 => ?_)
            · have C113 : (-4 : Int) = (0 : Int) := ti_eq c113
              exfalso; omega
            have C113 : ¬ (-4 : Int) = (0 : Int) := ti_ne c113
            refine sf_ret ?_
            refine sf_ite (fun c114 => ?_) (fun c114 => ?_)
            · have C114 : (-4 : Int) = (0 : Int) := ti_eq c114
              exfalso; omega
            have C114 : ¬ (-4 : Int) = (0 : Int) := ti_ne c114
            refine sf_bnd (s_X3_refuseLong hF hI (by decide) (by decide)) (fun r115 u116 p117 => ?_)
            obtain ⟨Iu116, Fu116_, O83_u116_, O0_u116_, -⟩ := p117
            have Fu116 : ∀ k, 101 ≤ k → u116 k = τ k := fun k hk => (Fu116_ k hk).trans (Fτ k hk)
            have O83_u116 : u116 83 1 = τ 83 1 := O83_u116_.trans O83_τ
            have O0_u116 : u116 0 7 = τ 0 7 := O0_u116_.trans O0_τ
            exact sf_ret ⟨Iu116, Fu116, O83_u116, O0_u116, trivial⟩
          have C112 : (0 : Int) ≤ x5.toInt := ti_nlt c112
          refine sf_ite (fun c118 => ?_) (fun c118 => ?_)
          · have C118 : (2 : Int) ≤ x5.toInt := ti_le c118
            rw [j_X3_notBelow_13_e]
            refine sf_ret ?_
            refine sf_in ?_
            rw [f_X3_firstOf_e]
            refine sf_ite (fun c119 => ?_) (fun c119 => ?_)
            · have C119 : (-4 : Int) = (0 : Int) := ti_eq c119
              exfalso; omega
            have C119 : ¬ (-4 : Int) = (0 : Int) := ti_ne c119
            refine sf_ret ?_
            refine sf_ite (fun c120 => ?_) (fun c120 => ?_)
            · have C120 : (-4 : Int) = (0 : Int) := ti_eq c120
              exfalso; omega
            have C120 : ¬ (-4 : Int) = (0 : Int) := ti_ne c120
            refine sf_bnd (s_X3_refuseLong hF hI (by decide) (by decide)) (fun r121 u122 p123 => ?_)
            obtain ⟨Iu122, Fu122_, O83_u122_, O0_u122_, -⟩ := p123
            have Fu122 : ∀ k, 101 ≤ k → u122 k = τ k := fun k hk => (Fu122_ k hk).trans (Fτ k hk)
            have O83_u122 : u122 83 1 = τ 83 1 := O83_u122_.trans O83_τ
            have O0_u122 : u122 0 7 = τ 0 7 := O0_u122_.trans O0_τ
            exact sf_ret ⟨Iu122, Fu122, O83_u122, O0_u122, trivial⟩
          have C118 : x5.toInt < (2 : Int) := ti_nle c118
          refine sf_ret ?_
          refine sf_in ?_
          rw [f_X3_firstOf_e]
          refine sf_ite (fun c124 => ?_) (fun c124 => ?_)
          · have C124 : (-4 : Int) = (0 : Int) := ti_eq c124
            exfalso; omega
          have C124 : ¬ (-4 : Int) = (0 : Int) := ti_ne c124
          refine sf_ret ?_
          refine sf_ite (fun c125 => ?_) (fun c125 => ?_)
          · have C125 : (-4 : Int) = (0 : Int) := ti_eq c125
            exfalso; omega
          have C125 : ¬ (-4 : Int) = (0 : Int) := ti_ne c125
          refine sf_bnd (s_X3_refuseLong hF hI (by decide) (by decide)) (fun r126 u127 p128 => ?_)
          obtain ⟨Iu127, Fu127_, O83_u127_, O0_u127_, -⟩ := p128
          have Fu127 : ∀ k, 101 ≤ k → u127 k = τ k := fun k hk => (Fu127_ k hk).trans (Fτ k hk)
          have O83_u127 : u127 83 1 = τ 83 1 := O83_u127_.trans O83_τ
          have O0_u127 : u127 0 7 = τ 0 7 := O0_u127_.trans O0_τ
          exact sf_ret ⟨Iu127, Fu127, O83_u127, O0_u127, trivial⟩
        have C16 : ¬ (0 : Int) = (0 : Int) := ti_ne c16
        exfalso; omega
      have C15 : ¬ (0 : Int) = (0 : Int) := ti_ne c15
      exfalso; omega
    obtain ⟨rfl, q129⟩ := p12
    refine sf_in ?_
    rw [f_X3_firstOf_e]
    refine sf_ite (fun c130 => ?_) (fun c130 => ?_)
    · have C130 : (0 : Int) = (0 : Int) := ti_eq c130
      refine sf_ret ?_
      refine sf_ite (fun c131 => ?_) (fun c131 => ?_)
      · have C131 : (-1 : Int) = (0 : Int) := ti_eq c131
        exfalso; omega
      have C131 : ¬ (-1 : Int) = (0 : Int) := ti_ne c131
      rw [j_X3_ill_33_e]
      refine sf_ite (fun c132 => ?_) (fun c132 => ?_)
      · have C132 : (-1 : Int) = (0 : Int) := ti_eq c132
        exfalso; omega
      have C132 : ¬ (-1 : Int) = (0 : Int) := ti_ne c132
      rw [j_X3_ill_55_e]
      refine sf_in ?_
      rw [f_X3_notBelow_e]
      have b133 := ti_lo x5
      have b134 := ti_hi x5
      refine sf_ite (fun c135 => ?_) (fun c135 => ?_)
      · have C135 : x5.toInt < (0 : Int) := ti_lt c135
        rw [j_X3_notBelow_13_e]
        refine sf_ret ?_
        refine sf_in ?_
        rw [f_X3_firstOf_e]
        refine sf_ite (fun c136 => ?_) (fun c136 => ?_)
        · have C136 : (-1 : Int) = (0 : Int) := ti_eq c136
          exfalso; omega
        have C136 : ¬ (-1 : Int) = (0 : Int) := ti_ne c136
        refine sf_ret ?_
        refine sf_ite (fun c137 => ?_) (fun c137 => ?_)
        · have C137 : (-1 : Int) = (0 : Int) := ti_eq c137
          exfalso; omega
        have C137 : ¬ (-1 : Int) = (0 : Int) := ti_ne c137
        refine sf_bnd (s_X3_refuseLong hF hI (by decide) (by decide)) (fun r138 u139 p140 => ?_)
        obtain ⟨Iu139, Fu139_, O83_u139_, O0_u139_, -⟩ := p140
        have Fu139 : ∀ k, 101 ≤ k → u139 k = τ k := fun k hk => (Fu139_ k hk).trans (Fτ k hk)
        have O83_u139 : u139 83 1 = τ 83 1 := O83_u139_.trans O83_τ
        have O0_u139 : u139 0 7 = τ 0 7 := O0_u139_.trans O0_τ
        exact sf_ret ⟨Iu139, Fu139, O83_u139, O0_u139, trivial⟩
      have C135 : (0 : Int) ≤ x5.toInt := ti_nlt c135
      refine sf_ite (fun c141 => ?_) (fun c141 => ?_)
      · have C141 : (2 : Int) ≤ x5.toInt := ti_le c141
        rw [j_X3_notBelow_13_e]
        refine sf_ret ?_
        refine sf_in ?_
        rw [f_X3_firstOf_e]
        refine sf_ite (fun c142 => ?_) (fun c142 => ?_)
        · have C142 : (-1 : Int) = (0 : Int) := ti_eq c142
          exfalso; omega
        have C142 : ¬ (-1 : Int) = (0 : Int) := ti_ne c142
        refine sf_ret ?_
        refine sf_ite (fun c143 => ?_) (fun c143 => ?_)
        · have C143 : (-1 : Int) = (0 : Int) := ti_eq c143
          exfalso; omega
        have C143 : ¬ (-1 : Int) = (0 : Int) := ti_ne c143
        refine sf_bnd (s_X3_refuseLong hF hI (by decide) (by decide)) (fun r144 u145 p146 => ?_)
        obtain ⟨Iu145, Fu145_, O83_u145_, O0_u145_, -⟩ := p146
        have Fu145 : ∀ k, 101 ≤ k → u145 k = τ k := fun k hk => (Fu145_ k hk).trans (Fτ k hk)
        have O83_u145 : u145 83 1 = τ 83 1 := O83_u145_.trans O83_τ
        have O0_u145 : u145 0 7 = τ 0 7 := O0_u145_.trans O0_τ
        exact sf_ret ⟨Iu145, Fu145, O83_u145, O0_u145, trivial⟩
      have C141 : x5.toInt < (2 : Int) := ti_nle c141
      refine sf_ret ?_
      refine sf_in ?_
      rw [f_X3_firstOf_e]
      refine sf_ite (fun c147 => ?_) (fun c147 => ?_)
      · have C147 : (-1 : Int) = (0 : Int) := ti_eq c147
        exfalso; omega
      have C147 : ¬ (-1 : Int) = (0 : Int) := ti_ne c147
      refine sf_ret ?_
      refine sf_ite (fun c148 => ?_) (fun c148 => ?_)
      · have C148 : (-1 : Int) = (0 : Int) := ti_eq c148
        exfalso; omega
      have C148 : ¬ (-1 : Int) = (0 : Int) := ti_ne c148
      refine sf_bnd (s_X3_refuseLong hF hI (by decide) (by decide)) (fun r149 u150 p151 => ?_)
      obtain ⟨Iu150, Fu150_, O83_u150_, O0_u150_, -⟩ := p151
      have Fu150 : ∀ k, 101 ≤ k → u150 k = τ k := fun k hk => (Fu150_ k hk).trans (Fτ k hk)
      have O83_u150 : u150 83 1 = τ 83 1 := O83_u150_.trans O83_τ
      have O0_u150 : u150 0 7 = τ 0 7 := O0_u150_.trans O0_τ
      exact sf_ret ⟨Iu150, Fu150, O83_u150, O0_u150, trivial⟩
    have C130 : ¬ (0 : Int) = (0 : Int) := ti_ne c130
    exfalso; omega
  obtain rfl := p5
  have b152 := ti_lo x2
  have b153 := ti_hi x2
  refine sf_bnd (s_X3_noView hF hI) (fun r154 u155 p156 => ?_)
  obtain ⟨e9, p156⟩ := p156
  have e9 := e9.symm
  subst e9
  rcases p156 with ⟨rfl, q157, q158⟩ | p156
  · refine sf_in ?_
    rw [f_X3_firstOf_e]
    refine sf_ite (fun c159 => ?_) (fun c159 => ?_)
    · have C159 : (-1 : Int) = (0 : Int) := ti_eq c159
      exfalso; omega
    have C159 : ¬ (-1 : Int) = (0 : Int) := ti_ne c159
    refine sf_ret ?_
    refine sf_ite (fun c160 => ?_) (fun c160 => ?_)
    · have C160 : (-1 : Int) = (0 : Int) := ti_eq c160
      exfalso; omega
    have C160 : ¬ (-1 : Int) = (0 : Int) := ti_ne c160
    rw [j_X3_ill_33_e]
    refine sf_ite (fun c161 => ?_) (fun c161 => ?_)
    · have C161 : (-1 : Int) = (0 : Int) := ti_eq c161
      exfalso; omega
    have C161 : ¬ (-1 : Int) = (0 : Int) := ti_ne c161
    rw [j_X3_ill_55_e]
    refine sf_in ?_
    rw [f_X3_notBelow_e]
    have b162 := ti_lo x5
    have b163 := ti_hi x5
    refine sf_ite (fun c164 => ?_) (fun c164 => ?_)
    · have C164 : x5.toInt < (0 : Int) := ti_lt c164
      rw [j_X3_notBelow_13_e]
      refine sf_ret ?_
      refine sf_in ?_
      rw [f_X3_firstOf_e]
      refine sf_ite (fun c165 => ?_) (fun c165 => ?_)
      · have C165 : (-1 : Int) = (0 : Int) := ti_eq c165
        exfalso; omega
      have C165 : ¬ (-1 : Int) = (0 : Int) := ti_ne c165
      refine sf_ret ?_
      refine sf_ite (fun c166 => ?_) (fun c166 => ?_)
      · have C166 : (-1 : Int) = (0 : Int) := ti_eq c166
        exfalso; omega
      have C166 : ¬ (-1 : Int) = (0 : Int) := ti_ne c166
      refine sf_bnd (s_X3_refuseLong hF hI (by decide) (by decide)) (fun r167 u168 p169 => ?_)
      obtain ⟨Iu168, Fu168_, O83_u168_, O0_u168_, -⟩ := p169
      have Fu168 : ∀ k, 101 ≤ k → u168 k = τ k := fun k hk => (Fu168_ k hk).trans (Fτ k hk)
      have O83_u168 : u168 83 1 = τ 83 1 := O83_u168_.trans O83_τ
      have O0_u168 : u168 0 7 = τ 0 7 := O0_u168_.trans O0_τ
      exact sf_ret ⟨Iu168, Fu168, O83_u168, O0_u168, trivial⟩
    have C164 : (0 : Int) ≤ x5.toInt := ti_nlt c164
    refine sf_ite (fun c170 => ?_) (fun c170 => ?_)
    · have C170 : (2 : Int) ≤ x5.toInt := ti_le c170
      rw [j_X3_notBelow_13_e]
      refine sf_ret ?_
      refine sf_in ?_
      rw [f_X3_firstOf_e]
      refine sf_ite (fun c171 => ?_) (fun c171 => ?_)
      · have C171 : (-1 : Int) = (0 : Int) := ti_eq c171
        exfalso; omega
      have C171 : ¬ (-1 : Int) = (0 : Int) := ti_ne c171
      refine sf_ret ?_
      refine sf_ite (fun c172 => ?_) (fun c172 => ?_)
      · have C172 : (-1 : Int) = (0 : Int) := ti_eq c172
        exfalso; omega
      have C172 : ¬ (-1 : Int) = (0 : Int) := ti_ne c172
      refine sf_bnd (s_X3_refuseLong hF hI (by decide) (by decide)) (fun r173 u174 p175 => ?_)
      obtain ⟨Iu174, Fu174_, O83_u174_, O0_u174_, -⟩ := p175
      have Fu174 : ∀ k, 101 ≤ k → u174 k = τ k := fun k hk => (Fu174_ k hk).trans (Fτ k hk)
      have O83_u174 : u174 83 1 = τ 83 1 := O83_u174_.trans O83_τ
      have O0_u174 : u174 0 7 = τ 0 7 := O0_u174_.trans O0_τ
      exact sf_ret ⟨Iu174, Fu174, O83_u174, O0_u174, trivial⟩
    have C170 : x5.toInt < (2 : Int) := ti_nle c170
    refine sf_ret ?_
    refine sf_in ?_
    rw [f_X3_firstOf_e]
    refine sf_ite (fun c176 => ?_) (fun c176 => ?_)
    · have C176 : (-1 : Int) = (0 : Int) := ti_eq c176
      exfalso; omega
    have C176 : ¬ (-1 : Int) = (0 : Int) := ti_ne c176
    refine sf_ret ?_
    refine sf_ite (fun c177 => ?_) (fun c177 => ?_)
    · have C177 : (-1 : Int) = (0 : Int) := ti_eq c177
      exfalso; omega
    have C177 : ¬ (-1 : Int) = (0 : Int) := ti_ne c177
    refine sf_bnd (s_X3_refuseLong hF hI (by decide) (by decide)) (fun r178 u179 p180 => ?_)
    obtain ⟨Iu179, Fu179_, O83_u179_, O0_u179_, -⟩ := p180
    have Fu179 : ∀ k, 101 ≤ k → u179 k = τ k := fun k hk => (Fu179_ k hk).trans (Fτ k hk)
    have O83_u179 : u179 83 1 = τ 83 1 := O83_u179_.trans O83_τ
    have O0_u179 : u179 0 7 = τ 0 7 := O0_u179_.trans O0_τ
    exact sf_ret ⟨Iu179, Fu179, O83_u179, O0_u179, trivial⟩
  obtain ⟨rfl, q181⟩ := p156
  refine sf_in ?_
  rw [f_X3_firstOf_e]
  refine sf_ite (fun c182 => ?_) (fun c182 => ?_)
  · have C182 : (-1 : Int) = (0 : Int) := ti_eq c182
    exfalso; omega
  have C182 : ¬ (-1 : Int) = (0 : Int) := ti_ne c182
  refine sf_ret ?_
  refine sf_ite (fun c183 => ?_) (fun c183 => ?_)
  · have C183 : (-1 : Int) = (0 : Int) := ti_eq c183
    exfalso; omega
  have C183 : ¬ (-1 : Int) = (0 : Int) := ti_ne c183
  rw [j_X3_ill_33_e]
  refine sf_ite (fun c184 => ?_) (fun c184 => ?_)
  · have C184 : (-1 : Int) = (0 : Int) := ti_eq c184
    exfalso; omega
  have C184 : ¬ (-1 : Int) = (0 : Int) := ti_ne c184
  rw [j_X3_ill_55_e]
  refine sf_in ?_
  rw [f_X3_notBelow_e]
  have b185 := ti_lo x5
  have b186 := ti_hi x5
  refine sf_ite (fun c187 => ?_) (fun c187 => ?_)
  · have C187 : x5.toInt < (0 : Int) := ti_lt c187
    rw [j_X3_notBelow_13_e]
    refine sf_ret ?_
    refine sf_in ?_
    rw [f_X3_firstOf_e]
    refine sf_ite (fun c188 => ?_) (fun c188 => ?_)
    · have C188 : (-1 : Int) = (0 : Int) := ti_eq c188
      exfalso; omega
    have C188 : ¬ (-1 : Int) = (0 : Int) := ti_ne c188
    refine sf_ret ?_
    refine sf_ite (fun c189 => ?_) (fun c189 => ?_)
    · have C189 : (-1 : Int) = (0 : Int) := ti_eq c189
      exfalso; omega
    have C189 : ¬ (-1 : Int) = (0 : Int) := ti_ne c189
    refine sf_bnd (s_X3_refuseLong hF hI (by decide) (by decide)) (fun r190 u191 p192 => ?_)
    obtain ⟨Iu191, Fu191_, O83_u191_, O0_u191_, -⟩ := p192
    have Fu191 : ∀ k, 101 ≤ k → u191 k = τ k := fun k hk => (Fu191_ k hk).trans (Fτ k hk)
    have O83_u191 : u191 83 1 = τ 83 1 := O83_u191_.trans O83_τ
    have O0_u191 : u191 0 7 = τ 0 7 := O0_u191_.trans O0_τ
    exact sf_ret ⟨Iu191, Fu191, O83_u191, O0_u191, trivial⟩
  have C187 : (0 : Int) ≤ x5.toInt := ti_nlt c187
  refine sf_ite (fun c193 => ?_) (fun c193 => ?_)
  · have C193 : (2 : Int) ≤ x5.toInt := ti_le c193
    rw [j_X3_notBelow_13_e]
    refine sf_ret ?_
    refine sf_in ?_
    rw [f_X3_firstOf_e]
    refine sf_ite (fun c194 => ?_) (fun c194 => ?_)
    · have C194 : (-1 : Int) = (0 : Int) := ti_eq c194
      exfalso; omega
    have C194 : ¬ (-1 : Int) = (0 : Int) := ti_ne c194
    refine sf_ret ?_
    refine sf_ite (fun c195 => ?_) (fun c195 => ?_)
    · have C195 : (-1 : Int) = (0 : Int) := ti_eq c195
      exfalso; omega
    have C195 : ¬ (-1 : Int) = (0 : Int) := ti_ne c195
    refine sf_bnd (s_X3_refuseLong hF hI (by decide) (by decide)) (fun r196 u197 p198 => ?_)
    obtain ⟨Iu197, Fu197_, O83_u197_, O0_u197_, -⟩ := p198
    have Fu197 : ∀ k, 101 ≤ k → u197 k = τ k := fun k hk => (Fu197_ k hk).trans (Fτ k hk)
    have O83_u197 : u197 83 1 = τ 83 1 := O83_u197_.trans O83_τ
    have O0_u197 : u197 0 7 = τ 0 7 := O0_u197_.trans O0_τ
    exact sf_ret ⟨Iu197, Fu197, O83_u197, O0_u197, trivial⟩
  have C193 : x5.toInt < (2 : Int) := ti_nle c193
  refine sf_ret ?_
  refine sf_in ?_
  rw [f_X3_firstOf_e]
  refine sf_ite (fun c199 => ?_) (fun c199 => ?_)
  · have C199 : (-1 : Int) = (0 : Int) := ti_eq c199
    exfalso; omega
  have C199 : ¬ (-1 : Int) = (0 : Int) := ti_ne c199
  refine sf_ret ?_
  refine sf_ite (fun c200 => ?_) (fun c200 => ?_)
  · have C200 : (-1 : Int) = (0 : Int) := ti_eq c200
    exfalso; omega
  have C200 : ¬ (-1 : Int) = (0 : Int) := ti_ne c200
  refine sf_bnd (s_X3_refuseLong hF hI (by decide) (by decide)) (fun r201 u202 p203 => ?_)
  obtain ⟨Iu202, Fu202_, O83_u202_, O0_u202_, -⟩ := p203
  have Fu202 : ∀ k, 101 ≤ k → u202 k = τ k := fun k hk => (Fu202_ k hk).trans (Fτ k hk)
  have O83_u202 : u202 83 1 = τ 83 1 := O83_u202_.trans O83_τ
  have O0_u202 : u202 0 7 = τ 0 7 := O0_u202_.trans O0_τ
  exact sf_ret ⟨Iu202, Fu202, O83_u202, O0_u202, trivial⟩
set_option maxHeartbeats 4000000 in
set_option maxRecDepth 100000 in
theorem sl_X3_busy_24 {F : Nat} (hF : 100000 ≤ F) {x1 : Int32} {τ : Mem} (x1_1 : 0 ≤ x1.toInt) (x1_2 : x1.toInt ≤ 1) : ∀ (N : Nat) (x3 : Int32) (x4 : Int32) (x5 : Int32) (σ : Mem), wiX σ → (∀ k, 101 ≤ k → σ k = τ k) → σ 83 1 = τ 83 1 → σ 0 7 = τ 0 7 → 24 < x5.toInt + N → 0 ≤ x3.toInt → x3.toInt ≤ 23 → 0 ≤ x4.toInt → x4.toInt ≤ 2147483647 → 0 ≤ x5.toInt → x5.toInt ≤ 24 → sf (lp_X3_busy_24 F x1 N x3 x4 x5 σ) (fun r s => wiX s ∧ (∀ k, 101 ≤ k → s k = τ k) ∧ s 83 1 = τ 83 1 ∧ s 0 7 = τ 0 7 ∧ -2147483648 ≤ r.toInt ∧ r.toInt ≤ 2147483647) := by
  intro N
  induction N with
  | zero => intro x3 x4 x5 σ hI Fσ O83_σ O0_σ hN x3_1 x3_2 x4_1 x4_2 x5_1 x5_2; exfalso; omega
  | succ N ih =>
    intro x3 x4 x5 σ hI Fσ O83_σ O0_σ hN x3_1 x3_2 x4_1 x4_2 x5_1 x5_2
    rw [lp_X3_busy_24_s]
    refine sf_ite (fun c1 => ?_) (fun c1 => ?_)
    · have C1 : (24 : Int) ≤ x5.toInt := ti_le c1
      refine sf_ite (fun c2 => ?_) (fun c2 => ?_)
      · have C2 : x1.toInt = (0 : Int) := ti_eq c2
        exact sf_ret ⟨hI, Fσ, O83_σ, O0_σ, ti_lo _, ti_hi _⟩
      have C2 : ¬ x1.toInt = (0 : Int) := ti_ne c2
      have b3 := ti_lo x4
      have b4 := ti_hi x4
      exact sf_ret ⟨hI, Fσ, O83_σ, O0_σ, ti_lo _, ti_hi _⟩
    have C1 : x5.toInt < (24 : Int) := ti_nle c1
    refine sf_bnd (s_X0_standingIn hF wt_h1 hI (by omega) (by omega)) (fun r5 u6 p7 => ?_)
    obtain ⟨e9, p7_1, p7_2⟩ := p7
    have e9 := e9.symm
    subst e9
    have b8 := ti_lo r5
    have b9 := ti_hi r5
    have b10 := ti_lo x4
    have b11 := ti_hi x4
    refine sf_ite (fun c12 => ?_) (fun c12 => ?_)
    · have C12 : r5.toInt ≤ x4.toInt := ti_le c12
      rw [j_X3_busy_56_e]
      have t13 : (x5 + (1 : Int32)).toInt = x5.toInt + (1 : Int) := ti_add (show -2147483648 ≤ x5.toInt + (1 : Int) by omega) (show x5.toInt + (1 : Int) ≤ 2147483647 by omega)
      exact ih _ _ _ _ hI Fσ O83_σ O0_σ (by omega) (by omega) (by omega) (by omega) (by omega) (by omega) (by omega)
    have C12 : x4.toInt < r5.toInt := ti_nle c12
    rw [j_X3_busy_56_e]
    have t14 : (x5 + (1 : Int32)).toInt = x5.toInt + (1 : Int) := ti_add (show -2147483648 ≤ x5.toInt + (1 : Int) by omega) (show x5.toInt + (1 : Int) ≤ 2147483647 by omega)
    exact ih _ _ _ _ hI Fσ O83_σ O0_σ (by omega) (by omega) (by omega) (by omega) (by omega) (by omega) (by omega)
set_option maxHeartbeats 4000000 in
set_option maxRecDepth 100000 in
theorem s_X3_busy {F : Nat} (hF : 100000 ≤ F) {x1 : Int32} {τ : Mem} (hI : wiX τ) : sf (f_X3_busy F x1 τ) (fun r s => wiX s ∧ (∀ k, 101 ≤ k → s k = τ k) ∧ s 83 1 = τ 83 1 ∧ s 0 7 = τ 0 7 ∧ -2147483648 ≤ r.toInt ∧ r.toInt ≤ 2147483647) := by
  have Fτ : ∀ k, 101 ≤ k → τ k = τ k := fun _ _ => rfl
  have O83_τ : τ 83 1 = τ 83 1 := rfl
  have O0_τ : τ 0 7 = τ 0 7 := rfl
  rw [f_X3_busy_e]
  refine sf_in ?_
  rw [f_X3_notBelow_e]
  have b1 := ti_lo x1
  have b2 := ti_hi x1
  refine sf_ite (fun c3 => ?_) (fun c3 => ?_)
  · have C3 : x1.toInt < (0 : Int) := ti_lt c3
    rw [j_X3_notBelow_13_e]
    refine sf_ret ?_
    refine sf_ite (fun c4 => ?_) (fun c4 => ?_)
    · have C4 : (-2 : Int) = (0 : Int) := ti_eq c4
      exfalso; omega
    have C4 : ¬ (-2 : Int) = (0 : Int) := ti_ne c4
    refine sf_bnd (s_X3_refuse hF hI (by decide) (by decide)) (fun r5 u6 p7 => ?_)
    obtain ⟨Iu6, Fu6_, O83_u6_, O0_u6_, p7_1, p7_2, p7_x0⟩ := p7
    have Fu6 : ∀ k, 101 ≤ k → u6 k = τ k := fun k hk => (Fu6_ k hk).trans (Fτ k hk)
    have O83_u6 : u6 83 1 = τ 83 1 := O83_u6_.trans O83_τ
    have O0_u6 : u6 0 7 = τ 0 7 := O0_u6_.trans O0_τ
    replace p7_x0 : r5.toInt = (-2 : Int) := p7_x0
    exact sf_ret ⟨Iu6, Fu6, O83_u6, O0_u6, ti_lo _, ti_hi _⟩
  have C3 : (0 : Int) ≤ x1.toInt := ti_nlt c3
  refine sf_ite (fun c8 => ?_) (fun c8 => ?_)
  · have C8 : (2 : Int) ≤ x1.toInt := ti_le c8
    rw [j_X3_notBelow_13_e]
    refine sf_ret ?_
    refine sf_ite (fun c9 => ?_) (fun c9 => ?_)
    · have C9 : (-2 : Int) = (0 : Int) := ti_eq c9
      exfalso; omega
    have C9 : ¬ (-2 : Int) = (0 : Int) := ti_ne c9
    refine sf_bnd (s_X3_refuse hF hI (by decide) (by decide)) (fun r10 u11 p12 => ?_)
    obtain ⟨Iu11, Fu11_, O83_u11_, O0_u11_, p12_1, p12_2, p12_x0⟩ := p12
    have Fu11 : ∀ k, 101 ≤ k → u11 k = τ k := fun k hk => (Fu11_ k hk).trans (Fτ k hk)
    have O83_u11 : u11 83 1 = τ 83 1 := O83_u11_.trans O83_τ
    have O0_u11 : u11 0 7 = τ 0 7 := O0_u11_.trans O0_τ
    replace p12_x0 : r10.toInt = (-2 : Int) := p12_x0
    exact sf_ret ⟨Iu11, Fu11, O83_u11, O0_u11, ti_lo _, ti_hi _⟩
  have C8 : x1.toInt < (2 : Int) := ti_nle c8
  refine sf_ret ?_
  refine sf_ite (fun c13 => ?_) (fun c13 => ?_)
  · have C13 : (0 : Int) = (0 : Int) := ti_eq c13
    have l_0 : (0 : Int32).toInt = 0 := rfl
    exact sl_X3_busy_24 hF (by omega) (by omega) _ _ _ _ _ hI Fτ O83_τ O0_τ (by omega) (by decide) (by decide) (by decide) (by decide) (by decide) (by decide)
  have C13 : ¬ (0 : Int) = (0 : Int) := ti_ne c13
  exfalso; omega
set_option maxHeartbeats 4000000 in
set_option maxRecDepth 100000 in
theorem sl_X3_together_23 {F : Nat} (hF : 100000 ≤ F) {x1 : Int32} {x2 : Int32} {τ : Mem} (x1_1 : 0 ≤ x1.toInt) (x1_2 : x1.toInt ≤ 4) (x2_1 : 0 ≤ x2.toInt) (x2_2 : x2.toInt ≤ 4) : ∀ (N : Nat) (x4 : Int32) (x5 : Int32) (σ : Mem), wiX σ → (∀ k, 101 ≤ k → σ k = τ k) → σ 83 1 = τ 83 1 → σ 0 7 = τ 0 7 → 24 < x5.toInt + N → 0 ≤ x5.toInt → x5.toInt ≤ 24 → sf (lp_X3_together_23 F x1 x2 N x4 x5 σ) (fun r s => wiX s ∧ (∀ k, 101 ≤ k → s k = τ k) ∧ s 83 1 = τ 83 1 ∧ s 0 7 = τ 0 7 ∧ -2147483648 ≤ r.toInt ∧ r.toInt ≤ 2147483647) := by
  intro N
  induction N with
  | zero => intro x4 x5 σ hI Fσ O83_σ O0_σ hN x5_1 x5_2; exfalso; omega
  | succ N ih =>
    intro x4 x5 σ hI Fσ O83_σ O0_σ hN x5_1 x5_2
    rw [lp_X3_together_23_s]
    refine sf_ite (fun c1 => ?_) (fun c1 => ?_)
    · have C1 : (24 : Int) ≤ x5.toInt := ti_le c1
      have b2 := ti_lo x4
      have b3 := ti_hi x4
      exact sf_ret ⟨hI, Fσ, O83_σ, O0_σ, ti_lo _, ti_hi _⟩
    have C1 : x5.toInt < (24 : Int) := ti_nle c1
    refine sf_chk (ti_in (by omega) (by omega)) ?_
    have v4 : Int32.toNatClampNeg x1 = x1.toInt.toNat := rfl
    refine sf_chk (ti_in (by omega) (by omega)) ?_
    have v5 : Int32.toNatClampNeg x5 = x5.toInt.toNat := rfl
    have b7 := ti_lo (σ ((1 + 5) + (Int32.toNatClampNeg x1)) (Int32.toNatClampNeg x5))
    have b8 := ti_hi (σ ((1 + 5) + (Int32.toNatClampNeg x1)) (Int32.toNatClampNeg x5))
    refine sf_lt (fun z6 hz6 => ?_)
    have hz6_ : z6.toInt = (σ ((1 + 5) + (Int32.toNatClampNeg x1)) (Int32.toNatClampNeg x5)).toInt := (show z6.toInt = (σ ((1 + 5) + (Int32.toNatClampNeg x1)) (Int32.toNatClampNeg x5)).toInt from congrArg Int32.toInt hz6)
    have b9 := ti_lo z6
    have b10 := ti_hi z6
    refine sf_ite (fun c11 => ?_) (fun c11 => ?_)
    · have C11 : z6.toInt = (9 : Int) := ti_eq c11
      rw [j_X3_together_77_e]
      have b12 := ti_lo x4
      have b13 := ti_hi x4
      have t14 : (x5 + (1 : Int32)).toInt = x5.toInt + (1 : Int) := ti_add (show -2147483648 ≤ x5.toInt + (1 : Int) by omega) (show x5.toInt + (1 : Int) ≤ 2147483647 by omega)
      exact ih _ _ _ hI Fσ O83_σ O0_σ (by omega) (by omega) (by omega)
    have C11 : ¬ z6.toInt = (9 : Int) := ti_ne c11
    refine sf_chk (ti_in (by omega) (by omega)) ?_
    have v15 : Int32.toNatClampNeg x2 = x2.toInt.toNat := rfl
    have b16 := ti_lo (σ ((1 + 5) + (Int32.toNatClampNeg x2)) (Int32.toNatClampNeg x5))
    have b17 := ti_hi (σ ((1 + 5) + (Int32.toNatClampNeg x2)) (Int32.toNatClampNeg x5))
    refine sf_ite (fun c18 => ?_) (fun c18 => ?_)
    · have C18 : (σ ((1 + 5) + (Int32.toNatClampNeg x2)) (Int32.toNatClampNeg x5)).toInt = z6.toInt := ti_eq c18
      have b20 := ti_lo (x4 ||| ((1 : Int32) <<< (x5 &&& 31)))
      have b21 := ti_hi (x4 ||| ((1 : Int32) <<< (x5 &&& 31)))
      refine sf_lt (fun z19 hz19 => ?_)
      have hz19_ : z19.toInt = (x4 ||| ((1 : Int32) <<< (x5 &&& 31))).toInt := (show z19.toInt = (x4 ||| ((1 : Int32) <<< (x5 &&& 31))).toInt from congrArg Int32.toInt hz19)
      rw [j_X3_together_77_e]
      have b22 := ti_lo z19
      have b23 := ti_hi z19
      have t24 : (x5 + (1 : Int32)).toInt = x5.toInt + (1 : Int) := ti_add (show -2147483648 ≤ x5.toInt + (1 : Int) by omega) (show x5.toInt + (1 : Int) ≤ 2147483647 by omega)
      exact ih _ _ _ hI Fσ O83_σ O0_σ (by omega) (by omega) (by omega)
    have C18 : ¬ (σ ((1 + 5) + (Int32.toNatClampNeg x2)) (Int32.toNatClampNeg x5)).toInt = z6.toInt := ti_ne c18
    rw [j_X3_together_77_e]
    have b25 := ti_lo x4
    have b26 := ti_hi x4
    have t27 : (x5 + (1 : Int32)).toInt = x5.toInt + (1 : Int) := ti_add (show -2147483648 ≤ x5.toInt + (1 : Int) by omega) (show x5.toInt + (1 : Int) ≤ 2147483647 by omega)
    exact ih _ _ _ hI Fσ O83_σ O0_σ (by omega) (by omega) (by omega)
set_option maxHeartbeats 4000000 in
set_option maxRecDepth 100000 in
theorem s_X3_together {F : Nat} (hF : 100000 ≤ F) {x1 : Int32} {x2 : Int32} {τ : Mem} (hI : wiX τ) : sf (f_X3_together F x1 x2 τ) (fun r s => wiX s ∧ (∀ k, 101 ≤ k → s k = τ k) ∧ s 83 1 = τ 83 1 ∧ s 0 7 = τ 0 7 ∧ -2147483648 ≤ r.toInt ∧ r.toInt ≤ 2147483647) := by
  have Fτ : ∀ k, 101 ≤ k → τ k = τ k := fun _ _ => rfl
  have O83_τ : τ 83 1 = τ 83 1 := rfl
  have O0_τ : τ 0 7 = τ 0 7 := rfl
  rw [f_X3_together_e]
  have b1 := ti_lo x1
  have b2 := ti_hi x1
  have b3 := ti_lo x2
  have b4 := ti_hi x2
  refine sf_bnd (s_X3_noPair hF hI) (fun r5 u6 p7 => ?_)
  obtain ⟨e9, p7⟩ := p7
  have e9 := e9.symm
  subst e9
  rcases p7 with ⟨rfl, q8, q9, q10, q11⟩ | p7
  · refine sf_ite (fun c12 => ?_) (fun c12 => ?_)
    · have C12 : (0 : Int) = (0 : Int) := ti_eq c12
      have l_0 : (0 : Int32).toInt = 0 := rfl
      exact sl_X3_together_23 hF (by omega) (by omega) (by omega) (by omega) _ _ _ _ hI Fτ O83_τ O0_τ (by omega) (by decide) (by decide)
    have C12 : ¬ (0 : Int) = (0 : Int) := ti_ne c12
    exfalso; omega
  obtain rfl := p7
  refine sf_ite (fun c13 => ?_) (fun c13 => ?_)
  · have C13 : (-1 : Int) = (0 : Int) := ti_eq c13
    exfalso; omega
  have C13 : ¬ (-1 : Int) = (0 : Int) := ti_ne c13
  refine sf_bnd (s_X3_refuse hF hI (by decide) (by decide)) (fun r14 u15 p16 => ?_)
  obtain ⟨Iu15, Fu15_, O83_u15_, O0_u15_, p16_1, p16_2, p16_x0⟩ := p16
  have Fu15 : ∀ k, 101 ≤ k → u15 k = τ k := fun k hk => (Fu15_ k hk).trans (Fτ k hk)
  have O83_u15 : u15 83 1 = τ 83 1 := O83_u15_.trans O83_τ
  have O0_u15 : u15 0 7 = τ 0 7 := O0_u15_.trans O0_τ
  replace p16_x0 : r14.toInt = (-1 : Int) := p16_x0
  exact sf_ret ⟨Iu15, Fu15, O83_u15, O0_u15, ti_lo _, ti_hi _⟩
