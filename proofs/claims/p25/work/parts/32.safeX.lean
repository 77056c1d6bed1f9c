set_option maxHeartbeats 4000000 in
set_option maxRecDepth 100000 in
theorem s_X3_wealthAt {F : Nat} (hF : 100000 ≤ F) {x1 : Int32} {x2 : Int32} {x3 : Int32} {x4 : Int32} {τ : Mem} (hI : wiX τ) (x1_1 : 0 ≤ x1.toInt) (x1_2 : x1.toInt ≤ 4) (x2_1 : 0 ≤ x2.toInt) (x2_2 : x2.toInt ≤ 23) (x3_1 : 0 ≤ x3.toInt) (x3_2 : x3.toInt ≤ 9) (x4_1 : 0 ≤ x4.toInt) (x4_2 : x4.toInt ≤ 999) : sf (f_X3_wealthAt F x1 x2 x3 x4 τ) (fun r s => wiX s ∧ (∀ k, 101 ≤ k → s k = τ k) ∧ s 83 1 = τ 83 1 ∧ s 0 7 = τ 0 7 ∧ -2147483648 ≤ r.toInt ∧ r.toInt ≤ 2147483647) := by
  have Fτ : ∀ k, 101 ≤ k → τ k = τ k := fun _ _ => rfl
  have O83_τ : τ 83 1 = τ 83 1 := rfl
  have O0_τ : τ 0 7 = τ 0 7 := rfl
  rw [f_X3_wealthAt_e]
  refine sf_bnd (s_X0_post hF wt_h24 hI) (fun r1 u2 p3 => ?_)
  obtain ⟨Iu2, Fu2_, O83_u2_, O0_u2_, p3_1, p3_2⟩ := p3
  have Fu2 : ∀ k, 101 ≤ k → u2 k = τ k := fun k hk => (Fu2_ k hk).trans (Fτ k hk)
  have O83_u2 : u2 83 1 = τ 83 1 := O83_u2_.trans O83_τ
  have O0_u2 : u2 0 7 = τ 0 7 := O0_u2_.trans O0_τ
  have hb_r1 : r1 = 0 ∨ r1 = 1 := wi_bool p3_1 p3_2
  refine sf_bnd (s_X0_reckon hF wt_h24 Iu2) (fun r4 u5 p6 => ?_)
  obtain ⟨Iu5, Fu5_, O83_u5_, O0_u5_, -⟩ := p6
  have Fu5 : ∀ k, 101 ≤ k → u5 k = τ k := fun k hk => (Fu5_ k hk).trans (Fu2 k hk)
  have O83_u5 : u5 83 1 = τ 83 1 := O83_u5_.trans O83_u2
  have O0_u5 : u5 0 7 = τ 0 7 := O0_u5_.trans O0_u2
  refine sf_bnd (s_X0_wealth hF wt_h24 Iu5 (by omega) (by omega)) (fun r7 u8 p9 => ?_)
  obtain ⟨e9, p9_1, p9_2⟩ := p9
  have e9 := e9.symm
  subst e9
  have b10 := ti_lo r7
  have b11 := ti_hi r7
  exact sf_ret ⟨Iu5, Fu5, O83_u5, O0_u5, ti_lo _, ti_hi _⟩
set_option maxHeartbeats 4000000 in
set_option maxRecDepth 100000 in
theorem sl_X3_bestPane_71 {F : Nat} (hF : 100000 ≤ F) {x1 : Int32} {x2 : Int32} {x3 : Int32} {x4 : Int32} {τ : Mem} (x1_1 : 0 ≤ x1.toInt) (x1_2 : x1.toInt ≤ 4) (x2_1 : 0 ≤ x2.toInt) (x2_2 : x2.toInt ≤ 23) (x3_1 : 0 ≤ x3.toInt) (x3_2 : x3.toInt ≤ 999) (x4_1 : 0 ≤ x4.toInt) (x4_2 : x4.toInt ≤ 1) : ∀ (N : Nat) (x6 : Int32) (x7 : Int32) (x8 : Int32) (σ : Mem), wiX σ → (∀ k, 101 ≤ k → σ k = τ k) → σ 83 1 = τ 83 1 → σ 0 7 = τ 0 7 → 7 < x8.toInt + N → 0 ≤ x6.toInt → x6.toInt ≤ 9 → -1 ≤ x7.toInt → x7.toInt ≤ 2147483647 → 0 ≤ x8.toInt → x8.toInt ≤ 7 → sf (lp_X3_bestPane_71 F x1 x2 x3 x4 N x6 x7 x8 σ) (fun r s => wiX s ∧ (∀ k, 101 ≤ k → s k = τ k) ∧ s 83 1 = τ 83 1 ∧ s 0 7 = τ 0 7 ∧ -2147483648 ≤ r.toInt ∧ r.toInt ≤ 2147483647) := by
  intro N
  induction N with
  | zero => intro x6 x7 x8 σ hI Fσ O83_σ O0_σ hN x6_1 x6_2 x7_1 x7_2 x8_1 x8_2; exfalso; omega
  | succ N ih =>
    intro x6 x7 x8 σ hI Fσ O83_σ O0_σ hN x6_1 x6_2 x7_1 x7_2 x8_1 x8_2
    rw [lp_X3_bestPane_71_s]
    have m1 := wx_X0_0 hI wt_h1
    refine sf_ite (fun c2 => ?_) (fun c2 => ?_)
    · have C2 : (σ 1 0).toInt < x8.toInt := ti_lt c2
      refine sf_ite (fun c3 => ?_) (fun c3 => ?_)
      · have C3 : x4.toInt = (0 : Int) := ti_eq c3
        exact sf_ret ⟨hI, Fσ, O83_σ, O0_σ, ti_lo _, ti_hi _⟩
      have C3 : ¬ x4.toInt = (0 : Int) := ti_ne c3
      have b4 := ti_lo x7
      have b5 := ti_hi x7
      exact sf_ret ⟨hI, Fσ, O83_σ, O0_σ, ti_lo _, ti_hi _⟩
    have C2 : x8.toInt ≤ (σ 1 0).toInt := ti_nlt c2
    refine sf_ite (fun c6 => ?_) (fun c6 => ?_)
    · have C6 : (σ 1 0).toInt ≤ x8.toInt := ti_le c6
      rw [j_X3_bestPane_102_e]
      refine sf_bnd (s_X3_wealthAt hF hI (by omega) (by omega) (by omega) (by omega) (by decide) (by decide) (by omega) (by omega)) (fun r7 u8 p9 => ?_)
      obtain ⟨Iu8, Fu8_, O83_u8_, O0_u8_, p9_1, p9_2⟩ := p9
      have Fu8 : ∀ k, 101 ≤ k → u8 k = τ k := fun k hk => (Fu8_ k hk).trans (Fσ k hk)
      have O83_u8 : u8 83 1 = τ 83 1 := O83_u8_.trans O83_σ
      have O0_u8 : u8 0 7 = τ 0 7 := O0_u8_.trans O0_σ
      have b10 := ti_lo r7
      have b11 := ti_hi r7
      have b12 := ti_lo x7
      have b13 := ti_hi x7
      refine sf_ite (fun c14 => ?_) (fun c14 => ?_)
      · have C14 : r7.toInt ≤ x7.toInt := ti_le c14
        rw [j_X3_bestPane_130_e]
        have t15 : (x8 + (1 : Int32)).toInt = x8.toInt + (1 : Int) := ti_add (show -2147483648 ≤ x8.toInt + (1 : Int) by omega) (show x8.toInt + (1 : Int) ≤ 2147483647 by omega)
        exact ih _ _ _ _ Iu8 Fu8 O83_u8 O0_u8 (by omega) (by omega) (by omega) (by omega) (by omega) (by omega) (by omega)
      have C14 : x7.toInt < r7.toInt := ti_nle c14
      rw [j_X3_bestPane_130_e]
      have t16 : (x8 + (1 : Int32)).toInt = x8.toInt + (1 : Int) := ti_add (show -2147483648 ≤ x8.toInt + (1 : Int) by omega) (show x8.toInt + (1 : Int) ≤ 2147483647 by omega)
      exact ih _ _ _ _ Iu8 Fu8 O83_u8 O0_u8 (by omega) (by decide) (by decide) (by omega) (by omega) (by omega) (by omega)
    have C6 : x8.toInt < (σ 1 0).toInt := ti_nle c6
    rw [j_X3_bestPane_102_e]
    refine sf_bnd (s_X3_wealthAt hF hI (by omega) (by omega) (by omega) (by omega) (by omega) (by omega) (by omega) (by omega)) (fun r17 u18 p19 => ?_)
    obtain ⟨Iu18, Fu18_, O83_u18_, O0_u18_, p19_1, p19_2⟩ := p19
    have Fu18 : ∀ k, 101 ≤ k → u18 k = τ k := fun k hk => (Fu18_ k hk).trans (Fσ k hk)
    have O83_u18 : u18 83 1 = τ 83 1 := O83_u18_.trans O83_σ
    have O0_u18 : u18 0 7 = τ 0 7 := O0_u18_.trans O0_σ
    have b20 := ti_lo r17
    have b21 := ti_hi r17
    have b22 := ti_lo x7
    have b23 := ti_hi x7
    refine sf_ite (fun c24 => ?_) (fun c24 => ?_)
    · have C24 : r17.toInt ≤ x7.toInt := ti_le c24
      rw [j_X3_bestPane_130_e]
      have t25 : (x8 + (1 : Int32)).toInt = x8.toInt + (1 : Int) := ti_add (show -2147483648 ≤ x8.toInt + (1 : Int) by omega) (show x8.toInt + (1 : Int) ≤ 2147483647 by omega)
      exact ih _ _ _ _ Iu18 Fu18 O83_u18 O0_u18 (by omega) (by omega) (by omega) (by omega) (by omega) (by omega) (by omega)
    have C24 : x7.toInt < r17.toInt := ti_nle c24
    rw [j_X3_bestPane_130_e]
    have t26 : (x8 + (1 : Int32)).toInt = x8.toInt + (1 : Int) := ti_add (show -2147483648 ≤ x8.toInt + (1 : Int) by omega) (show x8.toInt + (1 : Int) ≤ 2147483647 by omega)
    exact ih _ _ _ _ Iu18 Fu18 O83_u18 O0_u18 (by omega) (by omega) (by omega) (by omega) (by omega) (by omega) (by omega)
set_option maxHeartbeats 4000000 in
set_option maxRecDepth 100000 in
theorem s_X3_bestPane {F : Nat} (hF : 100000 ≤ F) {x1 : Int32} {x2 : Int32} {x3 : Int32} {x4 : Int32} {τ : Mem} (hI : wiX τ) : sf (f_X3_bestPane F x1 x2 x3 x4 τ) (fun r s => wiX s ∧ (∀ k, 101 ≤ k → s k = τ k) ∧ s 83 1 = τ 83 1 ∧ s 0 7 = τ 0 7 ∧ -2147483648 ≤ r.toInt ∧ r.toInt ≤ 2147483647) := by
  have Fτ : ∀ k, 101 ≤ k → τ k = τ k := fun _ _ => rfl
  have O83_τ : τ 83 1 = τ 83 1 := rfl
  have O0_τ : τ 0 7 = τ 0 7 := rfl
  rw [f_X3_bestPane_e]
  have b1 := ti_lo x1
  have b2 := ti_hi x1
  refine sf_bnd (s_X3_noLooker hF hI) (fun r3 u4 p5 => ?_)
  obtain ⟨e9, p5⟩ := p5
  have e9 := e9.symm
  subst e9
  rcases p5 with ⟨rfl, q6, q7⟩ | p5
  · have b8 := ti_lo x2
    have b9 := ti_hi x2
    refine sf_bnd (s_X3_noHour hF hI) (fun r10 u11 p12 => ?_)
    obtain ⟨e9, p12⟩ := p12
    have e9 := e9.symm
    subst e9
    rcases p12 with ⟨rfl, q13, q14⟩ | p12
    · refine sf_in ?_
      rw [f_X3_firstOf_e]
      refine sf_ite (fun c15 => ?_) (fun c15 => ?_)
      · have C15 : (0 : Int) = (0 : Int) := ti_eq c15
        refine sf_ret ?_
        refine sf_in ?_
        rw [f_X3_outside_e]
        have b16 := ti_lo x3
        have b17 := ti_hi x3
        refine sf_ite (fun c18 => ?_) (fun c18 => ?_)
        · have C18 : (0 : Int) ≤ x3.toInt := ti_le c18
          refine sf_ite (fun c19 => ?_) (fun c19 => ?_)
          · have C19 : x3.toInt ≤ (999 : Int) := ti_le c19
            refine sf_ret ?_
            refine sf_in ?_
            rw [f_X3_firstOf_e]
            refine sf_ite (fun c20 => ?_) (fun c20 => ?_)
            · have C20 : (0 : Int) = (0 : Int) := ti_eq c20
              refine sf_ret ?_
              refine sf_in ?_
              rw [f_X3_notBelow_e]
              have b21 := ti_lo x4
              have b22 := ti_hi x4
              refine sf_ite (fun c23 => ?_) (fun c23 => ?_)
              · have C23 : x4.toInt < (0 : Int) := ti_lt c23
                rw [j_X3_notBelow_13_e]
                refine sf_ret ?_
                refine sf_in ?_
                rw [f_X3_firstOf_e]
                refine sf_ite (fun c24 => ?_) (fun c24 => ?_)
                · have C24 : (0 : Int) = (0 : Int) := ti_eq c24
                  refine sf_ret ?_
                  refine sf_ite (fun c25 => ?_) (fun c25 => ?_)
                  · have C25 : (-2 : Int) = (0 : Int) := ti_eq c25
                    exfalso; omega
                  have C25 : ¬ (-2 : Int) = (0 : Int) := ti_ne c25
                  refine sf_bnd (s_X3_refuse hF hI (by decide) (by decide)) (fun r26 u27 p28 => ?_)
                  obtain ⟨Iu27, Fu27_, O83_u27_, O0_u27_, p28_1, p28_2, p28_x0⟩ := p28
                  have Fu27 : ∀ k, 101 ≤ k → u27 k = τ k := fun k hk => (Fu27_ k hk).trans (Fτ k hk)
                  have O83_u27 : u27 83 1 = τ 83 1 := O83_u27_.trans O83_τ
                  have O0_u27 : u27 0 7 = τ 0 7 := O0_u27_.trans O0_τ
                  replace p28_x0 : r26.toInt = (-2 : Int) := p28_x0
                  exact sf_ret ⟨Iu27, Fu27, O83_u27, O0_u27, ti_lo _, ti_hi _⟩
                have C24 : ¬ (0 : Int) = (0 : Int) := ti_ne c24
                exfalso; omega
              have C23 : (0 : Int) ≤ x4.toInt := ti_nlt c23
              refine sf_ite (fun c29 => ?_) (fun c29 => ?_)
              · have C29 : (2 : Int) ≤ x4.toInt := ti_le c29
                rw [j_X3_notBelow_13_e]
                refine sf_ret ?_
                refine sf_in ?_
                rw [f_X3_firstOf_e]
                refine sf_ite (fun c30 => ?_) (fun c30 => ?_)
                · have C30 : (0 : Int) = (0 : Int) := ti_eq c30
                  refine sf_ret ?_
                  refine sf_ite (fun c31 => ?_) (fun c31 => ?_)
                  · have C31 : (-2 : Int) = (0 : Int) := ti_eq c31
                    exfalso; omega
                  have C31 : ¬ (-2 : Int) = (0 : Int) := ti_ne c31
                  refine sf_bnd (s_X3_refuse hF hI (by decide) (by decide)) (fun r32 u33 p34 => ?_)
                  obtain ⟨Iu33, Fu33_, O83_u33_, O0_u33_, p34_1, p34_2, p34_x0⟩ := p34
                  have Fu33 : ∀ k, 101 ≤ k → u33 k = τ k := fun k hk => (Fu33_ k hk).trans (Fτ k hk)
                  have O83_u33 : u33 83 1 = τ 83 1 := O83_u33_.trans O83_τ
                  have O0_u33 : u33 0 7 = τ 0 7 := O0_u33_.trans O0_τ
                  replace p34_x0 : r32.toInt = (-2 : Int) := p34_x0
                  exact sf_ret ⟨Iu33, Fu33, O83_u33, O0_u33, ti_lo _, ti_hi _⟩
                have C30 : ¬ (0 : Int) = (0 : Int) := ti_ne c30
                exfalso; omega
              have C29 : x4.toInt < (2 : Int) := ti_nle c29
              refine sf_ret ?_
              refine sf_in ?_
              rw [f_X3_firstOf_e]
              refine sf_ite (fun c35 => ?_) (fun c35 => ?_)
              · have C35 : (0 : Int) = (0 : Int) := ti_eq c35
                refine sf_ret ?_
                refine sf_ite (fun c36 => ?_) (fun c36 => ?_)
                · have C36 : (0 : Int) = (0 : Int) := ti_eq c36
                  refine sf_bnd (s_X0_takeFrom hF wt_h24 wt_h1 hI) (fun r37 u38 p39 => ?_)
                  obtain ⟨Iu38, Fu38_, O83_u38_, O0_u38_, -⟩ := p39
                  have Fu38 : ∀ k, 101 ≤ k → u38 k = τ k := fun k hk => (Fu38_ k hk).trans (Fτ k hk)
                  have O83_u38 : u38 83 1 = τ 83 1 := O83_u38_.trans O83_τ
                  have O0_u38 : u38 0 7 = τ 0 7 := O0_u38_.trans O0_τ
                  have l_0 : (0 : Int32).toInt = 0 := rfl
                  exact sl_X3_bestPane_71 hF (by omega) (by omega) (by omega) (by omega) (by omega) (by omega) (by omega) (by omega) _ _ _ _ _ Iu38 Fu38 O83_u38 O0_u38 (by omega) (by decide) (by decide) (by decide) (by decide) (by decide) (by decide)
                have C36 : ¬ (0 : Int) = (0 : Int) := ti_ne c36
                exfalso; omega
              have C35 : ¬ (0 : Int) = (0 : Int) := ti_ne c35
              exfalso; omega
            have C20 : ¬ (0 : Int) = (0 : Int) := ti_ne c20
            exfalso; omega
          have C19 : (999 : Int) < x3.toInt := ti_nle c19
          refine sf_ret ?_
          refine sf_in ?_
          rw [f_X3_firstOf_e]
          refine sf_ite (fun c40 => ?_) (fun c40 => ?_)
          · have C40 : (0 : Int) = (0 : Int) := ti_eq c40
            refine sf_ret ?_
            refine sf_in ?_
            rw [f_X3_notBelow_e]
            have b41 := ti_lo x4
            have b42 := ti_hi x4
            refine sf_ite (fun c43 => ?_) (fun c43 => ?_)
            · have C43 : x4.toInt < (0 : Int) := ti_lt c43
              rw [j_X3_notBelow_13_e]
              refine sf_ret ?_
              refine sf_in ?_
              rw [f_X3_firstOf_e]
              refine sf_ite (fun c44 => ?_) (fun c44 => ?_)
              · have C44 : (-6 : Int) = (0 : Int) := ti_eq c44
                exfalso; omega
              have C44 : ¬ (-6 : Int) = (0 : Int) := ti_ne c44
              refine sf_ret ?_
              refine sf_ite (fun c45 => ?_) (fun c45 => ?_)
              · have C45 : (-6 : Int) = (0 : Int) := ti_eq c45
                exfalso; omega
              have C45 : ¬ (-6 : Int) = (0 : Int) := ti_ne c45
              refine sf_bnd (s_X3_refuse hF hI (by decide) (by decide)) (fun r46 u47 p48 => ?_)
              obtain ⟨Iu47, Fu47_, O83_u47_, O0_u47_, p48_1, p48_2, p48_x0⟩ := p48
              have Fu47 : ∀ k, 101 ≤ k → u47 k = τ k := fun k hk => (Fu47_ k hk).trans (Fτ k hk)
              have O83_u47 : u47 83 1 = τ 83 1 := O83_u47_.trans O83_τ
              have O0_u47 : u47 0 7 = τ 0 7 := O0_u47_.trans O0_τ
              replace p48_x0 : r46.toInt = (-6 : Int) := p48_x0
              exact sf_ret ⟨Iu47, Fu47, O83_u47, O0_u47, ti_lo _, ti_hi _⟩
            have C43 : (0 : Int) ≤ x4.toInt := ti_nlt c43
            refine sf_ite (fun c49 => ?_) (fun c49 => ?_)
            · have C49 : (2 : Int) ≤ x4.toInt := ti_le c49
              rw [j_X3_notBelow_13_e]
              refine sf_ret ?_
              refine sf_in ?_
              rw [f_X3_firstOf_e]
              refine sf_ite (fun c50 => ?_) (fun c50 => ?_)
              · have C50 : (-6 : Int) = (0 : Int) := ti_eq c50
                exfalso; omega
              have C50 : ¬ (-6 : Int) = (0 : Int) := ti_ne c50
              refine sf_ret ?_
              refine sf_ite (fun c51 => ?_) (fun c51 => ?_)
              · have C51 : (-6 : Int) = (0 : Int) := ti_eq c51
                exfalso; omega
              have C51 : ¬ (-6 : Int) = (0 : Int) := ti_ne c51
              refine sf_bnd (s_X3_refuse hF hI (by decide) (by decide)) (fun r52 u53 p54 => ?_)
              obtain ⟨Iu53, Fu53_, O83_u53_, O0_u53_, p54_1, p54_2, p54_x0⟩ := p54
              have Fu53 : ∀ k, 101 ≤ k → u53 k = τ k := fun k hk => (Fu53_ k hk).trans (Fτ k hk)
              have O83_u53 : u53 83 1 = τ 83 1 := O83_u53_.trans O83_τ
              have O0_u53 : u53 0 7 = τ 0 7 := O0_u53_.trans O0_τ
              replace p54_x0 : r52.toInt = (-6 : Int) := p54_x0
              exact sf_ret ⟨Iu53, Fu53, O83_u53, O0_u53, ti_lo _, ti_hi _⟩
            have C49 : x4.toInt < (2 : Int) := ti_nle c49
            refine sf_ret ?_
            refine sf_in ?_
            rw [f_X3_firstOf_e]
            refine sf_ite (fun c55 => ?_) (fun c55 => ?_)
            · have C55 : (-6 : Int) = (0 : Int) := ti_eq c55
              exfalso; omega
            have C55 : ¬ (-6 : Int) = (0 : Int) := ti_ne c55
            refine sf_ret ?_
            refine sf_ite (fun c56 => ?_) (fun c56 => ?_)
            · have C56 : (-6 : Int) = (0 : Int) := ti_eq c56
              exfalso; omega
            have C56 : ¬ (-6 : Int) = (0 : Int) := ti_ne c56
            refine sf_bnd (s_X3_refuse hF hI (by decide) (by decide)) (fun r57 u58 p59 => ?_)
            obtain ⟨Iu58, Fu58_, O83_u58_, O0_u58_, p59_1, p59_2, p59_x0⟩ := p59
            have Fu58 : ∀ k, 101 ≤ k → u58 k = τ k := fun k hk => (Fu58_ k hk).trans (Fτ k hk)
            have O83_u58 : u58 83 1 = τ 83 1 := O83_u58_.trans O83_τ
            have O0_u58 : u58 0 7 = τ 0 7 := O0_u58_.trans O0_τ
            replace p59_x0 : r57.toInt = (-6 : Int) := p59_x0
            exact sf_ret ⟨Iu58, Fu58, O83_u58, O0_u58, ti_lo _, ti_hi _⟩
          have C40 : ¬ (0 : Int) = (0 : Int) := ti_ne c40
          exfalso; omega
        have C18 : x3.toInt < (0 : Int) := ti_nle c18
        refine sf_ret ?_
        refine sf_in ?_
        rw [f_X3_firstOf_e]
        refine sf_ite (fun c60 => ?_) (fun c60 => ?_)
        · have C60 : (0 : Int) = (0 : Int) := ti_eq c60
          refine sf_ret ?_
          refine sf_in ?_
          rw [f_X3_notBelow_e]
          have b61 := ti_lo x4
          have b62 := ti_hi x4
          refine sf_ite (fun c63 => ?_) (fun c63 => ?_)
          · have C63 : x4.toInt < (0 : Int) := ti_lt c63
            rw [j_X3_notBelow_13_e]
            refine sf_ret ?_
            refine sf_in ?_
            rw [f_X3_firstOf_e]
            refine sf_ite (fun c64 => ?_) (fun c64 => ?_)
            · have C64 : (-4 : Int) = (0 : Int) := ti_eq c64
              exfalso; omega
            have C64 : ¬ (-4 : Int) = (0 : Int) := ti_ne c64
            refine sf_ret ?_
            refine sf_ite (fun c65 => ?_) (fun c65 => ?_)
            · have C65 : (-4 : Int) = (0 : Int) := ti_eq c65
              exfalso; omega
            have C65 : ¬ (-4 : Int) = (0 : Int) := ti_ne c65
            refine sf_bnd (s_X3_refuse hF hI (by decide) (by decide)) (fun r66 u67 p68 => ?_)
            obtain ⟨Iu67, Fu67_, O83_u67_, O0_u67_, p68_1, p68_2, p68_x0⟩ := p68
            have Fu67 : ∀ k, 101 ≤ k → u67 k = τ k := fun k hk => (Fu67_ k hk).trans (Fτ k hk)
            have O83_u67 : u67 83 1 = τ 83 1 := O83_u67_.trans O83_τ
            have O0_u67 : u67 0 7 = τ 0 7 := O0_u67_.trans O0_τ
            replace p68_x0 : r66.toInt = (-4 : Int) := p68_x0
            exact sf_ret ⟨Iu67, Fu67, O83_u67, O0_u67, ti_lo _, ti_hi _⟩
          have C63 : (0 : Int) ≤ x4.toInt := ti_nlt c63
          refine sf_ite (fun c69 => ?_) (fun c69 => ?_)
          · have C69 : (2 : Int) ≤ x4.toInt := ti_le c69
            rw [j_X3_notBelow_13_e]
            refine sf_ret ?_
            refine sf_in ?_
            rw [f_X3_firstOf_e]
            refine sf_ite (fun c70 => ?_) (fun c70 => ?_)
            · have C70 : (-4 : Int) = (0 : Int) := ti_eq c70
              exfalso; omega
            have C70 : ¬ (-4 : Int) = (0 : Int) := ti_ne c70
            refine sf_ret ?_
            refine sf_ite (fun c71 => ?_) (fun c71 => ?_)
            · have C71 : (-4 : Int) = (0 : Int) := ti_eq c71
              exfalso; omega
            have C71 : ¬ (-4 : Int) = (0 : Int) := ti_ne c71
            refine sf_bnd (s_X3_refuse hF hI (by decide) (by decide)) (fun r72 u73 p74 => ?_)
            obtain ⟨Iu73, Fu73_, O83_u73_, O0_u73_, p74_1, p74_2, p74_x0⟩ := p74
            have Fu73 : ∀ k, 101 ≤ k → u73 k = τ k := fun k hk => (Fu73_ k hk).trans (Fτ k hk)
            have O83_u73 : u73 83 1 = τ 83 1 := O83_u73_.trans O83_τ
            have O0_u73 : u73 0 7 = τ 0 7 := O0_u73_.trans O0_τ
            replace p74_x0 : r72.toInt = (-4 : Int) := p74_x0
            exact sf_ret ⟨Iu73, Fu73, O83_u73, O0_u73, ti_lo _, ti_hi _⟩
          have C69 : x4.toInt < (2 : Int) := ti_nle c69
          refine sf_ret ?_
          refine sf_in ?_
          rw [f_X3_firstOf_e]
          refine sf_ite (fun c75 => ?_) (fun c75 => ?_)
          · have C75 : (-4 : Int) = (0 : Int) := ti_eq c75
            exfalso; omega
          have C75 : ¬ (-4 : Int) = (0 : Int) := ti_ne c75
          refine sf_ret ?_
          refine sf_ite (fun c76 => ?_) (fun c76 => ?_)
          · have C76 : (-4 : Int) = (0 : Int) := ti_eq c76
            exfalso; omega
          have C76 : ¬ (-4 : Int) = (0 : Int) := ti_ne c76
          refine sf_bnd (s_X3_refuse hF hI (by decide) (by decide)) (fun r77 u78 p79 => ?_)
          obtain ⟨Iu78, Fu78_, O83_u78_, O0_u78_, p79_1, p79_2, p79_x0⟩ := p79
          have Fu78 : ∀ k, 101 ≤ k → u78 k = τ k := fun k hk => (Fu78_ k hk).trans (Fτ k hk)
          have O83_u78 : u78 83 1 = τ 83 1 := O83_u78_.trans O83_τ
          have O0_u78 : u78 0 7 = τ 0 7 := O0_u78_.trans O0_τ
          replace p79_x0 : r77.toInt = (-4 : Int) := p79_x0
          exact sf_ret ⟨Iu78, Fu78, O83_u78, O0_u78, ti_lo _, ti_hi _⟩
        have C60 : ¬ (0 : Int) = (0 : Int) := ti_ne c60
        exfalso; omega
      have C15 : ¬ (0 : Int) = (0 : Int) := ti_ne c15
      exfalso; omega
    obtain ⟨rfl, q80⟩ := p12
    refine sf_in ?_
    rw [f_X3_firstOf_e]
    refine sf_ite (fun c81 => ?_) (fun c81 => ?_)
    · have C81 : (0 : Int) = (0 : Int) := ti_eq c81
      refine sf_ret ?_
      refine sf_in ?_
      rw [f_X3_outside_e]
      have b82 := ti_lo x3
      have b83 := ti_hi x3
      refine sf_ite (fun c84 => ?_) (fun c84 => ?_)
      · have C84 : (0 : Int) ≤ x3.toInt := ti_le c84
        refine sf_ite (fun c85 => ?_) (fun c85 => ?_)
        · have C85 : x3.toInt ≤ (999 : Int) := ti_le c85
          refine sf_ret ?_
          refine sf_in ?_
          rw [f_X3_firstOf_e]
          refine sf_ite (fun c86 => ?_) (fun c86 => ?_)
          · have C86 : (-1 : Int) = (0 : Int) := ti_eq c86
            exfalso; omega
          have C86 : ¬ (-1 : Int) = (0 : Int) := ti_ne c86
          refine sf_ret ?_
          refine sf_in ?_
          rw [f_X3_notBelow_e]
          have b87 := ti_lo x4
          have b88 := ti_hi x4
          refine sf_ite (fun c89 => ?_) (fun c89 => ?_)
          · have C89 : x4.toInt < (0 : Int) := ti_lt c89
            rw [j_X3_notBelow_13_e]
            refine sf_ret ?_
            refine sf_in ?_
            rw [f_X3_firstOf_e]
            refine sf_ite (fun c90 => ?_) (fun c90 => ?_)
            · have C90 : (-1 : Int) = (0 : Int) := ti_eq c90
              exfalso; omega
            have C90 : ¬ (-1 : Int) = (0 : Int) := ti_ne c90
            refine sf_ret ?_
            refine sf_ite (fun c91 => ?_) (fun c91 => ?_)
            · have C91 : (-1 : Int) = (0 : Int) := ti_eq c91
              exfalso; omega
            have C91 : ¬ (-1 : Int) = (0 : Int) := ti_ne c91
            refine sf_bnd (s_X3_refuse hF hI (by decide) (by decide)) (fun r92 u93 p94 => ?_)
            obtain ⟨Iu93, Fu93_, O83_u93_, O0_u93_, p94_1, p94_2, p94_x0⟩ := p94
            have Fu93 : ∀ k, 101 ≤ k → u93 k = τ k := fun k hk => (Fu93_ k hk).trans (Fτ k hk)
            have O83_u93 : u93 83 1 = τ 83 1 := O83_u93_.trans O83_τ
            have O0_u93 : u93 0 7 = τ 0 7 := O0_u93_.trans O0_τ
            replace p94_x0 : r92.toInt = (-1 : Int) := p94_x0
            exact sf_ret ⟨Iu93, Fu93, O83_u93, O0_u93, ti_lo _, ti_hi _⟩
          have C89 : (0 : Int) ≤ x4.toInt := ti_nlt c89
          refine sf_ite (fun c95 => ?_) (fun c95 => ?_)
          · have C95 : (2 : Int) ≤ x4.toInt := ti_le c95
            rw [j_X3_notBelow_13_e]
            refine sf_ret ?_
            refine sf_in ?_
            rw [f_X3_firstOf_e]
            refine sf_ite (fun c96 => ?_) (fun c96 => ?_)
            · have C96 : (-1 : Int) = (0 : Int) := ti_eq c96
              exfalso; omega
            have C96 : ¬ (-1 : Int) = (0 : Int) := ti_ne c96
            refine sf_ret ?_
            refine sf_ite (fun c97 => ?_) (fun c97 => ?_)
            · have C97 : (-1 : Int) = (0 : Int) := ti_eq c97
              exfalso; omega
            have C97 : ¬ (-1 : Int) = (0 : Int) := ti_ne c97
            refine sf_bnd (s_X3_refuse hF hI (by decide) (by decide)) (fun r98 u99 p100 => ?_)
            obtain ⟨Iu99, Fu99_, O83_u99_, O0_u99_, p100_1, p100_2, p100_x0⟩ := p100
            have Fu99 : ∀ k, 101 ≤ k → u99 k = τ k := fun k hk => (Fu99_ k hk).trans (Fτ k hk)
            have O83_u99 : u99 83 1 = τ 83 1 := O83_u99_.trans O83_τ
            have O0_u99 : u99 0 7 = τ 0 7 := O0_u99_.trans O0_τ
            replace p100_x0 : r98.toInt = (-1 : Int) := p100_x0
            exact sf_ret ⟨Iu99, Fu99, O83_u99, O0_u99, ti_lo _, ti_hi _⟩
          have C95 : x4.toInt < (2 : Int) := ti_nle c95
          refine sf_ret ?_
          refine sf_in ?_
          rw [f_X3_firstOf_e]
          refine sf_ite (fun c101 => ?_) (fun c101 => ?_)
          · have C101 : (-1 : Int) = (0 : Int) := ti_eq c101
            exfalso; omega
          have C101 : ¬ (-1 : Int) = (0 : Int) := ti_ne c101
          refine sf_ret ?_
          refine sf_ite (fun c102 => ?_) (fun c102 => ?_)
          · have C102 : (-1 : Int) = (0 : Int) := ti_eq c102
            exfalso; omega
          have C102 : ¬ (-1 : Int) = (0 : Int) := ti_ne c102
          refine sf_bnd (s_X3_refuse hF hI (by decide) (by decide)) (fun r103 u104 p105 => ?_)
          obtain ⟨Iu104, Fu104_, O83_u104_, O0_u104_, p105_1, p105_2, p105_x0⟩ := p105
          have Fu104 : ∀ k, 101 ≤ k → u104 k = τ k := fun k hk => (Fu104_ k hk).trans (Fτ k hk)
          have O83_u104 : u104 83 1 = τ 83 1 := O83_u104_.trans O83_τ
          have O0_u104 : u104 0 7 = τ 0 7 := O0_u104_.trans O0_τ
          replace p105_x0 : r103.toInt = (-1 : Int) := p105_x0
          exact sf_ret ⟨Iu104, Fu104, O83_u104, O0_u104, ti_lo _, ti_hi _⟩
        have C85 : (999 : Int) < x3.toInt := ti_nle c85
        refine sf_ret ?_
        refine sf_in ?_
        rw [f_X3_firstOf_e]
        refine sf_ite (fun c106 => ?_) (fun c106 => ?_)
        · have C106 : (-1 : Int) = (0 : Int) := ti_eq c106
          exfalso; omega
        have C106 : ¬ (-1 : Int) = (0 : Int) := ti_ne c106
        refine sf_ret ?_
        refine sf_in ?_
        rw [f_X3_notBelow_e]
        have b107 := ti_lo x4
        have b108 := ti_hi x4
        refine sf_ite (fun c109 => ?_) (fun c109 => ?_)
        · have C109 : x4.toInt < (0 : Int) := ti_lt c109
          rw [j_X3_notBelow_13_e]
          refine sf_ret ?_
          refine sf_in ?_
          rw [f_X3_firstOf_e]
          refine sf_ite (fun c110 => ?_) (fun c110 => ?_)
          · have C110 : (-1 : Int) = (0 : Int) := ti_eq c110
            exfalso; omega
          have C110 : ¬ (-1 : Int) = (0 : Int) := ti_ne c110
          refine sf_ret ?_
          refine sf_ite (fun c111 => ?_) (fun c111 => ?_)
          · have C111 : (-1 : Int) = (0 : Int) := ti_eq c111
            exfalso; omega
          have C111 : ¬ (-1 : Int) = (0 : Int) := ti_ne c111
          refine sf_bnd (s_X3_refuse hF hI (by decide) (by decide)) (fun r112 u113 p114 => ?_)
          obtain ⟨Iu113, Fu113_, O83_u113_, O0_u113_, p114_1, p114_2, p114_x0⟩ := p114
          have Fu113 : ∀ k, 101 ≤ k → u113 k = τ k := fun k hk => (Fu113_ k hk).trans (Fτ k hk)
          have O83_u113 : u113 83 1 = τ 83 1 := O83_u113_.trans O83_τ
          have O0_u113 : u113 0 7 = τ 0 7 := O0_u113_.trans O0_τ
          replace p114_x0 : r112.toInt = (-1 : Int) := p114_x0
          exact sf_ret ⟨Iu113, Fu113, O83_u113, O0_u113, ti_lo _, ti_hi _⟩
        have C109 : (0 : Int) ≤ x4.toInt := ti_nlt c109
        refine sf_ite (fun c115 => ?_) (fun c115 => ?_)
        · have C115 : (2 : Int) ≤ x4.toInt := ti_le c115
          rw [j_X3_notBelow_13_e]
          refine sf_ret ?_
          refine sf_in ?_
          rw [f_X3_firstOf_e]
          refine sf_ite (fun c116 => ?_) (fun c116 => ?_)
          · have C116 : (-1 : Int) = (0 : Int) := ti_eq c116
            exfalso; omega
          have C116 : ¬ (-1 : Int) = (0 : Int) := ti_ne c116
          refine sf_ret ?_
          refine sf_ite (fun c117 => ?_) (fun c117 => ?_)
          · have C117 : (-1 : Int) = (0 : Int) := ti_eq c117
            exfalso; omega
          have C117 : ¬ (-1 : Int) = (0 : Int) := ti_ne c117
          refine sf_bnd (s_X3_refuse hF hI (by decide) (by decide)) (fun r118 u119 p120 => ?_)
          obtain ⟨Iu119, Fu119_, O83_u119_, O0_u119_, p120_1, p120_2, p120_x0⟩ := p120
          have Fu119 : ∀ k, 101 ≤ k → u119 k = τ k := fun k hk => (Fu119_ k hk).trans (Fτ k hk)
          have O83_u119 : u119 83 1 = τ 83 1 := O83_u119_.trans O83_τ
          have O0_u119 : u119 0 7 = τ 0 7 := O0_u119_.trans O0_τ
          replace p120_x0 : r118.toInt = (-1 : Int) := p120_x0
          exact sf_ret ⟨Iu119, Fu119, O83_u119, O0_u119, ti_lo _, ti_hi _⟩
        have C115 : x4.toInt < (2 : Int) := ti_nle c115
        refine sf_ret ?_
        refine sf_in ?_
        rw [f_X3_firstOf_e]
        refine sf_ite (fun c121 => ?_) (fun c121 => ?_)
        · have C121 : (-1 : Int) = (0 : Int) := ti_eq c121
          exfalso; omega
        have C121 : ¬ (-1 : Int) = (0 : Int) := ti_ne c121
        refine sf_ret ?_
        refine sf_ite (fun c122 => ?_) (fun c122 => ?_)
        · have C122 : (-1 : Int) = (0 : Int) := ti_eq c122
          exfalso; omega
        have C122 : ¬ (-1 : Int) = (0 : Int) := ti_ne c122
        refine sf_bnd (s_X3_refuse hF hI (by decide) (by decide)) (fun r123 u124 p125 => ?_)
        obtain ⟨Iu124, Fu124_, O83_u124_, O0_u124_, p125_1, p125_2, p125_x0⟩ := p125
        have Fu124 : ∀ k, 101 ≤ k → u124 k = τ k := fun k hk => (Fu124_ k hk).trans (Fτ k hk)
        have O83_u124 : u124 83 1 = τ 83 1 := O83_u124_.trans O83_τ
        have O0_u124 : u124 0 7 = τ 0 7 := O0_u124_.trans O0_τ
        replace p125_x0 : r123.toInt = (-1 : Int) := p125_x0
        exact sf_ret ⟨Iu124, Fu124, O83_u124, O0_u124, ti_lo _, ti_hi _⟩
      have C84 : x3.toInt < (0 : Int) := ti_nle c84
      refine sf_ret ?_
      refine sf_in ?_
      rw [f_X3_firstOf_e]
      refine sf_ite (fun c126 => ?_) (fun c126 => ?_)
      · have C126 : (-1 : Int) = (0 : Int) := ti_eq c126
        exfalso; omega
      have C126 : ¬ (-1 : Int) = (0 : Int) := ti_ne c126
      refine sf_ret ?_
      refine sf_in ?_
      rw [f_X3_notBelow_e]
      have b127 := ti_lo x4
      have b128 := ti_hi x4
      refine sf_ite (fun c129 => ?_) (fun c129 => ?_)
      · have C129 : x4.toInt < (0 : Int) := ti_lt c129
        rw [j_X3_notBelow_13_e]
        refine sf_ret ?_
        refine sf_in ?_
        rw [f_X3_firstOf_e]
        refine sf_ite (fun c130 => ?_) (fun c130 => ?_)
        · have C130 : (-1 : Int) = (0 : Int) := ti_eq c130
          exfalso; omega
        have C130 : ¬ (-1 : Int) = (0 : Int) := ti_ne c130
        refine sf_ret ?_
        refine sf_ite (fun c131 => ?_) (fun c131 => ?_)
        · have C131 : (-1 : Int) = (0 : Int) := ti_eq c131
          exfalso; omega
        have C131 : ¬ (-1 : Int) = (0 : Int) := ti_ne c131
        refine sf_bnd (s_X3_refuse hF hI (by decide) (by decide)) (fun r132 u133 p134 => ?_)
        obtain ⟨Iu133, Fu133_, O83_u133_, O0_u133_, p134_1, p134_2, p134_x0⟩ := p134
        have Fu133 : ∀ k, 101 ≤ k → u133 k = τ k := fun k hk => (Fu133_ k hk).trans (Fτ k hk)
        have O83_u133 : u133 83 1 = τ 83 1 := O83_u133_.trans O83_τ
        have O0_u133 : u133 0 7 = τ 0 7 := O0_u133_.trans O0_τ
        replace p134_x0 : r132.toInt = (-1 : Int) := p134_x0
        exact sf_ret ⟨Iu133, Fu133, O83_u133, O0_u133, ti_lo _, ti_hi _⟩
      have C129 : (0 : Int) ≤ x4.toInt := ti_nlt c129
      refine sf_ite (fun c135 => ?_) (fun c135 => ?_)
      · have C135 : (2 : Int) ≤ x4.toInt := ti_le c135
        rw [j_X3_notBelow_13_e]
        refine sf_ret ?_
        refine sf_in ?_
        rw [f_X3_firstOf_e]
        refine sf_ite (fun c136 => ?_) (fun c136 => ?_)
        · have C136 : (-1 : Int) = (0 : Int) := ti_eq c136
          exfalso; omega
        have C136 : ¬ (-1 : Int) = (0 : Int) := ti_ne c136
        refine sf_ret ?_
        refine sf_ite (fun c137 => ?_) (fun c137 => ?_)
        · have C137 : (-1 : Int) = (0 : Int) := ti_eq c137
          exfalso; omega
        have C137 : ¬ (-1 : Int) = (0 : Int) := ti_ne c137
        refine sf_bnd (s_X3_refuse hF hI (by decide) (by decide)) (fun r138 u139 p140 => ?_)
        obtain ⟨Iu139, Fu139_, O83_u139_, O0_u139_, p140_1, p140_2, p140_x0⟩ := p140
        have Fu139 : ∀ k, 101 ≤ k → u139 k = τ k := fun k hk => (Fu139_ k hk).trans (Fτ k hk)
        have O83_u139 : u139 83 1 = τ 83 1 := O83_u139_.trans O83_τ
        have O0_u139 : u139 0 7 = τ 0 7 := O0_u139_.trans O0_τ
        replace p140_x0 : r138.toInt = (-1 : Int) := p140_x0
        exact sf_ret ⟨Iu139, Fu139, O83_u139, O0_u139, ti_lo _, ti_hi _⟩
      have C135 : x4.toInt < (2 : Int) := ti_nle c135
      refine sf_ret ?_
      refine sf_in ?_
      rw [f_X3_firstOf_e]
      refine sf_ite (fun c141 => ?_) (fun c141 => ?_)
      · have C141 : (-1 : Int) = (0 : Int) := ti_eq c141
        exfalso; omega
      have C141 : ¬ (-1 : Int) = (0 : Int) := ti_ne c141
      refine sf_ret ?_
      refine sf_ite (fun c142 => ?_) (fun c142 => ?_)
      · have C142 : (-1 : Int) = (0 : Int) := ti_eq c142
        exfalso; omega
      have C142 : ¬ (-1 : Int) = (0 : Int) := ti_ne c142
      refine sf_bnd (s_X3_refuse hF hI (by decide) (by decide)) (fun r143 u144 p145 => ?_)
      obtain ⟨Iu144, Fu144_, O83_u144_, O0_u144_, p145_1, p145_2, p145_x0⟩ := p145
      have Fu144 : ∀ k, 101 ≤ k → u144 k = τ k := fun k hk => (Fu144_ k hk).trans (Fτ k hk)
      have O83_u144 : u144 83 1 = τ 83 1 := O83_u144_.trans O83_τ
      have O0_u144 : u144 0 7 = τ 0 7 := O0_u144_.trans O0_τ
      replace p145_x0 : r143.toInt = (-1 : Int) := p145_x0
      exact sf_ret ⟨Iu144, Fu144, O83_u144, O0_u144, ti_lo _, ti_hi _⟩
    have C81 : ¬ (0 : Int) = (0 : Int) := ti_ne c81
    exfalso; omega
  obtain rfl := p5
  have b146 := ti_lo x2
  have b147 := ti_hi x2
  refine sf_bnd (s_X3_noHour hF hI) (fun r148 u149 p150 => ?_)
  obtain ⟨e9, p150⟩ := p150
  have e9 := e9.symm
  subst e9
  rcases p150 with ⟨rfl, q151, q152⟩ | p150
  · refine sf_in ?_
    rw [f_X3_firstOf_e]
    refine sf_ite (fun c153 => ?_) (fun c153 => ?_)
    · have C153 : (-1 : Int) = (0 : Int) := ti_eq c153
      exfalso; omega
    have C153 : ¬ (-1 : Int) = (0 : Int) := ti_ne c153
    refine sf_ret ?_
    refine sf_in ?_
    rw [f_X3_outside_e]
    have b154 := ti_lo x3
    have b155 := ti_hi x3
    refine sf_ite (fun c156 => ?_) (fun c156 => ?_)
    · have C156 : (0 : Int) ≤ x3.toInt := ti_le c156
      refine sf_ite (fun c157 => ?_) (fun c157 => ?_)
      · have C157 : x3.toInt ≤ (999 : Int) := ti_le c157
        refine sf_ret ?_
        refine sf_in ?_
        rw [f_X3_firstOf_e]
        refine sf_ite (fun c158 => ?_) (fun c158 => ?_)
        · have C158 : (-1 : Int) = (0 : Int) := ti_eq c158
          exfalso; omega
        have C158 : ¬ (-1 : Int) = (0 : Int) := ti_ne c158
        refine sf_ret ?_
        refine sf_in ?_
        rw [f_X3_notBelow_e]
        have b159 := ti_lo x4
        have b160 := ti_hi x4
        refine sf_ite (fun c161 => ?_) (fun c161 => ?_)
        · have C161 : x4.toInt < (0 : Int) := ti_lt c161
          rw [j_X3_notBelow_13_e]
          refine sf_ret ?_
          refine sf_in ?_
          rw [f_X3_firstOf_e]
          refine sf_ite (fun c162 => ?_) (fun c162 => ?_)
          · have C162 : (-1 : Int) = (0 : Int) := ti_eq c162
            exfalso; omega
          have C162 : ¬ (-1 : Int) = (0 : Int) := ti_ne c162
          refine sf_ret ?_
          refine sf_ite (fun c163 => ?_) (fun c163 => ?_)
          · have C163 : (-1 : Int) = (0 : Int) := ti_eq c163
            exfalso; omega
          have C163 : ¬ (-1 : Int) = (0 : Int) := ti_ne c163
          refine sf_bnd (s_X3_refuse hF hI (by decide) (by decide)) (fun r164 u165 p166 => ?_)
          obtain ⟨Iu165, Fu165_, O83_u165_, O0_u165_, p166_1, p166_2, p166_x0⟩ := p166
          have Fu165 : ∀ k, 101 ≤ k → u165 k = τ k := fun k hk => (Fu165_ k hk).trans (Fτ k hk)
          have O83_u165 : u165 83 1 = τ 83 1 := O83_u165_.trans O83_τ
          have O0_u165 : u165 0 7 = τ 0 7 := O0_u165_.trans O0_τ
          replace p166_x0 : r164.toInt = (-1 : Int) := p166_x0
          exact sf_ret ⟨Iu165, Fu165, O83_u165, O0_u165, ti_lo _, ti_hi _⟩
        have C161 : (0 : Int) ≤ x4.toInt := ti_nlt c161
        refine sf_ite (fun c167 => ?_) (fun c167 => ?_)
        · have C167 : (2 : Int) ≤ x4.toInt := ti_le c167
          rw [j_X3_notBelow_13_e]
          refine sf_ret ?_
          refine sf_in ?_
          rw [f_X3_firstOf_e]
          refine sf_ite (fun c168 => ?_) (fun c168 => ?_)
          · have C168 : (-1 : Int) = (0 : Int) := ti_eq c168
            exfalso; omega
          have C168 : ¬ (-1 : Int) = (0 : Int) := ti_ne c168
          refine sf_ret ?_
          refine sf_ite (fun c169 => ?_) (fun c169 => ?_)
          · have C169 : (-1 : Int) = (0 : Int) := ti_eq c169
            exfalso; omega
          have C169 : ¬ (-1 : Int) = (0 : Int) := ti_ne c169
          refine sf_bnd (s_X3_refuse hF hI (by decide) (by decide)) (fun r170 u171 p172 => ?_)
          obtain ⟨Iu171, Fu171_, O83_u171_, O0_u171_, p172_1, p172_2, p172_x0⟩ := p172
          have Fu171 : ∀ k, 101 ≤ k → u171 k = τ k := fun k hk => (Fu171_ k hk).trans (Fτ k hk)
          have O83_u171 : u171 83 1 = τ 83 1 := O83_u171_.trans O83_τ
          have O0_u171 : u171 0 7 = τ 0 7 := O0_u171_.trans O0_τ
          replace p172_x0 : r170.toInt = (-1 : Int) := p172_x0
          exact sf_ret ⟨Iu171, Fu171, O83_u171, O0_u171, ti_lo _, ti_hi _⟩
        have C167 : x4.toInt < (2 : Int) := ti_nle c167
        refine sf_ret ?_
        refine sf_in ?_
        rw [f_X3_firstOf_e]
        refine sf_ite (fun c173 => ?_) (fun c173 => ?_)
        · have C173 : (-1 : Int) = (0 : Int) := ti_eq c173
          exfalso; omega
        have C173 : ¬ (-1 : Int) = (0 : Int) := ti_ne c173
        refine sf_ret ?_
        refine sf_ite (fun c174 => ?_) (fun c174 => ?_)
        · have C174 : (-1 : Int) = (0 : Int) := ti_eq c174
          exfalso; omega
        have C174 : ¬ (-1 : Int) = (0 : Int) := ti_ne c174
        refine sf_bnd (s_X3_refuse hF hI (by decide) (by decide)) (fun r175 u176 p177 => ?_)
        obtain ⟨Iu176, Fu176_, O83_u176_, O0_u176_, p177_1, p177_2, p177_x0⟩ := p177
        have Fu176 : ∀ k, 101 ≤ k → u176 k = τ k := fun k hk => (Fu176_ k hk).trans (Fτ k hk)
        have O83_u176 : u176 83 1 = τ 83 1 := O83_u176_.trans O83_τ
        have O0_u176 : u176 0 7 = τ 0 7 := O0_u176_.trans O0_τ
        replace p177_x0 : r175.toInt = (-1 : Int) := p177_x0
        exact sf_ret ⟨Iu176, Fu176, O83_u176, O0_u176, ti_lo _, ti_hi _⟩
      have C157 : (999 : Int) < x3.toInt := ti_nle c157
      refine sf_ret ?_
      refine sf_in ?_
      rw [f_X3_firstOf_e]
      refine sf_ite (fun c178 => ?_) (fun c178 => ?_)
      · have C178 : (-1 : Int) = (0 : Int) := ti_eq c178
        exfalso; omega
      have C178 : ¬ (-1 : Int) = (0 : Int) := ti_ne c178
      refine sf_ret ?_
      refine sf_in ?_
      rw [f_X3_notBelow_e]
      have b179 := ti_lo x4
      have b180 := ti_hi x4
      refine sf_ite (fun c181 => ?_) (fun c181 => ?_)
      · have C181 : x4.toInt < (0 : Int) := ti_lt c181
        rw [j_X3_notBelow_13_e]
        refine sf_ret ?_
        refine sf_in ?_
        rw [f_X3_firstOf_e]
        refine sf_ite (fun c182 => ?_) (fun c182 => ?_)
        · have C182 : (-1 : Int) = (0 : Int) := ti_eq c182
          exfalso; omega
        have C182 : ¬ (-1 : Int) = (0 : Int) := ti_ne c182
        refine sf_ret ?_
        refine sf_ite (fun c183 => ?_) (fun c183 => ?_)
        · have C183 : (-1 : Int) = (0 : Int) := ti_eq c183
          exfalso; omega
        have C183 : ¬ (-1 : Int) = (0 : Int) := ti_ne c183
        refine sf_bnd (s_X3_refuse hF hI (by decide) (by decide)) (fun r184 u185 p186 => ?_)
        obtain ⟨Iu185, Fu185_, O83_u185_, O0_u185_, p186_1, p186_2, p186_x0⟩ := p186
        have Fu185 : ∀ k, 101 ≤ k → u185 k = τ k := fun k hk => (Fu185_ k hk).trans (Fτ k hk)
        have O83_u185 : u185 83 1 = τ 83 1 := O83_u185_.trans O83_τ
        have O0_u185 : u185 0 7 = τ 0 7 := O0_u185_.trans O0_τ
        replace p186_x0 : r184.toInt = (-1 : Int) := p186_x0
        exact sf_ret ⟨Iu185, Fu185, O83_u185, O0_u185, ti_lo _, ti_hi _⟩
      have C181 : (0 : Int) ≤ x4.toInt := ti_nlt c181
      refine sf_ite (fun c187 => ?_) (fun c187 => ?_)
      · have C187 : (2 : Int) ≤ x4.toInt := ti_le c187
        rw [j_X3_notBelow_13_e]
        refine sf_ret ?_
        refine sf_in ?_
        rw [f_X3_firstOf_e]
        refine sf_ite (fun c188 => ?_) (fun c188 => ?_)
        · have C188 : (-1 : Int) = (0 : Int) := ti_eq c188
          exfalso; omega
        have C188 : ¬ (-1 : Int) = (0 : Int) := ti_ne c188
        refine sf_ret ?_
        refine sf_ite (fun c189 => ?_) (fun c189 => ?_)
        · have C189 : (-1 : Int) = (0 : Int) := ti_eq c189
          exfalso; omega
        have C189 : ¬ (-1 : Int) = (0 : Int) := ti_ne c189
        refine sf_bnd (s_X3_refuse hF hI (by decide) (by decide)) (fun r190 u191 p192 => ?_)
        obtain ⟨Iu191, Fu191_, O83_u191_, O0_u191_, p192_1, p192_2, p192_x0⟩ := p192
        have Fu191 : ∀ k, 101 ≤ k → u191 k = τ k := fun k hk => (Fu191_ k hk).trans (Fτ k hk)
        have O83_u191 : u191 83 1 = τ 83 1 := O83_u191_.trans O83_τ
        have O0_u191 : u191 0 7 = τ 0 7 := O0_u191_.trans O0_τ
        replace p192_x0 : r190.toInt = (-1 : Int) := p192_x0
        exact sf_ret ⟨Iu191, Fu191, O83_u191, O0_u191, ti_lo _, ti_hi _⟩
      have C187 : x4.toInt < (2 : Int) := ti_nle c187
      refine sf_ret ?_
      refine sf_in ?_
      rw [f_X3_firstOf_e]
      refine sf_ite (fun c193 => ?_) (fun c193 => ?_)
      · have C193 : (-1 : Int) = (0 : Int) := ti_eq c193
        exfalso; omega
      have C193 : ¬ (-1 : Int) = (0 : Int) := ti_ne c193
      refine sf_ret ?_
      refine sf_ite (fun c194 => ?_) (fun c194 => ?_)
      · have C194 : (-1 : Int) = (0 : Int) := ti_eq c194
        exfalso; omega
      have C194 : ¬ (-1 : Int) = (0 : Int) := ti_ne c194
      refine sf_bnd (s_X3_refuse hF hI (by decide) (by decide)) (fun r195 u196 p197 => ?_)
      obtain ⟨Iu196, Fu196_, O83_u196_, O0_u196_, p197_1, p197_2, p197_x0⟩ := p197
      have Fu196 : ∀ k, 101 ≤ k → u196 k = τ k := fun k hk => (Fu196_ k hk).trans (Fτ k hk)
      have O83_u196 : u196 83 1 = τ 83 1 := O83_u196_.trans O83_τ
      have O0_u196 : u196 0 7 = τ 0 7 := O0_u196_.trans O0_τ
      replace p197_x0 : r195.toInt = (-1 : Int) := p197_x0
      exact sf_ret ⟨Iu196, Fu196, O83_u196, O0_u196, ti_lo _, ti_hi _⟩
    have C156 : x3.toInt < (0 : Int) := ti_nle c156
    refine sf_ret ?_
    refine sf_in ?_
    rw [f_X3_firstOf_e]
    refine sf_ite (fun c198 => ?_) (fun c198 => ?_)
    · have C198 : (-1 : Int) = (0 : Int) := ti_eq c198
      exfalso; omega
    have C198 : ¬ (-1 : Int) = (0 : Int) := ti_ne c198
    refine sf_ret ?_
    refine sf_in ?_
    rw [f_X3_notBelow_e]
    have b199 := ti_lo x4
    have b200 := ti_hi x4
    refine sf_ite (fun c201 => ?_) (fun c201 => ?_)
    · have C201 : x4.toInt < (0 : Int) := ti_lt c201
      rw [j_X3_notBelow_13_e]
      refine sf_ret ?_
      refine sf_in ?_
      rw [f_X3_firstOf_e]
      refine sf_ite (fun c202 => ?_) (fun c202 => ?_)
      · have C202 : (-1 : Int) = (0 : Int) := ti_eq c202
        exfalso; omega
      have C202 : ¬ (-1 : Int) = (0 : Int) := ti_ne c202
      refine sf_ret ?_
      refine sf_ite (fun c203 => ?_) (fun c203 => ?_)
      · have C203 : (-1 : Int) = (0 : Int) := ti_eq c203
        exfalso; omega
      have C203 : ¬ (-1 : Int) = (0 : Int) := ti_ne c203
      refine sf_bnd (s_X3_refuse hF hI (by decide) (by decide)) (fun r204 u205 p206 => ?_)
      obtain ⟨Iu205, Fu205_, O83_u205_, O0_u205_, p206_1, p206_2, p206_x0⟩ := p206
      have Fu205 : ∀ k, 101 ≤ k → u205 k = τ k := fun k hk => (Fu205_ k hk).trans (Fτ k hk)
      have O83_u205 : u205 83 1 = τ 83 1 := O83_u205_.trans O83_τ
      have O0_u205 : u205 0 7 = τ 0 7 := O0_u205_.trans O0_τ
      replace p206_x0 : r204.toInt = (-1 : Int) := p206_x0
      exact sf_ret ⟨Iu205, Fu205, O83_u205, O0_u205, ti_lo _, ti_hi _⟩
    have C201 : (0 : Int) ≤ x4.toInt := ti_nlt c201
    refine sf_ite (fun c207 => ?_) (fun c207 => ?_)
    · have C207 : (2 : Int) ≤ x4.toInt := ti_le c207
      rw [j_X3_notBelow_13_e]
      refine sf_ret ?_
      refine sf_in ?_
      rw [f_X3_firstOf_e]
      refine sf_ite (fun c208 => ?_) (fun c208 => ?_)
      · have C208 : (-1 : Int) = (0 : Int) := ti_eq c208
        exfalso; omega
      have C208 : ¬ (-1 : Int) = (0 : Int) := ti_ne c208
      refine sf_ret ?_
      refine sf_ite (fun c209 => ?_) (fun c209 => ?_)
      · have C209 : (-1 : Int) = (0 : Int) := ti_eq c209
        exfalso; omega
      have C209 : ¬ (-1 : Int) = (0 : Int) := ti_ne c209
      refine sf_bnd (s_X3_refuse hF hI (by decide) (by decide)) (fun r210 u211 p212 => ?_)
      obtain ⟨Iu211, Fu211_, O83_u211_, O0_u211_, p212_1, p212_2, p212_x0⟩ := p212
      have Fu211 : ∀ k, 101 ≤ k → u211 k = τ k := fun k hk => (Fu211_ k hk).trans (Fτ k hk)
      have O83_u211 : u211 83 1 = τ 83 1 := O83_u211_.trans O83_τ
      have O0_u211 : u211 0 7 = τ 0 7 := O0_u211_.trans O0_τ
      replace p212_x0 : r210.toInt = (-1 : Int) := p212_x0
      exact sf_ret ⟨Iu211, Fu211, O83_u211, O0_u211, ti_lo _, ti_hi _⟩
    have C207 : x4.toInt < (2 : Int) := ti_nle c207
    refine sf_ret ?_
    refine sf_in ?_
    rw [f_X3_firstOf_e]
    refine sf_ite (fun c213 => ?_) (fun c213 => ?_)
    · have C213 : (-1 : Int) = (0 : Int) := ti_eq c213
      exfalso; omega
    have C213 : ¬ (-1 : Int) = (0 : Int) := ti_ne c213
    refine sf_ret ?_
    refine sf_ite (fun c214 => ?_) (fun c214 => ?_)
    · have C214 : (-1 : Int) = (0 : Int) := ti_eq c214
      exfalso; omega
    have C214 : ¬ (-1 : Int) = (0 : Int) := ti_ne c214
    refine sf_bnd (s_X3_refuse hF hI (by decide) (by decide)) (fun r215 u216 p217 => ?_)
    obtain ⟨Iu216, Fu216_, O83_u216_, O0_u216_, p217_1, p217_2, p217_x0⟩ := p217
    have Fu216 : ∀ k, 101 ≤ k → u216 k = τ k := fun k hk => (Fu216_ k hk).trans (Fτ k hk)
    have O83_u216 : u216 83 1 = τ 83 1 := O83_u216_.trans O83_τ
    have O0_u216 : u216 0 7 = τ 0 7 := O0_u216_.trans O0_τ
    replace p217_x0 : r215.toInt = (-1 : Int) := p217_x0
    exact sf_ret ⟨Iu216, Fu216, O83_u216, O0_u216, ti_lo _, ti_hi _⟩
  obtain ⟨rfl, q218⟩ := p150
  refine sf_in ?_
  rw [f_X3_firstOf_e]
  refine sf_ite (fun c219 => ?_) (fun c219 => ?_)
  · have C219 : (-1 : Int) = (0 : Int) := ti_eq c219
    exfalso; omega
  have C219 : ¬ (-1 : Int) = (0 : Int) := ti_ne c219
  refine sf_ret ?_
  refine sf_in ?_
  rw [f_X3_outside_e]
  have b220 := ti_lo x3
  have b221 := ti_hi x3
  refine sf_ite (fun c222 => ?_) (fun c222 => ?_)
  · have C222 : (0 : Int) ≤ x3.toInt := ti_le c222
    refine sf_ite (fun c223 => ?_) (fun c223 => ?_)
    · have C223 : x3.toInt ≤ (999 : Int) := ti_le c223
      refine sf_ret ?_
      refine sf_in ?_
      rw [f_X3_firstOf_e]
      refine sf_ite (fun c224 => ?_) (fun c224 => ?_)
      · have C224 : (-1 : Int) = (0 : Int) := ti_eq c224
        exfalso; omega
      have C224 : ¬ (-1 : Int) = (0 : Int) := ti_ne c224
      refine sf_ret ?_
      refine sf_in ?_
      rw [f_X3_notBelow_e]
      have b225 := ti_lo x4
      have b226 := ti_hi x4
      refine sf_ite (fun c227 => ?_) (fun c227 => ?_)
      · have C227 : x4.toInt < (0 : Int) := ti_lt c227
        rw [j_X3_notBelow_13_e]
        refine sf_ret ?_
        refine sf_in ?_
        rw [f_X3_firstOf_e]
        refine sf_ite (fun c228 => ?_) (fun c228 => ?_)
        · have C228 : (-1 : Int) = (0 : Int) := ti_eq c228
          exfalso; omega
        have C228 : ¬ (-1 : Int) = (0 : Int) := ti_ne c228
        refine sf_ret ?_
        refine sf_ite (fun c229 => ?_) (fun c229 => ?_)
        · have C229 : (-1 : Int) = (0 : Int) := ti_eq c229
          exfalso; omega
        have C229 : ¬ (-1 : Int) = (0 : Int) := ti_ne c229
        refine sf_bnd (s_X3_refuse hF hI (by decide) (by decide)) (fun r230 u231 p232 => ?_)
        obtain ⟨Iu231, Fu231_, O83_u231_, O0_u231_, p232_1, p232_2, p232_x0⟩ := p232
        have Fu231 : ∀ k, 101 ≤ k → u231 k = τ k := fun k hk => (Fu231_ k hk).trans (Fτ k hk)
        have O83_u231 : u231 83 1 = τ 83 1 := O83_u231_.trans O83_τ
        have O0_u231 : u231 0 7 = τ 0 7 := O0_u231_.trans O0_τ
        replace p232_x0 : r230.toInt = (-1 : Int) := p232_x0
        exact sf_ret ⟨Iu231, Fu231, O83_u231, O0_u231, ti_lo _, ti_hi _⟩
      have C227 : (0 : Int) ≤ x4.toInt := ti_nlt c227
      refine sf_ite (fun c233 => ?_) (fun c233 => ?_)
      · have C233 : (2 : Int) ≤ x4.toInt := ti_le c233
        rw [j_X3_notBelow_13_e]
        refine sf_ret ?_
        refine sf_in ?_
        rw [f_X3_firstOf_e]
        refine sf_ite (fun c234 => ?_) (fun c234 => ?_)
        · have C234 : (-1 : Int) = (0 : Int) := ti_eq c234
          exfalso; omega
        have C234 : ¬ (-1 : Int) = (0 : Int) := ti_ne c234
        refine sf_ret ?_
        refine sf_ite (fun c235 => ?_) (fun c235 => ?_)
        · have C235 : (-1 : Int) = (0 : Int) := ti_eq c235
          exfalso; omega
        have C235 : ¬ (-1 : Int) = (0 : Int) := ti_ne c235
        refine sf_bnd (s_X3_refuse hF hI (by decide) (by decide)) (fun r236 u237 p238 => ?_)
        obtain ⟨Iu237, Fu237_, O83_u237_, O0_u237_, p238_1, p238_2, p238_x0⟩ := p238
        have Fu237 : ∀ k, 101 ≤ k → u237 k = τ k := fun k hk => (Fu237_ k hk).trans (Fτ k hk)
        have O83_u237 : u237 83 1 = τ 83 1 := O83_u237_.trans O83_τ
        have O0_u237 : u237 0 7 = τ 0 7 := O0_u237_.trans O0_τ
        replace p238_x0 : r236.toInt = (-1 : Int) := p238_x0
        exact sf_ret ⟨Iu237, Fu237, O83_u237, O0_u237, ti_lo _, ti_hi _⟩
      have C233 : x4.toInt < (2 : Int) := ti_nle c233
      refine sf_ret ?_
      refine sf_in ?_
      rw [f_X3_firstOf_e]
      refine sf_ite (fun c239 => ?_) (fun c239 => ?_)
      · have C239 : (-1 : Int) = (0 : Int) := ti_eq c239
        exfalso; omega
      have C239 : ¬ (-1 : Int) = (0 : Int) := ti_ne c239
      refine sf_ret ?_
      refine sf_ite (fun c240 => ?_) (fun c240 => ?_)
      · have C240 : (-1 : Int) = (0 : Int) := ti_eq c240
        exfalso; omega
      have C240 : ¬ (-1 : Int) = (0 : Int) := ti_ne c240
      refine sf_bnd (s_X3_refuse hF hI (by decide) (by decide)) (fun r241 u242 p243 => ?_)
      obtain ⟨Iu242, Fu242_, O83_u242_, O0_u242_, p243_1, p243_2, p243_x0⟩ := p243
      have Fu242 : ∀ k, 101 ≤ k → u242 k = τ k := fun k hk => (Fu242_ k hk).trans (Fτ k hk)
      have O83_u242 : u242 83 1 = τ 83 1 := O83_u242_.trans O83_τ
      have O0_u242 : u242 0 7 = τ 0 7 := O0_u242_.trans O0_τ
      replace p243_x0 : r241.toInt = (-1 : Int) := p243_x0
      exact sf_ret ⟨Iu242, Fu242, O83_u242, O0_u242, ti_lo _, ti_hi _⟩
    have C223 : (999 : Int) < x3.toInt := ti_nle c223
    refine sf_ret ?_
    refine sf_in ?_
    rw [f_X3_firstOf_e]
    refine sf_ite (fun c244 => ?_) (fun c244 => ?_)
    · have C244 : (-1 : Int) = (0 : Int) := ti_eq c244
      exfalso; omega
    have C244 : ¬ (-1 : Int) = (0 : Int) := ti_ne c244
    refine sf_ret ?_
    refine sf_in ?_
    rw [f_X3_notBelow_e]
    have b245 := ti_lo x4
    have b246 := ti_hi x4
    refine sf_ite (fun c247 => ?_) (fun c247 => ?_)
    · have C247 : x4.toInt < (0 : Int) := ti_lt c247
      rw [j_X3_notBelow_13_e]
      refine sf_ret ?_
      refine sf_in ?_
      rw [f_X3_firstOf_e]
      refine sf_ite (fun c248 => ?_) (fun c248 => ?_)
      · have C248 : (-1 : Int) = (0 : Int) := ti_eq c248
        exfalso; omega
      have C248 : ¬ (-1 : Int) = (0 : Int) := ti_ne c248
      refine sf_ret ?_
      refine sf_ite (fun c249 => ?_) (fun c249 => ?_)
      · have C249 : (-1 : Int) = (0 : Int) := ti_eq c249
        exfalso; omega
      have C249 : ¬ (-1 : Int) = (0 : Int) := ti_ne c249
      refine sf_bnd (s_X3_refuse hF hI (by decide) (by decide)) (fun r250 u251 p252 => ?_)
      obtain ⟨Iu251, Fu251_, O83_u251_, O0_u251_, p252_1, p252_2, p252_x0⟩ := p252
      have Fu251 : ∀ k, 101 ≤ k → u251 k = τ k := fun k hk => (Fu251_ k hk).trans (Fτ k hk)
      have O83_u251 : u251 83 1 = τ 83 1 := O83_u251_.trans O83_τ
      have O0_u251 : u251 0 7 = τ 0 7 := O0_u251_.trans O0_τ
      replace p252_x0 : r250.toInt = (-1 : Int) := p252_x0
      exact sf_ret ⟨Iu251, Fu251, O83_u251, O0_u251, ti_lo _, ti_hi _⟩
    have C247 : (0 : Int) ≤ x4.toInt := ti_nlt c247
    refine sf_ite (fun c253 => ?_) (fun c253 => ?_)
    · have C253 : (2 : Int) ≤ x4.toInt := ti_le c253
      rw [j_X3_notBelow_13_e]
      refine sf_ret ?_
      refine sf_in ?_
      rw [f_X3_firstOf_e]
      refine sf_ite (fun c254 => ?_) (fun c254 => ?_)
      · have C254 : (-1 : Int) = (0 : Int) := ti_eq c254
        exfalso; omega
      have C254 : ¬ (-1 : Int) = (0 : Int) := ti_ne c254
      refine sf_ret ?_
      refine sf_ite (fun c255 => ?_) (fun c255 => ?_)
      · have C255 : (-1 : Int) = (0 : Int) := ti_eq c255
        exfalso; omega
      have C255 : ¬ (-1 : Int) = (0 : Int) := ti_ne c255
      refine sf_bnd (s_X3_refuse hF hI (by decide) (by decide)) (fun r256 u257 p258 => ?_)
      obtain ⟨Iu257, Fu257_, O83_u257_, O0_u257_, p258_1, p258_2, p258_x0⟩ := p258
      have Fu257 : ∀ k, 101 ≤ k → u257 k = τ k := fun k hk => (Fu257_ k hk).trans (Fτ k hk)
      have O83_u257 : u257 83 1 = τ 83 1 := O83_u257_.trans O83_τ
      have O0_u257 : u257 0 7 = τ 0 7 := O0_u257_.trans O0_τ
      replace p258_x0 : r256.toInt = (-1 : Int) := p258_x0
      exact sf_ret ⟨Iu257, Fu257, O83_u257, O0_u257, ti_lo _, ti_hi _⟩
    have C253 : x4.toInt < (2 : Int) := ti_nle c253
    refine sf_ret ?_
    refine sf_in ?_
    rw [f_X3_firstOf_e]
    refine sf_ite (fun c259 => ?_) (fun c259 => ?_)
    · have C259 : (-1 : Int) = (0 : Int) := ti_eq c259
      exfalso; omega
    have C259 : ¬ (-1 : Int) = (0 : Int) := ti_ne c259
    refine sf_ret ?_
    refine sf_ite (fun c260 => ?_) (fun c260 => ?_)
    · have C260 : (-1 : Int) = (0 : Int) := ti_eq c260
      exfalso; omega
    have C260 : ¬ (-1 : Int) = (0 : Int) := ti_ne c260
    refine sf_bnd (s_X3_refuse hF hI (by decide) (by decide)) (fun r261 u262 p263 => ?_)
    obtain ⟨Iu262, Fu262_, O83_u262_, O0_u262_, p263_1, p263_2, p263_x0⟩ := p263
    have Fu262 : ∀ k, 101 ≤ k → u262 k = τ k := fun k hk => (Fu262_ k hk).trans (Fτ k hk)
    have O83_u262 : u262 83 1 = τ 83 1 := O83_u262_.trans O83_τ
    have O0_u262 : u262 0 7 = τ 0 7 := O0_u262_.trans O0_τ
    replace p263_x0 : r261.toInt = (-1 : Int) := p263_x0
    exact sf_ret ⟨Iu262, Fu262, O83_u262, O0_u262, ti_lo _, ti_hi _⟩
  have C222 : x3.toInt < (0 : Int) := ti_nle c222
  refine sf_ret ?_
  refine sf_in ?_
  rw [f_X3_firstOf_e]
  refine sf_ite (fun c264 => ?_) (fun c264 => ?_)
  · have C264 : (-1 : Int) = (0 : Int) := ti_eq c264
    exfalso; omega
  have C264 : ¬ (-1 : Int) = (0 : Int) := ti_ne c264
  refine sf_ret ?_
  refine sf_in ?_
  rw [f_X3_notBelow_e]
  have b265 := ti_lo x4
  have b266 := ti_hi x4
  refine sf_ite (fun c267 => ?_) (fun c267 => ?_)
  · have C267 : x4.toInt < (0 : Int) := ti_lt c267
    rw [j_X3_notBelow_13_e]
    refine sf_ret ?_
    refine sf_in ?_
    rw [f_X3_firstOf_e]
    refine sf_ite (fun c268 => ?_) (fun c268 => ?_)
    · have C268 : (-1 : Int) = (0 : Int) := ti_eq c268
      exfalso; omega
    have C268 : ¬ (-1 : Int) = (0 : Int) := ti_ne c268
    refine sf_ret ?_
    refine sf_ite (fun c269 => ?_) (fun c269 => ?_)
    · have C269 : (-1 : Int) = (0 : Int) := ti_eq c269
      exfalso; omega
    have C269 : ¬ (-1 : Int) = (0 : Int) := ti_ne c269
    refine sf_bnd (s_X3_refuse hF hI (by decide) (by decide)) (fun r270 u271 p272 => ?_)
    obtain ⟨Iu271, Fu271_, O83_u271_, O0_u271_, p272_1, p272_2, p272_x0⟩ := p272
    have Fu271 : ∀ k, 101 ≤ k → u271 k = τ k := fun k hk => (Fu271_ k hk).trans (Fτ k hk)
    have O83_u271 : u271 83 1 = τ 83 1 := O83_u271_.trans O83_τ
    have O0_u271 : u271 0 7 = τ 0 7 := O0_u271_.trans O0_τ
    replace p272_x0 : r270.toInt = (-1 : Int) := p272_x0
    exact sf_ret ⟨Iu271, Fu271, O83_u271, O0_u271, ti_lo _, ti_hi _⟩
  have C267 : (0 : Int) ≤ x4.toInt := ti_nlt c267
  refine sf_ite (fun c273 => ?_) (fun c273 => ?_)
  · have C273 : (2 : Int) ≤ x4.toInt := ti_le c273
    rw [j_X3_notBelow_13_e]
    refine sf_ret ?_
    refine sf_in ?_
    rw [f_X3_firstOf_e]
    refine sf_ite (fun c274 => ?_) (fun c274 => ?_)
    · have C274 : (-1 : Int) = (0 : Int) := ti_eq c274
      exfalso; omega
    have C274 : ¬ (-1 : Int) = (0 : Int) := ti_ne c274
    refine sf_ret ?_
    refine sf_ite (fun c275 => ?_) (fun c275 => ?_)
    · have C275 : (-1 : Int) = (0 : Int) := ti_eq c275
      exfalso; omega
    have C275 : ¬ (-1 : Int) = (0 : Int) := ti_ne c275
    refine sf_bnd (s_X3_refuse hF hI (by decide) (by decide)) (fun r276 u277 p278 => ?_)
    obtain ⟨Iu277, Fu277_, O83_u277_, O0_u277_, p278_1, p278_2, p278_x0⟩ := p278
    have Fu277 : ∀ k, 101 ≤ k → u277 k = τ k := fun k hk => (Fu277_ k hk).trans (Fτ k hk)
    have O83_u277 : u277 83 1 = τ 83 1 := O83_u277_.trans O83_τ
    have O0_u277 : u277 0 7 = τ 0 7 := O0_u277_.trans O0_τ
    replace p278_x0 : r276.toInt = (-1 : Int) := p278_x0
    exact sf_ret ⟨Iu277, Fu277, O83_u277, O0_u277, ti_lo _, ti_hi _⟩
  have C273 : x4.toInt < (2 : Int) := ti_nle c273
  refine sf_ret ?_
  refine sf_in ?_
  rw [f_X3_firstOf_e]
  refine sf_ite (fun c279 => ?_) (fun c279 => ?_)
  · have C279 : (-1 : Int) = (0 : Int) := ti_eq c279
    exfalso; omega
  have C279 : ¬ (-1 : Int) = (0 : Int) := ti_ne c279
  refine sf_ret ?_
  refine sf_ite (fun c280 => ?_) (fun c280 => ?_)
  · have C280 : (-1 : Int) = (0 : Int) := ti_eq c280
    exfalso; omega
  have C280 : ¬ (-1 : Int) = (0 : Int) := ti_ne c280
  refine sf_bnd (s_X3_refuse hF hI (by decide) (by decide)) (fun r281 u282 p283 => ?_)
  obtain ⟨Iu282, Fu282_, O83_u282_, O0_u282_, p283_1, p283_2, p283_x0⟩ := p283
  have Fu282 : ∀ k, 101 ≤ k → u282 k = τ k := fun k hk => (Fu282_ k hk).trans (Fτ k hk)
  have O83_u282 : u282 83 1 = τ 83 1 := O83_u282_.trans O83_τ
  have O0_u282 : u282 0 7 = τ 0 7 := O0_u282_.trans O0_τ
  replace p283_x0 : r281.toInt = (-1 : Int) := p283_x0
  exact sf_ret ⟨Iu282, Fu282, O83_u282, O0_u282, ti_lo _, ti_hi _⟩
set_option maxHeartbeats 4000000 in
set_option maxRecDepth 100000 in
theorem sl_X3_freeHours_52 {F : Nat} (hF : 100000 ≤ F) {x1 : Int32} {x2 : Int32} {x4 : Int32} {τ : Mem} (x1_1 : 0 ≤ x1.toInt) (x1_2 : x1.toInt ≤ 4) (x2_1 : 0 ≤ x2.toInt) (x2_2 : x2.toInt ≤ 999) : ∀ (N : Nat) (x5 : Int32) (x6 : Int32) (σ : Mem), wiX σ → (∀ k, 101 ≤ k → σ k = τ k) → σ 83 1 = τ 83 1 → σ 0 7 = τ 0 7 → 24 < x6.toInt + N → 0 ≤ x6.toInt → x6.toInt ≤ 24 → sf (lp_X3_freeHours_52 F x1 x2 x4 N x5 x6 σ) (fun r s => wiX s ∧ (∀ k, 101 ≤ k → s k = τ k) ∧ s 83 1 = τ 83 1 ∧ s 0 7 = τ 0 7 ∧ -2147483648 ≤ r.toInt ∧ r.toInt ≤ 2147483647) := by
  intro N
  induction N with
  | zero => intro x5 x6 σ hI Fσ O83_σ O0_σ hN x6_1 x6_2; exfalso; omega
  | succ N ih =>
    intro x5 x6 σ hI Fσ O83_σ O0_σ hN x6_1 x6_2
    rw [lp_X3_freeHours_52_s]
    refine sf_ite (fun c1 => ?_) (fun c1 => ?_)
    · have C1 : (24 : Int) ≤ x6.toInt := ti_le c1
      have b2 := ti_lo x5
      have b3 := ti_hi x5
      exact sf_ret ⟨hI, Fσ, O83_σ, O0_σ, ti_lo _, ti_hi _⟩
    have C1 : x6.toInt < (24 : Int) := ti_nle c1
    refine sf_chk (ti_in (by omega) (by omega)) ?_
    have v4 : Int32.toNatClampNeg x1 = x1.toInt.toNat := rfl
    refine sf_chk (ti_in (by omega) (by omega)) ?_
    have v5 : Int32.toNatClampNeg x6 = x6.toInt.toNat := rfl
    have b7 := ti_lo (σ ((1 + 5) + (Int32.toNatClampNeg x1)) (Int32.toNatClampNeg x6))
    have b8 := ti_hi (σ ((1 + 5) + (Int32.toNatClampNeg x1)) (Int32.toNatClampNeg x6))
    refine sf_lt (fun z6 hz6 => ?_)
    have hz6_ : z6.toInt = (σ ((1 + 5) + (Int32.toNatClampNeg x1)) (Int32.toNatClampNeg x6)).toInt := (show z6.toInt = (σ ((1 + 5) + (Int32.toNatClampNeg x1)) (Int32.toNatClampNeg x6)).toInt from congrArg Int32.toInt hz6)
    have b9 := ti_lo z6
    have b10 := ti_hi z6
    refine sf_ite (fun c11 => ?_) (fun c11 => ?_)
    · have C11 : z6.toInt = (9 : Int) := ti_eq c11
      rw [j_X3_freeHours_140_e]
      have b12 := ti_lo x5
      have b13 := ti_hi x5
      have t14 : (x6 + (1 : Int32)).toInt = x6.toInt + (1 : Int) := ti_add (show -2147483648 ≤ x6.toInt + (1 : Int) by omega) (show x6.toInt + (1 : Int) ≤ 2147483647 by omega)
      exact ih _ _ _ hI Fσ O83_σ O0_σ (by omega) (by omega) (by omega)
    have C11 : ¬ z6.toInt = (9 : Int) := ti_ne c11
    refine sf_bnd (s_X0_post hF wt_h24 hI) (fun r15 u16 p17 => ?_)
    obtain ⟨Iu16, Fu16_, O83_u16_, O0_u16_, p17_1, p17_2⟩ := p17
    have Fu16 : ∀ k, 101 ≤ k → u16 k = τ k := fun k hk => (Fu16_ k hk).trans (Fσ k hk)
    have O83_u16 : u16 83 1 = τ 83 1 := O83_u16_.trans O83_σ
    have O0_u16 : u16 0 7 = τ 0 7 := O0_u16_.trans O0_σ
    have hb_r15 : r15 = 0 ∨ r15 = 1 := wi_bool p17_1 p17_2
    refine sf_bnd (s_X0_reckon hF wt_h24 Iu16) (fun r18 u19 p20 => ?_)
    obtain ⟨Iu19, Fu19_, O83_u19_, O0_u19_, -⟩ := p20
    have Fu19 : ∀ k, 101 ≤ k → u19 k = τ k := fun k hk => (Fu19_ k hk).trans (Fu16 k hk)
    have O83_u19 : u19 83 1 = τ 83 1 := O83_u19_.trans O83_u16
    have O0_u19 : u19 0 7 = τ 0 7 := O0_u19_.trans O0_u16
    refine sf_bnd (s_X0_holdings hF wt_h24 Iu19 (by omega) (by omega) (by omega) (by omega)) (fun r21 u22 p23 => ?_)
    obtain ⟨e9, p23_1, p23_2⟩ := p23
    have e9 := e9.symm
    subst e9
    have b24 := ti_lo r21
    have b25 := ti_hi r21
    have b26 := ti_lo x4
    have b27 := ti_hi x4
    refine sf_ite (fun c28 => ?_) (fun c28 => ?_)
    · have C28 : r21.toInt = x4.toInt := ti_eq c28
      have b30 := ti_lo (x5 ||| ((1 : Int32) <<< (x6 &&& 31)))
      have b31 := ti_hi (x5 ||| ((1 : Int32) <<< (x6 &&& 31)))
      refine sf_lt (fun z29 hz29 => ?_)
      have hz29_ : z29.toInt = (x5 ||| ((1 : Int32) <<< (x6 &&& 31))).toInt := (show z29.toInt = (x5 ||| ((1 : Int32) <<< (x6 &&& 31))).toInt from congrArg Int32.toInt hz29)
      rw [j_X3_freeHours_125_e]
      refine sf_bnd (s_X0_post hF wt_h24 Iu19) (fun r32 u33 p34 => ?_)
      obtain ⟨Iu33, Fu33_, O83_u33_, O0_u33_, p34_1, p34_2⟩ := p34
      have Fu33 : ∀ k, 101 ≤ k → u33 k = τ k := fun k hk => (Fu33_ k hk).trans (Fu19 k hk)
      have O83_u33 : u33 83 1 = τ 83 1 := O83_u33_.trans O83_u19
      have O0_u33 : u33 0 7 = τ 0 7 := O0_u33_.trans O0_u19
      have hb_r32 : r32 = 0 ∨ r32 = 1 := wi_bool p34_1 p34_2
      rw [j_X3_freeHours_140_e]
      have b35 := ti_lo z29
      have b36 := ti_hi z29
      have t37 : (x6 + (1 : Int32)).toInt = x6.toInt + (1 : Int) := ti_add (show -2147483648 ≤ x6.toInt + (1 : Int) by omega) (show x6.toInt + (1 : Int) ≤ 2147483647 by omega)
      exact ih _ _ _ Iu33 Fu33 O83_u33 O0_u33 (by omega) (by omega) (by omega)
    have C28 : ¬ r21.toInt = x4.toInt := ti_ne c28
    rw [j_X3_freeHours_125_e]
    refine sf_bnd (s_X0_post hF wt_h24 Iu19) (fun r38 u39 p40 => ?_)
    obtain ⟨Iu39, Fu39_, O83_u39_, O0_u39_, p40_1, p40_2⟩ := p40
    have Fu39 : ∀ k, 101 ≤ k → u39 k = τ k := fun k hk => (Fu39_ k hk).trans (Fu19 k hk)
    have O83_u39 : u39 83 1 = τ 83 1 := O83_u39_.trans O83_u19
    have O0_u39 : u39 0 7 = τ 0 7 := O0_u39_.trans O0_u19
    have hb_r38 : r38 = 0 ∨ r38 = 1 := wi_bool p40_1 p40_2
    rw [j_X3_freeHours_140_e]
    have b41 := ti_lo x5
    have b42 := ti_hi x5
    have t43 : (x6 + (1 : Int32)).toInt = x6.toInt + (1 : Int) := ti_add (show -2147483648 ≤ x6.toInt + (1 : Int) by omega) (show x6.toInt + (1 : Int) ≤ 2147483647 by omega)
    exact ih _ _ _ Iu39 Fu39 O83_u39 O0_u39 (by omega) (by omega) (by omega)
set_option maxHeartbeats 4000000 in
set_option maxRecDepth 100000 in
theorem s_X3_freeHours {F : Nat} (hF : 100000 ≤ F) {x1 : Int32} {x2 : Int32} {τ : Mem} (hI : wiX τ) : sf (f_X3_freeHours F x1 x2 τ) (fun r s => wiX s ∧ (∀ k, 101 ≤ k → s k = τ k) ∧ s 83 1 = τ 83 1 ∧ s 0 7 = τ 0 7 ∧ -2147483648 ≤ r.toInt ∧ r.toInt ≤ 2147483647) := by
  have Fτ : ∀ k, 101 ≤ k → τ k = τ k := fun _ _ => rfl
  have O83_τ : τ 83 1 = τ 83 1 := rfl
  have O0_τ : τ 0 7 = τ 0 7 := rfl
  rw [f_X3_freeHours_e]
  have b1 := ti_lo x1
  have b2 := ti_hi x1
  have b3 := ti_lo x2
  have b4 := ti_hi x2
  refine sf_bnd (s_X3_noLookerFar hF hI) (fun r5 u6 p7 => ?_)
  obtain ⟨e9, p7⟩ := p7
  have e9 := e9.symm
  subst e9
  rcases p7 with ⟨rfl, q8, q9, q10, q11⟩ | p7
  · refine sf_ite (fun c12 => ?_) (fun c12 => ?_)
    · have C12 : (0 : Int) = (0 : Int) := ti_eq c12
      refine sf_bnd (s_X0_reckon hF wt_h1 hI) (fun r13 u14 p15 => ?_)
      obtain ⟨Iu14, Fu14_, O83_u14_, O0_u14_, -⟩ := p15
      have Fu14 : ∀ k, 101 ≤ k → u14 k = τ k := fun k hk => (Fu14_ k hk).trans (Fτ k hk)
      have O83_u14 : u14 83 1 = τ 83 1 := O83_u14_.trans O83_τ
      have O0_u14 : u14 0 7 = τ 0 7 := O0_u14_.trans O0_τ
      refine sf_bnd (s_X0_takeFrom hF wt_h24 wt_h1 Iu14) (fun r16 u17 p18 => ?_)
      obtain ⟨Iu17, Fu17_, O83_u17_, O0_u17_, -⟩ := p18
      have Fu17 : ∀ k, 101 ≤ k → u17 k = τ k := fun k hk => (Fu17_ k hk).trans (Fu14 k hk)
      have O83_u17 : u17 83 1 = τ 83 1 := O83_u17_.trans O83_u14
      have O0_u17 : u17 0 7 = τ 0 7 := O0_u17_.trans O0_u14
      refine sf_bnd (s_X0_holdings hF wt_h1 Iu17 (by omega) (by omega) (by omega) (by omega)) (fun r19 u20 p21 => ?_)
      obtain ⟨e9, p21_1, p21_2⟩ := p21
      have e9 := e9.symm
      subst e9
      have b22 := ti_lo r19
      have b23 := ti_hi r19
      have l_0 : (0 : Int32).toInt = 0 := rfl
      exact sl_X3_freeHours_52 hF (by omega) (by omega) (by omega) (by omega) _ _ _ _ Iu17 Fu17 O83_u17 O0_u17 (by omega) (by decide) (by decide)
    have C12 : ¬ (0 : Int) = (0 : Int) := ti_ne c12
    exfalso; omega
  rcases p7 with rfl | p7
  · refine sf_ite (fun c24 => ?_) (fun c24 => ?_)
    · have C24 : (-1 : Int) = (0 : Int) := ti_eq c24
      exfalso; omega
    have C24 : ¬ (-1 : Int) = (0 : Int) := ti_ne c24
    refine sf_bnd (s_X3_refuse hF hI (by decide) (by decide)) (fun r25 u26 p27 => ?_)
    obtain ⟨Iu26, Fu26_, O83_u26_, O0_u26_, p27_1, p27_2, p27_x0⟩ := p27
    have Fu26 : ∀ k, 101 ≤ k → u26 k = τ k := fun k hk => (Fu26_ k hk).trans (Fτ k hk)
    have O83_u26 : u26 83 1 = τ 83 1 := O83_u26_.trans O83_τ
    have O0_u26 : u26 0 7 = τ 0 7 := O0_u26_.trans O0_τ
    replace p27_x0 : r25.toInt = (-1 : Int) := p27_x0
    exact sf_ret ⟨Iu26, Fu26, O83_u26, O0_u26, ti_lo _, ti_hi _⟩
  rcases p7 with rfl | p7
  · refine sf_ite (fun c28 => ?_) (fun c28 => ?_)
    · have C28 : (-4 : Int) = (0 : Int) := ti_eq c28
      exfalso; omega
    have C28 : ¬ (-4 : Int) = (0 : Int) := ti_ne c28
    refine sf_bnd (s_X3_refuse hF hI (by decide) (by decide)) (fun r29 u30 p31 => ?_)
    obtain ⟨Iu30, Fu30_, O83_u30_, O0_u30_, p31_1, p31_2, p31_x0⟩ := p31
    have Fu30 : ∀ k, 101 ≤ k → u30 k = τ k := fun k hk => (Fu30_ k hk).trans (Fτ k hk)
    have O83_u30 : u30 83 1 = τ 83 1 := O83_u30_.trans O83_τ
    have O0_u30 : u30 0 7 = τ 0 7 := O0_u30_.trans O0_τ
    replace p31_x0 : r29.toInt = (-4 : Int) := p31_x0
    exact sf_ret ⟨Iu30, Fu30, O83_u30, O0_u30, ti_lo _, ti_hi _⟩
  obtain rfl := p7
  refine sf_ite (fun c32 => ?_) (fun c32 => ?_)
  · have C32 : (-6 : Int) = (0 : Int) := ti_eq c32
    exfalso; omega
  have C32 : ¬ (-6 : Int) = (0 : Int) := ti_ne c32
  refine sf_bnd (s_X3_refuse hF hI (by decide) (by decide)) (fun r33 u34 p35 => ?_)
  obtain ⟨Iu34, Fu34_, O83_u34_, O0_u34_, p35_1, p35_2, p35_x0⟩ := p35
  have Fu34 : ∀ k, 101 ≤ k → u34 k = τ k := fun k hk => (Fu34_ k hk).trans (Fτ k hk)
  have O83_u34 : u34 83 1 = τ 83 1 := O83_u34_.trans O83_τ
  have O0_u34 : u34 0 7 = τ 0 7 := O0_u34_.trans O0_τ
  replace p35_x0 : r33.toInt = (-6 : Int) := p35_x0
  exact sf_ret ⟨Iu34, Fu34, O83_u34, O0_u34, ti_lo _, ti_hi _⟩
set_option maxHeartbeats 4000000 in
set_option maxRecDepth 100000 in
theorem sl_X3_cover_22 {F : Nat} (hF : 100000 ≤ F) {x1 : Int32} {τ : Mem} (hI : wiX τ) : ∀ (N : Nat) (x2 : Int32) (x3 : Int32) , 64 < x3.toInt + N → 0 ≤ x2.toInt → x2.toInt ≤ 63 → 0 ≤ x3.toInt → x3.toInt ≤ 64 → sf (lp_X3_cover_22 F x1 N x2 x3 τ) (fun r s => s = τ ∧ 0 ≤ r.toInt ∧ r.toInt ≤ 63) := by
  intro N
  induction N with
  | zero => intro x2 x3 hN x2_1 x2_2 x3_1 x3_2; exfalso; omega
  | succ N ih =>
    intro x2 x3 hN x2_1 x2_2 x3_1 x3_2
    rw [lp_X3_cover_22_s]
    have m1 := wx_X0_0 hI wt_h1
    obtain ⟨w2_1, w2_2⟩ := wi_shl (τ 1 0) (by omega) (by omega)
    refine sf_ite (fun c3 => ?_) (fun c3 => ?_)
    · have C3 : ((1 : Int32) <<< ((τ 1 0) &&& 31)).toInt ≤ x3.toInt := ti_le c3
      exact sf_ret ⟨rfl, by omega, by omega⟩
    have C3 : x3.toInt < ((1 : Int32) <<< ((τ 1 0) &&& 31)).toInt := ti_nle c3
    refine sf_bnd (s_J6_bitCount_0f7a4 hF hI) (fun r4 u5 p6 => ?_)
    obtain ⟨e9, p6_1, p6_2⟩ := p6
    have e9 := e9.symm
    subst e9
    refine sf_bnd (s_J6_bitCount_0f7a4 hF hI) (fun r7 u8 p9 => ?_)
    obtain ⟨e9, p9_1, p9_2⟩ := p9
    have e9 := e9.symm
    subst e9
    have b10 := ti_lo r7
    have b11 := ti_hi r7
    have b12 := ti_lo r4
    have b13 := ti_hi r4
    refine sf_ite (fun c14 => ?_) (fun c14 => ?_)
    · have C14 : r7.toInt ≤ r4.toInt := ti_le c14
      rw [j_X3_cover_60_e]
      have t15 : (x3 + (1 : Int32)).toInt = x3.toInt + (1 : Int) := ti_add (show -2147483648 ≤ x3.toInt + (1 : Int) by omega) (show x3.toInt + (1 : Int) ≤ 2147483647 by omega)
      exact ih _ _ (by omega) (by omega) (by omega) (by omega) (by omega)
    have C14 : r4.toInt < r7.toInt := ti_nle c14
    refine sf_bnd (s_X0_shownBy hF wt_h1 hI (by omega) (by omega)) (fun r16 u17 p18 => ?_)
    obtain ⟨e9, p18_1, p18_2⟩ := p18
    have e9 := e9.symm
    subst e9
    have b19 := ti_lo r16
    have b20 := ti_hi r16
    have b21 := ti_lo x1
    have b22 := ti_hi x1
    refine sf_ite (fun c23 => ?_) (fun c23 => ?_)
    · have C23 : r16.toInt = x1.toInt := ti_eq c23
      rw [j_X3_cover_60_e]
      have t24 : (x3 + (1 : Int32)).toInt = x3.toInt + (1 : Int) := ti_add (show -2147483648 ≤ x3.toInt + (1 : Int) by omega) (show x3.toInt + (1 : Int) ≤ 2147483647 by omega)
      exact ih _ _ (by omega) (by omega) (by omega) (by omega) (by omega)
    have C23 : ¬ r16.toInt = x1.toInt := ti_ne c23
    rw [j_X3_cover_60_e]
    have t25 : (x3 + (1 : Int32)).toInt = x3.toInt + (1 : Int) := ti_add (show -2147483648 ≤ x3.toInt + (1 : Int) by omega) (show x3.toInt + (1 : Int) ≤ 2147483647 by omega)
    exact ih _ _ (by omega) (by omega) (by omega) (by omega) (by omega)
set_option maxHeartbeats 4000000 in
set_option maxRecDepth 100000 in
theorem s_X3_cover {F : Nat} (hF : 100000 ≤ F) {τ : Mem} (hI : wiX τ) : sf (f_X3_cover F τ) (fun r s => s = τ ∧ 0 ≤ r.toInt ∧ r.toInt ≤ 63) := by
  rw [f_X3_cover_e]
  refine sf_bnd (s_X0_allShown hF wt_h1 hI) (fun r1 u2 p3 => ?_)
  obtain ⟨e9, p3_1, p3_2⟩ := p3
  have e9 := e9.symm
  subst e9
  have m5 := wx_X0_0 hI wt_h1
  obtain ⟨w6_1, w6_2⟩ := wi_shl (τ 1 0) (by omega) (by omega)
  have t7 : (((1 : Int32) <<< ((τ 1 0) &&& 31)) - (1 : Int32)).toInt = ((1 : Int32) <<< ((τ 1 0) &&& 31)).toInt - (1 : Int) := ti_sub (show -2147483648 ≤ ((1 : Int32) <<< ((τ 1 0) &&& 31)).toInt - (1 : Int) by omega) (show ((1 : Int32) <<< ((τ 1 0) &&& 31)).toInt - (1 : Int) ≤ 2147483647 by omega)
  refine sf_lt (fun z4 hz4 => ?_)
  have hz4_ : z4.toInt = (((1 : Int32) <<< ((τ 1 0) &&& 31)) - (1 : Int32)).toInt := (show z4.toInt = (((1 : Int32) <<< ((τ 1 0) &&& 31)) - (1 : Int32)).toInt from congrArg Int32.toInt hz4)
  have b8 := ti_lo r1
  have b9 := ti_hi r1
  have l_0 : (0 : Int32).toInt = 0 := rfl
  exact sl_X3_cover_22 hF hI _ _ _  (by omega) (by omega) (by omega) (by decide) (by decide)
set_option maxHeartbeats 4000000 in
set_option maxRecDepth 100000 in
theorem s_X3_shown {F : Nat} (hF : 100000 ≤ F) {x1 : Int32} {τ : Mem} (hI : wiX τ) : sf (f_X3_shown F x1 τ) (fun r s => wiX s ∧ (∀ k, 101 ≤ k → s k = τ k) ∧ s 83 1 = τ 83 1 ∧ s 0 7 = τ 0 7 ∧ -2147483648 ≤ r.toInt ∧ r.toInt ≤ 2147483647) := by
  have Fτ : ∀ k, 101 ≤ k → τ k = τ k := fun _ _ => rfl
  have O83_τ : τ 83 1 = τ 83 1 := rfl
  have O0_τ : τ 0 7 = τ 0 7 := rfl
  rw [f_X3_shown_e]
  have b1 := ti_lo x1
  have b2 := ti_hi x1
  refine sf_bnd (s_X0_isView hF hI) (fun r3 u4 p5 => ?_)
  obtain ⟨e9, p5⟩ := p5
  have e9 := e9.symm
  subst e9
  rcases p5 with ⟨rfl, q6, q7⟩ | p5
  · refine sf_ite (fun c8 => ?_) (fun c8 => ?_)
    · have C8 : (1 : Int) = (0 : Int) := ti_eq c8
      exfalso; omega
    have C8 : ¬ (1 : Int) = (0 : Int) := ti_ne c8
    refine sf_bnd (s_X0_timesShown hF wt_h1 hI (by omega) (by omega)) (fun r9 u10 p11 => ?_)
    obtain ⟨e9, p11_1, p11_2⟩ := p11
    have e9 := e9.symm
    subst e9
    have b12 := ti_lo r9
    have b13 := ti_hi r9
    exact sf_ret ⟨hI, Fτ, O83_τ, O0_τ, ti_lo _, ti_hi _⟩
  obtain ⟨rfl, q14⟩ := p5
  refine sf_ite (fun c15 => ?_) (fun c15 => ?_)
  · have C15 : (0 : Int) = (0 : Int) := ti_eq c15
    refine sf_bnd (s_X3_refuse hF hI (by decide) (by decide)) (fun r16 u17 p18 => ?_)
    obtain ⟨Iu17, Fu17_, O83_u17_, O0_u17_, p18_1, p18_2, p18_x0⟩ := p18
    have Fu17 : ∀ k, 101 ≤ k → u17 k = τ k := fun k hk => (Fu17_ k hk).trans (Fτ k hk)
    have O83_u17 : u17 83 1 = τ 83 1 := O83_u17_.trans O83_τ
    have O0_u17 : u17 0 7 = τ 0 7 := O0_u17_.trans O0_τ
    replace p18_x0 : r16.toInt = (-1 : Int) := p18_x0
    exact sf_ret ⟨Iu17, Fu17, O83_u17, O0_u17, ti_lo _, ti_hi _⟩
  have C15 : ¬ (0 : Int) = (0 : Int) := ti_ne c15
  exfalso; omega
set_option maxHeartbeats 4000000 in
set_option maxRecDepth 100000 in
theorem s_X3_wealthWalled {F : Nat} (hF : 100000 ≤ F) {x1 : Int32} {x2 : Int32} {x3 : Int32} {x4 : Int32} {τ : Mem} (hI : wiX τ) (x1_1 : 0 ≤ x1.toInt) (x1_2 : x1.toInt ≤ 4) (x2_1 : 0 ≤ x2.toInt) (x2_2 : x2.toInt ≤ 5) (x3_1 : 0 ≤ x3.toInt) (x3_2 : x3.toInt ≤ 7) (x4_1 : 0 ≤ x4.toInt) (x4_2 : x4.toInt ≤ 999) : sf (f_X3_wealthWalled F x1 x2 x3 x4 τ) (fun r s => wiX s ∧ (∀ k, 101 ≤ k → s k = τ k) ∧ s 83 1 = τ 83 1 ∧ s 0 7 = τ 0 7 ∧ -2147483648 ≤ r.toInt ∧ r.toInt ≤ 2147483647) := by
  have Fτ : ∀ k, 101 ≤ k → τ k = τ k := fun _ _ => rfl
  have O83_τ : τ 83 1 = τ 83 1 := rfl
  have O0_τ : τ 0 7 = τ 0 7 := rfl
  rw [f_X3_wealthWalled_e]
  refine sf_bnd (s_X0_flip hF wt_h24 hI) (fun r1 u2 p3 => ?_)
  obtain ⟨Iu2, Fu2_, O83_u2_, O0_u2_, p3_1, p3_2⟩ := p3
  have Fu2 : ∀ k, 101 ≤ k → u2 k = τ k := fun k hk => (Fu2_ k hk).trans (Fτ k hk)
  have O83_u2 : u2 83 1 = τ 83 1 := O83_u2_.trans O83_τ
  have O0_u2 : u2 0 7 = τ 0 7 := O0_u2_.trans O0_τ
  have hb_r1 : r1 = 0 ∨ r1 = 1 := wi_bool p3_1 p3_2
  refine sf_bnd (s_X0_reckon hF wt_h24 Iu2) (fun r4 u5 p6 => ?_)
  obtain ⟨Iu5, Fu5_, O83_u5_, O0_u5_, -⟩ := p6
  have Fu5 : ∀ k, 101 ≤ k → u5 k = τ k := fun k hk => (Fu5_ k hk).trans (Fu2 k hk)
  have O83_u5 : u5 83 1 = τ 83 1 := O83_u5_.trans O83_u2
  have O0_u5 : u5 0 7 = τ 0 7 := O0_u5_.trans O0_u2
  refine sf_bnd (s_X0_wealth hF wt_h24 Iu5 (by omega) (by omega)) (fun r7 u8 p9 => ?_)
  obtain ⟨e9, p9_1, p9_2⟩ := p9
  have e9 := e9.symm
  subst e9
  refine sf_bnd (s_X0_flip hF wt_h24 Iu5) (fun r10 u11 p12 => ?_)
  obtain ⟨Iu11, Fu11_, O83_u11_, O0_u11_, p12_1, p12_2⟩ := p12
  have Fu11 : ∀ k, 101 ≤ k → u11 k = τ k := fun k hk => (Fu11_ k hk).trans (Fu5 k hk)
  have O83_u11 : u11 83 1 = τ 83 1 := O83_u11_.trans O83_u5
  have O0_u11 : u11 0 7 = τ 0 7 := O0_u11_.trans O0_u5
  have hb_r10 : r10 = 0 ∨ r10 = 1 := wi_bool p12_1 p12_2
  have b13 := ti_lo r7
  have b14 := ti_hi r7
  exact sf_ret ⟨Iu11, Fu11, O83_u11, O0_u11, ti_lo _, ti_hi _⟩
set_option maxHeartbeats 4000000 in
set_option maxRecDepth 100000 in
theorem sl_X3_walls_82 {F : Nat} (hF : 100000 ≤ F) {x1 : Int32} {x2 : Int32} {x3 : Int32} {x5 : Int32} {x8 : Int32} {k67 : Int32 → Int32 → Int32 → Mem → Option (Int32 × Mem)} {τ : Mem} (x1_1 : 0 ≤ x1.toInt) (x1_2 : x1.toInt ≤ 4) (x2_1 : 0 ≤ x2.toInt) (x2_2 : x2.toInt ≤ 999) (x3_1 : 0 ≤ x3.toInt) (x3_2 : x3.toInt ≤ 1) (x8_1 : 0 ≤ x8.toInt) (x8_2 : x8.toInt ≤ 5) {N67 : Nat} (hM67 : 6 < x8.toInt + (N67 + 1)) (hk67 : ∀ (x6 : Int32) (x7 : Int32) (x8 : Int32) (σ : Mem), wiX σ → (∀ k, 101 ≤ k → σ k = τ k) → σ 83 1 = τ 83 1 → σ 0 7 = τ 0 7 → 6 < x8.toInt + N67 → -9 ≤ x6.toInt → x6.toInt ≤ 63 → 0 ≤ x7.toInt → x7.toInt ≤ 2147483647 → 0 ≤ x8.toInt → x8.toInt ≤ 6 → sf (k67 x6 x7 x8 σ) (fun r s => wiX s ∧ (∀ k, 101 ≤ k → s k = τ k) ∧ s 83 1 = τ 83 1 ∧ s 0 7 = τ 0 7 ∧ -2147483648 ≤ r.toInt ∧ r.toInt ≤ 2147483647)) : ∀ (N : Nat) (x6 : Int32) (x7 : Int32) (x9 : Int32) (σ : Mem), wiX σ → (∀ k, 101 ≤ k → σ k = τ k) → σ 83 1 = τ 83 1 → σ 0 7 = τ 0 7 → 8 < x9.toInt + N → -9 ≤ x6.toInt → x6.toInt ≤ 63 → 0 ≤ x7.toInt → x7.toInt ≤ 2147483647 → 0 ≤ x9.toInt → x9.toInt ≤ 8 → sf (lp_X3_walls_82 F k67 x1 x2 x3 x5 x8 N x6 x7 x9 σ) (fun r s => wiX s ∧ (∀ k, 101 ≤ k → s k = τ k) ∧ s 83 1 = τ 83 1 ∧ s 0 7 = τ 0 7 ∧ -2147483648 ≤ r.toInt ∧ r.toInt ≤ 2147483647) := by
  intro N
  induction N with
  | zero => intro x6 x7 x9 σ hI Fσ O83_σ O0_σ hN x6_1 x6_2 x7_1 x7_2 x9_1 x9_2; exfalso; omega
  | succ N ih =>
    intro x6 x7 x9 σ hI Fσ O83_σ O0_σ hN x6_1 x6_2 x7_1 x7_2 x9_1 x9_2
    rw [lp_X3_walls_82_s]
    refine sf_ite (fun c1 => ?_) (fun c1 => ?_)
    · have C1 : (8 : Int) ≤ x9.toInt := ti_le c1
      have b2 := ti_lo x7
      have b3 := ti_hi x7
      have t4 : (x8 + (1 : Int32)).toInt = x8.toInt + (1 : Int) := ti_add (show -2147483648 ≤ x8.toInt + (1 : Int) by omega) (show x8.toInt + (1 : Int) ≤ 2147483647 by omega)
      exact hk67 _ _ _ _ hI Fσ O83_σ O0_σ (by omega) (by omega) (by omega) (by omega) (by omega) (by omega) (by omega)
    have C1 : x9.toInt < (8 : Int) := ti_nle c1
    refine sf_bnd (s_X0_shows hF wt_h1 hI (by omega) (by omega) (by omega) (by omega)) (fun r5 u6 p7 => ?_)
    obtain ⟨e9, p7_1, p7_2⟩ := p7
    have e9 := e9.symm
    subst e9
    have hb_r5 : r5 = 0 ∨ r5 = 1 := wi_bool p7_1 p7_2
    refine sf_ite (fun c8 => ?_) (fun c8 => ?_)
    · have C8 : r5.toInt = (0 : Int) := ti_eq c8
      rw [j_X3_walls_120_e]
      have b9 := ti_lo x7
      have b10 := ti_hi x7
      refine sf_ite (fun c11 => ?_) (fun c11 => ?_)
      · have C11 : (0 : Int) ≤ x7.toInt := ti_le c11
        rw [j_X3_walls_143_e]
        have t12 : (x9 + (1 : Int32)).toInt = x9.toInt + (1 : Int) := ti_add (show -2147483648 ≤ x9.toInt + (1 : Int) by omega) (show x9.toInt + (1 : Int) ≤ 2147483647 by omega)
        exact ih _ _ _ _ hI Fσ O83_σ O0_σ (by omega) (by omega) (by omega) (by omega) (by omega) (by omega) (by omega)
      have C11 : x7.toInt < (0 : Int) := ti_nle c11
      exfalso; omega
    have C8 : ¬ r5.toInt = (0 : Int) := ti_ne c8
    refine sf_bnd (s_X3_wealthWalled hF hI (by omega) (by omega) (by omega) (by omega) (by omega) (by omega) (by omega) (by omega)) (fun r13 u14 p15 => ?_)
    obtain ⟨Iu14, Fu14_, O83_u14_, O0_u14_, p15_1, p15_2⟩ := p15
    have Fu14 : ∀ k, 101 ≤ k → u14 k = τ k := fun k hk => (Fu14_ k hk).trans (Fσ k hk)
    have O83_u14 : u14 83 1 = τ 83 1 := O83_u14_.trans O83_σ
    have O0_u14 : u14 0 7 = τ 0 7 := O0_u14_.trans O0_σ
    rw [j_X3_walls_120_e]
    have b16 := ti_lo x5
    have b17 := ti_hi x5
    have b18 := ti_lo r13
    have b19 := ti_hi r13
    have b20 := ti_lo (x5 - r13)
    have b21 := ti_hi (x5 - r13)
    have b22 := ti_lo x7
    have b23 := ti_hi x7
    refine sf_ite (fun c24 => ?_) (fun c24 => ?_)
    · have C24 : (x5 - r13).toInt ≤ x7.toInt := ti_le c24
      rw [j_X3_walls_143_e]
      have t25 : (x9 + (1 : Int32)).toInt = x9.toInt + (1 : Int) := ti_add (show -2147483648 ≤ x9.toInt + (1 : Int) by omega) (show x9.toInt + (1 : Int) ≤ 2147483647 by omega)
      exact ih _ _ _ _ Iu14 Fu14 O83_u14 O0_u14 (by omega) (by omega) (by omega) (by omega) (by omega) (by omega) (by omega)
    have C24 : x7.toInt < (x5 - r13).toInt := ti_nle c24
    have t27 : ((10 : Int32) * x8).toInt = (10 : Int) * x8.toInt := ti_mul (show -2147483648 ≤ (10 : Int) * x8.toInt by omega) (show (10 : Int) * x8.toInt ≤ 2147483647 by omega)
    have t28 : (((10 : Int32) * x8) + x9).toInt = ((10 : Int32) * x8).toInt + x9.toInt := ti_add (show -2147483648 ≤ ((10 : Int32) * x8).toInt + x9.toInt by omega) (show ((10 : Int32) * x8).toInt + x9.toInt ≤ 2147483647 by omega)
    refine sf_lt (fun z26 hz26 => ?_)
    have hz26_ : z26.toInt = (((10 : Int32) * x8) + x9).toInt := (show z26.toInt = (((10 : Int32) * x8) + x9).toInt from congrArg Int32.toInt hz26)
    rw [j_X3_walls_143_e]
    have t29 : (x9 + (1 : Int32)).toInt = x9.toInt + (1 : Int) := ti_add (show -2147483648 ≤ x9.toInt + (1 : Int) by omega) (show x9.toInt + (1 : Int) ≤ 2147483647 by omega)
    exact ih _ _ _ _ Iu14 Fu14 O83_u14 O0_u14 (by omega) (by omega) (by omega) (by omega) (by omega) (by omega) (by omega)
set_option maxHeartbeats 4000000 in
set_option maxRecDepth 100000 in
theorem sl_X3_walls_67 {F : Nat} (hF : 100000 ≤ F) {x1 : Int32} {x2 : Int32} {x3 : Int32} {x5 : Int32} {τ : Mem} (x1_1 : 0 ≤ x1.toInt) (x1_2 : x1.toInt ≤ 4) (x2_1 : 0 ≤ x2.toInt) (x2_2 : x2.toInt ≤ 999) (x3_1 : 0 ≤ x3.toInt) (x3_2 : x3.toInt ≤ 1) : ∀ (N : Nat) (x6 : Int32) (x7 : Int32) (x8 : Int32) (σ : Mem), wiX σ → (∀ k, 101 ≤ k → σ k = τ k) → σ 83 1 = τ 83 1 → σ 0 7 = τ 0 7 → 6 < x8.toInt + N → -9 ≤ x6.toInt → x6.toInt ≤ 63 → 0 ≤ x7.toInt → x7.toInt ≤ 2147483647 → 0 ≤ x8.toInt → x8.toInt ≤ 6 → sf (lp_X3_walls_67 F x1 x2 x3 x5 N x6 x7 x8 σ) (fun r s => wiX s ∧ (∀ k, 101 ≤ k → s k = τ k) ∧ s 83 1 = τ 83 1 ∧ s 0 7 = τ 0 7 ∧ -2147483648 ≤ r.toInt ∧ r.toInt ≤ 2147483647) := by
  intro N
  induction N with
  | zero => intro x6 x7 x8 σ hI Fσ O83_σ O0_σ hN x6_1 x6_2 x7_1 x7_2 x8_1 x8_2; exfalso; omega
  | succ N ih =>
    intro x6 x7 x8 σ hI Fσ O83_σ O0_σ hN x6_1 x6_2 x7_1 x7_2 x8_1 x8_2
    rw [lp_X3_walls_67_s]
    have m1 := wx_X0_0 hI wt_h1
    refine sf_ite (fun c2 => ?_) (fun c2 => ?_)
    · have C2 : (σ 1 0).toInt ≤ x8.toInt := ti_le c2
      refine sf_ite (fun c3 => ?_) (fun c3 => ?_)
      · have C3 : x3.toInt = (0 : Int) := ti_eq c3
        rw [j_X3_walls_166_e]
        exact sf_ret ⟨hI, Fσ, O83_σ, O0_σ, ti_lo _, ti_hi _⟩
      have C3 : ¬ x3.toInt = (0 : Int) := ti_ne c3
      refine sf_ite (fun c4 => ?_) (fun c4 => ?_)
      · have C4 : x6.toInt = (-9 : Int) := ti_eq c4
        rw [j_X3_walls_166_e]
        exact sf_ret ⟨hI, Fσ, O83_σ, O0_σ, ti_lo _, ti_hi _⟩
      have C4 : ¬ x6.toInt = (-9 : Int) := ti_ne c4
      have b5 := ti_lo x7
      have b6 := ti_hi x7
      exact sf_ret ⟨hI, Fσ, O83_σ, O0_σ, ti_lo _, ti_hi _⟩
    have C2 : x8.toInt < (σ 1 0).toInt := ti_nle c2
    have b7 := ti_lo x5
    have b8 := ti_hi x5
    have b9 := ti_lo x7
    have b10 := ti_hi x7
    have l_0 : (0 : Int32).toInt = 0 := rfl
    exact sl_X3_walls_82 hF (by omega) (by omega) (by omega) (by omega) (by omega) (by omega) (by omega) (by omega) (by omega) ih _ _ _ _ _ hI Fσ O83_σ O0_σ (by omega) (by omega) (by omega) (by omega) (by omega) (by decide) (by decide)
set_option maxHeartbeats 4000000 in
set_option maxRecDepth 100000 in
theorem s_X3_walls {F : Nat} (hF : 100000 ≤ F) {x1 : Int32} {x2 : Int32} {x3 : Int32} {τ : Mem} (hI : wiX τ) : sf (f_X3_walls F x1 x2 x3 τ) (fun r s => wiX s ∧ (∀ k, 101 ≤ k → s k = τ k) ∧ s 83 1 = τ 83 1 ∧ s 0 7 = τ 0 7 ∧ -2147483648 ≤ r.toInt ∧ r.toInt ≤ 2147483647) := by
  have Fτ : ∀ k, 101 ≤ k → τ k = τ k := fun _ _ => rfl
  have O83_τ : τ 83 1 = τ 83 1 := rfl
  have O0_τ : τ 0 7 = τ 0 7 := rfl
  rw [f_X3_walls_e]
  have b1 := ti_lo x1
  have b2 := ti_hi x1
  have b3 := ti_lo x2
  have b4 := ti_hi x2
  refine sf_bnd (s_X3_noLookerFar hF hI) (fun r5 u6 p7 => ?_)
  obtain ⟨e9, p7⟩ := p7
  have e9 := e9.symm
  subst e9
  rcases p7 with ⟨rfl, q8, q9, q10, q11⟩ | p7
  · refine sf_in ?_
    rw [f_X3_notBelow_e]
    have b12 := ti_lo x3
    have b13 := ti_hi x3
    refine sf_ite (fun c14 => ?_) (fun c14 => ?_)
    · have C14 : x3.toInt < (0 : Int) := ti_lt c14
      rw [j_X3_notBelow_13_e]
      refine sf_ret ?_
      refine sf_in ?_
      rw [f_X3_firstOf_e]
      refine sf_ite (fun c15 => ?_) (fun c15 => ?_)
      · have C15 : (0 : Int) = (0 : Int) := ti_eq c15
        refine sf_ret ?_
        refine sf_ite (fun c16 => ?_) (fun c16 => ?_)
        · have C16 : (-2 : Int) = (0 : Int) := ti_eq c16
          exfalso; omega
        have C16 : ¬ (-2 : Int) = (0 : Int) := ti_ne c16
        refine sf_bnd (s_X3_refuse hF hI (by decide) (by decide)) (fun r17 u18 p19 => ?_)
        obtain ⟨Iu18, Fu18_, O83_u18_, O0_u18_, p19_1, p19_2, p19_x0⟩ := p19
        have Fu18 : ∀ k, 101 ≤ k → u18 k = τ k := fun k hk => (Fu18_ k hk).trans (Fτ k hk)
        have O83_u18 : u18 83 1 = τ 83 1 := O83_u18_.trans O83_τ
        have O0_u18 : u18 0 7 = τ 0 7 := O0_u18_.trans O0_τ
        replace p19_x0 : r17.toInt = (-2 : Int) := p19_x0
        exact sf_ret ⟨Iu18, Fu18, O83_u18, O0_u18, ti_lo _, ti_hi _⟩
      have C15 : ¬ (0 : Int) = (0 : Int) := ti_ne c15
      exfalso; omega
    have C14 : (0 : Int) ≤ x3.toInt := ti_nlt c14
    refine sf_ite (fun c20 => ?_) (fun c20 => ?_)
    · have C20 : (2 : Int) ≤ x3.toInt := ti_le c20
      rw [j_X3_notBelow_13_e]
      refine sf_ret ?_
      refine sf_in ?_
      rw [f_X3_firstOf_e]
      refine sf_ite (fun c21 => ?_) (fun c21 => ?_)
      · have C21 : (0 : Int) = (0 : Int) := ti_eq c21
        refine sf_ret ?_
        refine sf_ite (fun c22 => ?_) (fun c22 => ?_)
        · have C22 : (-2 : Int) = (0 : Int) := ti_eq c22
          exfalso; omega
        have C22 : ¬ (-2 : Int) = (0 : Int) := ti_ne c22
        refine sf_bnd (s_X3_refuse hF hI (by decide) (by decide)) (fun r23 u24 p25 => ?_)
        obtain ⟨Iu24, Fu24_, O83_u24_, O0_u24_, p25_1, p25_2, p25_x0⟩ := p25
        have Fu24 : ∀ k, 101 ≤ k → u24 k = τ k := fun k hk => (Fu24_ k hk).trans (Fτ k hk)
        have O83_u24 : u24 83 1 = τ 83 1 := O83_u24_.trans O83_τ
        have O0_u24 : u24 0 7 = τ 0 7 := O0_u24_.trans O0_τ
        replace p25_x0 : r23.toInt = (-2 : Int) := p25_x0
        exact sf_ret ⟨Iu24, Fu24, O83_u24, O0_u24, ti_lo _, ti_hi _⟩
      have C21 : ¬ (0 : Int) = (0 : Int) := ti_ne c21
      exfalso; omega
    have C20 : x3.toInt < (2 : Int) := ti_nle c20
    refine sf_ret ?_
    refine sf_in ?_
    rw [f_X3_firstOf_e]
    refine sf_ite (fun c26 => ?_) (fun c26 => ?_)
    · have C26 : (0 : Int) = (0 : Int) := ti_eq c26
      refine sf_ret ?_
      refine sf_ite (fun c27 => ?_) (fun c27 => ?_)
      · have C27 : (0 : Int) = (0 : Int) := ti_eq c27
        refine sf_bnd (s_X0_reckon hF wt_h1 hI) (fun r28 u29 p30 => ?_)
        obtain ⟨Iu29, Fu29_, O83_u29_, O0_u29_, -⟩ := p30
        have Fu29 : ∀ k, 101 ≤ k → u29 k = τ k := fun k hk => (Fu29_ k hk).trans (Fτ k hk)
        have O83_u29 : u29 83 1 = τ 83 1 := O83_u29_.trans O83_τ
        have O0_u29 : u29 0 7 = τ 0 7 := O0_u29_.trans O0_τ
        refine sf_bnd (s_X0_takeFrom hF wt_h24 wt_h1 Iu29) (fun r31 u32 p33 => ?_)
        obtain ⟨Iu32, Fu32_, O83_u32_, O0_u32_, -⟩ := p33
        have Fu32 : ∀ k, 101 ≤ k → u32 k = τ k := fun k hk => (Fu32_ k hk).trans (Fu29 k hk)
        have O83_u32 : u32 83 1 = τ 83 1 := O83_u32_.trans O83_u29
        have O0_u32 : u32 0 7 = τ 0 7 := O0_u32_.trans O0_u29
        refine sf_bnd (s_X0_wealth hF wt_h1 Iu32 (by omega) (by omega)) (fun r34 u35 p36 => ?_)
        obtain ⟨e9, p36_1, p36_2⟩ := p36
        have e9 := e9.symm
        subst e9
        have b37 := ti_lo r34
        have b38 := ti_hi r34
        have l_0 : (0 : Int32).toInt = 0 := rfl
        exact sl_X3_walls_67 hF (by omega) (by omega) (by omega) (by omega) (by omega) (by omega) _ _ _ _ _ Iu32 Fu32 O83_u32 O0_u32 (by omega) (by decide) (by decide) (by decide) (by decide) (by decide) (by decide)
      have C27 : ¬ (0 : Int) = (0 : Int) := ti_ne c27
      exfalso; omega
    have C26 : ¬ (0 : Int) = (0 : Int) := ti_ne c26
    exfalso; omega
  rcases p7 with rfl | p7
  · refine sf_in ?_
    rw [f_X3_notBelow_e]
    have b39 := ti_lo x3
    have b40 := ti_hi x3
    refine sf_ite (fun c41 => ?_) (fun c41 => ?_)
    · have C41 : x3.toInt < (0 : Int) := ti_lt c41
      rw [j_X3_notBelow_13_e]
      refine sf_ret ?_
      refine sf_in ?_
      rw [f_X3_firstOf_e]
      refine sf_ite (fun c42 => ?_) (fun c42 => ?_)
      · have C42 : (-1 : Int) = (0 : Int) := ti_eq c42
        exfalso; omega
      have C42 : ¬ (-1 : Int) = (0 : Int) := ti_ne c42
      refine sf_ret ?_
      refine sf_ite (fun c43 => ?_) (fun c43 => ?_)
      · have C43 : (-1 : Int) = (0 : Int) := ti_eq c43
        exfalso; omega
      have C43 : ¬ (-1 : Int) = (0 : Int) := ti_ne c43
      refine sf_bnd (s_X3_refuse hF hI (by decide) (by decide)) (fun r44 u45 p46 => ?_)
      obtain ⟨Iu45, Fu45_, O83_u45_, O0_u45_, p46_1, p46_2, p46_x0⟩ := p46
      have Fu45 : ∀ k, 101 ≤ k → u45 k = τ k := fun k hk => (Fu45_ k hk).trans (Fτ k hk)
      have O83_u45 : u45 83 1 = τ 83 1 := O83_u45_.trans O83_τ
      have O0_u45 : u45 0 7 = τ 0 7 := O0_u45_.trans O0_τ
      replace p46_x0 : r44.toInt = (-1 : Int) := p46_x0
      exact sf_ret ⟨Iu45, Fu45, O83_u45, O0_u45, ti_lo _, ti_hi _⟩
    have C41 : (0 : Int) ≤ x3.toInt := ti_nlt c41
    refine sf_ite (fun c47 => ?_) (fun c47 => ?_)
    · have C47 : (2 : Int) ≤ x3.toInt := ti_le c47
      rw [j_X3_notBelow_13_e]
      refine sf_ret ?_
      refine sf_in ?_
      rw [f_X3_firstOf_e]
      refine sf_ite (fun c48 => ?_) (fun c48 => ?_)
      · have C48 : (-1 : Int) = (0 : Int) := ti_eq c48
        exfalso; omega
      have C48 : ¬ (-1 : Int) = (0 : Int) := ti_ne c48
      refine sf_ret ?_
      refine sf_ite (fun c49 => ?_) (fun c49 => ?_)
      · have C49 : (-1 : Int) = (0 : Int) := ti_eq c49
        exfalso; omega
      have C49 : ¬ (-1 : Int) = (0 : Int) := ti_ne c49
      refine sf_bnd (s_X3_refuse hF hI (by decide) (by decide)) (fun r50 u51 p52 => ?_)
      obtain ⟨Iu51, Fu51_, O83_u51_, O0_u51_, p52_1, p52_2, p52_x0⟩ := p52
      have Fu51 : ∀ k, 101 ≤ k → u51 k = τ k := fun k hk => (Fu51_ k hk).trans (Fτ k hk)
      have O83_u51 : u51 83 1 = τ 83 1 := O83_u51_.trans O83_τ
      have O0_u51 : u51 0 7 = τ 0 7 := O0_u51_.trans O0_τ
      replace p52_x0 : r50.toInt = (-1 : Int) := p52_x0
      exact sf_ret ⟨Iu51, Fu51, O83_u51, O0_u51, ti_lo _, ti_hi _⟩
    have C47 : x3.toInt < (2 : Int) := ti_nle c47
    refine sf_ret ?_
    refine sf_in ?_
    rw [f_X3_firstOf_e]
    refine sf_ite (fun c53 => ?_) (fun c53 => ?_)
    · have C53 : (-1 : Int) = (0 : Int) := ti_eq c53
      exfalso; omega
    have C53 : ¬ (-1 : Int) = (0 : Int) := ti_ne c53
    refine sf_ret ?_
    refine sf_ite (fun c54 => ?_) (fun c54 => ?_)
    · have C54 : (-1 : Int) = (0 : Int) := ti_eq c54
      exfalso; omega
    have C54 : ¬ (-1 : Int) = (0 : Int) := ti_ne c54
    refine sf_bnd (s_X3_refuse hF hI (by decide) (by decide)) (fun r55 u56 p57 => ?_)
    obtain ⟨Iu56, Fu56_, O83_u56_, O0_u56_, p57_1, p57_2, p57_x0⟩ := p57
    have Fu56 : ∀ k, 101 ≤ k → u56 k = τ k := fun k hk => (Fu56_ k hk).trans (Fτ k hk)
    have O83_u56 : u56 83 1 = τ 83 1 := O83_u56_.trans O83_τ
    have O0_u56 : u56 0 7 = τ 0 7 := O0_u56_.trans O0_τ
    replace p57_x0 : r55.toInt = (-1 : Int) := p57_x0
    exact sf_ret ⟨Iu56, Fu56, O83_u56, O0_u56, ti_lo _, ti_hi _⟩
  rcases p7 with rfl | p7
  · refine sf_in ?_
    rw [f_X3_notBelow_e]
    have b58 := ti_lo x3
    have b59 := ti_hi x3
    refine sf_ite (fun c60 => ?_) (fun c60 => ?_)
    · have C60 : x3.toInt < (0 : Int) := ti_lt c60
      rw [j_X3_notBelow_13_e]
      refine sf_ret ?_
      refine sf_in ?_
      rw [f_X3_firstOf_e]
      refine sf_ite (fun c61 => ?_) (fun c61 => ?_)
      · have C61 : (-4 : Int) = (0 : Int) := ti_eq c61
        exfalso; omega
      have C61 : ¬ (-4 : Int) = (0 : Int) := ti_ne c61
      refine sf_ret ?_
      refine sf_ite (fun c62 => ?_) (fun c62 => ?_)
      · have C62 : (-4 : Int) = (0 : Int) := ti_eq c62
        exfalso; omega
      have C62 : ¬ (-4 : Int) = (0 : Int) := ti_ne c62
      refine sf_bnd (s_X3_refuse hF hI (by decide) (by decide)) (fun r63 u64 p65 => ?_)
      obtain ⟨Iu64, Fu64_, O83_u64_, O0_u64_, p65_1, p65_2, p65_x0⟩ := p65
      have Fu64 : ∀ k, 101 ≤ k → u64 k = τ k := fun k hk => (Fu64_ k hk).trans (Fτ k hk)
      have O83_u64 : u64 83 1 = τ 83 1 := O83_u64_.trans O83_τ
      have O0_u64 : u64 0 7 = τ 0 7 := O0_u64_.trans O0_τ
      replace p65_x0 : r63.toInt = (-4 : Int) := p65_x0
      exact sf_ret ⟨Iu64, Fu64, O83_u64, O0_u64, ti_lo _, ti_hi _⟩
    have C60 : (0 : Int) ≤ x3.toInt := ti_nlt c60
    refine sf_ite (fun c66 => ?_) (fun c66 => ?_)
    · have C66 : (2 : Int) ≤ x3.toInt := ti_le c66
      rw [j_X3_notBelow_13_e]
      refine sf_ret ?_
      refine sf_in ?_
      rw [f_X3_firstOf_e]
      refine sf_ite (fun c67 => ?_) (fun c67 => ?_)
      · have C67 : (-4 : Int) = (0 : Int) := ti_eq c67
        exfalso; omega
      have C67 : ¬ (-4 : Int) = (0 : Int) := ti_ne c67
      refine sf_ret ?_
      refine sf_ite (fun c68 => ?_) (fun c68 => ?_)
      · have C68 : (-4 : Int) = (0 : Int) := ti_eq c68
        exfalso; omega
      have C68 : ¬ (-4 : Int) = (0 : Int) := ti_ne c68
      refine sf_bnd (s_X3_refuse hF hI (by decide) (by decide)) (fun r69 u70 p71 => ?_)
      obtain ⟨Iu70, Fu70_, O83_u70_, O0_u70_, p71_1, p71_2, p71_x0⟩ := p71
      have Fu70 : ∀ k, 101 ≤ k → u70 k = τ k := fun k hk => (Fu70_ k hk).trans (Fτ k hk)
      have O83_u70 : u70 83 1 = τ 83 1 := O83_u70_.trans O83_τ
      have O0_u70 : u70 0 7 = τ 0 7 := O0_u70_.trans O0_τ
      replace p71_x0 : r69.toInt = (-4 : Int) := p71_x0
      exact sf_ret ⟨Iu70, Fu70, O83_u70, O0_u70, ti_lo _, ti_hi _⟩
    have C66 : x3.toInt < (2 : Int) := ti_nle c66
    refine sf_ret ?_
    refine sf_in ?_
    rw [f_X3_firstOf_e]
    refine sf_ite (fun c72 => ?_) (fun c72 => ?_)
    · have C72 : (-4 : Int) = (0 : Int) := ti_eq c72
      exfalso; omega
    have C72 : ¬ (-4 : Int) = (0 : Int) := ti_ne c72
    refine sf_ret ?_
    refine sf_ite (fun c73 => ?_) (fun c73 => ?_)
    · have C73 : (-4 : Int) = (0 : Int) := ti_eq c73
      exfalso; omega
    have C73 : ¬ (-4 : Int) = (0 : Int) := ti_ne c73
    refine sf_bnd (s_X3_refuse hF hI (by decide) (by decide)) (fun r74 u75 p76 => ?_)
    obtain ⟨Iu75, Fu75_, O83_u75_, O0_u75_, p76_1, p76_2, p76_x0⟩ := p76
    have Fu75 : ∀ k, 101 ≤ k → u75 k = τ k := fun k hk => (Fu75_ k hk).trans (Fτ k hk)
    have O83_u75 : u75 83 1 = τ 83 1 := O83_u75_.trans O83_τ
    have O0_u75 : u75 0 7 = τ 0 7 := O0_u75_.trans O0_τ
    replace p76_x0 : r74.toInt = (-4 : Int) := p76_x0
    exact sf_ret ⟨Iu75, Fu75, O83_u75, O0_u75, ti_lo _, ti_hi _⟩
  obtain rfl := p7
  refine sf_in ?_
  rw [f_X3_notBelow_e]
  have b77 := ti_lo x3
  have b78 := ti_hi x3
  refine sf_ite (fun c79 => ?_) (fun c79 => ?_)
  · have C79 : x3.toInt < (0 : Int) := ti_lt c79
    rw [j_X3_notBelow_13_e]
    refine sf_ret ?_
    refine sf_in ?_
    rw [f_X3_firstOf_e]
    refine sf_ite (fun c80 => ?_) (fun c80 => ?_)
    · have C80 : (-6 : Int) = (0 : Int) := ti_eq c80
      exfalso; omega
    have C80 : ¬ (-6 : Int) = (0 : Int) := ti_ne c80
    refine sf_ret ?_
    refine sf_ite (fun c81 => ?_) (fun c81 => ?_)
    · have C81 : (-6 : Int) = (0 : Int) := ti_eq c81
      exfalso; omega
    have C81 : ¬ (-6 : Int) = (0 : Int) := ti_ne c81
    refine sf_bnd (s_X3_refuse hF hI (by decide) (by decide)) (fun r82 u83 p84 => ?_)
    obtain ⟨Iu83, Fu83_, O83_u83_, O0_u83_, p84_1, p84_2, p84_x0⟩ := p84
    have Fu83 : ∀ k, 101 ≤ k → u83 k = τ k := fun k hk => (Fu83_ k hk).trans (Fτ k hk)
    have O83_u83 : u83 83 1 = τ 83 1 := O83_u83_.trans O83_τ
    have O0_u83 : u83 0 7 = τ 0 7 := O0_u83_.trans O0_τ
    replace p84_x0 : r82.toInt = (-6 : Int) := p84_x0
    exact sf_ret ⟨Iu83, Fu83, O83_u83, O0_u83, ti_lo _, ti_hi _⟩
  have C79 : (0 : Int) ≤ x3.toInt := ti_nlt c79
  refine sf_ite (fun c85 => ?_) (fun c85 => ?_)
  · have C85 : (2 : Int) ≤ x3.toInt := ti_le c85
    rw [j_X3_notBelow_13_e]
    refine sf_ret ?_
    refine sf_in ?_
    rw [f_X3_firstOf_e]
    refine sf_ite (fun c86 => ?_) (fun c86 => ?_)
    · have C86 : (-6 : Int) = (0 : Int) := ti_eq c86
      exfalso; omega
    have C86 : ¬ (-6 : Int) = (0 : Int) := ti_ne c86
    refine sf_ret ?_
    refine sf_ite (fun c87 => ?_) (fun c87 => ?_)
    · have C87 : (-6 : Int) = (0 : Int) := ti_eq c87
      exfalso; omega
    have C87 : ¬ (-6 : Int) = (0 : Int) := ti_ne c87
    refine sf_bnd (s_X3_refuse hF hI (by decide) (by decide)) (fun r88 u89 p90 => ?_)
    obtain ⟨Iu89, Fu89_, O83_u89_, O0_u89_, p90_1, p90_2, p90_x0⟩ := p90
    have Fu89 : ∀ k, 101 ≤ k → u89 k = τ k := fun k hk => (Fu89_ k hk).trans (Fτ k hk)
    have O83_u89 : u89 83 1 = τ 83 1 := O83_u89_.trans O83_τ
    have O0_u89 : u89 0 7 = τ 0 7 := O0_u89_.trans O0_τ
    replace p90_x0 : r88.toInt = (-6 : Int) := p90_x0
    exact sf_ret ⟨Iu89, Fu89, O83_u89, O0_u89, ti_lo _, ti_hi _⟩
  have C85 : x3.toInt < (2 : Int) := ti_nle c85
  refine sf_ret ?_
  refine sf_in ?_
  rw [f_X3_firstOf_e]
  refine sf_ite (fun c91 => ?_) (fun c91 => ?_)
  · have C91 : (-6 : Int) = (0 : Int) := ti_eq c91
    exfalso; omega
  have C91 : ¬ (-6 : Int) = (0 : Int) := ti_ne c91
  refine sf_ret ?_
  refine sf_ite (fun c92 => ?_) (fun c92 => ?_)
  · have C92 : (-6 : Int) = (0 : Int) := ti_eq c92
    exfalso; omega
  have C92 : ¬ (-6 : Int) = (0 : Int) := ti_ne c92
  refine sf_bnd (s_X3_refuse hF hI (by decide) (by decide)) (fun r93 u94 p95 => ?_)
  obtain ⟨Iu94, Fu94_, O83_u94_, O0_u94_, p95_1, p95_2, p95_x0⟩ := p95
  have Fu94 : ∀ k, 101 ≤ k → u94 k = τ k := fun k hk => (Fu94_ k hk).trans (Fτ k hk)
  have O83_u94 : u94 83 1 = τ 83 1 := O83_u94_.trans O83_τ
  have O0_u94 : u94 0 7 = τ 0 7 := O0_u94_.trans O0_τ
  replace p95_x0 : r93.toInt = (-6 : Int) := p95_x0
  exact sf_ret ⟨Iu94, Fu94, O83_u94, O0_u94, ti_lo _, ti_hi _⟩
set_option maxHeartbeats 4000000 in
set_option maxRecDepth 100000 in
theorem sl_X3_commonDivisor_9 {F : Nat} (hF : 100000 ≤ F) {τ : Mem} (hI : wiX τ) : ∀ (N : Nat) (y4 : Int64) (y6 : Int64) (x8 : Int32) , 255 < x8.toInt + N → 0 ≤ x8.toInt → x8.toInt ≤ 255 → sf (lp_X3_commonDivisor_9 F N y4 y6 x8 τ) (fun r s => s = τ ∧ True) := by
  intro N
  induction N with
  | zero => intro y4 y6 x8 hN x8_1 x8_2; exfalso; omega
  | succ N ih =>
    intro y4 y6 x8 hN x8_1 x8_2
    rw [lp_X3_commonDivisor_9_s]
    refine sf_ite (fun c1 => ?_) (fun c1 => ?_)
    · have C1 : (200 : Int) ≤ x8.toInt := ti_le c1
      rw [j_X3_commonDivisor_45_e]
      exact sf_ret ⟨rfl, trivial⟩
    have C1 : x8.toInt < (200 : Int) := ti_nle c1
    have b2 := ti_lo (lg_cmp y6 (0 : Int64))
    have b3 := ti_hi (lg_cmp y6 (0 : Int64))
    refine sf_ite (fun c4 => ?_) (fun c4 => ?_)
    · have C4 : (lg_cmp y6 (0 : Int64)).toInt = (0 : Int) := ti_eq c4
      rw [j_X3_commonDivisor_45_e]
      exact sf_ret ⟨rfl, trivial⟩
    have C4 : ¬ (lg_cmp y6 (0 : Int64)).toInt = (0 : Int) := ti_ne c4
    refine sf_nzl (fun q => absurd c4 (by rw [q]; decide)) ?_
    have t5 : (x8 + (1 : Int32)).toInt = x8.toInt + (1 : Int) := ti_add (show -2147483648 ≤ x8.toInt + (1 : Int) by omega) (show x8.toInt + (1 : Int) ≤ 2147483647 by omega)
    exact ih _ _ _ (by omega) (by omega) (by omega)
set_option maxHeartbeats 4000000 in
set_option maxRecDepth 100000 in
theorem s_X3_commonDivisor {F : Nat} (hF : 100000 ≤ F) {y0 : Int64} {y2 : Int64} {τ : Mem} (hI : wiX τ) : sf (f_X3_commonDivisor F y0 y2 τ) (fun r s => s = τ ∧ True) := by
  rw [f_X3_commonDivisor_e]
  have l_0 : (0 : Int32).toInt = 0 := rfl
  exact sl_X3_commonDivisor_9 hF hI _ _ _ _  (by omega) (by decide) (by decide)
set_option maxHeartbeats 4000000 in
set_option maxRecDepth 100000 in
theorem s_X3_fraction {F : Nat} (hF : 100000 ≤ F) {y0 : Int64} {y2 : Int64} {x4 : Int32} {τ : Mem} (hI : wiX τ) (x4_1 : 0 ≤ x4.toInt) (x4_2 : x4.toInt ≤ 1) : sf (f_X3_fraction F y0 y2 x4 τ) (fun r s => s = τ ∧ True) := by
  rw [f_X3_fraction_e]
  have b1 := ti_lo (lg_cmp y0 (0 : Int64))
  have b2 := ti_hi (lg_cmp y0 (0 : Int64))
  refine sf_ite (fun c3 => ?_) (fun c3 => ?_)
  · have C3 : (lg_cmp y0 (0 : Int64)).toInt ≤ (0 : Int) := ti_le c3
    rw [j_X3_fraction_12_e]
    refine sf_ite (fun c4 => ?_) (fun c4 => ?_)
    · have C4 : x4.toInt = (0 : Int) := ti_eq c4
      exact sf_ret ⟨rfl, trivial⟩
    have C4 : ¬ x4.toInt = (0 : Int) := ti_ne c4
    exact sf_ret ⟨rfl, trivial⟩
  have C3 : (0 : Int) < (lg_cmp y0 (0 : Int64)).toInt := ti_nle c3
  have b5 := ti_lo (lg_cmp y2 (0 : Int64))
  have b6 := ti_hi (lg_cmp y2 (0 : Int64))
  refine sf_ite (fun c7 => ?_) (fun c7 => ?_)
  · have C7 : (0 : Int) < (lg_cmp y2 (0 : Int64)).toInt := ti_lt c7
    refine sf_bnd (s_X3_commonDivisor hF hI) (fun r8 u9 p10 => ?_)
    obtain ⟨e9, -⟩ := p10
    have e9 := e9.symm
    subst e9
    have b11 := ti_lo (lg_cmp r8 (0 : Int64))
    have b12 := ti_hi (lg_cmp r8 (0 : Int64))
    refine sf_ite (fun c13 => ?_) (fun c13 => ?_)
    · have C13 : (0 : Int) < (lg_cmp r8 (0 : Int64)).toInt := ti_lt c13
      refine sf_ite (fun c14 => ?_) (fun c14 => ?_)
      · have C14 : x4.toInt = (0 : Int) := ti_eq c14
        refine sf_nzl (fun q => absurd c13 (by rw [q]; decide)) ?_
        exact sf_ret ⟨rfl, trivial⟩
      have C14 : ¬ x4.toInt = (0 : Int) := ti_ne c14
      refine sf_nzl (fun q => absurd c13 (by rw [q]; decide)) ?_
      exact sf_ret ⟨rfl, trivial⟩
    have C13 : (lg_cmp r8 (0 : Int64)).toInt ≤ (0 : Int) := ti_nlt c13
    refine sf_ite (fun c15 => ?_) (fun c15 => ?_)
    · have C15 : x4.toInt = (0 : Int) := ti_eq c15
      exact sf_ret ⟨rfl, trivial⟩
    have C15 : ¬ x4.toInt = (0 : Int) := ti_ne c15
    exact sf_ret ⟨rfl, trivial⟩
  have C7 : (lg_cmp y2 (0 : Int64)).toInt ≤ (0 : Int) := ti_nlt c7
  rw [j_X3_fraction_12_e]
  refine sf_ite (fun c16 => ?_) (fun c16 => ?_)
  · have C16 : x4.toInt = (0 : Int) := ti_eq c16
    exact sf_ret ⟨rfl, trivial⟩
  have C16 : ¬ x4.toInt = (0 : Int) := ti_ne c16
  exact sf_ret ⟨rfl, trivial⟩
set_option maxHeartbeats 4000000 in
set_option maxRecDepth 100000 in
theorem sl_X3_share_40 {F : Nat} (hF : 100000 ≤ F) {x1 : Int32} {x2 : Int32} {x3 : Int32} {τ : Mem} (x1_1 : 0 ≤ x1.toInt) (x1_2 : x1.toInt ≤ 4) (x2_1 : 0 ≤ x2.toInt) (x2_2 : x2.toInt ≤ 7) (x3_1 : 0 ≤ x3.toInt) (x3_2 : x3.toInt ≤ 1) : ∀ (N : Nat) (y5 : Int64) (x7 : Int32) (σ : Mem), wiX σ → (∀ k, 101 ≤ k → σ k = τ k) → σ 83 1 = τ 83 1 → σ 0 7 = τ 0 7 → 5 < x7.toInt + N → 0 ≤ x7.toInt → x7.toInt ≤ 5 → sf (lp_X3_share_40 F x1 x2 x3 N y5 x7 σ) (fun r s => wiX s ∧ (∀ k, 101 ≤ k → s k = τ k) ∧ s 83 1 = τ 83 1 ∧ s 0 7 = τ 0 7 ∧ True) := by
  intro N
  induction N with
  | zero => intro y5 x7 σ hI Fσ O83_σ O0_σ hN x7_1 x7_2; exfalso; omega
  | succ N ih =>
    intro y5 x7 σ hI Fσ O83_σ O0_σ hN x7_1 x7_2
    rw [lp_X3_share_40_s]
    have m1 := wx_X0_2 hI wt_h1
    refine sf_ite (fun c2 => ?_) (fun c2 => ?_)
    · have C2 : (σ 1 2).toInt ≤ x7.toInt := ti_le c2
      refine sf_chk (ti_in (by omega) (by omega)) ?_
      have v3 : Int32.toNatClampNeg x1 = x1.toInt.toNat := rfl
      refine sf_chk (ti_in (by omega) (by omega)) ?_
      have v4 : Int32.toNatClampNeg x2 = x2.toInt.toNat := rfl
      refine sf_bnd (s_X3_fraction hF hI (by omega) (by omega)) (fun r5 u6 p7 => ?_)
      obtain ⟨e9, -⟩ := p7
      have e9 := e9.symm
      subst e9
      exact sf_ret ⟨hI, Fσ, O83_σ, O0_σ, trivial⟩
    have C2 : x7.toInt < (σ 1 2).toInt := ti_nle c2
    refine sf_chk (ti_in (by omega) (by omega)) ?_
    have v8 : Int32.toNatClampNeg x7 = x7.toInt.toNat := rfl
    refine sf_chk (ti_in (by omega) (by omega)) ?_
    have v9 : Int32.toNatClampNeg x2 = x2.toInt.toNat := rfl
    refine sf_lt (fun z10 hz10 => ?_)
    have t11 : (x7 + (1 : Int32)).toInt = x7.toInt + (1 : Int) := ti_add (show -2147483648 ≤ x7.toInt + (1 : Int) by omega) (show x7.toInt + (1 : Int) ≤ 2147483647 by omega)
    exact ih _ _ _ hI Fσ O83_σ O0_σ (by omega) (by omega) (by omega)
set_option maxHeartbeats 4000000 in
set_option maxRecDepth 100000 in
theorem s_X3_share {F : Nat} (hF : 100000 ≤ F) {x1 : Int32} {x2 : Int32} {x3 : Int32} {τ : Mem} (hI : wiX τ) : sf (f_X3_share F x1 x2 x3 τ) (fun r s => wiX s ∧ (∀ k, 101 ≤ k → s k = τ k) ∧ s 83 1 = τ 83 1 ∧ s 0 7 = τ 0 7 ∧ True) := by
  have Fτ : ∀ k, 101 ≤ k → τ k = τ k := fun _ _ => rfl
  have O83_τ : τ 83 1 = τ 83 1 := rfl
  have O0_τ : τ 0 7 = τ 0 7 := rfl
  rw [f_X3_share_e]
  have b1 := ti_lo x1
  have b2 := ti_hi x1
  refine sf_bnd (s_X3_noLooker hF hI) (fun r3 u4 p5 => ?_)
  obtain ⟨e9, p5⟩ := p5
  have e9 := e9.symm
  subst e9
  rcases p5 with ⟨rfl, q6, q7⟩ | p5
  · have b8 := ti_lo x2
    have b9 := ti_hi x2
    refine sf_bnd (s_X3_noView hF hI) (fun r10 u11 p12 => ?_)
    obtain ⟨e9, p12⟩ := p12
    have e9 := e9.symm
    subst e9
    rcases p12 with ⟨rfl, q13, q14⟩ | p12
    · refine sf_in ?_
      rw [f_X3_firstOf_e]
      refine sf_ite (fun c15 => ?_) (fun c15 => ?_)
      · have C15 : (0 : Int) = (0 : Int) := ti_eq c15
        refine sf_ret ?_
        refine sf_in ?_
        rw [f_X3_notBelow_e]
        have b16 := ti_lo x3
        have b17 := ti_hi x3
        refine sf_ite (fun c18 => ?_) (fun c18 => ?_)
        · have C18 : x3.toInt < (0 : Int) := ti_lt c18
          rw [j_X3_notBelow_13_e]
          refine sf_ret ?_
          refine sf_in ?_
          rw [f_X3_firstOf_e]
          refine sf_ite (fun c19 => ?_) (fun c19 => ?_)
          · have C19 : (0 : Int) = (0 : Int) := ti_eq c19
            refine sf_ret ?_
            refine sf_ite (fun c20 => ?_) (fun c20 => ?_)
            · have C20 : (-2 : Int) = (0 : Int) := ti_eq c20
              exfalso; omega
            have C20 : ¬ (-2 : Int) = (0 : Int) := ti_ne c20
            refine sf_bnd (s_X3_refuseLong hF hI (by decide) (by decide)) (fun r21 u22 p23 => ?_)
            obtain ⟨Iu22, Fu22_, O83_u22_, O0_u22_, -⟩ := p23
            have Fu22 : ∀ k, 101 ≤ k → u22 k = τ k := fun k hk => (Fu22_ k hk).trans (Fτ k hk)
            have O83_u22 : u22 83 1 = τ 83 1 := O83_u22_.trans O83_τ
            have O0_u22 : u22 0 7 = τ 0 7 := O0_u22_.trans O0_τ
            exact sf_ret ⟨Iu22, Fu22, O83_u22, O0_u22, trivial⟩
          have C19 : ¬ (0 : Int) = (0 : Int) := ti_ne c19
          exfalso; omega
        have C18 : (0 : Int) ≤ x3.toInt := ti_nlt c18
        refine sf_ite (fun c24 => ?_) (fun c24 => ?_)
        · have C24 : (2 : Int) ≤ x3.toInt := ti_le c24
          rw [j_X3_notBelow_13_e]
          refine sf_ret ?_
          refine sf_in ?_
          rw [f_X3_firstOf_e]
          refine sf_ite (fun c25 => ?_) (fun c25 => ?_)
          · have C25 : (0 : Int) = (0 : Int) := ti_eq c25
            refine sf_ret ?_
            refine sf_ite (fun c26 => ?_) (fun c26 => ?_)
            · have C26 : (-2 : Int) = (0 : Int) := ti_eq c26
              exfalso; omega
            have C26 : ¬ (-2 : Int) = (0 : Int) := ti_ne c26
            refine sf_bnd (s_X3_refuseLong hF hI (by decide) (by decide)) (fun r27 u28 p29 => ?_)
            obtain ⟨Iu28, Fu28_, O83_u28_, O0_u28_, -⟩ := p29
            have Fu28 : ∀ k, 101 ≤ k → u28 k = τ k := fun k hk => (Fu28_ k hk).trans (Fτ k hk)
            have O83_u28 : u28 83 1 = τ 83 1 := O83_u28_.trans O83_τ
            have O0_u28 : u28 0 7 = τ 0 7 := O0_u28_.trans O0_τ
            exact sf_ret ⟨Iu28, Fu28, O83_u28, O0_u28, trivial⟩
          have C25 : ¬ (0 : Int) = (0 : Int) := ti_ne c25
          exfalso; omega
        have C24 : x3.toInt < (2 : Int) := ti_nle c24
        refine sf_ret ?_
        refine sf_in ?_
        rw [f_X3_firstOf_e]
        refine sf_ite (fun c30 => ?_) (fun c30 => ?_)
        · have C30 : (0 : Int) = (0 : Int) := ti_eq c30
          refine sf_ret ?_
          refine sf_ite (fun c31 => ?_) (fun c31 => ?_)
          · have C31 : (0 : Int) = (0 : Int) := ti_eq c31
            have l_0 : (0 : Int32).toInt = 0 := rfl
            exact sl_X3_share_40 hF (by omega) (by omega) (by omega) (by omega) (by omega) (by omega) _ _ _ _ hI Fτ O83_τ O0_τ (by omega) (by decide) (by decide)
          have C31 : ¬ (0 : Int) = (0 : Int) := ti_ne c31
          exfalso; omega
        have C30 : ¬ (0 : Int) = (0 : Int) := ti_ne c30
        exfalso; omega
      have C15 : ¬ (0 : Int) = (0 : Int) := ti_ne c15
      exfalso; omega
    obtain ⟨rfl, q32⟩ := p12
    refine sf_in ?_
    rw [f_X3_firstOf_e]
    refine sf_ite (fun c33 => ?_) (fun c33 => ?_)
    · have C33 : (0 : Int) = (0 : Int) := ti_eq c33
      refine sf_ret ?_
      refine sf_in ?_
      rw [f_X3_notBelow_e]
      have b34 := ti_lo x3
      have b35 := ti_hi x3
      refine sf_ite (fun c36 => ?_) (fun c36 => ?_)
      · have C36 : x3.toInt < (0 : Int) := ti_lt c36
        rw [j_X3_notBelow_13_e]
        refine sf_ret ?_
        refine sf_in ?_
        rw [f_X3_firstOf_e]
        refine sf_ite (fun c37 => ?_) (fun c37 => ?_)
        · have C37 : (-1 : Int) = (0 : Int) := ti_eq c37
          exfalso; omega
        have C37 : ¬ (-1 : Int) = (0 : Int) := ti_ne c37
        refine sf_ret ?_
        refine sf_ite (fun c38 => ?_) (fun c38 => ?_)
        · have C38 : (-1 : Int) = (0 : Int) := ti_eq c38
          exfalso; omega
        have C38 : ¬ (-1 : Int) = (0 : Int) := ti_ne c38
        refine sf_bnd (s_X3_refuseLong hF hI (by decide) (by decide)) (fun r39 u40 p41 => ?_)
        obtain ⟨Iu40, Fu40_, O83_u40_, O0_u40_, -⟩ := p41
        have Fu40 : ∀ k, 101 ≤ k → u40 k = τ k := fun k hk => (Fu40_ k hk).trans (Fτ k hk)
        have O83_u40 : u40 83 1 = τ 83 1 := O83_u40_.trans O83_τ
        have O0_u40 : u40 0 7 = τ 0 7 := O0_u40_.trans O0_τ
        exact sf_ret ⟨Iu40, Fu40, O83_u40, O0_u40, trivial⟩
      have C36 : (0 : Int) ≤ x3.toInt := ti_nlt c36
      refine sf_ite (fun c42 => ?_) (fun c42 => ?_)
      · have C42 : (2 : Int) ≤ x3.toInt := ti_le c42
        rw [j_X3_notBelow_13_e]
        refine sf_ret ?_
        refine sf_in ?_
        rw [f_X3_firstOf_e]
        refine sf_ite (fun c43 => ?_) (fun c43 => ?_)
        · have C43 : (-1 : Int) = (0 : Int) := ti_eq c43
          exfalso; omega
        have C43 : ¬ (-1 : Int) = (0 : Int) := ti_ne c43
        refine sf_ret ?_
        refine sf_ite (fun c44 => ?_) (fun c44 => ?_)
        · have C44 : (-1 : Int) = (0 : Int) := ti_eq c44
          exfalso; omega
        have C44 : ¬ (-1 : Int) = (0 : Int) := ti_ne c44
        refine sf_bnd (s_X3_refuseLong hF hI (by decide) (by decide)) (fun r45 u46 p47 => ?_)
        obtain ⟨Iu46, Fu46_, O83_u46_, O0_u46_, -⟩ := p47
        have Fu46 : ∀ k, 101 ≤ k → u46 k = τ k := fun k hk => (Fu46_ k hk).trans (Fτ k hk)
        have O83_u46 : u46 83 1 = τ 83 1 := O83_u46_.trans O83_τ
        have O0_u46 : u46 0 7 = τ 0 7 := O0_u46_.trans O0_τ
        exact sf_ret ⟨Iu46, Fu46, O83_u46, O0_u46, trivial⟩
      have C42 : x3.toInt < (2 : Int) := ti_nle c42
      refine sf_ret ?_
      refine sf_in ?_
      rw [f_X3_firstOf_e]
      refine sf_ite (fun c48 => ?_) (fun c48 => ?_)
      · have C48 : (-1 : Int) = (0 : Int) := ti_eq c48
        exfalso; omega
      have C48 : ¬ (-1 : Int) = (0 : Int) := ti_ne c48
      refine sf_ret ?_
      refine sf_ite (fun c49 => ?_) (fun c49 => ?_)
      · have C49 : (-1 : Int) = (0 : Int) := ti_eq c49
        exfalso; omega
      have C49 : ¬ (-1 : Int) = (0 : Int) := ti_ne c49
      refine sf_bnd (s_X3_refuseLong hF hI (by decide) (by decide)) (fun r50 u51 p52 => ?_)
      obtain ⟨Iu51, Fu51_, O83_u51_, O0_u51_, -⟩ := p52
      have Fu51 : ∀ k, 101 ≤ k → u51 k = τ k := fun k hk => (Fu51_ k hk).trans (Fτ k hk)
      have O83_u51 : u51 83 1 = τ 83 1 := O83_u51_.trans O83_τ
      have O0_u51 : u51 0 7 = τ 0 7 := O0_u51_.trans O0_τ
      exact sf_ret ⟨Iu51, Fu51, O83_u51, O0_u51, trivial⟩
    have C33 : ¬ (0 : Int) = (0 : Int) := ti_ne c33
    exfalso; omega
  obtain rfl := p5
  have b53 := ti_lo x2
  have b54 := ti_hi x2
  refine sf_bnd (s_X3_noView hF hI) (fun r55 u56 p57 => ?_)
  obtain ⟨e9, p57⟩ := p57
  have e9 := e9.symm
  subst e9
  rcases p57 with ⟨rfl, q58, q59⟩ | p57
  · refine sf_in ?_
    rw [f_X3_firstOf_e]
    refine sf_ite (fun c60 => ?_) (fun c60 => ?_)
    · have C60 : (-1 : Int) = (0 : Int) := ti_eq c60
      exfalso; omega
    have C60 : ¬ (-1 : Int) = (0 : Int) := ti_ne c60
    refine sf_ret ?_
    refine sf_in ?_
    rw [f_X3_notBelow_e]
    have b61 := ti_lo x3
    have b62 := ti_hi x3
    refine sf_ite (fun c63 => ?_) (fun c63 => ?_)
    · have C63 : x3.toInt < (0 : Int) := ti_lt c63
      rw [j_X3_notBelow_13_e]
      refine sf_ret ?_
      refine sf_in ?_
      rw [f_X3_firstOf_e]
      refine sf_ite (fun c64 => ?_) (fun c64 => ?_)
      · have C64 : (-1 : Int) = (0 : Int) := ti_eq c64
        exfalso; omega
      have C64 : ¬ (-1 : Int) = (0 : Int) := ti_ne c64
      refine sf_ret ?_
      refine sf_ite (fun c65 => ?_) (fun c65 => ?_)
      · have C65 : (-1 : Int) = (0 : Int) := ti_eq c65
        exfalso; omega
      have C65 : ¬ (-1 : Int) = (0 : Int) := ti_ne c65
      refine sf_bnd (s_X3_refuseLong hF hI (by decide) (by decide)) (fun r66 u67 p68 => ?_)
      obtain ⟨Iu67, Fu67_, O83_u67_, O0_u67_, -⟩ := p68
      have Fu67 : ∀ k, 101 ≤ k → u67 k = τ k := fun k hk => (Fu67_ k hk).trans (Fτ k hk)
      have O83_u67 : u67 83 1 = τ 83 1 := O83_u67_.trans O83_τ
      have O0_u67 : u67 0 7 = τ 0 7 := O0_u67_.trans O0_τ
      exact sf_ret ⟨Iu67, Fu67, O83_u67, O0_u67, trivial⟩
    have C63 : (0 : Int) ≤ x3.toInt := ti_nlt c63
    refine sf_ite (fun c69 => ?_) (fun c69 => ?_)
    · have C69 : (2 : Int) ≤ x3.toInt := ti_le c69
      rw [j_X3_notBelow_13_e]
      refine sf_ret ?_
      refine sf_in ?_
      rw [f_X3_firstOf_e]
      refine sf_ite (fun c70 => ?_) (fun c70 => ?_)
      · have C70 : (-1 : Int) = (0 : Int) := ti_eq c70
        exfalso; omega
      have C70 : ¬ (-1 : Int) = (0 : Int) := ti_ne c70
      refine sf_ret ?_
      refine sf_ite (fun c71 => ?_) (fun c71 => ?_)
      · have C71 : (-1 : Int) = (0 : Int) := ti_eq c71
        exfalso; omega
      have C71 : ¬ (-1 : Int) = (0 : Int) := ti_ne c71
      refine sf_bnd (s_X3_refuseLong hF hI (by decide) (by decide)) (fun r72 u73 p74 => ?_)
      obtain ⟨Iu73, Fu73_, O83_u73_, O0_u73_, -⟩ := p74
      have Fu73 : ∀ k, 101 ≤ k → u73 k = τ k := fun k hk => (Fu73_ k hk).trans (Fτ k hk)
      have O83_u73 : u73 83 1 = τ 83 1 := O83_u73_.trans O83_τ
      have O0_u73 : u73 0 7 = τ 0 7 := O0_u73_.trans O0_τ
      exact sf_ret ⟨Iu73, Fu73, O83_u73, O0_u73, trivial⟩
    have C69 : x3.toInt < (2 : Int) := ti_nle c69
    refine sf_ret ?_
    refine sf_in ?_
    rw [f_X3_firstOf_e]
    refine sf_ite (fun c75 => ?_) (fun c75 => ?_)
    · have C75 : (-1 : Int) = (0 : Int) := ti_eq c75
      exfalso; omega
    have C75 : ¬ (-1 : Int) = (0 : Int) := ti_ne c75
    refine sf_ret ?_
    refine sf_ite (fun c76 => ?_) (fun c76 => ?_)
    · have C76 : (-1 : Int) = (0 : Int) := ti_eq c76
      exfalso; omega
    have C76 : ¬ (-1 : Int) = (0 : Int) := ti_ne c76
    refine sf_bnd (s_X3_refuseLong hF hI (by decide) (by decide)) (fun r77 u78 p79 => ?_)
    obtain ⟨Iu78, Fu78_, O83_u78_, O0_u78_, -⟩ := p79
    have Fu78 : ∀ k, 101 ≤ k → u78 k = τ k := fun k hk => (Fu78_ k hk).trans (Fτ k hk)
    have O83_u78 : u78 83 1 = τ 83 1 := O83_u78_.trans O83_τ
    have O0_u78 : u78 0 7 = τ 0 7 := O0_u78_.trans O0_τ
    exact sf_ret ⟨Iu78, Fu78, O83_u78, O0_u78, trivial⟩
  obtain ⟨rfl, q80⟩ := p57
  refine sf_in ?_
  rw [f_X3_firstOf_e]
  refine sf_ite (fun c81 => ?_) (fun c81 => ?_)
  · have C81 : (-1 : Int) = (0 : Int) := ti_eq c81
    exfalso; omega
  have C81 : ¬ (-1 : Int) = (0 : Int) := ti_ne c81
  refine sf_ret ?_
  refine sf_in ?_
  rw [f_X3_notBelow_e]
  have b82 := ti_lo x3
  have b83 := ti_hi x3
  refine sf_ite (fun c84 => ?_) (fun c84 => ?_)
  · have C84 : x3.toInt < (0 : Int) := ti_lt c84
    rw [j_X3_notBelow_13_e]
    refine sf_ret ?_
    refine sf_in ?_
    rw [f_X3_firstOf_e]
    refine sf_ite (fun c85 => ?_) (fun c85 => ?_)
    · have C85 : (-1 : Int) = (0 : Int) := ti_eq c85
      exfalso; omega
    have C85 : ¬ (-1 : Int) = (0 : Int) := ti_ne c85
    refine sf_ret ?_
    refine sf_ite (fun c86 => ?_) (fun c86 => ?_)
    · have C86 : (-1 : Int) = (0 : Int) := ti_eq c86
      exfalso; omega
    have C86 : ¬ (-1 : Int) = (0 : Int) := ti_ne c86
    refine sf_bnd (s_X3_refuseLong hF hI (by decide) (by decide)) (fun r87 u88 p89 => ?_)
    obtain ⟨Iu88, Fu88_, O83_u88_, O0_u88_, -⟩ := p89
    have Fu88 : ∀ k, 101 ≤ k → u88 k = τ k := fun k hk => (Fu88_ k hk).trans (Fτ k hk)
    have O83_u88 : u88 83 1 = τ 83 1 := O83_u88_.trans O83_τ
    have O0_u88 : u88 0 7 = τ 0 7 := O0_u88_.trans O0_τ
    exact sf_ret ⟨Iu88, Fu88, O83_u88, O0_u88, trivial⟩
  have C84 : (0 : Int) ≤ x3.toInt := ti_nlt c84
  refine sf_ite (fun c90 => ?_) (fun c90 => ?_)
  · have C90 : (2 : Int) ≤ x3.toInt := ti_le c90
    rw [j_X3_notBelow_13_e]
    refine sf_ret ?_
    refine sf_in ?_
    rw [f_X3_firstOf_e]
    refine sf_ite (fun c91 => ?_) (fun c91 => ?_)
    · have C91 : (-1 : Int) = (0 : Int) := ti_eq c91
      exfalso; omega
    have C91 : ¬ (-1 : Int) = (0 : Int) := ti_ne c91
    refine sf_ret ?_
    refine sf_ite (fun c92 => ?_) (fun c92 => ?_)
    · have C92 : (-1 : Int) = (0 : Int) := ti_eq c92
      exfalso; omega
    have C92 : ¬ (-1 : Int) = (0 : Int) := ti_ne c92
    refine sf_bnd (s_X3_refuseLong hF hI (by decide) (by decide)) (fun r93 u94 p95 => ?_)
    obtain ⟨Iu94, Fu94_, O83_u94_, O0_u94_, -⟩ := p95
    have Fu94 : ∀ k, 101 ≤ k → u94 k = τ k := fun k hk => (Fu94_ k hk).trans (Fτ k hk)
    have O83_u94 : u94 83 1 = τ 83 1 := O83_u94_.trans O83_τ
    have O0_u94 : u94 0 7 = τ 0 7 := O0_u94_.trans O0_τ
    exact sf_ret ⟨Iu94, Fu94, O83_u94, O0_u94, trivial⟩
  have C90 : x3.toInt < (2 : Int) := ti_nle c90
  refine sf_ret ?_
  refine sf_in ?_
  rw [f_X3_firstOf_e]
  refine sf_ite (fun c96 => ?_) (fun c96 => ?_)
  · have C96 : (-1 : Int) = (0 : Int) := ti_eq c96
    exfalso; omega
  have C96 : ¬ (-1 : Int) = (0 : Int) := ti_ne c96
  refine sf_ret ?_
  refine sf_ite (fun c97 => ?_) (fun c97 => ?_)
  · have C97 : (-1 : Int) = (0 : Int) := ti_eq c97
    exfalso; omega
  have C97 : ¬ (-1 : Int) = (0 : Int) := ti_ne c97
  refine sf_bnd (s_X3_refuseLong hF hI (by decide) (by decide)) (fun r98 u99 p100 => ?_)
  obtain ⟨Iu99, Fu99_, O83_u99_, O0_u99_, -⟩ := p100
  have Fu99 : ∀ k, 101 ≤ k → u99 k = τ k := fun k hk => (Fu99_ k hk).trans (Fτ k hk)
  have O83_u99 : u99 83 1 = τ 83 1 := O83_u99_.trans O83_τ
  have O0_u99 : u99 0 7 = τ 0 7 := O0_u99_.trans O0_τ
  exact sf_ret ⟨Iu99, Fu99, O83_u99, O0_u99, trivial⟩
set_option maxHeartbeats 4000000 in
set_option maxRecDepth 100000 in
theorem sl_X3_fillPays_42 {F : Nat} (hF : 100000 ≤ F) {x1 : Int32} {x2 : Int32} {x3 : Int32} {x4 : Int32} {x5 : Int32} {k14 : Int32 → Mem → Option (Unit × Mem)} {τ : Mem} (x1_1 : 0 ≤ x1.toInt) (x1_2 : x1.toInt ≤ 4) (x2_1 : 0 ≤ x2.toInt) (x2_2 : x2.toInt ≤ 4) (x3_1 : 0 ≤ x3.toInt) (x3_2 : x3.toInt ≤ 23) (x4_1 : 0 ≤ x4.toInt) (x4_2 : x4.toInt ≤ 999) (x5_1 : 0 ≤ x5.toInt) (x5_2 : x5.toInt ≤ 5) {N14 : Nat} (hM14 : 6 < x5.toInt + (N14 + 1)) (hk14 : ∀ (x5 : Int32) (σ : Mem), wiX σ → (∀ k, 101 ≤ k → σ k = τ k) → σ 83 1 = τ 83 1 → σ 0 7 = τ 0 7 → 6 < x5.toInt + N14 → 0 ≤ x5.toInt → x5.toInt ≤ 6 → sf (k14 x5 σ) (fun _ s => wiX s ∧ (∀ k, 101 ≤ k → s k = τ k) ∧ s 83 1 = τ 83 1 ∧ s 0 7 = τ 0 7 ∧ True)) : ∀ (N : Nat) (x6 : Int32) (σ : Mem), wiX σ → (∀ k, 101 ≤ k → σ k = τ k) → σ 83 1 = τ 83 1 → σ 0 7 = τ 0 7 → 6 < x6.toInt + N → 0 ≤ x6.toInt → x6.toInt ≤ 6 → sf (lp_X3_fillPays_42 F k14 x1 x2 x3 x4 x5 N x6 σ) (fun _ s => wiX s ∧ (∀ k, 101 ≤ k → s k = τ k) ∧ s 83 1 = τ 83 1 ∧ s 0 7 = τ 0 7 ∧ True) := by
  intro N
  induction N with
  | zero => intro x6 σ hI Fσ O83_σ O0_σ hN x6_1 x6_2; exfalso; omega
  | succ N ih =>
    intro x6 σ hI Fσ O83_σ O0_σ hN x6_1 x6_2
    rw [lp_X3_fillPays_42_s]
    have m1 := wx_X0_0 hI wt_h1
    refine sf_ite (fun c2 => ?_) (fun c2 => ?_)
    · have C2 : (σ 1 0).toInt ≤ x6.toInt := ti_le c2
      have t3 : (x5 + (1 : Int32)).toInt = x5.toInt + (1 : Int) := ti_add (show -2147483648 ≤ x5.toInt + (1 : Int) by omega) (show x5.toInt + (1 : Int) ≤ 2147483647 by omega)
      exact hk14 _ _ hI Fσ O83_σ O0_σ (by omega) (by omega) (by omega)
    have C2 : x6.toInt < (σ 1 0).toInt := ti_nle c2
    refine sf_bnd (s_X0_post hF wt_h24 hI) (fun r4 u5 p6 => ?_)
    obtain ⟨Iu5, Fu5_, O83_u5_, O0_u5_, p6_1, p6_2⟩ := p6
    have Fu5 : ∀ k, 101 ≤ k → u5 k = τ k := fun k hk => (Fu5_ k hk).trans (Fσ k hk)
    have O83_u5 : u5 83 1 = τ 83 1 := O83_u5_.trans O83_σ
    have O0_u5 : u5 0 7 = τ 0 7 := O0_u5_.trans O0_σ
    have hb_r4 : r4 = 0 ∨ r4 = 1 := wi_bool p6_1 p6_2
    refine sf_bnd (s_X0_reckon hF wt_h24 Iu5) (fun r7 u8 p9 => ?_)
    obtain ⟨Iu8, Fu8_, O83_u8_, O0_u8_, -⟩ := p9
    have Fu8 : ∀ k, 101 ≤ k → u8 k = τ k := fun k hk => (Fu8_ k hk).trans (Fu5 k hk)
    have O83_u8 : u8 83 1 = τ 83 1 := O83_u8_.trans O83_u5
    have O0_u8 : u8 0 7 = τ 0 7 := O0_u8_.trans O0_u5
    refine sf_chk (ti_in (by omega) (by omega)) ?_
    have v10 : Int32.toNatClampNeg x5 = x5.toInt.toNat := rfl
    refine sf_bnd (s_X0_wealth hF wt_h24 Iu8 (by omega) (by omega)) (fun r11 u12 p13 => ?_)
    obtain ⟨e9, p13_1, p13_2⟩ := p13
    have e9 := e9.symm
    subst e9
    refine sf_chk (ti_in (by omega) (by omega)) ?_
    have v14 : Int32.toNatClampNeg x6 = x6.toInt.toNat := rfl
    refine sf_lt (fun s15 hs15 => ?_)
    have Is15 : wiX s15 := by rw [hs15]; exact wx_oth Iu8 (fun q hq e => by have := wt_Hcs hq; omega) (fun e => by omega) (fun e => by omega) (fun e => by omega)
    have Fs15 : ∀ k, 101 ≤ k → s15 k = τ k := fun k hk => (show s15 k = u8 k by rw [hs15, up2_k (by omega)]).trans (Fu8 k hk)
    have O83_s15 : s15 83 1 = τ 83 1 := (show s15 83 1 = u8 83 1 by rw [hs15, up2_k (by omega)]).trans O83_u8
    have O0_s15 : s15 0 7 = τ 0 7 := (show s15 0 7 = u8 0 7 by rw [hs15, up2_k (by omega)]).trans O0_u8
    refine sf_bnd (s_X0_wealth hF wt_h24 Is15 (by omega) (by omega)) (fun r16 u17 p18 => ?_)
    obtain ⟨e9, p18_1, p18_2⟩ := p18
    have e9 := e9.symm
    subst e9
    refine sf_lt (fun s19 hs19 => ?_)
    have Is19 : wiX s19 := by rw [hs19]; exact wx_oth Is15 (fun q hq e => by have := wt_Hcs hq; omega) (fun e => by omega) (fun e => by omega) (fun e => by omega)
    have Fs19 : ∀ k, 101 ≤ k → s19 k = τ k := fun k hk => (show s19 k = s15 k by rw [hs19, up2_k (by omega)]).trans (Fs15 k hk)
    have O83_s19 : s19 83 1 = τ 83 1 := (show s19 83 1 = s15 83 1 by rw [hs19, up2_k (by omega)]).trans O83_s15
    have O0_s19 : s19 0 7 = τ 0 7 := (show s19 0 7 = s15 0 7 by rw [hs19, up2_k (by omega)]).trans O0_s15
    have t20 : (x6 + (1 : Int32)).toInt = x6.toInt + (1 : Int) := ti_add (show -2147483648 ≤ x6.toInt + (1 : Int) by omega) (show x6.toInt + (1 : Int) ≤ 2147483647 by omega)
    exact ih _ _ Is19 Fs19 O83_s19 O0_s19 (by omega) (by omega) (by omega)
set_option maxHeartbeats 4000000 in
set_option maxRecDepth 100000 in
theorem sl_X3_fillPays_14 {F : Nat} (hF : 100000 ≤ F) {x1 : Int32} {x2 : Int32} {x3 : Int32} {x4 : Int32} {τ : Mem} (x1_1 : 0 ≤ x1.toInt) (x1_2 : x1.toInt ≤ 4) (x2_1 : 0 ≤ x2.toInt) (x2_2 : x2.toInt ≤ 4) (x3_1 : 0 ≤ x3.toInt) (x3_2 : x3.toInt ≤ 23) (x4_1 : 0 ≤ x4.toInt) (x4_2 : x4.toInt ≤ 999) : ∀ (N : Nat) (x5 : Int32) (σ : Mem), wiX σ → (∀ k, 101 ≤ k → σ k = τ k) → σ 83 1 = τ 83 1 → σ 0 7 = τ 0 7 → 6 < x5.toInt + N → 0 ≤ x5.toInt → x5.toInt ≤ 6 → sf (lp_X3_fillPays_14 F x1 x2 x3 x4 N x5 σ) (fun _ s => wiX s ∧ (∀ k, 101 ≤ k → s k = τ k) ∧ s 83 1 = τ 83 1 ∧ s 0 7 = τ 0 7 ∧ True) := by
  intro N
  induction N with
  | zero => intro x5 σ hI Fσ O83_σ O0_σ hN x5_1 x5_2; exfalso; omega
  | succ N ih =>
    intro x5 σ hI Fσ O83_σ O0_σ hN x5_1 x5_2
    rw [lp_X3_fillPays_14_s]
    have m1 := wx_X0_0 hI wt_h1
    refine sf_ite (fun c2 => ?_) (fun c2 => ?_)
    · have C2 : (σ 1 0).toInt ≤ x5.toInt := ti_le c2
      exact sf_ret ⟨hI, Fσ, O83_σ, O0_σ, trivial⟩
    have C2 : x5.toInt < (σ 1 0).toInt := ti_nle c2
    refine sf_bnd (s_X0_post hF wt_h24 hI) (fun r3 u4 p5 => ?_)
    obtain ⟨Iu4, Fu4_, O83_u4_, O0_u4_, p5_1, p5_2⟩ := p5
    have Fu4 : ∀ k, 101 ≤ k → u4 k = τ k := fun k hk => (Fu4_ k hk).trans (Fσ k hk)
    have O83_u4 : u4 83 1 = τ 83 1 := O83_u4_.trans O83_σ
    have O0_u4 : u4 0 7 = τ 0 7 := O0_u4_.trans O0_σ
    have hb_r3 : r3 = 0 ∨ r3 = 1 := wi_bool p5_1 p5_2
    have l_0 : (0 : Int32).toInt = 0 := rfl
    exact sl_X3_fillPays_42 hF (by omega) (by omega) (by omega) (by omega) (by omega) (by omega) (by omega) (by omega) (by omega) (by omega) (by omega) ih _ _ _ Iu4 Fu4 O83_u4 O0_u4 (by omega) (by decide) (by decide)
set_option maxHeartbeats 4000000 in
set_option maxRecDepth 100000 in
theorem s_X3_fillPays {F : Nat} (hF : 100000 ≤ F) {x1 : Int32} {x2 : Int32} {x3 : Int32} {x4 : Int32} {τ : Mem} (hI : wiX τ) (x1_1 : 0 ≤ x1.toInt) (x1_2 : x1.toInt ≤ 4) (x2_1 : 0 ≤ x2.toInt) (x2_2 : x2.toInt ≤ 4) (x3_1 : 0 ≤ x3.toInt) (x3_2 : x3.toInt ≤ 23) (x4_1 : 0 ≤ x4.toInt) (x4_2 : x4.toInt ≤ 999) : sf (f_X3_fillPays F x1 x2 x3 x4 τ) (fun _ s => wiX s ∧ (∀ k, 101 ≤ k → s k = τ k) ∧ s 83 1 = τ 83 1 ∧ s 0 7 = τ 0 7 ∧ True) := by
  have Fτ : ∀ k, 101 ≤ k → τ k = τ k := fun _ _ => rfl
  have O83_τ : τ 83 1 = τ 83 1 := rfl
  have O0_τ : τ 0 7 = τ 0 7 := rfl
  rw [f_X3_fillPays_e]
  refine sf_bnd (s_X0_takeFrom hF wt_h24 wt_h1 hI) (fun r1 u2 p3 => ?_)
  obtain ⟨Iu2, Fu2_, O83_u2_, O0_u2_, -⟩ := p3
  have Fu2 : ∀ k, 101 ≤ k → u2 k = τ k := fun k hk => (Fu2_ k hk).trans (Fτ k hk)
  have O83_u2 : u2 83 1 = τ 83 1 := O83_u2_.trans O83_τ
  have O0_u2 : u2 0 7 = τ 0 7 := O0_u2_.trans O0_τ
  have l_0 : (0 : Int32).toInt = 0 := rfl
  exact sl_X3_fillPays_14 hF (by omega) (by omega) (by omega) (by omega) (by omega) (by omega) (by omega) (by omega) _ _ _ Iu2 Fu2 O83_u2 O0_u2 (by omega) (by decide) (by decide)
