set_option maxHeartbeats 4000000 in
set_option maxRecDepth 100000 in
theorem s_X3_nobodys {F : Nat} (hF : 100000 ≤ F) {x1 : Int32} {τ : Mem} (hI : wiX τ) : sf (f_X3_nobodys F x1 τ) (fun r s => wiX s ∧ (∀ k, 101 ≤ k → s k = τ k) ∧ s 83 1 = τ 83 1 ∧ s 0 7 = τ 0 7 ∧ -2147483648 ≤ r.toInt ∧ r.toInt ≤ 2147483647) := by
  have Fτ : ∀ k, 101 ≤ k → τ k = τ k := fun _ _ => rfl
  have O83_τ : τ 83 1 = τ 83 1 := rfl
  have O0_τ : τ 0 7 = τ 0 7 := rfl
  rw [f_X3_nobodys_e]
  refine sf_in ?_
  rw [f_X3_outside_e]
  have b1 := ti_lo x1
  have b2 := ti_hi x1
  refine sf_ite (fun c3 => ?_) (fun c3 => ?_)
  · have C3 : (0 : Int) ≤ x1.toInt := ti_le c3
    refine sf_ite (fun c4 => ?_) (fun c4 => ?_)
    · have C4 : x1.toInt ≤ (999 : Int) := ti_le c4
      refine sf_ret ?_
      refine sf_ite (fun c5 => ?_) (fun c5 => ?_)
      · have C5 : (0 : Int) = (0 : Int) := ti_eq c5
        refine sf_bnd (s_X0_reckon hF wt_h1 hI) (fun r6 u7 p8 => ?_)
        obtain ⟨Iu7, Fu7_, O83_u7_, O0_u7_, -⟩ := p8
        have Fu7 : ∀ k, 101 ≤ k → u7 k = τ k := fun k hk => (Fu7_ k hk).trans (Fτ k hk)
        have O83_u7 : u7 83 1 = τ 83 1 := O83_u7_.trans O83_τ
        have O0_u7 : u7 0 7 = τ 0 7 := O0_u7_.trans O0_τ
        refine sf_bnd (s_X0_held hF wt_h1 Iu7 (by omega) (by omega)) (fun r9 u10 p11 => ?_)
        obtain ⟨e9, p11_1, p11_2⟩ := p11
        have e9 := e9.symm
        subst e9
        have b12 := ti_lo r9
        have b13 := ti_hi r9
        have b14 := ti_lo ((255 : Int32) - r9)
        have b15 := ti_hi ((255 : Int32) - r9)
        exact sf_ret ⟨Iu7, Fu7, O83_u7, O0_u7, ti_lo _, ti_hi _⟩
      have C5 : ¬ (0 : Int) = (0 : Int) := ti_ne c5
      exfalso; omega
    have C4 : (999 : Int) < x1.toInt := ti_nle c4
    refine sf_ret ?_
    refine sf_ite (fun c16 => ?_) (fun c16 => ?_)
    · have C16 : (-6 : Int) = (0 : Int) := ti_eq c16
      exfalso; omega
    have C16 : ¬ (-6 : Int) = (0 : Int) := ti_ne c16
    refine sf_bnd (s_X3_refuse hF hI (by decide) (by decide)) (fun r17 u18 p19 => ?_)
    obtain ⟨Iu18, Fu18_, O83_u18_, O0_u18_, p19_1, p19_2⟩ := p19
    have Fu18 : ∀ k, 101 ≤ k → u18 k = τ k := fun k hk => (Fu18_ k hk).trans (Fτ k hk)
    have O83_u18 : u18 83 1 = τ 83 1 := O83_u18_.trans O83_τ
    have O0_u18 : u18 0 7 = τ 0 7 := O0_u18_.trans O0_τ
    exact sf_ret ⟨Iu18, Fu18, O83_u18, O0_u18, ti_lo _, ti_hi _⟩
  have C3 : x1.toInt < (0 : Int) := ti_nle c3
  refine sf_ret ?_
  refine sf_ite (fun c20 => ?_) (fun c20 => ?_)
  · have C20 : (-4 : Int) = (0 : Int) := ti_eq c20
    exfalso; omega
  have C20 : ¬ (-4 : Int) = (0 : Int) := ti_ne c20
  refine sf_bnd (s_X3_refuse hF hI (by decide) (by decide)) (fun r21 u22 p23 => ?_)
  obtain ⟨Iu22, Fu22_, O83_u22_, O0_u22_, p23_1, p23_2⟩ := p23
  have Fu22 : ∀ k, 101 ≤ k → u22 k = τ k := fun k hk => (Fu22_ k hk).trans (Fτ k hk)
  have O83_u22 : u22 83 1 = τ 83 1 := O83_u22_.trans O83_τ
  have O0_u22 : u22 0 7 = τ 0 7 := O0_u22_.trans O0_τ
  exact sf_ret ⟨Iu22, Fu22, O83_u22, O0_u22, ti_lo _, ti_hi _⟩
set_option maxHeartbeats 4000000 in
set_option maxRecDepth 100000 in
theorem sl_X3_from_33 {F : Nat} (hF : 100000 ≤ F) {x1 : Int32} {x2 : Int32} {τ : Mem} (x1_1 : 0 ≤ x1.toInt) (x1_2 : x1.toInt ≤ 4) (x2_1 : 0 ≤ x2.toInt) (x2_2 : x2.toInt ≤ 7) : ∀ (N : Nat) (x4 : Int32) (σ : Mem), wiX σ → (∀ k, 101 ≤ k → σ k = τ k) → σ 83 1 = τ 83 1 → σ 0 7 = τ 0 7 → 1000 < x4.toInt + N → 0 ≤ x4.toInt → x4.toInt ≤ 1000 → sf (lp_X3_from_33 F x1 x2 N x4 σ) (fun r s => wiX s ∧ (∀ k, 101 ≤ k → s k = τ k) ∧ s 83 1 = τ 83 1 ∧ s 0 7 = τ 0 7 ∧ -2147483648 ≤ r.toInt ∧ r.toInt ≤ 2147483647) := by
  intro N
  induction N with
  | zero => intro x4 σ hI Fσ O83_σ O0_σ hN x4_1 x4_2; exfalso; omega
  | succ N ih =>
    intro x4 σ hI Fσ O83_σ O0_σ hN x4_1 x4_2
    rw [lp_X3_from_33_s]
    refine sf_ite (fun c1 => ?_) (fun c1 => ?_)
    · have C1 : (999 : Int) < x4.toInt := ti_lt c1
      exact sf_ret ⟨hI, Fσ, O83_σ, O0_σ, ti_lo _, ti_hi _⟩
    have C1 : x4.toInt ≤ (999 : Int) := ti_nlt c1
    refine sf_bnd (s_X0_holder hF wt_h1 hI (by omega) (by omega) (by omega) (by omega)) (fun r2 u3 p4 => ?_)
    obtain ⟨e9, p4_1, p4_2⟩ := p4
    have e9 := e9.symm
    subst e9
    refine sf_ite (fun c5 => ?_) (fun c5 => ?_)
    · have C5 : r2.toInt = x1.toInt := ti_eq c5
      exact sf_ret ⟨hI, Fσ, O83_σ, O0_σ, ti_lo _, ti_hi _⟩
    have C5 : ¬ r2.toInt = x1.toInt := ti_ne c5
    have t6 : (x4 + (1 : Int32)).toInt = x4.toInt + (1 : Int) := ti_add (show -2147483648 ≤ x4.toInt + (1 : Int) by omega) (show x4.toInt + (1 : Int) ≤ 2147483647 by omega)
    exact ih _ _ hI Fσ O83_σ O0_σ (by omega) (by omega) (by omega)
set_option maxHeartbeats 4000000 in
set_option maxRecDepth 100000 in
theorem s_X3_from {F : Nat} (hF : 100000 ≤ F) {x1 : Int32} {x2 : Int32} {τ : Mem} (hI : wiX τ) : sf (f_X3_from F x1 x2 τ) (fun r s => wiX s ∧ (∀ k, 101 ≤ k → s k = τ k) ∧ s 83 1 = τ 83 1 ∧ s 0 7 = τ 0 7 ∧ -2147483648 ≤ r.toInt ∧ r.toInt ≤ 2147483647) := by
  have Fτ : ∀ k, 101 ≤ k → τ k = τ k := fun _ _ => rfl
  have O83_τ : τ 83 1 = τ 83 1 := rfl
  have O0_τ : τ 0 7 = τ 0 7 := rfl
  rw [f_X3_from_e]
  have b1 := ti_lo x1
  have b2 := ti_hi x1
  refine sf_bnd (s_X3_noLooker hF hI) (fun r3 u4 p5 => ?_)
  obtain ⟨e9, p5⟩ := p5
  have e9 := e9.symm
  subst e9
  rcases p5 with ⟨rfl, q6, q7⟩ | p5
  · have b8 := ti_lo x2
    have b9 := ti_hi x2
    refine sf_bnd (s_X3_noView hF hI) (fun r10 u11 p12 => ?_)
    obtain ⟨e9, p12⟩ := p12
    have e9 := e9.symm
    subst e9
    rcases p12 with ⟨rfl, q13, q14⟩ | p12
    · refine sf_in ?_
      rw [f_X3_firstOf_e]
      refine sf_ite (fun c15 => ?_) (fun c15 => ?_)
      · have C15 : (0 : Int) = (0 : Int) := ti_eq c15
        refine sf_ret ?_
        refine sf_ite (fun c16 => ?_) (fun c16 => ?_)
        · have C16 : (0 : Int) = (0 : Int) := ti_eq c16
          refine sf_bnd (s_X0_reckon hF wt_h1 hI) (fun r17 u18 p19 => ?_)
          obtain ⟨Iu18, Fu18_, O83_u18_, O0_u18_, -⟩ := p19
          have Fu18 : ∀ k, 101 ≤ k → u18 k = τ k := fun k hk => (Fu18_ k hk).trans (Fτ k hk)
          have O83_u18 : u18 83 1 = τ 83 1 := O83_u18_.trans O83_τ
          have O0_u18 : u18 0 7 = τ 0 7 := O0_u18_.trans O0_τ
          have l_0 : (0 : Int32).toInt = 0 := rfl
          exact sl_X3_from_33 hF (by omega) (by omega) (by omega) (by omega) _ _ _ Iu18 Fu18 O83_u18 O0_u18 (by omega) (by decide) (by decide)
        have C16 : ¬ (0 : Int) = (0 : Int) := ti_ne c16
        exfalso; omega
      have C15 : ¬ (0 : Int) = (0 : Int) := ti_ne c15
      exfalso; omega
    obtain rfl := p12
    refine sf_in ?_
    rw [f_X3_firstOf_e]
    refine sf_ite (fun c20 => ?_) (fun c20 => ?_)
    · have C20 : (0 : Int) = (0 : Int) := ti_eq c20
      refine sf_ret ?_
      refine sf_ite (fun c21 => ?_) (fun c21 => ?_)
      · have C21 : (-1 : Int) = (0 : Int) := ti_eq c21
        exfalso; omega
      have C21 : ¬ (-1 : Int) = (0 : Int) := ti_ne c21
      refine sf_bnd (s_X3_refuse hF hI (by decide) (by decide)) (fun r22 u23 p24 => ?_)
      obtain ⟨Iu23, Fu23_, O83_u23_, O0_u23_, p24_1, p24_2⟩ := p24
      have Fu23 : ∀ k, 101 ≤ k → u23 k = τ k := fun k hk => (Fu23_ k hk).trans (Fτ k hk)
      have O83_u23 : u23 83 1 = τ 83 1 := O83_u23_.trans O83_τ
      have O0_u23 : u23 0 7 = τ 0 7 := O0_u23_.trans O0_τ
      exact sf_ret ⟨Iu23, Fu23, O83_u23, O0_u23, ti_lo _, ti_hi _⟩
    have C20 : ¬ (0 : Int) = (0 : Int) := ti_ne c20
    exfalso; omega
  obtain rfl := p5
  have b25 := ti_lo x2
  have b26 := ti_hi x2
  refine sf_bnd (s_X3_noView hF hI) (fun r27 u28 p29 => ?_)
  obtain ⟨e9, p29⟩ := p29
  have e9 := e9.symm
  subst e9
  rcases p29 with ⟨rfl, q30, q31⟩ | p29
  · refine sf_in ?_
    rw [f_X3_firstOf_e]
    refine sf_ite (fun c32 => ?_) (fun c32 => ?_)
    · have C32 : (-1 : Int) = (0 : Int) := ti_eq c32
      exfalso; omega
    have C32 : ¬ (-1 : Int) = (0 : Int) := ti_ne c32
    refine sf_ret ?_
    refine sf_ite (fun c33 => ?_) (fun c33 => ?_)
    · have C33 : (-1 : Int) = (0 : Int) := ti_eq c33
      exfalso; omega
    have C33 : ¬ (-1 : Int) = (0 : Int) := ti_ne c33
    refine sf_bnd (s_X3_refuse hF hI (by decide) (by decide)) (fun r34 u35 p36 => ?_)
    obtain ⟨Iu35, Fu35_, O83_u35_, O0_u35_, p36_1, p36_2⟩ := p36
    have Fu35 : ∀ k, 101 ≤ k → u35 k = τ k := fun k hk => (Fu35_ k hk).trans (Fτ k hk)
    have O83_u35 : u35 83 1 = τ 83 1 := O83_u35_.trans O83_τ
    have O0_u35 : u35 0 7 = τ 0 7 := O0_u35_.trans O0_τ
    exact sf_ret ⟨Iu35, Fu35, O83_u35, O0_u35, ti_lo _, ti_hi _⟩
  obtain rfl := p29
  refine sf_in ?_
  rw [f_X3_firstOf_e]
  refine sf_ite (fun c37 => ?_) (fun c37 => ?_)
  · have C37 : (-1 : Int) = (0 : Int) := ti_eq c37
    exfalso; omega
  have C37 : ¬ (-1 : Int) = (0 : Int) := ti_ne c37
  refine sf_ret ?_
  refine sf_ite (fun c38 => ?_) (fun c38 => ?_)
  · have C38 : (-1 : Int) = (0 : Int) := ti_eq c38
    exfalso; omega
  have C38 : ¬ (-1 : Int) = (0 : Int) := ti_ne c38
  refine sf_bnd (s_X3_refuse hF hI (by decide) (by decide)) (fun r39 u40 p41 => ?_)
  obtain ⟨Iu40, Fu40_, O83_u40_, O0_u40_, p41_1, p41_2⟩ := p41
  have Fu40 : ∀ k, 101 ≤ k → u40 k = τ k := fun k hk => (Fu40_ k hk).trans (Fτ k hk)
  have O83_u40 : u40 83 1 = τ 83 1 := O83_u40_.trans O83_τ
  have O0_u40 : u40 0 7 = τ 0 7 := O0_u40_.trans O0_τ
  exact sf_ret ⟨Iu40, Fu40, O83_u40, O0_u40, ti_lo _, ti_hi _⟩
set_option maxHeartbeats 4000000 in
set_option maxRecDepth 100000 in
theorem sl_X3_lost_45 {F : Nat} (hF : 100000 ≤ F) {x1 : Int32} {x2 : Int32} {τ : Mem} (x1_1 : 0 ≤ x1.toInt) (x1_2 : x1.toInt ≤ 7) : ∀ (N : Nat) (x3 : Int32) (σ : Mem), wiX σ → (∀ k, 101 ≤ k → σ k = τ k) → σ 83 1 = τ 83 1 → σ 0 7 = τ 0 7 → 1000 < x3.toInt + N → 1 ≤ x3.toInt → x3.toInt ≤ 1000 → sf (lp_X3_lost_45 F x1 x2 N x3 σ) (fun r s => wiX s ∧ (∀ k, 101 ≤ k → s k = τ k) ∧ s 83 1 = τ 83 1 ∧ s 0 7 = τ 0 7 ∧ -2147483648 ≤ r.toInt ∧ r.toInt ≤ 2147483647) := by
  intro N
  induction N with
  | zero => intro x3 σ hI Fσ O83_σ O0_σ hN x3_1 x3_2; exfalso; omega
  | succ N ih =>
    intro x3 σ hI Fσ O83_σ O0_σ hN x3_1 x3_2
    rw [lp_X3_lost_45_s]
    refine sf_ite (fun c1 => ?_) (fun c1 => ?_)
    · have C1 : (999 : Int) < x3.toInt := ti_lt c1
      exact sf_ret ⟨hI, Fσ, O83_σ, O0_σ, ti_lo _, ti_hi _⟩
    have C1 : x3.toInt ≤ (999 : Int) := ti_nlt c1
    refine sf_bnd (s_X0_holder hF wt_h1 hI (by omega) (by omega) (by omega) (by omega)) (fun r2 u3 p4 => ?_)
    obtain ⟨e9, p4_1, p4_2⟩ := p4
    have e9 := e9.symm
    subst e9
    have b5 := ti_lo x2
    have b6 := ti_hi x2
    refine sf_ite (fun c7 => ?_) (fun c7 => ?_)
    · have C7 : r2.toInt = x2.toInt := ti_eq c7
      have t8 : (x3 + (1 : Int32)).toInt = x3.toInt + (1 : Int) := ti_add (show -2147483648 ≤ x3.toInt + (1 : Int) by omega) (show x3.toInt + (1 : Int) ≤ 2147483647 by omega)
      exact ih _ _ hI Fσ O83_σ O0_σ (by omega) (by omega) (by omega)
    have C7 : ¬ r2.toInt = x2.toInt := ti_ne c7
    exact sf_ret ⟨hI, Fσ, O83_σ, O0_σ, ti_lo _, ti_hi _⟩
set_option maxHeartbeats 4000000 in
set_option maxRecDepth 100000 in
theorem s_X3_lost {F : Nat} (hF : 100000 ≤ F) {x1 : Int32} {τ : Mem} (hI : wiX τ) : sf (f_X3_lost F x1 τ) (fun r s => wiX s ∧ (∀ k, 101 ≤ k → s k = τ k) ∧ s 83 1 = τ 83 1 ∧ s 0 7 = τ 0 7 ∧ -2147483648 ≤ r.toInt ∧ r.toInt ≤ 2147483647) := by
  have Fτ : ∀ k, 101 ≤ k → τ k = τ k := fun _ _ => rfl
  have O83_τ : τ 83 1 = τ 83 1 := rfl
  have O0_τ : τ 0 7 = τ 0 7 := rfl
  rw [f_X3_lost_e]
  have b1 := ti_lo x1
  have b2 := ti_hi x1
  refine sf_bnd (s_X0_isView hF hI) (fun r3 u4 p5 => ?_)
  obtain ⟨e9, p5⟩ := p5
  have e9 := e9.symm
  subst e9
  rcases p5 with ⟨rfl, q6, q7⟩ | p5
  · refine sf_ite (fun c8 => ?_) (fun c8 => ?_)
    · have C8 : (1 : Int) = (0 : Int) := ti_eq c8
      exfalso; omega
    have C8 : ¬ (1 : Int) = (0 : Int) := ti_ne c8
    refine sf_bnd (s_X0_reckon hF wt_h1 hI) (fun r9 u10 p11 => ?_)
    obtain ⟨Iu10, Fu10_, O83_u10_, O0_u10_, -⟩ := p11
    have Fu10 : ∀ k, 101 ≤ k → u10 k = τ k := fun k hk => (Fu10_ k hk).trans (Fτ k hk)
    have O83_u10 : u10 83 1 = τ 83 1 := O83_u10_.trans O83_τ
    have O0_u10 : u10 0 7 = τ 0 7 := O0_u10_.trans O0_τ
    refine sf_bnd (s_X0_holder hF wt_h1 Iu10 (by omega) (by omega) (by decide) (by decide)) (fun r12 u13 p14 => ?_)
    obtain ⟨e9, p14_1, p14_2⟩ := p14
    have e9 := e9.symm
    subst e9
    refine sf_ite (fun c15 => ?_) (fun c15 => ?_)
    · have C15 : r12.toInt = (-9 : Int) := ti_eq c15
      refine sf_bnd (s_X3_refuse hF Iu10 (by decide) (by decide)) (fun r16 u17 p18 => ?_)
      obtain ⟨Iu17, Fu17_, O83_u17_, O0_u17_, p18_1, p18_2⟩ := p18
      have Fu17 : ∀ k, 101 ≤ k → u17 k = τ k := fun k hk => (Fu17_ k hk).trans (Fu10 k hk)
      have O83_u17 : u17 83 1 = τ 83 1 := O83_u17_.trans O83_u10
      have O0_u17 : u17 0 7 = τ 0 7 := O0_u17_.trans O0_u10
      exact sf_ret ⟨Iu17, Fu17, O83_u17, O0_u17, ti_lo _, ti_hi _⟩
    have C15 : ¬ r12.toInt = (-9 : Int) := ti_ne c15
    have l_1 : (1 : Int32).toInt = 1 := rfl
    exact sl_X3_lost_45 hF (by omega) (by omega) _ _ _ Iu10 Fu10 O83_u10 O0_u10 (by omega) (by decide) (by decide)
  obtain rfl := p5
  refine sf_ite (fun c19 => ?_) (fun c19 => ?_)
  · have C19 : (0 : Int) = (0 : Int) := ti_eq c19
    refine sf_bnd (s_X3_refuse hF hI (by decide) (by decide)) (fun r20 u21 p22 => ?_)
    obtain ⟨Iu21, Fu21_, O83_u21_, O0_u21_, p22_1, p22_2⟩ := p22
    have Fu21 : ∀ k, 101 ≤ k → u21 k = τ k := fun k hk => (Fu21_ k hk).trans (Fτ k hk)
    have O83_u21 : u21 83 1 = τ 83 1 := O83_u21_.trans O83_τ
    have O0_u21 : u21 0 7 = τ 0 7 := O0_u21_.trans O0_τ
    exact sf_ret ⟨Iu21, Fu21, O83_u21, O0_u21, ti_lo _, ti_hi _⟩
  have C19 : ¬ (0 : Int) = (0 : Int) := ti_ne c19
  exfalso; omega
set_option maxHeartbeats 4000000 in
set_option maxRecDepth 100000 in
theorem s_X3_richest {F : Nat} (hF : 100000 ≤ F) {x1 : Int32} {x2 : Int32} {τ : Mem} (hI : wiX τ) : sf (f_X3_richest F x1 x2 τ) (fun r s => wiX s ∧ (∀ k, 101 ≤ k → s k = τ k) ∧ s 83 1 = τ 83 1 ∧ s 0 7 = τ 0 7 ∧ -2147483648 ≤ r.toInt ∧ r.toInt ≤ 2147483647) := by
  have Fτ : ∀ k, 101 ≤ k → τ k = τ k := fun _ _ => rfl
  have O83_τ : τ 83 1 = τ 83 1 := rfl
  have O0_τ : τ 0 7 = τ 0 7 := rfl
  rw [f_X3_richest_e]
  refine sf_in ?_
  rw [f_X3_outside_e]
  have b1 := ti_lo x1
  have b2 := ti_hi x1
  refine sf_ite (fun c3 => ?_) (fun c3 => ?_)
  · have C3 : (0 : Int) ≤ x1.toInt := ti_le c3
    refine sf_ite (fun c4 => ?_) (fun c4 => ?_)
    · have C4 : x1.toInt ≤ (999 : Int) := ti_le c4
      refine sf_ret ?_
      refine sf_in ?_
      rw [f_X3_notBelow_e]
      have b5 := ti_lo x2
      have b6 := ti_hi x2
      refine sf_ite (fun c7 => ?_) (fun c7 => ?_)
      · have C7 : x2.toInt < (0 : Int) := ti_lt c7
        rw [j_X3_notBelow_13_e]
        refine sf_ret ?_
        refine sf_in ?_
        rw [f_X3_firstOf_e]
        refine sf_ite (fun c8 => ?_) (fun c8 => ?_)
        · have C8 : (0 : Int) = (0 : Int) := ti_eq c8
          refine sf_ret ?_
          refine sf_ite (fun c9 => ?_) (fun c9 => ?_)
          · have C9 : (-2 : Int) = (0 : Int) := ti_eq c9
            exfalso; omega
          have C9 : ¬ (-2 : Int) = (0 : Int) := ti_ne c9
          refine sf_bnd (s_X3_refuse hF hI (by decide) (by decide)) (fun r10 u11 p12 => ?_)
          obtain ⟨Iu11, Fu11_, O83_u11_, O0_u11_, p12_1, p12_2⟩ := p12
          have Fu11 : ∀ k, 101 ≤ k → u11 k = τ k := fun k hk => (Fu11_ k hk).trans (Fτ k hk)
          have O83_u11 : u11 83 1 = τ 83 1 := O83_u11_.trans O83_τ
          have O0_u11 : u11 0 7 = τ 0 7 := O0_u11_.trans O0_τ
          exact sf_ret ⟨Iu11, Fu11, O83_u11, O0_u11, ti_lo _, ti_hi _⟩
        have C8 : ¬ (0 : Int) = (0 : Int) := ti_ne c8
        exfalso; omega
      have C7 : (0 : Int) ≤ x2.toInt := ti_nlt c7
      refine sf_ite (fun c13 => ?_) (fun c13 => ?_)
      · have C13 : (2 : Int) ≤ x2.toInt := ti_le c13
        rw [j_X3_notBelow_13_e]
        refine sf_ret ?_
        refine sf_in ?_
        rw [f_X3_firstOf_e]
        refine sf_ite (fun c14 => ?_) (fun c14 => ?_)
        · have C14 : (0 : Int) = (0 : Int) := ti_eq c14
          refine sf_ret ?_
          refine sf_ite (fun c15 => ?_) (fun c15 => ?_)
          · have C15 : (-2 : Int) = (0 : Int) := ti_eq c15
            exfalso; omega
          have C15 : ¬ (-2 : Int) = (0 : Int) := ti_ne c15
          refine sf_bnd (s_X3_refuse hF hI (by decide) (by decide)) (fun r16 u17 p18 => ?_)
          obtain ⟨Iu17, Fu17_, O83_u17_, O0_u17_, p18_1, p18_2⟩ := p18
          have Fu17 : ∀ k, 101 ≤ k → u17 k = τ k := fun k hk => (Fu17_ k hk).trans (Fτ k hk)
          have O83_u17 : u17 83 1 = τ 83 1 := O83_u17_.trans O83_τ
          have O0_u17 : u17 0 7 = τ 0 7 := O0_u17_.trans O0_τ
          exact sf_ret ⟨Iu17, Fu17, O83_u17, O0_u17, ti_lo _, ti_hi _⟩
        have C14 : ¬ (0 : Int) = (0 : Int) := ti_ne c14
        exfalso; omega
      have C13 : x2.toInt < (2 : Int) := ti_nle c13
      refine sf_ret ?_
      refine sf_in ?_
      rw [f_X3_firstOf_e]
      refine sf_ite (fun c19 => ?_) (fun c19 => ?_)
      · have C19 : (0 : Int) = (0 : Int) := ti_eq c19
        refine sf_ret ?_
        refine sf_ite (fun c20 => ?_) (fun c20 => ?_)
        · have C20 : (0 : Int) = (0 : Int) := ti_eq c20
          refine sf_bnd (s_X0_reckon hF wt_h1 hI) (fun r21 u22 p23 => ?_)
          obtain ⟨Iu22, Fu22_, O83_u22_, O0_u22_, -⟩ := p23
          have Fu22 : ∀ k, 101 ≤ k → u22 k = τ k := fun k hk => (Fu22_ k hk).trans (Fτ k hk)
          have O83_u22 : u22 83 1 = τ 83 1 := O83_u22_.trans O83_τ
          have O0_u22 : u22 0 7 = τ 0 7 := O0_u22_.trans O0_τ
          refine sf_bnd (s_X0_wealthiest hF wt_h1 Iu22 (by omega) (by omega)) (fun r24 u25 p26 => ?_)
          obtain ⟨e9, p26_1, p26_2⟩ := p26
          have e9 := e9.symm
          subst e9
          refine sf_ite (fun c27 => ?_) (fun c27 => ?_)
          · have C27 : x2.toInt = (0 : Int) := ti_eq c27
            rw [j_X3_richest_55_e]
            exact sf_ret ⟨Iu22, Fu22, O83_u22, O0_u22, ti_lo _, ti_hi _⟩
          have C27 : ¬ x2.toInt = (0 : Int) := ti_ne c27
          refine sf_ite (fun c28 => ?_) (fun c28 => ?_)
          · have C28 : r24.toInt = (-9 : Int) := ti_eq c28
            rw [j_X3_richest_55_e]
            exact sf_ret ⟨Iu22, Fu22, O83_u22, O0_u22, ti_lo _, ti_hi _⟩
          have C28 : ¬ r24.toInt = (-9 : Int) := ti_ne c28
          refine sf_bnd (s_X0_wealth hF wt_h1 Iu22 (by omega) (by omega)) (fun r29 u30 p31 => ?_)
          obtain ⟨e9, p31_1, p31_2⟩ := p31
          have e9 := e9.symm
          subst e9
          have b32 := ti_lo r29
          have b33 := ti_hi r29
          exact sf_ret ⟨Iu22, Fu22, O83_u22, O0_u22, ti_lo _, ti_hi _⟩
        have C20 : ¬ (0 : Int) = (0 : Int) := ti_ne c20
        exfalso; omega
      have C19 : ¬ (0 : Int) = (0 : Int) := ti_ne c19
      exfalso; omega
    have C4 : (999 : Int) < x1.toInt := ti_nle c4
    refine sf_ret ?_
    refine sf_in ?_
    rw [f_X3_notBelow_e]
    have b34 := ti_lo x2
    have b35 := ti_hi x2
    refine sf_ite (fun c36 => ?_) (fun c36 => ?_)
    · have C36 : x2.toInt < (0 : Int) := ti_lt c36
      rw [j_X3_notBelow_13_e]
      refine sf_ret ?_
      refine sf_in ?_
      rw [f_X3_firstOf_e]
      refine sf_ite (fun c37 => ?_) (fun c37 => ?_)
      · have C37 : (-6 : Int) = (0 : Int) := ti_eq c37
        exfalso; omega
      have C37 : ¬ (-6 : Int) = (0 : Int) := ti_ne c37
      refine sf_ret ?_
      refine sf_ite (fun c38 => ?_) (fun c38 => ?_)
      · have C38 : (-6 : Int) = (0 : Int) := ti_eq c38
        exfalso; omega
      have C38 : ¬ (-6 : Int) = (0 : Int) := ti_ne c38
      refine sf_bnd (s_X3_refuse hF hI (by decide) (by decide)) (fun r39 u40 p41 => ?_)
      obtain ⟨Iu40, Fu40_, O83_u40_, O0_u40_, p41_1, p41_2⟩ := p41
      have Fu40 : ∀ k, 101 ≤ k → u40 k = τ k := fun k hk => (Fu40_ k hk).trans (Fτ k hk)
      have O83_u40 : u40 83 1 = τ 83 1 := O83_u40_.trans O83_τ
      have O0_u40 : u40 0 7 = τ 0 7 := O0_u40_.trans O0_τ
      exact sf_ret ⟨Iu40, Fu40, O83_u40, O0_u40, ti_lo _, ti_hi _⟩
    have C36 : (0 : Int) ≤ x2.toInt := ti_nlt c36
    refine sf_ite (fun c42 => ?_) (fun c42 => ?_)
    · have C42 : (2 : Int) ≤ x2.toInt := ti_le c42
      rw [j_X3_notBelow_13_e]
      refine sf_ret ?_
      refine sf_in ?_
      rw [f_X3_firstOf_e]
      refine sf_ite (fun c43 => ?_) (fun c43 => ?_)
      · have C43 : (-6 : Int) = (0 : Int) := ti_eq c43
        exfalso; omega
      have C43 : ¬ (-6 : Int) = (0 : Int) := ti_ne c43
      refine sf_ret ?_
      refine sf_ite (fun c44 => ?_) (fun c44 => ?_)
      · have C44 : (-6 : Int) = (0 : Int) := ti_eq c44
        exfalso; omega
      have C44 : ¬ (-6 : Int) = (0 : Int) := ti_ne c44
      refine sf_bnd (s_X3_refuse hF hI (by decide) (by decide)) (fun r45 u46 p47 => ?_)
      obtain ⟨Iu46, Fu46_, O83_u46_, O0_u46_, p47_1, p47_2⟩ := p47
      have Fu46 : ∀ k, 101 ≤ k → u46 k = τ k := fun k hk => (Fu46_ k hk).trans (Fτ k hk)
      have O83_u46 : u46 83 1 = τ 83 1 := O83_u46_.trans O83_τ
      have O0_u46 : u46 0 7 = τ 0 7 := O0_u46_.trans O0_τ
      exact sf_ret ⟨Iu46, Fu46, O83_u46, O0_u46, ti_lo _, ti_hi _⟩
    have C42 : x2.toInt < (2 : Int) := ti_nle c42
    refine sf_ret ?_
    refine sf_in ?_
    rw [f_X3_firstOf_e]
    refine sf_ite (fun c48 => ?_) (fun c48 => ?_)
    · have C48 : (-6 : Int) = (0 : Int) := ti_eq c48
      exfalso; omega
    have C48 : ¬ (-6 : Int) = (0 : Int) := ti_ne c48
    refine sf_ret ?_
    refine sf_ite (fun c49 => ?_) (fun c49 => ?_)
    · have C49 : (-6 : Int) = (0 : Int) := ti_eq c49
      exfalso; omega
    have C49 : ¬ (-6 : Int) = (0 : Int) := ti_ne c49
    refine sf_bnd (s_X3_refuse hF hI (by decide) (by decide)) (fun r50 u51 p52 => ?_)
    obtain ⟨Iu51, Fu51_, O83_u51_, O0_u51_, p52_1, p52_2⟩ := p52
    have Fu51 : ∀ k, 101 ≤ k → u51 k = τ k := fun k hk => (Fu51_ k hk).trans (Fτ k hk)
    have O83_u51 : u51 83 1 = τ 83 1 := O83_u51_.trans O83_τ
    have O0_u51 : u51 0 7 = τ 0 7 := O0_u51_.trans O0_τ
    exact sf_ret ⟨Iu51, Fu51, O83_u51, O0_u51, ti_lo _, ti_hi _⟩
  have C3 : x1.toInt < (0 : Int) := ti_nle c3
  refine sf_ret ?_
  refine sf_in ?_
  rw [f_X3_notBelow_e]
  have b53 := ti_lo x2
  have b54 := ti_hi x2
  refine sf_ite (fun c55 => ?_) (fun c55 => ?_)
  · have C55 : x2.toInt < (0 : Int) := ti_lt c55
    rw [j_X3_notBelow_13_e]
    refine sf_ret ?_
    refine sf_in ?_
    rw [f_X3_firstOf_e]
    refine sf_ite (fun c56 => ?_) (fun c56 => ?_)
    · have C56 : (-4 : Int) = (0 : Int) := ti_eq c56
      exfalso; omega
    have C56 : ¬ (-4 : Int) = (0 : Int) := ti_ne c56
    refine sf_ret ?_
    refine sf_ite (fun c57 => ?_) (fun c57 => ?_)
    · have C57 : (-4 : Int) = (0 : Int) := ti_eq c57
      exfalso; omega
    have C57 : ¬ (-4 : Int) = (0 : Int) := ti_ne c57
    refine sf_bnd (s_X3_refuse hF hI (by decide) (by decide)) (fun r58 u59 p60 => ?_)
    obtain ⟨Iu59, Fu59_, O83_u59_, O0_u59_, p60_1, p60_2⟩ := p60
    have Fu59 : ∀ k, 101 ≤ k → u59 k = τ k := fun k hk => (Fu59_ k hk).trans (Fτ k hk)
    have O83_u59 : u59 83 1 = τ 83 1 := O83_u59_.trans O83_τ
    have O0_u59 : u59 0 7 = τ 0 7 := O0_u59_.trans O0_τ
    exact sf_ret ⟨Iu59, Fu59, O83_u59, O0_u59, ti_lo _, ti_hi _⟩
  have C55 : (0 : Int) ≤ x2.toInt := ti_nlt c55
  refine sf_ite (fun c61 => ?_) (fun c61 => ?_)
  · have C61 : (2 : Int) ≤ x2.toInt := ti_le c61
    rw [j_X3_notBelow_13_e]
    refine sf_ret ?_
    refine sf_in ?_
    rw [f_X3_firstOf_e]
    refine sf_ite (fun c62 => ?_) (fun c62 => ?_)
    · have C62 : (-4 : Int) = (0 : Int) := ti_eq c62
      exfalso; omega
    have C62 : ¬ (-4 : Int) = (0 : Int) := ti_ne c62
    refine sf_ret ?_
    refine sf_ite (fun c63 => ?_) (fun c63 => ?_)
    · have C63 : (-4 : Int) = (0 : Int) := ti_eq c63
      exfalso; omega
    have C63 : ¬ (-4 : Int) = (0 : Int) := ti_ne c63
    refine sf_bnd (s_X3_refuse hF hI (by decide) (by decide)) (fun r64 u65 p66 => ?_)
    obtain ⟨Iu65, Fu65_, O83_u65_, O0_u65_, p66_1, p66_2⟩ := p66
    have Fu65 : ∀ k, 101 ≤ k → u65 k = τ k := fun k hk => (Fu65_ k hk).trans (Fτ k hk)
    have O83_u65 : u65 83 1 = τ 83 1 := O83_u65_.trans O83_τ
    have O0_u65 : u65 0 7 = τ 0 7 := O0_u65_.trans O0_τ
    exact sf_ret ⟨Iu65, Fu65, O83_u65, O0_u65, ti_lo _, ti_hi _⟩
  have C61 : x2.toInt < (2 : Int) := ti_nle c61
  refine sf_ret ?_
  refine sf_in ?_
  rw [f_X3_firstOf_e]
  refine sf_ite (fun c67 => ?_) (fun c67 => ?_)
  · have C67 : (-4 : Int) = (0 : Int) := ti_eq c67
    exfalso; omega
  have C67 : ¬ (-4 : Int) = (0 : Int) := ti_ne c67
  refine sf_ret ?_
  refine sf_ite (fun c68 => ?_) (fun c68 => ?_)
  · have C68 : (-4 : Int) = (0 : Int) := ti_eq c68
    exfalso; omega
  have C68 : ¬ (-4 : Int) = (0 : Int) := ti_ne c68
  refine sf_bnd (s_X3_refuse hF hI (by decide) (by decide)) (fun r69 u70 p71 => ?_)
  obtain ⟨Iu70, Fu70_, O83_u70_, O0_u70_, p71_1, p71_2⟩ := p71
  have Fu70 : ∀ k, 101 ≤ k → u70 k = τ k := fun k hk => (Fu70_ k hk).trans (Fτ k hk)
  have O83_u70 : u70 83 1 = τ 83 1 := O83_u70_.trans O83_τ
  have O0_u70 : u70 0 7 = τ 0 7 := O0_u70_.trans O0_τ
  exact sf_ret ⟨Iu70, Fu70, O83_u70, O0_u70, ti_lo _, ti_hi _⟩
set_option maxHeartbeats 4000000 in
set_option maxRecDepth 100000 in
theorem s_X3_staredOut {F : Nat} (hF : 100000 ≤ F) {x1 : Int32} {x2 : Int32} {x3 : Int32} {τ : Mem} (hI : wiX τ) : sf (f_X3_staredOut F x1 x2 x3 τ) (fun r s => wiX s ∧ (∀ k, 101 ≤ k → s k = τ k) ∧ s 83 1 = τ 83 1 ∧ s 0 7 = τ 0 7 ∧ -2147483648 ≤ r.toInt ∧ r.toInt ≤ 2147483647) := by
  have Fτ : ∀ k, 101 ≤ k → τ k = τ k := fun _ _ => rfl
  have O83_τ : τ 83 1 = τ 83 1 := rfl
  have O0_τ : τ 0 7 = τ 0 7 := rfl
  rw [f_X3_staredOut_e]
  have b1 := ti_lo x1
  have b2 := ti_hi x1
  have b3 := ti_lo x2
  have b4 := ti_hi x2
  have b5 := ti_lo x3
  have b6 := ti_hi x3
  refine sf_bnd (s_X3_noPairFar hF hI) (fun r7 u8 p9 => ?_)
  obtain ⟨e9, p9⟩ := p9
  have e9 := e9.symm
  subst e9
  rcases p9 with ⟨rfl, q10, q11, q12, q13, q14, q15⟩ | p9
  · refine sf_ite (fun c16 => ?_) (fun c16 => ?_)
    · have C16 : (0 : Int) = (0 : Int) := ti_eq c16
      refine sf_bnd (s_X0_reckon hF wt_h1 hI) (fun r17 u18 p19 => ?_)
      obtain ⟨Iu18, Fu18_, O83_u18_, O0_u18_, -⟩ := p19
      have Fu18 : ∀ k, 101 ≤ k → u18 k = τ k := fun k hk => (Fu18_ k hk).trans (Fτ k hk)
      have O83_u18 : u18 83 1 = τ 83 1 := O83_u18_.trans O83_τ
      have O0_u18 : u18 0 7 = τ 0 7 := O0_u18_.trans O0_τ
      refine sf_bnd (s_X0_holdings hF wt_h1 Iu18 (by omega) (by omega) (by decide) (by decide)) (fun r20 u21 p22 => ?_)
      obtain ⟨e9, p22_1, p22_2⟩ := p22
      have e9 := e9.symm
      subst e9
      refine sf_bnd (s_X0_holdings hF wt_h1 Iu18 (by omega) (by omega) (by omega) (by omega)) (fun r23 u24 p25 => ?_)
      obtain ⟨e9, p25_1, p25_2⟩ := p25
      have e9 := e9.symm
      subst e9
      have b26 := ti_lo (r20 &&& r23)
      have b27 := ti_hi (r20 &&& r23)
      exact sf_ret ⟨Iu18, Fu18, O83_u18, O0_u18, ti_lo _, ti_hi _⟩
    have C16 : ¬ (0 : Int) = (0 : Int) := ti_ne c16
    exfalso; omega
  rcases p9 with rfl | p9
  · refine sf_ite (fun c28 => ?_) (fun c28 => ?_)
    · have C28 : (-1 : Int) = (0 : Int) := ti_eq c28
      exfalso; omega
    have C28 : ¬ (-1 : Int) = (0 : Int) := ti_ne c28
    refine sf_bnd (s_X3_refuse hF hI (by decide) (by decide)) (fun r29 u30 p31 => ?_)
    obtain ⟨Iu30, Fu30_, O83_u30_, O0_u30_, p31_1, p31_2⟩ := p31
    have Fu30 : ∀ k, 101 ≤ k → u30 k = τ k := fun k hk => (Fu30_ k hk).trans (Fτ k hk)
    have O83_u30 : u30 83 1 = τ 83 1 := O83_u30_.trans O83_τ
    have O0_u30 : u30 0 7 = τ 0 7 := O0_u30_.trans O0_τ
    exact sf_ret ⟨Iu30, Fu30, O83_u30, O0_u30, ti_lo _, ti_hi _⟩
  rcases p9 with rfl | p9
  · refine sf_ite (fun c32 => ?_) (fun c32 => ?_)
    · have C32 : (-4 : Int) = (0 : Int) := ti_eq c32
      exfalso; omega
    have C32 : ¬ (-4 : Int) = (0 : Int) := ti_ne c32
    refine sf_bnd (s_X3_refuse hF hI (by decide) (by decide)) (fun r33 u34 p35 => ?_)
    obtain ⟨Iu34, Fu34_, O83_u34_, O0_u34_, p35_1, p35_2⟩ := p35
    have Fu34 : ∀ k, 101 ≤ k → u34 k = τ k := fun k hk => (Fu34_ k hk).trans (Fτ k hk)
    have O83_u34 : u34 83 1 = τ 83 1 := O83_u34_.trans O83_τ
    have O0_u34 : u34 0 7 = τ 0 7 := O0_u34_.trans O0_τ
    exact sf_ret ⟨Iu34, Fu34, O83_u34, O0_u34, ti_lo _, ti_hi _⟩
  obtain rfl := p9
  refine sf_ite (fun c36 => ?_) (fun c36 => ?_)
  · have C36 : (-6 : Int) = (0 : Int) := ti_eq c36
    exfalso; omega
  have C36 : ¬ (-6 : Int) = (0 : Int) := ti_ne c36
  refine sf_bnd (s_X3_refuse hF hI (by decide) (by decide)) (fun r37 u38 p39 => ?_)
  obtain ⟨Iu38, Fu38_, O83_u38_, O0_u38_, p39_1, p39_2⟩ := p39
  have Fu38 : ∀ k, 101 ≤ k → u38 k = τ k := fun k hk => (Fu38_ k hk).trans (Fτ k hk)
  have O83_u38 : u38 83 1 = τ 83 1 := O83_u38_.trans O83_τ
  have O0_u38 : u38 0 7 = τ 0 7 := O0_u38_.trans O0_τ
  exact sf_ret ⟨Iu38, Fu38, O83_u38, O0_u38, ti_lo _, ti_hi _⟩
set_option maxHeartbeats 4000000 in
set_option maxRecDepth 100000 in
theorem sl_X3_hoursUntilOwned_33 {F : Nat} (hF : 100000 ≤ F) {x1 : Int32} {x2 : Int32} {x3 : Int32} {x5 : Int32} {k25 : Int32 → Int32 → Mem → Option (Int32 × Mem)} {τ : Mem} (x1_1 : 0 ≤ x1.toInt) (x1_2 : x1.toInt ≤ 4) (x2_1 : 0 ≤ x2.toInt) (x2_2 : x2.toInt ≤ 7) (x3_1 : 1 ≤ x3.toInt) (x3_2 : x3.toInt ≤ 999) (x5_1 : 1 ≤ x5.toInt) (x5_2 : x5.toInt ≤ 10) {N25 : Nat} (hM25 : x5.toInt < (N25 + 1)) (hk25 : ∀ (x4 : Int32) (x5 : Int32) (σ : Mem), wiX σ → (∀ k, 101 ≤ k → σ k = τ k) → σ 83 1 = τ 83 1 → σ 0 7 = τ 0 7 → x5.toInt < N25 → 0 ≤ x5.toInt → x5.toInt ≤ 10 → sf (k25 x4 x5 σ) (fun r s => wiX s ∧ (∀ k, 101 ≤ k → s k = τ k) ∧ s 83 1 = τ 83 1 ∧ s 0 7 = τ 0 7 ∧ -2147483648 ≤ r.toInt ∧ r.toInt ≤ 2147483647)) : ∀ (N : Nat) (x4 : Int32) (x6 : Int32) (σ : Mem), wiX σ → (∀ k, 101 ≤ k → σ k = τ k) → σ 83 1 = τ 83 1 → σ 0 7 = τ 0 7 → 24 < x6.toInt + N → 0 ≤ x6.toInt → x6.toInt ≤ 24 → sf (lp_X3_hoursUntilOwned_33 F k25 x1 x2 x3 x5 N x4 x6 σ) (fun r s => wiX s ∧ (∀ k, 101 ≤ k → s k = τ k) ∧ s 83 1 = τ 83 1 ∧ s 0 7 = τ 0 7 ∧ -2147483648 ≤ r.toInt ∧ r.toInt ≤ 2147483647) := by
  intro N
  induction N with
  | zero => intro x4 x6 σ hI Fσ O83_σ O0_σ hN x6_1 x6_2; exfalso; omega
  | succ N ih =>
    intro x4 x6 σ hI Fσ O83_σ O0_σ hN x6_1 x6_2
    rw [lp_X3_hoursUntilOwned_33_s]
    refine sf_ite (fun c1 => ?_) (fun c1 => ?_)
    · have C1 : (24 : Int) ≤ x6.toInt := ti_le c1
      have b2 := ti_lo x4
      have b3 := ti_hi x4
      have t4 : (x5 + (-1 : Int32)).toInt = x5.toInt + (-1 : Int) := ti_add (show -2147483648 ≤ x5.toInt + (-1 : Int) by omega) (show x5.toInt + (-1 : Int) ≤ 2147483647 by omega)
      exact hk25 _ _ _ hI Fσ O83_σ O0_σ (by omega) (by omega) (by omega)
    have C1 : x6.toInt < (24 : Int) := ti_nle c1
    refine sf_chk (ti_in (by omega) (by omega)) ?_
    have v5 : Int32.toNatClampNeg x1 = x1.toInt.toNat := rfl
    refine sf_chk (ti_in (by omega) (by omega)) ?_
    have v6 : Int32.toNatClampNeg x6 = x6.toInt.toNat := rfl
    have b7 := ti_lo (σ ((1 + 5) + (Int32.toNatClampNeg x1)) (Int32.toNatClampNeg x6))
    have b8 := ti_hi (σ ((1 + 5) + (Int32.toNatClampNeg x1)) (Int32.toNatClampNeg x6))
    refine sf_ite (fun c9 => ?_) (fun c9 => ?_)
    · have C9 : (σ ((1 + 5) + (Int32.toNatClampNeg x1)) (Int32.toNatClampNeg x6)).toInt = (9 : Int) := ti_eq c9
      refine sf_bnd (s_X0_pull hF wt_h1 hI (by omega) (by omega) (by omega) (by omega)) (fun r10 u11 p12 => ?_)
      obtain ⟨e9, p12_1, p12_2⟩ := p12
      have e9 := e9.symm
      subst e9
      have b13 := ti_lo r10
      have b14 := ti_hi r10
      refine sf_ite (fun c15 => ?_) (fun c15 => ?_)
      · have C15 : r10.toInt = x5.toInt := ti_eq c15
        refine sf_chk (ti_in (by omega) (by omega)) ?_
        have v16 : Int32.toNatClampNeg x2 = x2.toInt.toNat := rfl
        refine sf_lt (fun s17 hs17 => ?_)
        have Is17 : wiX s17 := by rw [hs17]; exact wx_oth hI (fun q hq e => by have := wt_Hcs hq; omega) (fun e => by omega) (fun e => by omega) (fun e => by omega)
        have Fs17 : ∀ k, 101 ≤ k → s17 k = τ k := fun k hk => (show s17 k = σ k by rw [hs17, up2_k (by omega)]).trans (Fσ k hk)
        have O83_s17 : s17 83 1 = τ 83 1 := (show s17 83 1 = σ 83 1 by rw [hs17, up2_k (by omega)]).trans O83_σ
        have O0_s17 : s17 0 7 = τ 0 7 := (show s17 0 7 = σ 0 7 by rw [hs17, up2_k (by omega)]).trans O0_σ
        refine sf_bnd (s_X0_holder hF wt_h24 Is17 (by omega) (by omega) (by omega) (by omega)) (fun r18 u19 p20 => ?_)
        obtain ⟨e9, p20_1, p20_2⟩ := p20
        have e9 := e9.symm
        subst e9
        refine sf_ite (fun c21 => ?_) (fun c21 => ?_)
        · have C21 : r18.toInt = x1.toInt := ti_eq c21
          have b22 := ti_lo x4
          have b23 := ti_hi x4
          have b24 := ti_lo (x4 + (1 : Int32))
          have b25 := ti_hi (x4 + (1 : Int32))
          exact sf_ret ⟨Is17, Fs17, O83_s17, O0_s17, ti_lo _, ti_hi _⟩
        have C21 : ¬ r18.toInt = x1.toInt := ti_ne c21
        rw [j_X3_hoursUntilOwned_107_e]
        have b26 := ti_lo x4
        have b27 := ti_hi x4
        have b28 := ti_lo (x4 + (1 : Int32))
        have b29 := ti_hi (x4 + (1 : Int32))
        have t30 : (x6 + (1 : Int32)).toInt = x6.toInt + (1 : Int) := ti_add (show -2147483648 ≤ x6.toInt + (1 : Int) by omega) (show x6.toInt + (1 : Int) ≤ 2147483647 by omega)
        exact ih _ _ _ Is17 Fs17 O83_s17 O0_s17 (by omega) (by omega) (by omega)
      have C15 : ¬ r10.toInt = x5.toInt := ti_ne c15
      rw [j_X3_hoursUntilOwned_107_e]
      have b31 := ti_lo x4
      have b32 := ti_hi x4
      have t33 : (x6 + (1 : Int32)).toInt = x6.toInt + (1 : Int) := ti_add (show -2147483648 ≤ x6.toInt + (1 : Int) by omega) (show x6.toInt + (1 : Int) ≤ 2147483647 by omega)
      exact ih _ _ _ hI Fσ O83_σ O0_σ (by omega) (by omega) (by omega)
    have C9 : ¬ (σ ((1 + 5) + (Int32.toNatClampNeg x1)) (Int32.toNatClampNeg x6)).toInt = (9 : Int) := ti_ne c9
    rw [j_X3_hoursUntilOwned_107_e]
    have b34 := ti_lo x4
    have b35 := ti_hi x4
    have t36 : (x6 + (1 : Int32)).toInt = x6.toInt + (1 : Int) := ti_add (show -2147483648 ≤ x6.toInt + (1 : Int) by omega) (show x6.toInt + (1 : Int) ≤ 2147483647 by omega)
    exact ih _ _ _ hI Fσ O83_σ O0_σ (by omega) (by omega) (by omega)
set_option maxHeartbeats 4000000 in
set_option maxRecDepth 100000 in
theorem sl_X3_hoursUntilOwned_25 {F : Nat} (hF : 100000 ≤ F) {x1 : Int32} {x2 : Int32} {x3 : Int32} {τ : Mem} (x1_1 : 0 ≤ x1.toInt) (x1_2 : x1.toInt ≤ 4) (x2_1 : 0 ≤ x2.toInt) (x2_2 : x2.toInt ≤ 7) (x3_1 : 1 ≤ x3.toInt) (x3_2 : x3.toInt ≤ 999) : ∀ (N : Nat) (x4 : Int32) (x5 : Int32) (σ : Mem), wiX σ → (∀ k, 101 ≤ k → σ k = τ k) → σ 83 1 = τ 83 1 → σ 0 7 = τ 0 7 → x5.toInt < N → 0 ≤ x5.toInt → x5.toInt ≤ 10 → sf (lp_X3_hoursUntilOwned_25 F x1 x2 x3 N x4 x5 σ) (fun r s => wiX s ∧ (∀ k, 101 ≤ k → s k = τ k) ∧ s 83 1 = τ 83 1 ∧ s 0 7 = τ 0 7 ∧ -2147483648 ≤ r.toInt ∧ r.toInt ≤ 2147483647) := by
  intro N
  induction N with
  | zero => intro x4 x5 σ hI Fσ O83_σ O0_σ hN x5_1 x5_2; exfalso; omega
  | succ N ih =>
    intro x4 x5 σ hI Fσ O83_σ O0_σ hN x5_1 x5_2
    rw [lp_X3_hoursUntilOwned_25_s]
    refine sf_ite (fun c1 => ?_) (fun c1 => ?_)
    · have C1 : x5.toInt ≤ (0 : Int) := ti_le c1
      exact sf_ret ⟨hI, Fσ, O83_σ, O0_σ, ti_lo _, ti_hi _⟩
    have C1 : (0 : Int) < x5.toInt := ti_nle c1
    have b2 := ti_lo x4
    have b3 := ti_hi x4
    have l_0 : (0 : Int32).toInt = 0 := rfl
    exact sl_X3_hoursUntilOwned_33 hF (by omega) (by omega) (by omega) (by omega) (by omega) (by omega) (by omega) (by omega) (by omega) ih _ _ _ _ hI Fσ O83_σ O0_σ (by omega) (by decide) (by decide)
set_option maxHeartbeats 4000000 in
set_option maxRecDepth 100000 in
theorem s_X3_hoursUntilOwned {F : Nat} (hF : 100000 ≤ F) {x1 : Int32} {x2 : Int32} {x3 : Int32} {τ : Mem} (hI : wiX τ) (x1_1 : 0 ≤ x1.toInt) (x1_2 : x1.toInt ≤ 4) (x2_1 : 0 ≤ x2.toInt) (x2_2 : x2.toInt ≤ 7) (x3_1 : 1 ≤ x3.toInt) (x3_2 : x3.toInt ≤ 999) : sf (f_X3_hoursUntilOwned F x1 x2 x3 τ) (fun r s => wiX s ∧ (∀ k, 101 ≤ k → s k = τ k) ∧ s 83 1 = τ 83 1 ∧ s 0 7 = τ 0 7 ∧ -2147483648 ≤ r.toInt ∧ r.toInt ≤ 2147483647) := by
  have Fτ : ∀ k, 101 ≤ k → τ k = τ k := fun _ _ => rfl
  have O83_τ : τ 83 1 = τ 83 1 := rfl
  have O0_τ : τ 0 7 = τ 0 7 := rfl
  rw [f_X3_hoursUntilOwned_e]
  refine sf_bnd (s_X0_takeFrom hF wt_h24 wt_h1 hI) (fun r1 u2 p3 => ?_)
  obtain ⟨Iu2, Fu2_, O83_u2_, O0_u2_, -⟩ := p3
  have Fu2 : ∀ k, 101 ≤ k → u2 k = τ k := fun k hk => (Fu2_ k hk).trans (Fτ k hk)
  have O83_u2 : u2 83 1 = τ 83 1 := O83_u2_.trans O83_τ
  have O0_u2 : u2 0 7 = τ 0 7 := O0_u2_.trans O0_τ
  refine sf_bnd (s_X0_reckon hF wt_h24 Iu2) (fun r4 u5 p6 => ?_)
  obtain ⟨Iu5, Fu5_, O83_u5_, O0_u5_, -⟩ := p6
  have Fu5 : ∀ k, 101 ≤ k → u5 k = τ k := fun k hk => (Fu5_ k hk).trans (Fu2 k hk)
  have O83_u5 : u5 83 1 = τ 83 1 := O83_u5_.trans O83_u2
  have O0_u5 : u5 0 7 = τ 0 7 := O0_u5_.trans O0_u2
  have l_10 : (10 : Int32).toInt = 10 := rfl
  exact sl_X3_hoursUntilOwned_25 hF (by omega) (by omega) (by omega) (by omega) (by omega) (by omega) _ _ _ _ Iu5 Fu5 O83_u5 O0_u5 (by omega) (by decide) (by decide)
set_option maxHeartbeats 4000000 in
set_option maxRecDepth 100000 in
theorem s_X3_moreHours {F : Nat} (hF : 100000 ≤ F) {x1 : Int32} {x2 : Int32} {x3 : Int32} {τ : Mem} (hI : wiX τ) : sf (f_X3_moreHours F x1 x2 x3 τ) (fun r s => wiX s ∧ (∀ k, 101 ≤ k → s k = τ k) ∧ s 83 1 = τ 83 1 ∧ s 0 7 = τ 0 7 ∧ -2147483648 ≤ r.toInt ∧ r.toInt ≤ 2147483647) := by
  have Fτ : ∀ k, 101 ≤ k → τ k = τ k := fun _ _ => rfl
  have O83_τ : τ 83 1 = τ 83 1 := rfl
  have O0_τ : τ 0 7 = τ 0 7 := rfl
  rw [f_X3_moreHours_e]
  have b1 := ti_lo x1
  have b2 := ti_hi x1
  refine sf_bnd (s_X3_noLooker hF hI) (fun r3 u4 p5 => ?_)
  obtain ⟨e9, p5⟩ := p5
  have e9 := e9.symm
  subst e9
  rcases p5 with ⟨rfl, q6, q7⟩ | p5
  · have b8 := ti_lo x2
    have b9 := ti_hi x2
    refine sf_bnd (s_X3_noView hF hI) (fun r10 u11 p12 => ?_)
    obtain ⟨e9, p12⟩ := p12
    have e9 := e9.symm
    subst e9
    rcases p12 with ⟨rfl, q13, q14⟩ | p12
    · refine sf_in ?_
      rw [f_X3_firstOf_e]
      refine sf_ite (fun c15 => ?_) (fun c15 => ?_)
      · have C15 : (0 : Int) = (0 : Int) := ti_eq c15
        refine sf_ret ?_
        refine sf_in ?_
        rw [f_X3_outside_e]
        have b16 := ti_lo x3
        have b17 := ti_hi x3
        refine sf_ite (fun c18 => ?_) (fun c18 => ?_)
        · have C18 : (1 : Int) ≤ x3.toInt := ti_le c18
          refine sf_ite (fun c19 => ?_) (fun c19 => ?_)
          · have C19 : x3.toInt ≤ (999 : Int) := ti_le c19
            refine sf_ret ?_
            refine sf_in ?_
            rw [f_X3_firstOf_e]
            refine sf_ite (fun c20 => ?_) (fun c20 => ?_)
            · have C20 : (0 : Int) = (0 : Int) := ti_eq c20
              refine sf_ret ?_
              refine sf_ite (fun c21 => ?_) (fun c21 => ?_)
              · have C21 : (0 : Int) = (0 : Int) := ti_eq c21
                refine sf_bnd (s_X0_reckon hF wt_h1 hI) (fun r22 u23 p24 => ?_)
                obtain ⟨Iu23, Fu23_, O83_u23_, O0_u23_, -⟩ := p24
                have Fu23 : ∀ k, 101 ≤ k → u23 k = τ k := fun k hk => (Fu23_ k hk).trans (Fτ k hk)
                have O83_u23 : u23 83 1 = τ 83 1 := O83_u23_.trans O83_τ
                have O0_u23 : u23 0 7 = τ 0 7 := O0_u23_.trans O0_τ
                refine sf_bnd (s_X0_holder hF wt_h1 Iu23 (by omega) (by omega) (by omega) (by omega)) (fun r25 u26 p27 => ?_)
                obtain ⟨e9, p27_1, p27_2⟩ := p27
                have e9 := e9.symm
                subst e9
                refine sf_ite (fun c28 => ?_) (fun c28 => ?_)
                · have C28 : r25.toInt = x1.toInt := ti_eq c28
                  exact sf_ret ⟨Iu23, Fu23, O83_u23, O0_u23, ti_lo _, ti_hi _⟩
                have C28 : ¬ r25.toInt = x1.toInt := ti_ne c28
                refine sf_bnd (s_X0_timesShown hF wt_h1 Iu23 (by omega) (by omega)) (fun r29 u30 p31 => ?_)
                obtain ⟨e9, p31_1, p31_2⟩ := p31
                have e9 := e9.symm
                subst e9
                have b32 := ti_lo r29
                have b33 := ti_hi r29
                refine sf_ite (fun c34 => ?_) (fun c34 => ?_)
                · have C34 : r29.toInt = (0 : Int) := ti_eq c34
                  rw [j_X3_moreHours_83_e]
                  exact sf_ret ⟨Iu23, Fu23, O83_u23, O0_u23, ti_lo _, ti_hi _⟩
                have C34 : ¬ r29.toInt = (0 : Int) := ti_ne c34
                refine sf_chk (ti_in (by omega) (by omega)) ?_
                have v35 : Int32.toNatClampNeg x1 = x1.toInt.toNat := rfl
                have b36 := ti_lo (u23 (1 + 2) (Int32.toNatClampNeg x1))
                have b37 := ti_hi (u23 (1 + 2) (Int32.toNatClampNeg x1))
                refine sf_ite (fun c38 => ?_) (fun c38 => ?_)
                · have C38 : (u23 (1 + 2) (Int32.toNatClampNeg x1)).toInt = (2 : Int) := ti_eq c38
                  rw [j_X3_moreHours_83_e]
                  exact sf_ret ⟨Iu23, Fu23, O83_u23, O0_u23, ti_lo _, ti_hi _⟩
                have C38 : ¬ (u23 (1 + 2) (Int32.toNatClampNeg x1)).toInt = (2 : Int) := ti_ne c38
                refine sf_bnd (s_X3_hoursUntilOwned hF Iu23 (by omega) (by omega) (by omega) (by omega) (by omega) (by omega)) (fun r39 u40 p41 => ?_)
                obtain ⟨Iu40, Fu40_, O83_u40_, O0_u40_, p41_1, p41_2⟩ := p41
                have Fu40 : ∀ k, 101 ≤ k → u40 k = τ k := fun k hk => (Fu40_ k hk).trans (Fu23 k hk)
                have O83_u40 : u40 83 1 = τ 83 1 := O83_u40_.trans O83_u23
                have O0_u40 : u40 0 7 = τ 0 7 := O0_u40_.trans O0_u23
                have b42 := ti_lo r39
                have b43 := ti_hi r39
                exact sf_ret ⟨Iu40, Fu40, O83_u40, O0_u40, ti_lo _, ti_hi _⟩
              have C21 : ¬ (0 : Int) = (0 : Int) := ti_ne c21
              exfalso; omega
            have C20 : ¬ (0 : Int) = (0 : Int) := ti_ne c20
            exfalso; omega
          have C19 : (999 : Int) < x3.toInt := ti_nle c19
          refine sf_ret ?_
          refine sf_in ?_
          rw [f_X3_firstOf_e]
          refine sf_ite (fun c44 => ?_) (fun c44 => ?_)
          · have C44 : (0 : Int) = (0 : Int) := ti_eq c44
            refine sf_ret ?_
            refine sf_ite (fun c45 => ?_) (fun c45 => ?_)
            · have C45 : (-6 : Int) = (0 : Int) := ti_eq c45
              exfalso; omega
            have C45 : ¬ (-6 : Int) = (0 : Int) := ti_ne c45
            refine sf_bnd (s_X3_refuse hF hI (by decide) (by decide)) (fun r46 u47 p48 => ?_)
            obtain ⟨Iu47, Fu47_, O83_u47_, O0_u47_, p48_1, p48_2⟩ := p48
            have Fu47 : ∀ k, 101 ≤ k → u47 k = τ k := fun k hk => (Fu47_ k hk).trans (Fτ k hk)
            have O83_u47 : u47 83 1 = τ 83 1 := O83_u47_.trans O83_τ
            have O0_u47 : u47 0 7 = τ 0 7 := O0_u47_.trans O0_τ
            exact sf_ret ⟨Iu47, Fu47, O83_u47, O0_u47, ti_lo _, ti_hi _⟩
          have C44 : ¬ (0 : Int) = (0 : Int) := ti_ne c44
          exfalso; omega
        have C18 : x3.toInt < (1 : Int) := ti_nle c18
        refine sf_ret ?_
        refine sf_in ?_
        rw [f_X3_firstOf_e]
        refine sf_ite (fun c49 => ?_) (fun c49 => ?_)
        · have C49 : (0 : Int) = (0 : Int) := ti_eq c49
          refine sf_ret ?_
          refine sf_ite (fun c50 => ?_) (fun c50 => ?_)
          · have C50 : (-4 : Int) = (0 : Int) := ti_eq c50
            exfalso; omega
          have C50 : ¬ (-4 : Int) = (0 : Int) := ti_ne c50
          refine sf_bnd (s_X3_refuse hF hI (by decide) (by decide)) (fun r51 u52 p53 => ?_)
          obtain ⟨Iu52, Fu52_, O83_u52_, O0_u52_, p53_1, p53_2⟩ := p53
          have Fu52 : ∀ k, 101 ≤ k → u52 k = τ k := fun k hk => (Fu52_ k hk).trans (Fτ k hk)
          have O83_u52 : u52 83 1 = τ 83 1 := O83_u52_.trans O83_τ
          have O0_u52 : u52 0 7 = τ 0 7 := O0_u52_.trans O0_τ
          exact sf_ret ⟨Iu52, Fu52, O83_u52, O0_u52, ti_lo _, ti_hi _⟩
        have C49 : ¬ (0 : Int) = (0 : Int) := ti_ne c49
        exfalso; omega
      have C15 : ¬ (0 : Int) = (0 : Int) := ti_ne c15
      exfalso; omega
    obtain rfl := p12
    refine sf_in ?_
    rw [f_X3_firstOf_e]
    refine sf_ite (fun c54 => ?_) (fun c54 => ?_)
    · have C54 : (0 : Int) = (0 : Int) := ti_eq c54
      refine sf_ret ?_
      refine sf_in ?_
      rw [f_X3_outside_e]
      have b55 := ti_lo x3
      have b56 := ti_hi x3
      refine sf_ite (fun c57 => ?_) (fun c57 => ?_)
      · have C57 : (1 : Int) ≤ x3.toInt := ti_le c57
        refine sf_ite (fun c58 => ?_) (fun c58 => ?_)
        · have C58 : x3.toInt ≤ (999 : Int) := ti_le c58
          refine sf_ret ?_
          refine sf_in ?_
          rw [f_X3_firstOf_e]
          refine sf_ite (fun c59 => ?_) (fun c59 => ?_)
          · have C59 : (-1 : Int) = (0 : Int) := ti_eq c59
            exfalso; omega
          have C59 : ¬ (-1 : Int) = (0 : Int) := ti_ne c59
          refine sf_ret ?_
          refine sf_ite (fun c60 => ?_) (fun c60 => ?_)
          · have C60 : (-1 : Int) = (0 : Int) := ti_eq c60
            exfalso; omega
          have C60 : ¬ (-1 : Int) = (0 : Int) := ti_ne c60
          refine sf_bnd (s_X3_refuse hF hI (by decide) (by decide)) (fun r61 u62 p63 => ?_)
          obtain ⟨Iu62, Fu62_, O83_u62_, O0_u62_, p63_1, p63_2⟩ := p63
          have Fu62 : ∀ k, 101 ≤ k → u62 k = τ k := fun k hk => (Fu62_ k hk).trans (Fτ k hk)
          have O83_u62 : u62 83 1 = τ 83 1 := O83_u62_.trans O83_τ
          have O0_u62 : u62 0 7 = τ 0 7 := O0_u62_.trans O0_τ
          exact sf_ret ⟨Iu62, Fu62, O83_u62, O0_u62, ti_lo _, ti_hi _⟩
        have C58 : (999 : Int) < x3.toInt := ti_nle c58
        refine sf_ret ?_
        refine sf_in ?_
        rw [f_X3_firstOf_e]
        refine sf_ite (fun c64 => ?_) (fun c64 => ?_)
        · have C64 : (-1 : Int) = (0 : Int) := ti_eq c64
          exfalso; omega
        have C64 : ¬ (-1 : Int) = (0 : Int) := ti_ne c64
        refine sf_ret ?_
        refine sf_ite (fun c65 => ?_) (fun c65 => ?_)
        · have C65 : (-1 : Int) = (0 : Int) := ti_eq c65
          exfalso; omega
        have C65 : ¬ (-1 : Int) = (0 : Int) := ti_ne c65
        refine sf_bnd (s_X3_refuse hF hI (by decide) (by decide)) (fun r66 u67 p68 => ?_)
        obtain ⟨Iu67, Fu67_, O83_u67_, O0_u67_, p68_1, p68_2⟩ := p68
        have Fu67 : ∀ k, 101 ≤ k → u67 k = τ k := fun k hk => (Fu67_ k hk).trans (Fτ k hk)
        have O83_u67 : u67 83 1 = τ 83 1 := O83_u67_.trans O83_τ
        have O0_u67 : u67 0 7 = τ 0 7 := O0_u67_.trans O0_τ
        exact sf_ret ⟨Iu67, Fu67, O83_u67, O0_u67, ti_lo _, ti_hi _⟩
      have C57 : x3.toInt < (1 : Int) := ti_nle c57
      refine sf_ret ?_
      refine sf_in ?_
      rw [f_X3_firstOf_e]
      refine sf_ite (fun c69 => ?_) (fun c69 => ?_)
      · have C69 : (-1 : Int) = (0 : Int) := ti_eq c69
        exfalso; omega
      have C69 : ¬ (-1 : Int) = (0 : Int) := ti_ne c69
      refine sf_ret ?_
      refine sf_ite (fun c70 => ?_) (fun c70 => ?_)
      · have C70 : (-1 : Int) = (0 : Int) := ti_eq c70
        exfalso; omega
      have C70 : ¬ (-1 : Int) = (0 : Int) := ti_ne c70
      refine sf_bnd (s_X3_refuse hF hI (by decide) (by decide)) (fun r71 u72 p73 => ?_)
      obtain ⟨Iu72, Fu72_, O83_u72_, O0_u72_, p73_1, p73_2⟩ := p73
      have Fu72 : ∀ k, 101 ≤ k → u72 k = τ k := fun k hk => (Fu72_ k hk).trans (Fτ k hk)
      have O83_u72 : u72 83 1 = τ 83 1 := O83_u72_.trans O83_τ
      have O0_u72 : u72 0 7 = τ 0 7 := O0_u72_.trans O0_τ
      exact sf_ret ⟨Iu72, Fu72, O83_u72, O0_u72, ti_lo _, ti_hi _⟩
    have C54 : ¬ (0 : Int) = (0 : Int) := ti_ne c54
    exfalso; omega
  obtain rfl := p5
  have b74 := ti_lo x2
  have b75 := ti_hi x2
  refine sf_bnd (s_X3_noView hF hI) (fun r76 u77 p78 => ?_)
  obtain ⟨e9, p78⟩ := p78
  have e9 := e9.symm
  subst e9
  rcases p78 with ⟨rfl, q79, q80⟩ | p78
  · refine sf_in ?_
    rw [f_X3_firstOf_e]
    refine sf_ite (fun c81 => ?_) (fun c81 => ?_)
    · have C81 : (-1 : Int) = (0 : Int) := ti_eq c81
      exfalso; omega
    have C81 : ¬ (-1 : Int) = (0 : Int) := ti_ne c81
    refine sf_ret ?_
    refine sf_in ?_
    rw [f_X3_outside_e]
    have b82 := ti_lo x3
    have b83 := ti_hi x3
    refine sf_ite (fun c84 => ?_) (fun c84 => ?_)
    · have C84 : (1 : Int) ≤ x3.toInt := ti_le c84
      refine sf_ite (fun c85 => ?_) (fun c85 => ?_)
      · have C85 : x3.toInt ≤ (999 : Int) := ti_le c85
        refine sf_ret ?_
        refine sf_in ?_
        rw [f_X3_firstOf_e]
        refine sf_ite (fun c86 => ?_) (fun c86 => ?_)
        · have C86 : (-1 : Int) = (0 : Int) := ti_eq c86
          exfalso; omega
        have C86 : ¬ (-1 : Int) = (0 : Int) := ti_ne c86
        refine sf_ret ?_
        refine sf_ite (fun c87 => ?_) (fun c87 => ?_)
        · have C87 : (-1 : Int) = (0 : Int) := ti_eq c87
          exfalso; omega
        have C87 : ¬ (-1 : Int) = (0 : Int) := ti_ne c87
        refine sf_bnd (s_X3_refuse hF hI (by decide) (by decide)) (fun r88 u89 p90 => ?_)
        obtain ⟨Iu89, Fu89_, O83_u89_, O0_u89_, p90_1, p90_2⟩ := p90
        have Fu89 : ∀ k, 101 ≤ k → u89 k = τ k := fun k hk => (Fu89_ k hk).trans (Fτ k hk)
        have O83_u89 : u89 83 1 = τ 83 1 := O83_u89_.trans O83_τ
        have O0_u89 : u89 0 7 = τ 0 7 := O0_u89_.trans O0_τ
        exact sf_ret ⟨Iu89, Fu89, O83_u89, O0_u89, ti_lo _, ti_hi _⟩
      have C85 : (999 : Int) < x3.toInt := ti_nle c85
      refine sf_ret ?_
      refine sf_in ?_
      rw [f_X3_firstOf_e]
      refine sf_ite (fun c91 => ?_) (fun c91 => ?_)
      · have C91 : (-1 : Int) = (0 : Int) := ti_eq c91
        exfalso; omega
      have C91 : ¬ (-1 : Int) = (0 : Int) := ti_ne c91
      refine sf_ret ?_
      refine sf_ite (fun c92 => ?_) (fun c92 => ?_)
      · have C92 : (-1 : Int) = (0 : Int) := ti_eq c92
        exfalso; omega
      have C92 : ¬ (-1 : Int) = (0 : Int) := ti_ne c92
      refine sf_bnd (s_X3_refuse hF hI (by decide) (by decide)) (fun r93 u94 p95 => ?_)
      obtain ⟨Iu94, Fu94_, O83_u94_, O0_u94_, p95_1, p95_2⟩ := p95
      have Fu94 : ∀ k, 101 ≤ k → u94 k = τ k := fun k hk => (Fu94_ k hk).trans (Fτ k hk)
      have O83_u94 : u94 83 1 = τ 83 1 := O83_u94_.trans O83_τ
      have O0_u94 : u94 0 7 = τ 0 7 := O0_u94_.trans O0_τ
      exact sf_ret ⟨Iu94, Fu94, O83_u94, O0_u94, ti_lo _, ti_hi _⟩
    have C84 : x3.toInt < (1 : Int) := ti_nle c84
    refine sf_ret ?_
    refine sf_in ?_
    rw [f_X3_firstOf_e]
    refine sf_ite (fun c96 => ?_) (fun c96 => ?_)
    · have C96 : (-1 : Int) = (0 : Int) := ti_eq c96
      exfalso; omega
    have C96 : ¬ (-1 : Int) = (0 : Int) := ti_ne c96
    refine sf_ret ?_
    refine sf_ite (fun c97 => ?_) (fun c97 => ?_)
    · have C97 : (-1 : Int) = (0 : Int) := ti_eq c97
      exfalso; omega
    have C97 : ¬ (-1 : Int) = (0 : Int) := ti_ne c97
    refine sf_bnd (s_X3_refuse hF hI (by decide) (by decide)) (fun r98 u99 p100 => ?_)
    obtain ⟨Iu99, Fu99_, O83_u99_, O0_u99_, p100_1, p100_2⟩ := p100
    have Fu99 : ∀ k, 101 ≤ k → u99 k = τ k := fun k hk => (Fu99_ k hk).trans (Fτ k hk)
    have O83_u99 : u99 83 1 = τ 83 1 := O83_u99_.trans O83_τ
    have O0_u99 : u99 0 7 = τ 0 7 := O0_u99_.trans O0_τ
    exact sf_ret ⟨Iu99, Fu99, O83_u99, O0_u99, ti_lo _, ti_hi _⟩
  obtain rfl := p78
  refine sf_in ?_
  rw [f_X3_firstOf_e]
  refine sf_ite (fun c101 => ?_) (fun c101 => ?_)
  · have C101 : (-1 : Int) = (0 : Int) := ti_eq c101
    exfalso; omega
  have C101 : ¬ (-1 : Int) = (0 : Int) := ti_ne c101
  refine sf_ret ?_
  refine sf_in ?_
  rw [f_X3_outside_e]
  have b102 := ti_lo x3
  have b103 := ti_hi x3
  refine sf_ite (fun c104 => ?_) (fun c104 => ?_)
  · have C104 : (1 : Int) ≤ x3.toInt := ti_le c104
    refine sf_ite (fun c105 => ?_) (fun c105 => ?_)
    · have C105 : x3.toInt ≤ (999 : Int) := ti_le c105
      refine sf_ret ?_
      refine sf_in ?_
      rw [f_X3_firstOf_e]
      refine sf_ite (fun c106 => ?_) (fun c106 => ?_)
      · have C106 : (-1 : Int) = (0 : Int) := ti_eq c106
        exfalso; omega
      have C106 : ¬ (-1 : Int) = (0 : Int) := ti_ne c106
      refine sf_ret ?_
      refine sf_ite (fun c107 => ?_) (fun c107 => ?_)
      · have C107 : (-1 : Int) = (0 : Int) := ti_eq c107
        exfalso; omega
      have C107 : ¬ (-1 : Int) = (0 : Int) := ti_ne c107
      refine sf_bnd (s_X3_refuse hF hI (by decide) (by decide)) (fun r108 u109 p110 => ?_)
      obtain ⟨Iu109, Fu109_, O83_u109_, O0_u109_, p110_1, p110_2⟩ := p110
      have Fu109 : ∀ k, 101 ≤ k → u109 k = τ k := fun k hk => (Fu109_ k hk).trans (Fτ k hk)
      have O83_u109 : u109 83 1 = τ 83 1 := O83_u109_.trans O83_τ
      have O0_u109 : u109 0 7 = τ 0 7 := O0_u109_.trans O0_τ
      exact sf_ret ⟨Iu109, Fu109, O83_u109, O0_u109, ti_lo _, ti_hi _⟩
    have C105 : (999 : Int) < x3.toInt := ti_nle c105
    refine sf_ret ?_
    refine sf_in ?_
    rw [f_X3_firstOf_e]
    refine sf_ite (fun c111 => ?_) (fun c111 => ?_)
    · have C111 : (-1 : Int) = (0 : Int) := ti_eq c111
      exfalso; omega
    have C111 : ¬ (-1 : Int) = (0 : Int) := ti_ne c111
    refine sf_ret ?_
    refine sf_ite (fun c112 => ?_) (fun c112 => ?_)
    · have C112 : (-1 : Int) = (0 : Int) := ti_eq c112
      exfalso; omega
    have C112 : ¬ (-1 : Int) = (0 : Int) := ti_ne c112
    refine sf_bnd (s_X3_refuse hF hI (by decide) (by decide)) (fun r113 u114 p115 => ?_)
    obtain ⟨Iu114, Fu114_, O83_u114_, O0_u114_, p115_1, p115_2⟩ := p115
    have Fu114 : ∀ k, 101 ≤ k → u114 k = τ k := fun k hk => (Fu114_ k hk).trans (Fτ k hk)
    have O83_u114 : u114 83 1 = τ 83 1 := O83_u114_.trans O83_τ
    have O0_u114 : u114 0 7 = τ 0 7 := O0_u114_.trans O0_τ
    exact sf_ret ⟨Iu114, Fu114, O83_u114, O0_u114, ti_lo _, ti_hi _⟩
  have C104 : x3.toInt < (1 : Int) := ti_nle c104
  refine sf_ret ?_
  refine sf_in ?_
  rw [f_X3_firstOf_e]
  refine sf_ite (fun c116 => ?_) (fun c116 => ?_)
  · have C116 : (-1 : Int) = (0 : Int) := ti_eq c116
    exfalso; omega
  have C116 : ¬ (-1 : Int) = (0 : Int) := ti_ne c116
  refine sf_ret ?_
  refine sf_ite (fun c117 => ?_) (fun c117 => ?_)
  · have C117 : (-1 : Int) = (0 : Int) := ti_eq c117
    exfalso; omega
  have C117 : ¬ (-1 : Int) = (0 : Int) := ti_ne c117
  refine sf_bnd (s_X3_refuse hF hI (by decide) (by decide)) (fun r118 u119 p120 => ?_)
  obtain ⟨Iu119, Fu119_, O83_u119_, O0_u119_, p120_1, p120_2⟩ := p120
  have Fu119 : ∀ k, 101 ≤ k → u119 k = τ k := fun k hk => (Fu119_ k hk).trans (Fτ k hk)
  have O83_u119 : u119 83 1 = τ 83 1 := O83_u119_.trans O83_τ
  have O0_u119 : u119 0 7 = τ 0 7 := O0_u119_.trans O0_τ
  exact sf_ret ⟨Iu119, Fu119, O83_u119, O0_u119, ti_lo _, ti_hi _⟩
set_option maxHeartbeats 4000000 in
set_option maxRecDepth 100000 in
theorem s_X3_wealthAt {F : Nat} (hF : 100000 ≤ F) {x1 : Int32} {x2 : Int32} {x3 : Int32} {x4 : Int32} {τ : Mem} (hI : wiX τ) (x1_1 : 0 ≤ x1.toInt) (x1_2 : x1.toInt ≤ 4) (x2_1 : 0 ≤ x2.toInt) (x2_2 : x2.toInt ≤ 23) (x3_1 : 0 ≤ x3.toInt) (x3_2 : x3.toInt ≤ 9) (x4_1 : 0 ≤ x4.toInt) (x4_2 : x4.toInt ≤ 999) : sf (f_X3_wealthAt F x1 x2 x3 x4 τ) (fun r s => wiX s ∧ (∀ k, 101 ≤ k → s k = τ k) ∧ s 83 1 = τ 83 1 ∧ s 0 7 = τ 0 7 ∧ -2147483648 ≤ r.toInt ∧ r.toInt ≤ 2147483647) := by
  have Fτ : ∀ k, 101 ≤ k → τ k = τ k := fun _ _ => rfl
  have O83_τ : τ 83 1 = τ 83 1 := rfl
  have O0_τ : τ 0 7 = τ 0 7 := rfl
  rw [f_X3_wealthAt_e]
  refine sf_bnd (s_X0_post hF wt_h24 hI) (fun r1 u2 p3 => ?_)
  obtain ⟨Iu2, Fu2_, O83_u2_, O0_u2_, p3_1, p3_2⟩ := p3
  have Fu2 : ∀ k, 101 ≤ k → u2 k = τ k := fun k hk => (Fu2_ k hk).trans (Fτ k hk)
  have O83_u2 : u2 83 1 = τ 83 1 := O83_u2_.trans O83_τ
  have O0_u2 : u2 0 7 = τ 0 7 := O0_u2_.trans O0_τ
  have hb_r1 : r1 = 0 ∨ r1 = 1 := wi_bool p3_1 p3_2
  refine sf_bnd (s_X0_reckon hF wt_h24 Iu2) (fun r4 u5 p6 => ?_)
  obtain ⟨Iu5, Fu5_, O83_u5_, O0_u5_, -⟩ := p6
  have Fu5 : ∀ k, 101 ≤ k → u5 k = τ k := fun k hk => (Fu5_ k hk).trans (Fu2 k hk)
  have O83_u5 : u5 83 1 = τ 83 1 := O83_u5_.trans O83_u2
  have O0_u5 : u5 0 7 = τ 0 7 := O0_u5_.trans O0_u2
  refine sf_bnd (s_X0_wealth hF wt_h24 Iu5 (by omega) (by omega)) (fun r7 u8 p9 => ?_)
  obtain ⟨e9, p9_1, p9_2⟩ := p9
  have e9 := e9.symm
  subst e9
  have b10 := ti_lo r7
  have b11 := ti_hi r7
  exact sf_ret ⟨Iu5, Fu5, O83_u5, O0_u5, ti_lo _, ti_hi _⟩
set_option maxHeartbeats 4000000 in
set_option maxRecDepth 100000 in
theorem sl_X3_bestPane_71 {F : Nat} (hF : 100000 ≤ F) {x1 : Int32} {x2 : Int32} {x3 : Int32} {x4 : Int32} {τ : Mem} (x1_1 : 0 ≤ x1.toInt) (x1_2 : x1.toInt ≤ 4) (x2_1 : 0 ≤ x2.toInt) (x2_2 : x2.toInt ≤ 23) (x3_1 : 0 ≤ x3.toInt) (x3_2 : x3.toInt ≤ 999) (x4_1 : 0 ≤ x4.toInt) (x4_2 : x4.toInt ≤ 1) : ∀ (N : Nat) (x6 : Int32) (x7 : Int32) (x8 : Int32) (σ : Mem), wiX σ → (∀ k, 101 ≤ k → σ k = τ k) → σ 83 1 = τ 83 1 → σ 0 7 = τ 0 7 → 7 < x8.toInt + N → 0 ≤ x6.toInt → x6.toInt ≤ 9 → -1 ≤ x7.toInt → x7.toInt ≤ 2147483647 → 0 ≤ x8.toInt → x8.toInt ≤ 7 → sf (lp_X3_bestPane_71 F x1 x2 x3 x4 N x6 x7 x8 σ) (fun r s => wiX s ∧ (∀ k, 101 ≤ k → s k = τ k) ∧ s 83 1 = τ 83 1 ∧ s 0 7 = τ 0 7 ∧ -2147483648 ≤ r.toInt ∧ r.toInt ≤ 2147483647) := by
  intro N
  induction N with
  | zero => intro x6 x7 x8 σ hI Fσ O83_σ O0_σ hN x6_1 x6_2 x7_1 x7_2 x8_1 x8_2; exfalso; omega
  | succ N ih =>
    intro x6 x7 x8 σ hI Fσ O83_σ O0_σ hN x6_1 x6_2 x7_1 x7_2 x8_1 x8_2
    rw [lp_X3_bestPane_71_s]
    have m1 := wx_X0_0 hI wt_h1
    refine sf_ite (fun c2 => ?_) (fun c2 => ?_)
    · have C2 : (σ 1 0).toInt < x8.toInt := ti_lt c2
      refine sf_ite (fun c3 => ?_) (fun c3 => ?_)
      · have C3 : x4.toInt = (0 : Int) := ti_eq c3
        exact sf_ret ⟨hI, Fσ, O83_σ, O0_σ, ti_lo _, ti_hi _⟩
      have C3 : ¬ x4.toInt = (0 : Int) := ti_ne c3
      have b4 := ti_lo x7
      have b5 := ti_hi x7
      exact sf_ret ⟨hI, Fσ, O83_σ, O0_σ, ti_lo _, ti_hi _⟩
    have C2 : x8.toInt ≤ (σ 1 0).toInt := ti_nlt c2
    refine sf_ite (fun c6 => ?_) (fun c6 => ?_)
    · have C6 : (σ 1 0).toInt ≤ x8.toInt := ti_le c6
      rw [j_X3_bestPane_102_e]
      refine sf_bnd (s_X3_wealthAt hF hI (by omega) (by omega) (by omega) (by omega) (by decide) (by decide) (by omega) (by omega)) (fun r7 u8 p9 => ?_)
      obtain ⟨Iu8, Fu8_, O83_u8_, O0_u8_, p9_1, p9_2⟩ := p9
      have Fu8 : ∀ k, 101 ≤ k → u8 k = τ k := fun k hk => (Fu8_ k hk).trans (Fσ k hk)
      have O83_u8 : u8 83 1 = τ 83 1 := O83_u8_.trans O83_σ
      have O0_u8 : u8 0 7 = τ 0 7 := O0_u8_.trans O0_σ
      have b10 := ti_lo r7
      have b11 := ti_hi r7
      have b12 := ti_lo x7
      have b13 := ti_hi x7
      refine sf_ite (fun c14 => ?_) (fun c14 => ?_)
      · have C14 : r7.toInt ≤ x7.toInt := ti_le c14
        rw [j_X3_bestPane_130_e]
        have t15 : (x8 + (1 : Int32)).toInt = x8.toInt + (1 : Int) := ti_add (show -2147483648 ≤ x8.toInt + (1 : Int) by omega) (show x8.toInt + (1 : Int) ≤ 2147483647 by omega)
        exact ih _ _ _ _ Iu8 Fu8 O83_u8 O0_u8 (by omega) (by omega) (by omega) (by omega) (by omega) (by omega) (by omega)
      have C14 : x7.toInt < r7.toInt := ti_nle c14
      rw [j_X3_bestPane_130_e]
      have t16 : (x8 + (1 : Int32)).toInt = x8.toInt + (1 : Int) := ti_add (show -2147483648 ≤ x8.toInt + (1 : Int) by omega) (show x8.toInt + (1 : Int) ≤ 2147483647 by omega)
      exact ih _ _ _ _ Iu8 Fu8 O83_u8 O0_u8 (by omega) (by decide) (by decide) (by omega) (by omega) (by omega) (by omega)
    have C6 : x8.toInt < (σ 1 0).toInt := ti_nle c6
    rw [j_X3_bestPane_102_e]
    refine sf_bnd (s_X3_wealthAt hF hI (by omega) (by omega) (by omega) (by omega) (by omega) (by omega) (by omega) (by omega)) (fun r17 u18 p19 => ?_)
    obtain ⟨Iu18, Fu18_, O83_u18_, O0_u18_, p19_1, p19_2⟩ := p19
    have Fu18 : ∀ k, 101 ≤ k → u18 k = τ k := fun k hk => (Fu18_ k hk).trans (Fσ k hk)
    have O83_u18 : u18 83 1 = τ 83 1 := O83_u18_.trans O83_σ
    have O0_u18 : u18 0 7 = τ 0 7 := O0_u18_.trans O0_σ
    have b20 := ti_lo r17
    have b21 := ti_hi r17
    have b22 := ti_lo x7
    have b23 := ti_hi x7
    refine sf_ite (fun c24 => ?_) (fun c24 => ?_)
    · have C24 : r17.toInt ≤ x7.toInt := ti_le c24
      rw [j_X3_bestPane_130_e]
      have t25 : (x8 + (1 : Int32)).toInt = x8.toInt + (1 : Int) := ti_add (show -2147483648 ≤ x8.toInt + (1 : Int) by omega) (show x8.toInt + (1 : Int) ≤ 2147483647 by omega)
      exact ih _ _ _ _ Iu18 Fu18 O83_u18 O0_u18 (by omega) (by omega) (by omega) (by omega) (by omega) (by omega) (by omega)
    have C24 : x7.toInt < r17.toInt := ti_nle c24
    rw [j_X3_bestPane_130_e]
    have t26 : (x8 + (1 : Int32)).toInt = x8.toInt + (1 : Int) := ti_add (show -2147483648 ≤ x8.toInt + (1 : Int) by omega) (show x8.toInt + (1 : Int) ≤ 2147483647 by omega)
    exact ih _ _ _ _ Iu18 Fu18 O83_u18 O0_u18 (by omega) (by omega) (by omega) (by omega) (by omega) (by omega) (by omega)
set_option maxHeartbeats 4000000 in
set_option maxRecDepth 100000 in
theorem s_X3_bestPane {F : Nat} (hF : 100000 ≤ F) {x1 : Int32} {x2 : Int32} {x3 : Int32} {x4 : Int32} {τ : Mem} (hI : wiX τ) : sf (f_X3_bestPane F x1 x2 x3 x4 τ) (fun r s => wiX s ∧ (∀ k, 101 ≤ k → s k = τ k) ∧ s 83 1 = τ 83 1 ∧ s 0 7 = τ 0 7 ∧ -2147483648 ≤ r.toInt ∧ r.toInt ≤ 2147483647) := by
  have Fτ : ∀ k, 101 ≤ k → τ k = τ k := fun _ _ => rfl
  have O83_τ : τ 83 1 = τ 83 1 := rfl
  have O0_τ : τ 0 7 = τ 0 7 := rfl
  rw [f_X3_bestPane_e]
  have b1 := ti_lo x1
  have b2 := ti_hi x1
  refine sf_bnd (s_X3_noLooker hF hI) (fun r3 u4 p5 => ?_)
  obtain ⟨e9, p5⟩ := p5
  have e9 := e9.symm
  subst e9
  rcases p5 with ⟨rfl, q6, q7⟩ | p5
  · have b8 := ti_lo x2
    have b9 := ti_hi x2
    refine sf_bnd (s_X3_noHour hF hI) (fun r10 u11 p12 => ?_)
    obtain ⟨e9, p12⟩ := p12
    have e9 := e9.symm
    subst e9
    rcases p12 with ⟨rfl, q13, q14⟩ | p12
    · refine sf_in ?_
      rw [f_X3_firstOf_e]
      refine sf_ite (fun c15 => ?_) (fun c15 => ?_)
      · have C15 : (0 : Int) = (0 : Int) := ti_eq c15
        refine sf_ret ?_
        refine sf_in ?_
        rw [f_X3_outside_e]
        have b16 := ti_lo x3
        have b17 := ti_hi x3
        refine sf_ite (fun c18 => ?_) (fun c18 => ?_)
        · have C18 : (0 : Int) ≤ x3.toInt := ti_le c18
          refine sf_ite (fun c19 => ?_) (fun c19 => ?_)
          · have C19 : x3.toInt ≤ (999 : Int) := ti_le c19
            refine sf_ret ?_
            refine sf_in ?_
            rw [f_X3_firstOf_e]
            refine sf_ite (fun c20 => ?_) (fun c20 => ?_)
            · have C20 : (0 : Int) = (0 : Int) := ti_eq c20
              refine sf_ret ?_
              refine sf_in ?_
              rw [f_X3_notBelow_e]
              have b21 := ti_lo x4
              have b22 := ti_hi x4
              refine sf_ite (fun c23 => ?_) (fun c23 => ?_)
              · have C23 : x4.toInt < (0 : Int) := ti_lt c23
                rw [j_X3_notBelow_13_e]
                refine sf_ret ?_
                refine sf_in ?_
                rw [f_X3_firstOf_e]
                refine sf_ite (fun c24 => ?_) (fun c24 => ?_)
                · have C24 : (0 : Int) = (0 : Int) := ti_eq c24
                  refine sf_ret ?_
                  refine sf_ite (fun c25 => ?_) (fun c25 => ?_)
                  · have C25 : (-2 : Int) = (0 : Int) := ti_eq c25
                    exfalso; omega
                  have C25 : ¬ (-2 : Int) = (0 : Int) := ti_ne c25
                  refine sf_bnd (s_X3_refuse hF hI (by decide) (by decide)) (fun r26 u27 p28 => ?_)
                  obtain ⟨Iu27, Fu27_, O83_u27_, O0_u27_, p28_1, p28_2⟩ := p28
                  have Fu27 : ∀ k, 101 ≤ k → u27 k = τ k := fun k hk => (Fu27_ k hk).trans (Fτ k hk)
                  have O83_u27 : u27 83 1 = τ 83 1 := O83_u27_.trans O83_τ
                  have O0_u27 : u27 0 7 = τ 0 7 := O0_u27_.trans O0_τ
                  exact sf_ret ⟨Iu27, Fu27, O83_u27, O0_u27, ti_lo _, ti_hi _⟩
                have C24 : ¬ (0 : Int) = (0 : Int) := ti_ne c24
                exfalso; omega
              have C23 : (0 : Int) ≤ x4.toInt := ti_nlt c23
              refine sf_ite (fun c29 => ?_) (fun c29 => ?_)
              · have C29 : (2 : Int) ≤ x4.toInt := ti_le c29
                rw [j_X3_notBelow_13_e]
                refine sf_ret ?_
                refine sf_in ?_
                rw [f_X3_firstOf_e]
                refine sf_ite (fun c30 => ?_) (fun c30 => ?_)
                · have C30 : (0 : Int) = (0 : Int) := ti_eq c30
                  refine sf_ret ?_
                  refine sf_ite (fun c31 => ?_) (fun c31 => ?_)
                  · have C31 : (-2 : Int) = (0 : Int) := ti_eq c31
                    exfalso; omega
                  have C31 : ¬ (-2 : Int) = (0 : Int) := ti_ne c31
                  refine sf_bnd (s_X3_refuse hF hI (by decide) (by decide)) (fun r32 u33 p34 => ?_)
                  obtain ⟨Iu33, Fu33_, O83_u33_, O0_u33_, p34_1, p34_2⟩ := p34
                  have Fu33 : ∀ k, 101 ≤ k → u33 k = τ k := fun k hk => (Fu33_ k hk).trans (Fτ k hk)
                  have O83_u33 : u33 83 1 = τ 83 1 := O83_u33_.trans O83_τ
                  have O0_u33 : u33 0 7 = τ 0 7 := O0_u33_.trans O0_τ
                  exact sf_ret ⟨Iu33, Fu33, O83_u33, O0_u33, ti_lo _, ti_hi _⟩
                have C30 : ¬ (0 : Int) = (0 : Int) := ti_ne c30
                exfalso; omega
              have C29 : x4.toInt < (2 : Int) := ti_nle c29
              refine sf_ret ?_
              refine sf_in ?_
              rw [f_X3_firstOf_e]
              refine sf_ite (fun c35 => ?_) (fun c35 => ?_)
              · have C35 : (0 : Int) = (0 : Int) := ti_eq c35
                refine sf_ret ?_
                refine sf_ite (fun c36 => ?_) (fun c36 => ?_)
                · have C36 : (0 : Int) = (0 : Int) := ti_eq c36
                  refine sf_bnd (s_X0_takeFrom hF wt_h24 wt_h1 hI) (fun r37 u38 p39 => ?_)
                  obtain ⟨Iu38, Fu38_, O83_u38_, O0_u38_, -⟩ := p39
                  have Fu38 : ∀ k, 101 ≤ k → u38 k = τ k := fun k hk => (Fu38_ k hk).trans (Fτ k hk)
                  have O83_u38 : u38 83 1 = τ 83 1 := O83_u38_.trans O83_τ
                  have O0_u38 : u38 0 7 = τ 0 7 := O0_u38_.trans O0_τ
                  have l_0 : (0 : Int32).toInt = 0 := rfl
                  exact sl_X3_bestPane_71 hF (by omega) (by omega) (by omega) (by omega) (by omega) (by omega) (by omega) (by omega) _ _ _ _ _ Iu38 Fu38 O83_u38 O0_u38 (by omega) (by decide) (by decide) (by decide) (by decide) (by decide) (by decide)
                have C36 : ¬ (0 : Int) = (0 : Int) := ti_ne c36
                exfalso; omega
              have C35 : ¬ (0 : Int) = (0 : Int) := ti_ne c35
              exfalso; omega
            have C20 : ¬ (0 : Int) = (0 : Int) := ti_ne c20
            exfalso; omega
          have C19 : (999 : Int) < x3.toInt := ti_nle c19
          refine sf_ret ?_
          refine sf_in ?_
          rw [f_X3_firstOf_e]
          refine sf_ite (fun c40 => ?_) (fun c40 => ?_)
          · have C40 : (0 : Int) = (0 : Int) := ti_eq c40
            refine sf_ret ?_
            refine sf_in ?_
            rw [f_X3_notBelow_e]
            have b41 := ti_lo x4
            have b42 := ti_hi x4
            refine sf_ite (fun c43 => ?_) (fun c43 => ?_)
            · have C43 : x4.toInt < (0 : Int) := ti_lt c43
              rw [j_X3_notBelow_13_e]
              refine sf_ret ?_
              refine sf_in ?_
              rw [f_X3_firstOf_e]
              refine sf_ite (fun c44 => ?_) (fun c44 => ?_)
              · have C44 : (-6 : Int) = (0 : Int) := ti_eq c44
                exfalso; omega
              have C44 : ¬ (-6 : Int) = (0 : Int) := ti_ne c44
              refine sf_ret ?_
              refine sf_ite (fun c45 => ?_) (fun c45 => ?_)
              · have C45 : (-6 : Int) = (0 : Int) := ti_eq c45
                exfalso; omega
              have C45 : ¬ (-6 : Int) = (0 : Int) := ti_ne c45
              refine sf_bnd (s_X3_refuse hF hI (by decide) (by decide)) (fun r46 u47 p48 => ?_)
              obtain ⟨Iu47, Fu47_, O83_u47_, O0_u47_, p48_1, p48_2⟩ := p48
              have Fu47 : ∀ k, 101 ≤ k → u47 k = τ k := fun k hk => (Fu47_ k hk).trans (Fτ k hk)
              have O83_u47 : u47 83 1 = τ 83 1 := O83_u47_.trans O83_τ
              have O0_u47 : u47 0 7 = τ 0 7 := O0_u47_.trans O0_τ
              exact sf_ret ⟨Iu47, Fu47, O83_u47, O0_u47, ti_lo _, ti_hi _⟩
            have C43 : (0 : Int) ≤ x4.toInt := ti_nlt c43
            refine sf_ite (fun c49 => ?_) (fun c49 => ?_)
            · have C49 : (2 : Int) ≤ x4.toInt := ti_le c49
              rw [j_X3_notBelow_13_e]
              refine sf_ret ?_
              refine sf_in ?_
              rw [f_X3_firstOf_e]
              refine sf_ite (fun c50 => ?_) (fun c50 => ?_)
              · have C50 : (-6 : Int) = (0 : Int) := ti_eq c50
                exfalso; omega
              have C50 : ¬ (-6 : Int) = (0 : Int) := ti_ne c50
              refine sf_ret ?_
              refine sf_ite (fun c51 => ?_) (fun c51 => ?_)
              · have C51 : (-6 : Int) = (0 : Int) := ti_eq c51
                exfalso; omega
              have C51 : ¬ (-6 : Int) = (0 : Int) := ti_ne c51
              refine sf_bnd (s_X3_refuse hF hI (by decide) (by decide)) (fun r52 u53 p54 => ?_)
              obtain ⟨Iu53, Fu53_, O83_u53_, O0_u53_, p54_1, p54_2⟩ := p54
              have Fu53 : ∀ k, 101 ≤ k → u53 k = τ k := fun k hk => (Fu53_ k hk).trans (Fτ k hk)
              have O83_u53 : u53 83 1 = τ 83 1 := O83_u53_.trans O83_τ
              have O0_u53 : u53 0 7 = τ 0 7 := O0_u53_.trans O0_τ
              exact sf_ret ⟨Iu53, Fu53, O83_u53, O0_u53, ti_lo _, ti_hi _⟩
            have C49 : x4.toInt < (2 : Int) := ti_nle c49
            refine sf_ret ?_
            refine sf_in ?_
            rw [f_X3_firstOf_e]
            refine sf_ite (fun c55 => ?_) (fun c55 => ?_)
            · have C55 : (-6 : Int) = (0 : Int) := ti_eq c55
              exfalso; omega
            have C55 : ¬ (-6 : Int) = (0 : Int) := ti_ne c55
            refine sf_ret ?_
            refine sf_ite (fun c56 => ?_) (fun c56 => ?_)
            · have C56 : (-6 : Int) = (0 : Int) := ti_eq c56
              exfalso; omega
            have C56 : ¬ (-6 : Int) = (0 : Int) := ti_ne c56
            refine sf_bnd (s_X3_refuse hF hI (by decide) (by decide)) (fun r57 u58 p59 => ?_)
            obtain ⟨Iu58, Fu58_, O83_u58_, O0_u58_, p59_1, p59_2⟩ := p59
            have Fu58 : ∀ k, 101 ≤ k → u58 k = τ k := fun k hk => (Fu58_ k hk).trans (Fτ k hk)
            have O83_u58 : u58 83 1 = τ 83 1 := O83_u58_.trans O83_τ
            have O0_u58 : u58 0 7 = τ 0 7 := O0_u58_.trans O0_τ
            exact sf_ret ⟨Iu58, Fu58, O83_u58, O0_u58, ti_lo _, ti_hi _⟩
          have C40 : ¬ (0 : Int) = (0 : Int) := ti_ne c40
          exfalso; omega
        have C18 : x3.toInt < (0 : Int) := ti_nle c18
        refine sf_ret ?_
        refine sf_in ?_
        rw [f_X3_firstOf_e]
        refine sf_ite (fun c60 => ?_) (fun c60 => ?_)
        · have C60 : (0 : Int) = (0 : Int) := ti_eq c60
          refine sf_ret ?_
          refine sf_in ?_
          rw [f_X3_notBelow_e]
          have b61 := ti_lo x4
          have b62 := ti_hi x4
          refine sf_ite (fun c63 => ?_) (fun c63 => ?_)
          · have C63 : x4.toInt < (0 : Int) := ti_lt c63
            rw [j_X3_notBelow_13_e]
            refine sf_ret ?_
            refine sf_in ?_
            rw [f_X3_firstOf_e]
            refine sf_ite (fun c64 => ?_) (fun c64 => ?_)
            · have C64 : (-4 : Int) = (0 : Int) := ti_eq c64
              exfalso; omega
            have C64 : ¬ (-4 : Int) = (0 : Int) := ti_ne c64
            refine sf_ret ?_
            refine sf_ite (fun c65 => ?_) (fun c65 => ?_)
            · have C65 : (-4 : Int) = (0 : Int) := ti_eq c65
              exfalso; omega
            have C65 : ¬ (-4 : Int) = (0 : Int) := ti_ne c65
            refine sf_bnd (s_X3_refuse hF hI (by decide) (by decide)) (fun r66 u67 p68 => ?_)
            obtain ⟨Iu67, Fu67_, O83_u67_, O0_u67_, p68_1, p68_2⟩ := p68
            have Fu67 : ∀ k, 101 ≤ k → u67 k = τ k := fun k hk => (Fu67_ k hk).trans (Fτ k hk)
            have O83_u67 : u67 83 1 = τ 83 1 := O83_u67_.trans O83_τ
            have O0_u67 : u67 0 7 = τ 0 7 := O0_u67_.trans O0_τ
            exact sf_ret ⟨Iu67, Fu67, O83_u67, O0_u67, ti_lo _, ti_hi _⟩
          have C63 : (0 : Int) ≤ x4.toInt := ti_nlt c63
          refine sf_ite (fun c69 => ?_) (fun c69 => ?_)
          · have C69 : (2 : Int) ≤ x4.toInt := ti_le c69
            rw [j_X3_notBelow_13_e]
            refine sf_ret ?_
            refine sf_in ?_
            rw [f_X3_firstOf_e]
            refine sf_ite (fun c70 => ?_) (fun c70 => ?_)
            · have C70 : (-4 : Int) = (0 : Int) := ti_eq c70
              exfalso; omega
            have C70 : ¬ (-4 : Int) = (0 : Int) := ti_ne c70
            refine sf_ret ?_
            refine sf_ite (fun c71 => ?_) (fun c71 => ?_)
            · have C71 : (-4 : Int) = (0 : Int) := ti_eq c71
              exfalso; omega
            have C71 : ¬ (-4 : Int) = (0 : Int) := ti_ne c71
            refine sf_bnd (s_X3_refuse hF hI (by decide) (by decide)) (fun r72 u73 p74 => ?_)
            obtain ⟨Iu73, Fu73_, O83_u73_, O0_u73_, p74_1, p74_2⟩ := p74
            have Fu73 : ∀ k, 101 ≤ k → u73 k = τ k := fun k hk => (Fu73_ k hk).trans (Fτ k hk)
            have O83_u73 : u73 83 1 = τ 83 1 := O83_u73_.trans O83_τ
            have O0_u73 : u73 0 7 = τ 0 7 := O0_u73_.trans O0_τ
            exact sf_ret ⟨Iu73, Fu73, O83_u73, O0_u73, ti_lo _, ti_hi _⟩
          have C69 : x4.toInt < (2 : Int) := ti_nle c69
          refine sf_ret ?_
          refine sf_in ?_
          rw [f_X3_firstOf_e]
          refine sf_ite (fun c75 => ?_) (fun c75 => ?_)
          · have C75 : (-4 : Int) = (0 : Int) := ti_eq c75
            exfalso; omega
          have C75 : ¬ (-4 : Int) = (0 : Int) := ti_ne c75
          refine sf_ret ?_
          refine sf_ite (fun c76 => ?_) (fun c76 => ?_)
          · have C76 : (-4 : Int) = (0 : Int) := ti_eq c76
            exfalso; omega
          have C76 : ¬ (-4 : Int) = (0 : Int) := ti_ne c76
          refine sf_bnd (s_X3_refuse hF hI (by decide) (by decide)) (fun r77 u78 p79 => ?_)
          obtain ⟨Iu78, Fu78_, O83_u78_, O0_u78_, p79_1, p79_2⟩ := p79
          have Fu78 : ∀ k, 101 ≤ k → u78 k = τ k := fun k hk => (Fu78_ k hk).trans (Fτ k hk)
          have O83_u78 : u78 83 1 = τ 83 1 := O83_u78_.trans O83_τ
          have O0_u78 : u78 0 7 = τ 0 7 := O0_u78_.trans O0_τ
          exact sf_ret ⟨Iu78, Fu78, O83_u78, O0_u78, ti_lo _, ti_hi _⟩
        have C60 : ¬ (0 : Int) = (0 : Int) := ti_ne c60
        exfalso; omega
      have C15 : ¬ (0 : Int) = (0 : Int) := ti_ne c15
      exfalso; omega
    obtain rfl := p12
    refine sf_in ?_
    rw [f_X3_firstOf_e]
    refine sf_ite (fun c80 => ?_) (fun c80 => ?_)
    · have C80 : (0 : Int) = (0 : Int) := ti_eq c80
      refine sf_ret ?_
      refine sf_in ?_
      rw [f_X3_outside_e]
      have b81 := ti_lo x3
      have b82 := ti_hi x3
      refine sf_ite (fun c83 => ?_) (fun c83 => ?_)
      · have C83 : (0 : Int) ≤ x3.toInt := ti_le c83
        refine sf_ite (fun c84 => ?_) (fun c84 => ?_)
        · have C84 : x3.toInt ≤ (999 : Int) := ti_le c84
          refine sf_ret ?_
          refine sf_in ?_
          rw [f_X3_firstOf_e]
          refine sf_ite (fun c85 => ?_) (fun c85 => ?_)
          · have C85 : (-1 : Int) = (0 : Int) := ti_eq c85
            exfalso; omega
          have C85 : ¬ (-1 : Int) = (0 : Int) := ti_ne c85
          refine sf_ret ?_
          refine sf_in ?_
          rw [f_X3_notBelow_e]
          have b86 := ti_lo x4
          have b87 := ti_hi x4
          refine sf_ite (fun c88 => ?_) (fun c88 => ?_)
          · have C88 : x4.toInt < (0 : Int) := ti_lt c88
            rw [j_X3_notBelow_13_e]
            refine sf_ret ?_
            refine sf_in ?_
            rw [f_X3_firstOf_e]
            refine sf_ite (fun c89 => ?_) (fun c89 => ?_)
            · have C89 : (-1 : Int) = (0 : Int) := ti_eq c89
              exfalso; omega
            have C89 : ¬ (-1 : Int) = (0 : Int) := ti_ne c89
            refine sf_ret ?_
            refine sf_ite (fun c90 => ?_) (fun c90 => ?_)
            · have C90 : (-1 : Int) = (0 : Int) := ti_eq c90
              exfalso; omega
            have C90 : ¬ (-1 : Int) = (0 : Int) := ti_ne c90
            refine sf_bnd (s_X3_refuse hF hI (by decide) (by decide)) (fun r91 u92 p93 => ?_)
            obtain ⟨Iu92, Fu92_, O83_u92_, O0_u92_, p93_1, p93_2⟩ := p93
            have Fu92 : ∀ k, 101 ≤ k → u92 k = τ k := fun k hk => (Fu92_ k hk).trans (Fτ k hk)
            have O83_u92 : u92 83 1 = τ 83 1 := O83_u92_.trans O83_τ
            have O0_u92 : u92 0 7 = τ 0 7 := O0_u92_.trans O0_τ
            exact sf_ret ⟨Iu92, Fu92, O83_u92, O0_u92, ti_lo _, ti_hi _⟩
          have C88 : (0 : Int) ≤ x4.toInt := ti_nlt c88
          refine sf_ite (fun c94 => ?_) (fun c94 => ?_)
          · have C94 : (2 : Int) ≤ x4.toInt := ti_le c94
            rw [j_X3_notBelow_13_e]
            refine sf_ret ?_
            refine sf_in ?_
            rw [f_X3_firstOf_e]
            refine sf_ite (fun c95 => ?_) (fun c95 => ?_)
            · have C95 : (-1 : Int) = (0 : Int) := ti_eq c95
              exfalso; omega
            have C95 : ¬ (-1 : Int) = (0 : Int) := ti_ne c95
            refine sf_ret ?_
            refine sf_ite (fun c96 => ?_) (fun c96 => ?_)
            · have C96 : (-1 : Int) = (0 : Int) := ti_eq c96
              exfalso; omega
            have C96 : ¬ (-1 : Int) = (0 : Int) := ti_ne c96
            refine sf_bnd (s_X3_refuse hF hI (by decide) (by decide)) (fun r97 u98 p99 => ?_)
            obtain ⟨Iu98, Fu98_, O83_u98_, O0_u98_, p99_1, p99_2⟩ := p99
            have Fu98 : ∀ k, 101 ≤ k → u98 k = τ k := fun k hk => (Fu98_ k hk).trans (Fτ k hk)
            have O83_u98 : u98 83 1 = τ 83 1 := O83_u98_.trans O83_τ
            have O0_u98 : u98 0 7 = τ 0 7 := O0_u98_.trans O0_τ
            exact sf_ret ⟨Iu98, Fu98, O83_u98, O0_u98, ti_lo _, ti_hi _⟩
          have C94 : x4.toInt < (2 : Int) := ti_nle c94
          refine sf_ret ?_
          refine sf_in ?_
          rw [f_X3_firstOf_e]
          refine sf_ite (fun c100 => ?_) (fun c100 => ?_)
          · have C100 : (-1 : Int) = (0 : Int) := ti_eq c100
            exfalso; omega
          have C100 : ¬ (-1 : Int) = (0 : Int) := ti_ne c100
          refine sf_ret ?_
          refine sf_ite (fun c101 => ?_) (fun c101 => ?_)
          · have C101 : (-1 : Int) = (0 : Int) := ti_eq c101
            exfalso; omega
          have C101 : ¬ (-1 : Int) = (0 : Int) := ti_ne c101
          refine sf_bnd (s_X3_refuse hF hI (by decide) (by decide)) (fun r102 u103 p104 => ?_)
          obtain ⟨Iu103, Fu103_, O83_u103_, O0_u103_, p104_1, p104_2⟩ := p104
          have Fu103 : ∀ k, 101 ≤ k → u103 k = τ k := fun k hk => (Fu103_ k hk).trans (Fτ k hk)
          have O83_u103 : u103 83 1 = τ 83 1 := O83_u103_.trans O83_τ
          have O0_u103 : u103 0 7 = τ 0 7 := O0_u103_.trans O0_τ
          exact sf_ret ⟨Iu103, Fu103, O83_u103, O0_u103, ti_lo _, ti_hi _⟩
        have C84 : (999 : Int) < x3.toInt := ti_nle c84
        refine sf_ret ?_
        refine sf_in ?_
        rw [f_X3_firstOf_e]
        refine sf_ite (fun c105 => ?_) (fun c105 => ?_)
        · have C105 : (-1 : Int) = (0 : Int) := ti_eq c105
          exfalso; omega
        have C105 : ¬ (-1 : Int) = (0 : Int) := ti_ne c105
        refine sf_ret ?_
        refine sf_in ?_
        rw [f_X3_notBelow_e]
        have b106 := ti_lo x4
        have b107 := ti_hi x4
        refine sf_ite (fun c108 => ?_) (fun c108 => ?_)
        · have C108 : x4.toInt < (0 : Int) := ti_lt c108
          rw [j_X3_notBelow_13_e]
          refine sf_ret ?_
          refine sf_in ?_
          rw [f_X3_firstOf_e]
          refine sf_ite (fun c109 => ?_) (fun c109 => ?_)
          · have C109 : (-1 : Int) = (0 : Int) := ti_eq c109
            exfalso; omega
          have C109 : ¬ (-1 : Int) = (0 : Int) := ti_ne c109
          refine sf_ret ?_
          refine sf_ite (fun c110 => ?_) (fun c110 => ?_)
          · have C110 : (-1 : Int) = (0 : Int) := ti_eq c110
            exfalso; omega
          have C110 : ¬ (-1 : Int) = (0 : Int) := ti_ne c110
          refine sf_bnd (s_X3_refuse hF hI (by decide) (by decide)) (fun r111 u112 p113 => ?_)
          obtain ⟨Iu112, Fu112_, O83_u112_, O0_u112_, p113_1, p113_2⟩ := p113
          have Fu112 : ∀ k, 101 ≤ k → u112 k = τ k := fun k hk => (Fu112_ k hk).trans (Fτ k hk)
          have O83_u112 : u112 83 1 = τ 83 1 := O83_u112_.trans O83_τ
          have O0_u112 : u112 0 7 = τ 0 7 := O0_u112_.trans O0_τ
          exact sf_ret ⟨Iu112, Fu112, O83_u112, O0_u112, ti_lo _, ti_hi _⟩
        have C108 : (0 : Int) ≤ x4.toInt := ti_nlt c108
        refine sf_ite (fun c114 => ?_) (fun c114 => ?_)
        · have C114 : (2 : Int) ≤ x4.toInt := ti_le c114
          rw [j_X3_notBelow_13_e]
          refine sf_ret ?_
          refine sf_in ?_
          rw [f_X3_firstOf_e]
          refine sf_ite (fun c115 => ?_) (fun c115 => ?_)
          · have C115 : (-1 : Int) = (0 : Int) := ti_eq c115
            exfalso; omega
          have C115 : ¬ (-1 : Int) = (0 : Int) := ti_ne c115
          refine sf_ret ?_
          refine sf_ite (fun c116 => ?_) (fun c116 => ?_)
          · have C116 : (-1 : Int) = (0 : Int) := ti_eq c116
            exfalso; omega
          have C116 : ¬ (-1 : Int) = (0 : Int) := ti_ne c116
          refine sf_bnd (s_X3_refuse hF hI (by decide) (by decide)) (fun r117 u118 p119 => ?_)
          obtain ⟨Iu118, Fu118_, O83_u118_, O0_u118_, p119_1, p119_2⟩ := p119
          have Fu118 : ∀ k, 101 ≤ k → u118 k = τ k := fun k hk => (Fu118_ k hk).trans (Fτ k hk)
          have O83_u118 : u118 83 1 = τ 83 1 := O83_u118_.trans O83_τ
          have O0_u118 : u118 0 7 = τ 0 7 := O0_u118_.trans O0_τ
          exact sf_ret ⟨Iu118, Fu118, O83_u118, O0_u118, ti_lo _, ti_hi _⟩
        have C114 : x4.toInt < (2 : Int) := ti_nle c114
        refine sf_ret ?_
        refine sf_in ?_
        rw [f_X3_firstOf_e]
        refine sf_ite (fun c120 => ?_) (fun c120 => ?_)
        · have C120 : (-1 : Int) = (0 : Int) := ti_eq c120
          exfalso; omega
        have C120 : ¬ (-1 : Int) = (0 : Int) := ti_ne c120
        refine sf_ret ?_
        refine sf_ite (fun c121 => ?_) (fun c121 => ?_)
        · have C121 : (-1 : Int) = (0 : Int) := ti_eq c121
          exfalso; omega
        have C121 : ¬ (-1 : Int) = (0 : Int) := ti_ne c121
        refine sf_bnd (s_X3_refuse hF hI (by decide) (by decide)) (fun r122 u123 p124 => ?_)
        obtain ⟨Iu123, Fu123_, O83_u123_, O0_u123_, p124_1, p124_2⟩ := p124
        have Fu123 : ∀ k, 101 ≤ k → u123 k = τ k := fun k hk => (Fu123_ k hk).trans (Fτ k hk)
        have O83_u123 : u123 83 1 = τ 83 1 := O83_u123_.trans O83_τ
        have O0_u123 : u123 0 7 = τ 0 7 := O0_u123_.trans O0_τ
        exact sf_ret ⟨Iu123, Fu123, O83_u123, O0_u123, ti_lo _, ti_hi _⟩
      have C83 : x3.toInt < (0 : Int) := ti_nle c83
      refine sf_ret ?_
      refine sf_in ?_
      rw [f_X3_firstOf_e]
      refine sf_ite (fun c125 => ?_) (fun c125 => ?_)
      · have C125 : (-1 : Int) = (0 : Int) := ti_eq c125
        exfalso; omega
      have C125 : ¬ (-1 : Int) = (0 : Int) := ti_ne c125
      refine sf_ret ?_
      refine sf_in ?_
      rw [f_X3_notBelow_e]
      have b126 := ti_lo x4
      have b127 := ti_hi x4
      refine sf_ite (fun c128 => ?_) (fun c128 => ?_)
      · have C128 : x4.toInt < (0 : Int) := ti_lt c128
        rw [j_X3_notBelow_13_e]
        refine sf_ret ?_
        refine sf_in ?_
        rw [f_X3_firstOf_e]
        refine sf_ite (fun c129 => ?_) (fun c129 => ?_)
        · have C129 : (-1 : Int) = (0 : Int) := ti_eq c129
          exfalso; omega
        have C129 : ¬ (-1 : Int) = (0 : Int) := ti_ne c129
        refine sf_ret ?_
        refine sf_ite (fun c130 => ?_) (fun c130 => ?_)
        · have C130 : (-1 : Int) = (0 : Int) := ti_eq c130
          exfalso; omega
        have C130 : ¬ (-1 : Int) = (0 : Int) := ti_ne c130
        refine sf_bnd (s_X3_refuse hF hI (by decide) (by decide)) (fun r131 u132 p133 => ?_)
        obtain ⟨Iu132, Fu132_, O83_u132_, O0_u132_, p133_1, p133_2⟩ := p133
        have Fu132 : ∀ k, 101 ≤ k → u132 k = τ k := fun k hk => (Fu132_ k hk).trans (Fτ k hk)
        have O83_u132 : u132 83 1 = τ 83 1 := O83_u132_.trans O83_τ
        have O0_u132 : u132 0 7 = τ 0 7 := O0_u132_.trans O0_τ
        exact sf_ret ⟨Iu132, Fu132, O83_u132, O0_u132, ti_lo _, ti_hi _⟩
      have C128 : (0 : Int) ≤ x4.toInt := ti_nlt c128
      refine sf_ite (fun c134 => ?_) (fun c134 => ?_)
      · have C134 : (2 : Int) ≤ x4.toInt := ti_le c134
        rw [j_X3_notBelow_13_e]
        refine sf_ret ?_
        refine sf_in ?_
        rw [f_X3_firstOf_e]
        refine sf_ite (fun c135 => ?_) (fun c135 => ?_)
        · have C135 : (-1 : Int) = (0 : Int) := ti_eq c135
          exfalso; omega
        have C135 : ¬ (-1 : Int) = (0 : Int) := ti_ne c135
        refine sf_ret ?_
        refine sf_ite (fun c136 => ?_) (fun c136 => ?_)
        · have C136 : (-1 : Int) = (0 : Int) := ti_eq c136
          exfalso; omega
        have C136 : ¬ (-1 : Int) = (0 : Int) := ti_ne c136
        refine sf_bnd (s_X3_refuse hF hI (by decide) (by decide)) (fun r137 u138 p139 => ?_)
        obtain ⟨Iu138, Fu138_, O83_u138_, O0_u138_, p139_1, p139_2⟩ := p139
        have Fu138 : ∀ k, 101 ≤ k → u138 k = τ k := fun k hk => (Fu138_ k hk).trans (Fτ k hk)
        have O83_u138 : u138 83 1 = τ 83 1 := O83_u138_.trans O83_τ
        have O0_u138 : u138 0 7 = τ 0 7 := O0_u138_.trans O0_τ
        exact sf_ret ⟨Iu138, Fu138, O83_u138, O0_u138, ti_lo _, ti_hi _⟩
      have C134 : x4.toInt < (2 : Int) := ti_nle c134
      refine sf_ret ?_
      refine sf_in ?_
      rw [f_X3_firstOf_e]
      refine sf_ite (fun c140 => ?_) (fun c140 => ?_)
      · have C140 : (-1 : Int) = (0 : Int) := ti_eq c140
        exfalso; omega
      have C140 : ¬ (-1 : Int) = (0 : Int) := ti_ne c140
      refine sf_ret ?_
      refine sf_ite (fun c141 => ?_) (fun c141 => ?_)
      · have C141 : (-1 : Int) = (0 : Int) := ti_eq c141
        exfalso; omega
      have C141 : ¬ (-1 : Int) = (0 : Int) := ti_ne c141
      refine sf_bnd (s_X3_refuse hF hI (by decide) (by decide)) (fun r142 u143 p144 => ?_)
      obtain ⟨Iu143, Fu143_, O83_u143_, O0_u143_, p144_1, p144_2⟩ := p144
      have Fu143 : ∀ k, 101 ≤ k → u143 k = τ k := fun k hk => (Fu143_ k hk).trans (Fτ k hk)
      have O83_u143 : u143 83 1 = τ 83 1 := O83_u143_.trans O83_τ
      have O0_u143 : u143 0 7 = τ 0 7 := O0_u143_.trans O0_τ
      exact sf_ret ⟨Iu143, Fu143, O83_u143, O0_u143, ti_lo _, ti_hi _⟩
    have C80 : ¬ (0 : Int) = (0 : Int) := ti_ne c80
    exfalso; omega
  obtain rfl := p5
  have b145 := ti_lo x2
  have b146 := ti_hi x2
  refine sf_bnd (s_X3_noHour hF hI) (fun r147 u148 p149 => ?_)
  obtain ⟨e9, p149⟩ := p149
  have e9 := e9.symm
  subst e9
  rcases p149 with ⟨rfl, q150, q151⟩ | p149
  · refine sf_in ?_
    rw [f_X3_firstOf_e]
    refine sf_ite (fun c152 => ?_) (fun c152 => ?_)
    · have C152 : (-1 : Int) = (0 : Int) := ti_eq c152
      exfalso; omega
    have C152 : ¬ (-1 : Int) = (0 : Int) := ti_ne c152
    refine sf_ret ?_
    refine sf_in ?_
    rw [f_X3_outside_e]
    have b153 := ti_lo x3
    have b154 := ti_hi x3
    refine sf_ite (fun c155 => ?_) (fun c155 => ?_)
    · have C155 : (0 : Int) ≤ x3.toInt := ti_le c155
      refine sf_ite (fun c156 => ?_) (fun c156 => ?_)
      · have C156 : x3.toInt ≤ (999 : Int) := ti_le c156
        refine sf_ret ?_
        refine sf_in ?_
        rw [f_X3_firstOf_e]
        refine sf_ite (fun c157 => ?_) (fun c157 => ?_)
        · have C157 : (-1 : Int) = (0 : Int) := ti_eq c157
          exfalso; omega
        have C157 : ¬ (-1 : Int) = (0 : Int) := ti_ne c157
        refine sf_ret ?_
        refine sf_in ?_
        rw [f_X3_notBelow_e]
        have b158 := ti_lo x4
        have b159 := ti_hi x4
        refine sf_ite (fun c160 => ?_) (fun c160 => ?_)
        · have C160 : x4.toInt < (0 : Int) := ti_lt c160
          rw [j_X3_notBelow_13_e]
          refine sf_ret ?_
          refine sf_in ?_
          rw [f_X3_firstOf_e]
          refine sf_ite (fun c161 => ?_) (fun c161 => ?_)
          · have C161 : (-1 : Int) = (0 : Int) := ti_eq c161
            exfalso; omega
          have C161 : ¬ (-1 : Int) = (0 : Int) := ti_ne c161
          refine sf_ret ?_
          refine sf_ite (fun c162 => ?_) (fun c162 => ?_)
          · have C162 : (-1 : Int) = (0 : Int) := ti_eq c162
            exfalso; omega
          have C162 : ¬ (-1 : Int) = (0 : Int) := ti_ne c162
          refine sf_bnd (s_X3_refuse hF hI (by decide) (by decide)) (fun r163 u164 p165 => ?_)
          obtain ⟨Iu164, Fu164_, O83_u164_, O0_u164_, p165_1, p165_2⟩ := p165
          have Fu164 : ∀ k, 101 ≤ k → u164 k = τ k := fun k hk => (Fu164_ k hk).trans (Fτ k hk)
          have O83_u164 : u164 83 1 = τ 83 1 := O83_u164_.trans O83_τ
          have O0_u164 : u164 0 7 = τ 0 7 := O0_u164_.trans O0_τ
          exact sf_ret ⟨Iu164, Fu164, O83_u164, O0_u164, ti_lo _, ti_hi _⟩
        have C160 : (0 : Int) ≤ x4.toInt := ti_nlt c160
        refine sf_ite (fun c166 => ?_) (fun c166 => ?_)
        · have C166 : (2 : Int) ≤ x4.toInt := ti_le c166
          rw [j_X3_notBelow_13_e]
          refine sf_ret ?_
          refine sf_in ?_
          rw [f_X3_firstOf_e]
          refine sf_ite (fun c167 => ?_) (fun c167 => ?_)
          · have C167 : (-1 : Int) = (0 : Int) := ti_eq c167
            exfalso; omega
          have C167 : ¬ (-1 : Int) = (0 : Int) := ti_ne c167
          refine sf_ret ?_
          refine sf_ite (fun c168 => ?_) (fun c168 => ?_)
          · have C168 : (-1 : Int) = (0 : Int) := ti_eq c168
            exfalso; omega
          have C168 : ¬ (-1 : Int) = (0 : Int) := ti_ne c168
          refine sf_bnd (s_X3_refuse hF hI (by decide) (by decide)) (fun r169 u170 p171 => ?_)
          obtain ⟨Iu170, Fu170_, O83_u170_, O0_u170_, p171_1, p171_2⟩ := p171
          have Fu170 : ∀ k, 101 ≤ k → u170 k = τ k := fun k hk => (Fu170_ k hk).trans (Fτ k hk)
          have O83_u170 : u170 83 1 = τ 83 1 := O83_u170_.trans O83_τ
          have O0_u170 : u170 0 7 = τ 0 7 := O0_u170_.trans O0_τ
          exact sf_ret ⟨Iu170, Fu170, O83_u170, O0_u170, ti_lo _, ti_hi _⟩
        have C166 : x4.toInt < (2 : Int) := ti_nle c166
        refine sf_ret ?_
        refine sf_in ?_
        rw [f_X3_firstOf_e]
        refine sf_ite (fun c172 => ?_) (fun c172 => ?_)
        · have C172 : (-1 : Int) = (0 : Int) := ti_eq c172
          exfalso; omega
        have C172 : ¬ (-1 : Int) = (0 : Int) := ti_ne c172
        refine sf_ret ?_
        refine sf_ite (fun c173 => ?_) (fun c173 => ?_)
        · have C173 : (-1 : Int) = (0 : Int) := ti_eq c173
          exfalso; omega
        have C173 : ¬ (-1 : Int) = (0 : Int) := ti_ne c173
        refine sf_bnd (s_X3_refuse hF hI (by decide) (by decide)) (fun r174 u175 p176 => ?_)
        obtain ⟨Iu175, Fu175_, O83_u175_, O0_u175_, p176_1, p176_2⟩ := p176
        have Fu175 : ∀ k, 101 ≤ k → u175 k = τ k := fun k hk => (Fu175_ k hk).trans (Fτ k hk)
        have O83_u175 : u175 83 1 = τ 83 1 := O83_u175_.trans O83_τ
        have O0_u175 : u175 0 7 = τ 0 7 := O0_u175_.trans O0_τ
        exact sf_ret ⟨Iu175, Fu175, O83_u175, O0_u175, ti_lo _, ti_hi _⟩
      have C156 : (999 : Int) < x3.toInt := ti_nle c156
      refine sf_ret ?_
      refine sf_in ?_
      rw [f_X3_firstOf_e]
      refine sf_ite (fun c177 => ?_) (fun c177 => ?_)
      · have C177 : (-1 : Int) = (0 : Int) := ti_eq c177
        exfalso; omega
      have C177 : ¬ (-1 : Int) = (0 : Int) := ti_ne c177
      refine sf_ret ?_
      refine sf_in ?_
      rw [f_X3_notBelow_e]
      have b178 := ti_lo x4
      have b179 := ti_hi x4
      refine sf_ite (fun c180 => ?_) (fun c180 => ?_)
      · have C180 : x4.toInt < (0 : Int) := ti_lt c180
        rw [j_X3_notBelow_13_e]
        refine sf_ret ?_
        refine sf_in ?_
        rw [f_X3_firstOf_e]
        refine sf_ite (fun c181 => ?_) (fun c181 => ?_)
        · have C181 : (-1 : Int) = (0 : Int) := ti_eq c181
          exfalso; omega
        have C181 : ¬ (-1 : Int) = (0 : Int) := ti_ne c181
        refine sf_ret ?_
        refine sf_ite (fun c182 => ?_) (fun c182 => ?_)
        · have C182 : (-1 : Int) = (0 : Int) := ti_eq c182
          exfalso; omega
        have C182 : ¬ (-1 : Int) = (0 : Int) := ti_ne c182
        refine sf_bnd (s_X3_refuse hF hI (by decide) (by decide)) (fun r183 u184 p185 => ?_)
        obtain ⟨Iu184, Fu184_, O83_u184_, O0_u184_, p185_1, p185_2⟩ := p185
        have Fu184 : ∀ k, 101 ≤ k → u184 k = τ k := fun k hk => (Fu184_ k hk).trans (Fτ k hk)
        have O83_u184 : u184 83 1 = τ 83 1 := O83_u184_.trans O83_τ
        have O0_u184 : u184 0 7 = τ 0 7 := O0_u184_.trans O0_τ
        exact sf_ret ⟨Iu184, Fu184, O83_u184, O0_u184, ti_lo _, ti_hi _⟩
      have C180 : (0 : Int) ≤ x4.toInt := ti_nlt c180
      refine sf_ite (fun c186 => ?_) (fun c186 => ?_)
      · have C186 : (2 : Int) ≤ x4.toInt := ti_le c186
        rw [j_X3_notBelow_13_e]
        refine sf_ret ?_
        refine sf_in ?_
        rw [f_X3_firstOf_e]
        refine sf_ite (fun c187 => ?_) (fun c187 => ?_)
        · have C187 : (-1 : Int) = (0 : Int) := ti_eq c187
          exfalso; omega
        have C187 : ¬ (-1 : Int) = (0 : Int) := ti_ne c187
        refine sf_ret ?_
        refine sf_ite (fun c188 => ?_) (fun c188 => ?_)
        · have C188 : (-1 : Int) = (0 : Int) := ti_eq c188
          exfalso; omega
        have C188 : ¬ (-1 : Int) = (0 : Int) := ti_ne c188
        refine sf_bnd (s_X3_refuse hF hI (by decide) (by decide)) (fun r189 u190 p191 => ?_)
        obtain ⟨Iu190, Fu190_, O83_u190_, O0_u190_, p191_1, p191_2⟩ := p191
        have Fu190 : ∀ k, 101 ≤ k → u190 k = τ k := fun k hk => (Fu190_ k hk).trans (Fτ k hk)
        have O83_u190 : u190 83 1 = τ 83 1 := O83_u190_.trans O83_τ
        have O0_u190 : u190 0 7 = τ 0 7 := O0_u190_.trans O0_τ
        exact sf_ret ⟨Iu190, Fu190, O83_u190, O0_u190, ti_lo _, ti_hi _⟩
      have C186 : x4.toInt < (2 : Int) := ti_nle c186
      refine sf_ret ?_
      refine sf_in ?_
      rw [f_X3_firstOf_e]
      refine sf_ite (fun c192 => ?_) (fun c192 => ?_)
      · have C192 : (-1 : Int) = (0 : Int) := ti_eq c192
        exfalso; omega
      have C192 : ¬ (-1 : Int) = (0 : Int) := ti_ne c192
      refine sf_ret ?_
      refine sf_ite (fun c193 => ?_) (fun c193 => ?_)
      · have C193 : (-1 : Int) = (0 : Int) := ti_eq c193
        exfalso; omega
      have C193 : ¬ (-1 : Int) = (0 : Int) := ti_ne c193
      refine sf_bnd (s_X3_refuse hF hI (by decide) (by decide)) (fun r194 u195 p196 => ?_)
      obtain ⟨Iu195, Fu195_, O83_u195_, O0_u195_, p196_1, p196_2⟩ := p196
      have Fu195 : ∀ k, 101 ≤ k → u195 k = τ k := fun k hk => (Fu195_ k hk).trans (Fτ k hk)
      have O83_u195 : u195 83 1 = τ 83 1 := O83_u195_.trans O83_τ
      have O0_u195 : u195 0 7 = τ 0 7 := O0_u195_.trans O0_τ
      exact sf_ret ⟨Iu195, Fu195, O83_u195, O0_u195, ti_lo _, ti_hi _⟩
    have C155 : x3.toInt < (0 : Int) := ti_nle c155
    refine sf_ret ?_
    refine sf_in ?_
    rw [f_X3_firstOf_e]
    refine sf_ite (fun c197 => ?_) (fun c197 => ?_)
    · have C197 : (-1 : Int) = (0 : Int) := ti_eq c197
      exfalso; omega
    have C197 : ¬ (-1 : Int) = (0 : Int) := ti_ne c197
    refine sf_ret ?_
    refine sf_in ?_
    rw [f_X3_notBelow_e]
    have b198 := ti_lo x4
    have b199 := ti_hi x4
    refine sf_ite (fun c200 => ?_) (fun c200 => ?_)
    · have C200 : x4.toInt < (0 : Int) := ti_lt c200
      rw [j_X3_notBelow_13_e]
      refine sf_ret ?_
      refine sf_in ?_
      rw [f_X3_firstOf_e]
      refine sf_ite (fun c201 => ?_) (fun c201 => ?_)
      · have C201 : (-1 : Int) = (0 : Int) := ti_eq c201
        exfalso; omega
      have C201 : ¬ (-1 : Int) = (0 : Int) := ti_ne c201
      refine sf_ret ?_
      refine sf_ite (fun c202 => ?_) (fun c202 => ?_)
      · have C202 : (-1 : Int) = (0 : Int) := ti_eq c202
        exfalso; omega
      have C202 : ¬ (-1 : Int) = (0 : Int) := ti_ne c202
      refine sf_bnd (s_X3_refuse hF hI (by decide) (by decide)) (fun r203 u204 p205 => ?_)
      obtain ⟨Iu204, Fu204_, O83_u204_, O0_u204_, p205_1, p205_2⟩ := p205
      have Fu204 : ∀ k, 101 ≤ k → u204 k = τ k := fun k hk => (Fu204_ k hk).trans (Fτ k hk)
      have O83_u204 : u204 83 1 = τ 83 1 := O83_u204_.trans O83_τ
      have O0_u204 : u204 0 7 = τ 0 7 := O0_u204_.trans O0_τ
      exact sf_ret ⟨Iu204, Fu204, O83_u204, O0_u204, ti_lo _, ti_hi _⟩
    have C200 : (0 : Int) ≤ x4.toInt := ti_nlt c200
    refine sf_ite (fun c206 => ?_) (fun c206 => ?_)
    · have C206 : (2 : Int) ≤ x4.toInt := ti_le c206
      rw [j_X3_notBelow_13_e]
      refine sf_ret ?_
      refine sf_in ?_
      rw [f_X3_firstOf_e]
      refine sf_ite (fun c207 => ?_) (fun c207 => ?_)
      · have C207 : (-1 : Int) = (0 : Int) := ti_eq c207
        exfalso; omega
      have C207 : ¬ (-1 : Int) = (0 : Int) := ti_ne c207
      refine sf_ret ?_
      refine sf_ite (fun c208 => ?_) (fun c208 => ?_)
      · have C208 : (-1 : Int) = (0 : Int) := ti_eq c208
        exfalso; omega
      have C208 : ¬ (-1 : Int) = (0 : Int) := ti_ne c208
      refine sf_bnd (s_X3_refuse hF hI (by decide) (by decide)) (fun r209 u210 p211 => ?_)
      obtain ⟨Iu210, Fu210_, O83_u210_, O0_u210_, p211_1, p211_2⟩ := p211
      have Fu210 : ∀ k, 101 ≤ k → u210 k = τ k := fun k hk => (Fu210_ k hk).trans (Fτ k hk)
      have O83_u210 : u210 83 1 = τ 83 1 := O83_u210_.trans O83_τ
      have O0_u210 : u210 0 7 = τ 0 7 := O0_u210_.trans O0_τ
      exact sf_ret ⟨Iu210, Fu210, O83_u210, O0_u210, ti_lo _, ti_hi _⟩
    have C206 : x4.toInt < (2 : Int) := ti_nle c206
    refine sf_ret ?_
    refine sf_in ?_
    rw [f_X3_firstOf_e]
    refine sf_ite (fun c212 => ?_) (fun c212 => ?_)
    · have C212 : (-1 : Int) = (0 : Int) := ti_eq c212
      exfalso; omega
    have C212 : ¬ (-1 : Int) = (0 : Int) := ti_ne c212
    refine sf_ret ?_
    refine sf_ite (fun c213 => ?_) (fun c213 => ?_)
    · have C213 : (-1 : Int) = (0 : Int) := ti_eq c213
      exfalso; omega
    have C213 : ¬ (-1 : Int) = (0 : Int) := ti_ne c213
    refine sf_bnd (s_X3_refuse hF hI (by decide) (by decide)) (fun r214 u215 p216 => ?_)
    obtain ⟨Iu215, Fu215_, O83_u215_, O0_u215_, p216_1, p216_2⟩ := p216
    have Fu215 : ∀ k, 101 ≤ k → u215 k = τ k := fun k hk => (Fu215_ k hk).trans (Fτ k hk)
    have O83_u215 : u215 83 1 = τ 83 1 := O83_u215_.trans O83_τ
    have O0_u215 : u215 0 7 = τ 0 7 := O0_u215_.trans O0_τ
    exact sf_ret ⟨Iu215, Fu215, O83_u215, O0_u215, ti_lo _, ti_hi _⟩
  obtain rfl := p149
  refine sf_in ?_
  rw [f_X3_firstOf_e]
  refine sf_ite (fun c217 => ?_) (fun c217 => ?_)
  · have C217 : (-1 : Int) = (0 : Int) := ti_eq c217
    exfalso; omega
  have C217 : ¬ (-1 : Int) = (0 : Int) := ti_ne c217
  refine sf_ret ?_
  refine sf_in ?_
  rw [f_X3_outside_e]
  have b218 := ti_lo x3
  have b219 := ti_hi x3
  refine sf_ite (fun c220 => ?_) (fun c220 => ?_)
  · have C220 : (0 : Int) ≤ x3.toInt := ti_le c220
    refine sf_ite (fun c221 => ?_) (fun c221 => ?_)
    · have C221 : x3.toInt ≤ (999 : Int) := ti_le c221
      refine sf_ret ?_
      refine sf_in ?_
      rw [f_X3_firstOf_e]
      refine sf_ite (fun c222 => ?_) (fun c222 => ?_)
      · have C222 : (-1 : Int) = (0 : Int) := ti_eq c222
        exfalso; omega
      have C222 : ¬ (-1 : Int) = (0 : Int) := ti_ne c222
      refine sf_ret ?_
      refine sf_in ?_
      rw [f_X3_notBelow_e]
      have b223 := ti_lo x4
      have b224 := ti_hi x4
      refine sf_ite (fun c225 => ?_) (fun c225 => ?_)
      · have C225 : x4.toInt < (0 : Int) := ti_lt c225
        rw [j_X3_notBelow_13_e]
        refine sf_ret ?_
        refine sf_in ?_
        rw [f_X3_firstOf_e]
        refine sf_ite (fun c226 => ?_) (fun c226 => ?_)
        · have C226 : (-1 : Int) = (0 : Int) := ti_eq c226
          exfalso; omega
        have C226 : ¬ (-1 : Int) = (0 : Int) := ti_ne c226
        refine sf_ret ?_
        refine sf_ite (fun c227 => ?_) (fun c227 => ?_)
        · have C227 : (-1 : Int) = (0 : Int) := ti_eq c227
          exfalso; omega
        have C227 : ¬ (-1 : Int) = (0 : Int) := ti_ne c227
        refine sf_bnd (s_X3_refuse hF hI (by decide) (by decide)) (fun r228 u229 p230 => ?_)
        obtain ⟨Iu229, Fu229_, O83_u229_, O0_u229_, p230_1, p230_2⟩ := p230
        have Fu229 : ∀ k, 101 ≤ k → u229 k = τ k := fun k hk => (Fu229_ k hk).trans (Fτ k hk)
        have O83_u229 : u229 83 1 = τ 83 1 := O83_u229_.trans O83_τ
        have O0_u229 : u229 0 7 = τ 0 7 := O0_u229_.trans O0_τ
        exact sf_ret ⟨Iu229, Fu229, O83_u229, O0_u229, ti_lo _, ti_hi _⟩
      have C225 : (0 : Int) ≤ x4.toInt := ti_nlt c225
      refine sf_ite (fun c231 => ?_) (fun c231 => ?_)
      · have C231 : (2 : Int) ≤ x4.toInt := ti_le c231
        rw [j_X3_notBelow_13_e]
        refine sf_ret ?_
        refine sf_in ?_
        rw [f_X3_firstOf_e]
        refine sf_ite (fun c232 => ?_) (fun c232 => ?_)
        · have C232 : (-1 : Int) = (0 : Int) := ti_eq c232
          exfalso; omega
        have C232 : ¬ (-1 : Int) = (0 : Int) := ti_ne c232
        refine sf_ret ?_
        refine sf_ite (fun c233 => ?_) (fun c233 => ?_)
        · have C233 : (-1 : Int) = (0 : Int) := ti_eq c233
          exfalso; omega
        have C233 : ¬ (-1 : Int) = (0 : Int) := ti_ne c233
        refine sf_bnd (s_X3_refuse hF hI (by decide) (by decide)) (fun r234 u235 p236 => ?_)
        obtain ⟨Iu235, Fu235_, O83_u235_, O0_u235_, p236_1, p236_2⟩ := p236
        have Fu235 : ∀ k, 101 ≤ k → u235 k = τ k := fun k hk => (Fu235_ k hk).trans (Fτ k hk)
        have O83_u235 : u235 83 1 = τ 83 1 := O83_u235_.trans O83_τ
        have O0_u235 : u235 0 7 = τ 0 7 := O0_u235_.trans O0_τ
        exact sf_ret ⟨Iu235, Fu235, O83_u235, O0_u235, ti_lo _, ti_hi _⟩
      have C231 : x4.toInt < (2 : Int) := ti_nle c231
      refine sf_ret ?_
      refine sf_in ?_
      rw [f_X3_firstOf_e]
      refine sf_ite (fun c237 => ?_) (fun c237 => ?_)
      · have C237 : (-1 : Int) = (0 : Int) := ti_eq c237
        exfalso; omega
      have C237 : ¬ (-1 : Int) = (0 : Int) := ti_ne c237
      refine sf_ret ?_
      refine sf_ite (fun c238 => ?_) (fun c238 => ?_)
      · have C238 : (-1 : Int) = (0 : Int) := ti_eq c238
        exfalso; omega
      have C238 : ¬ (-1 : Int) = (0 : Int) := ti_ne c238
      refine sf_bnd (s_X3_refuse hF hI (by decide) (by decide)) (fun r239 u240 p241 => ?_)
      obtain ⟨Iu240, Fu240_, O83_u240_, O0_u240_, p241_1, p241_2⟩ := p241
      have Fu240 : ∀ k, 101 ≤ k → u240 k = τ k := fun k hk => (Fu240_ k hk).trans (Fτ k hk)
      have O83_u240 : u240 83 1 = τ 83 1 := O83_u240_.trans O83_τ
      have O0_u240 : u240 0 7 = τ 0 7 := O0_u240_.trans O0_τ
      exact sf_ret ⟨Iu240, Fu240, O83_u240, O0_u240, ti_lo _, ti_hi _⟩
    have C221 : (999 : Int) < x3.toInt := ti_nle c221
    refine sf_ret ?_
    refine sf_in ?_
    rw [f_X3_firstOf_e]
    refine sf_ite (fun c242 => ?_) (fun c242 => ?_)
    · have C242 : (-1 : Int) = (0 : Int) := ti_eq c242
      exfalso; omega
    have C242 : ¬ (-1 : Int) = (0 : Int) := ti_ne c242
    refine sf_ret ?_
    refine sf_in ?_
    rw [f_X3_notBelow_e]
    have b243 := ti_lo x4
    have b244 := ti_hi x4
    refine sf_ite (fun c245 => ?_) (fun c245 => ?_)
    · have C245 : x4.toInt < (0 : Int) := ti_lt c245
      rw [j_X3_notBelow_13_e]
      refine sf_ret ?_
      refine sf_in ?_
      rw [f_X3_firstOf_e]
      refine sf_ite (fun c246 => ?_) (fun c246 => ?_)
      · have C246 : (-1 : Int) = (0 : Int) := ti_eq c246
        exfalso; omega
      have C246 : ¬ (-1 : Int) = (0 : Int) := ti_ne c246
      refine sf_ret ?_
      refine sf_ite (fun c247 => ?_) (fun c247 => ?_)
      · have C247 : (-1 : Int) = (0 : Int) := ti_eq c247
        exfalso; omega
      have C247 : ¬ (-1 : Int) = (0 : Int) := ti_ne c247
      refine sf_bnd (s_X3_refuse hF hI (by decide) (by decide)) (fun r248 u249 p250 => ?_)
      obtain ⟨Iu249, Fu249_, O83_u249_, O0_u249_, p250_1, p250_2⟩ := p250
      have Fu249 : ∀ k, 101 ≤ k → u249 k = τ k := fun k hk => (Fu249_ k hk).trans (Fτ k hk)
      have O83_u249 : u249 83 1 = τ 83 1 := O83_u249_.trans O83_τ
      have O0_u249 : u249 0 7 = τ 0 7 := O0_u249_.trans O0_τ
      exact sf_ret ⟨Iu249, Fu249, O83_u249, O0_u249, ti_lo _, ti_hi _⟩
    have C245 : (0 : Int) ≤ x4.toInt := ti_nlt c245
    refine sf_ite (fun c251 => ?_) (fun c251 => ?_)
    · have C251 : (2 : Int) ≤ x4.toInt := ti_le c251
      rw [j_X3_notBelow_13_e]
      refine sf_ret ?_
      refine sf_in ?_
      rw [f_X3_firstOf_e]
      refine sf_ite (fun c252 => ?_) (fun c252 => ?_)
      · have C252 : (-1 : Int) = (0 : Int) := ti_eq c252
        exfalso; omega
      have C252 : ¬ (-1 : Int) = (0 : Int) := ti_ne c252
      refine sf_ret ?_
      refine sf_ite (fun c253 => ?_) (fun c253 => ?_)
      · have C253 : (-1 : Int) = (0 : Int) := ti_eq c253
        exfalso; omega
      have C253 : ¬ (-1 : Int) = (0 : Int) := ti_ne c253
      refine sf_bnd (s_X3_refuse hF hI (by decide) (by decide)) (fun r254 u255 p256 => ?_)
      obtain ⟨Iu255, Fu255_, O83_u255_, O0_u255_, p256_1, p256_2⟩ := p256
      have Fu255 : ∀ k, 101 ≤ k → u255 k = τ k := fun k hk => (Fu255_ k hk).trans (Fτ k hk)
      have O83_u255 : u255 83 1 = τ 83 1 := O83_u255_.trans O83_τ
      have O0_u255 : u255 0 7 = τ 0 7 := O0_u255_.trans O0_τ
      exact sf_ret ⟨Iu255, Fu255, O83_u255, O0_u255, ti_lo _, ti_hi _⟩
    have C251 : x4.toInt < (2 : Int) := ti_nle c251
    refine sf_ret ?_
    refine sf_in ?_
    rw [f_X3_firstOf_e]
    refine sf_ite (fun c257 => ?_) (fun c257 => ?_)
    · have C257 : (-1 : Int) = (0 : Int) := ti_eq c257
      exfalso; omega
    have C257 : ¬ (-1 : Int) = (0 : Int) := ti_ne c257
    refine sf_ret ?_
    refine sf_ite (fun c258 => ?_) (fun c258 => ?_)
    · have C258 : (-1 : Int) = (0 : Int) := ti_eq c258
      exfalso; omega
    have C258 : ¬ (-1 : Int) = (0 : Int) := ti_ne c258
    refine sf_bnd (s_X3_refuse hF hI (by decide) (by decide)) (fun r259 u260 p261 => ?_)
    obtain ⟨Iu260, Fu260_, O83_u260_, O0_u260_, p261_1, p261_2⟩ := p261
    have Fu260 : ∀ k, 101 ≤ k → u260 k = τ k := fun k hk => (Fu260_ k hk).trans (Fτ k hk)
    have O83_u260 : u260 83 1 = τ 83 1 := O83_u260_.trans O83_τ
    have O0_u260 : u260 0 7 = τ 0 7 := O0_u260_.trans O0_τ
    exact sf_ret ⟨Iu260, Fu260, O83_u260, O0_u260, ti_lo _, ti_hi _⟩
  have C220 : x3.toInt < (0 : Int) := ti_nle c220
  refine sf_ret ?_
  refine sf_in ?_
  rw [f_X3_firstOf_e]
  refine sf_ite (fun c262 => ?_) (fun c262 => ?_)
  · have C262 : (-1 : Int) = (0 : Int) := ti_eq c262
    exfalso; omega
  have C262 : ¬ (-1 : Int) = (0 : Int) := ti_ne c262
  refine sf_ret ?_
  refine sf_in ?_
  rw [f_X3_notBelow_e]
  have b263 := ti_lo x4
  have b264 := ti_hi x4
  refine sf_ite (fun c265 => ?_) (fun c265 => ?_)
  · have C265 : x4.toInt < (0 : Int) := ti_lt c265
    rw [j_X3_notBelow_13_e]
    refine sf_ret ?_
    refine sf_in ?_
    rw [f_X3_firstOf_e]
    refine sf_ite (fun c266 => ?_) (fun c266 => ?_)
    · have C266 : (-1 : Int) = (0 : Int) := ti_eq c266
      exfalso; omega
    have C266 : ¬ (-1 : Int) = (0 : Int) := ti_ne c266
    refine sf_ret ?_
    refine sf_ite (fun c267 => ?_) (fun c267 => ?_)
    · have C267 : (-1 : Int) = (0 : Int) := ti_eq c267
      exfalso; omega
    have C267 : ¬ (-1 : Int) = (0 : Int) := ti_ne c267
    refine sf_bnd (s_X3_refuse hF hI (by decide) (by decide)) (fun r268 u269 p270 => ?_)
    obtain ⟨Iu269, Fu269_, O83_u269_, O0_u269_, p270_1, p270_2⟩ := p270
    have Fu269 : ∀ k, 101 ≤ k → u269 k = τ k := fun k hk => (Fu269_ k hk).trans (Fτ k hk)
    have O83_u269 : u269 83 1 = τ 83 1 := O83_u269_.trans O83_τ
    have O0_u269 : u269 0 7 = τ 0 7 := O0_u269_.trans O0_τ
    exact sf_ret ⟨Iu269, Fu269, O83_u269, O0_u269, ti_lo _, ti_hi _⟩
  have C265 : (0 : Int) ≤ x4.toInt := ti_nlt c265
  refine sf_ite (fun c271 => ?_) (fun c271 => ?_)
  · have C271 : (2 : Int) ≤ x4.toInt := ti_le c271
    rw [j_X3_notBelow_13_e]
    refine sf_ret ?_
    refine sf_in ?_
    rw [f_X3_firstOf_e]
    refine sf_ite (fun c272 => ?_) (fun c272 => ?_)
    · have C272 : (-1 : Int) = (0 : Int) := ti_eq c272
      exfalso; omega
    have C272 : ¬ (-1 : Int) = (0 : Int) := ti_ne c272
    refine sf_ret ?_
    refine sf_ite (fun c273 => ?_) (fun c273 => ?_)
    · have C273 : (-1 : Int) = (0 : Int) := ti_eq c273
      exfalso; omega
    have C273 : ¬ (-1 : Int) = (0 : Int) := ti_ne c273
    refine sf_bnd (s_X3_refuse hF hI (by decide) (by decide)) (fun r274 u275 p276 => ?_)
    obtain ⟨Iu275, Fu275_, O83_u275_, O0_u275_, p276_1, p276_2⟩ := p276
    have Fu275 : ∀ k, 101 ≤ k → u275 k = τ k := fun k hk => (Fu275_ k hk).trans (Fτ k hk)
    have O83_u275 : u275 83 1 = τ 83 1 := O83_u275_.trans O83_τ
    have O0_u275 : u275 0 7 = τ 0 7 := O0_u275_.trans O0_τ
    exact sf_ret ⟨Iu275, Fu275, O83_u275, O0_u275, ti_lo _, ti_hi _⟩
  have C271 : x4.toInt < (2 : Int) := ti_nle c271
  refine sf_ret ?_
  refine sf_in ?_
  rw [f_X3_firstOf_e]
  refine sf_ite (fun c277 => ?_) (fun c277 => ?_)
  · have C277 : (-1 : Int) = (0 : Int) := ti_eq c277
    exfalso; omega
  have C277 : ¬ (-1 : Int) = (0 : Int) := ti_ne c277
  refine sf_ret ?_
  refine sf_ite (fun c278 => ?_) (fun c278 => ?_)
  · have C278 : (-1 : Int) = (0 : Int) := ti_eq c278
    exfalso; omega
  have C278 : ¬ (-1 : Int) = (0 : Int) := ti_ne c278
  refine sf_bnd (s_X3_refuse hF hI (by decide) (by decide)) (fun r279 u280 p281 => ?_)
  obtain ⟨Iu280, Fu280_, O83_u280_, O0_u280_, p281_1, p281_2⟩ := p281
  have Fu280 : ∀ k, 101 ≤ k → u280 k = τ k := fun k hk => (Fu280_ k hk).trans (Fτ k hk)
  have O83_u280 : u280 83 1 = τ 83 1 := O83_u280_.trans O83_τ
  have O0_u280 : u280 0 7 = τ 0 7 := O0_u280_.trans O0_τ
  exact sf_ret ⟨Iu280, Fu280, O83_u280, O0_u280, ti_lo _, ti_hi _⟩
