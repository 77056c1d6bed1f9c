set_option maxHeartbeats 4000000 in
set_option maxRecDepth 100000 in
theorem s_X3_roster {F : Nat} (hF : 100000 ≤ F) {x1 : Int32} {x2 : Int32} {τ : Mem} (hI : wiX τ) : sf (f_X3_roster F x1 x2 τ) (fun r s => wiX s ∧ (∀ k, 101 ≤ k → s k = τ k) ∧ s 83 1 = τ 83 1 ∧ s 0 7 = τ 0 7 ∧ -2147483648 ≤ r.toInt ∧ r.toInt ≤ 2147483647) := by
  have Fτ : ∀ k, 101 ≤ k → τ k = τ k := fun _ _ => rfl
  have O83_τ : τ 83 1 = τ 83 1 := rfl
  have O0_τ : τ 0 7 = τ 0 7 := rfl
  rw [f_X3_roster_e]
  have b1 := ti_lo x1
  have b2 := ti_hi x1
  refine sf_bnd (s_X3_noLooker hF hI) (fun r3 u4 p5 => ?_)
  obtain ⟨e9, p5⟩ := p5
  have e9 := e9.symm
  subst e9
  rcases p5 with ⟨rfl, q6, q7⟩ | p5
  · have b8 := ti_lo x2
    have b9 := ti_hi x2
    refine sf_bnd (s_X3_noHour hF hI) (fun r10 u11 p12 => ?_)
    obtain ⟨e9, p12⟩ := p12
    have e9 := e9.symm
    subst e9
    rcases p12 with ⟨rfl, q13, q14⟩ | p12
    · refine sf_in ?_
      rw [f_X3_firstOf_e]
      refine sf_ite (fun c15 => ?_) (fun c15 => ?_)
      · have C15 : (0 : Int) = (0 : Int) := ti_eq c15
        refine sf_ret ?_
        refine sf_ite (fun c16 => ?_) (fun c16 => ?_)
        · have C16 : (0 : Int) = (0 : Int) := ti_eq c16
          refine sf_chk (ti_in (by omega) (by omega)) ?_
          have v17 : Int32.toNatClampNeg x1 = x1.toInt.toNat := rfl
          refine sf_chk (ti_in (by omega) (by omega)) ?_
          have v18 : Int32.toNatClampNeg x2 = x2.toInt.toNat := rfl
          have b20 := ti_lo (τ ((1 + 5) + (Int32.toNatClampNeg x1)) (Int32.toNatClampNeg x2))
          have b21 := ti_hi (τ ((1 + 5) + (Int32.toNatClampNeg x1)) (Int32.toNatClampNeg x2))
          refine sf_lt (fun z19 hz19 => ?_)
          have hz19_ : z19.toInt = (τ ((1 + 5) + (Int32.toNatClampNeg x1)) (Int32.toNatClampNeg x2)).toInt := (show z19.toInt = (τ ((1 + 5) + (Int32.toNatClampNeg x1)) (Int32.toNatClampNeg x2)).toInt from congrArg Int32.toInt hz19)
          have b22 := ti_lo z19
          have b23 := ti_hi z19
          refine sf_ite (fun c24 => ?_) (fun c24 => ?_)
          · have C24 : z19.toInt = (9 : Int) := ti_eq c24
            exact sf_ret ⟨hI, Fτ, O83_τ, O0_τ, ti_lo _, ti_hi _⟩
          have C24 : ¬ z19.toInt = (9 : Int) := ti_ne c24
          exact sf_ret ⟨hI, Fτ, O83_τ, O0_τ, ti_lo _, ti_hi _⟩
        have C16 : ¬ (0 : Int) = (0 : Int) := ti_ne c16
        exfalso; omega
      have C15 : ¬ (0 : Int) = (0 : Int) := ti_ne c15
      exfalso; omega
    obtain ⟨rfl, q25⟩ := p12
    refine sf_in ?_
    rw [f_X3_firstOf_e]
    refine sf_ite (fun c26 => ?_) (fun c26 => ?_)
    · have C26 : (0 : Int) = (0 : Int) := ti_eq c26
      refine sf_ret ?_
      refine sf_ite (fun c27 => ?_) (fun c27 => ?_)
      · have C27 : (-1 : Int) = (0 : Int) := ti_eq c27
        exfalso; omega
      have C27 : ¬ (-1 : Int) = (0 : Int) := ti_ne c27
      refine sf_bnd (s_X3_refuse hF hI (by decide) (by decide)) (fun r28 u29 p30 => ?_)
      obtain ⟨Iu29, Fu29_, O83_u29_, O0_u29_, p30_1, p30_2, p30_x0⟩ := p30
      have Fu29 : ∀ k, 101 ≤ k → u29 k = τ k := fun k hk => (Fu29_ k hk).trans (Fτ k hk)
      have O83_u29 : u29 83 1 = τ 83 1 := O83_u29_.trans O83_τ
      have O0_u29 : u29 0 7 = τ 0 7 := O0_u29_.trans O0_τ
      replace p30_x0 : r28.toInt = (-1 : Int) := p30_x0
      exact sf_ret ⟨Iu29, Fu29, O83_u29, O0_u29, ti_lo _, ti_hi _⟩
    have C26 : ¬ (0 : Int) = (0 : Int) := ti_ne c26
    exfalso; omega
  obtain rfl := p5
  have b31 := ti_lo x2
  have b32 := ti_hi x2
  refine sf_bnd (s_X3_noHour hF hI) (fun r33 u34 p35 => ?_)
  obtain ⟨e9, p35⟩ := p35
  have e9 := e9.symm
  subst e9
  rcases p35 with ⟨rfl, q36, q37⟩ | p35
  · refine sf_in ?_
    rw [f_X3_firstOf_e]
    refine sf_ite (fun c38 => ?_) (fun c38 => ?_)
    · have C38 : (-1 : Int) = (0 : Int) := ti_eq c38
      exfalso; omega
    have C38 : ¬ (-1 : Int) = (0 : Int) := ti_ne c38
    refine sf_ret ?_
    refine sf_ite (fun c39 => ?_) (fun c39 => ?_)
    · have C39 : (-1 : Int) = (0 : Int) := ti_eq c39
      exfalso; omega
    have C39 : ¬ (-1 : Int) = (0 : Int) := ti_ne c39
    refine sf_bnd (s_X3_refuse hF hI (by decide) (by decide)) (fun r40 u41 p42 => ?_)
    obtain ⟨Iu41, Fu41_, O83_u41_, O0_u41_, p42_1, p42_2, p42_x0⟩ := p42
    have Fu41 : ∀ k, 101 ≤ k → u41 k = τ k := fun k hk => (Fu41_ k hk).trans (Fτ k hk)
    have O83_u41 : u41 83 1 = τ 83 1 := O83_u41_.trans O83_τ
    have O0_u41 : u41 0 7 = τ 0 7 := O0_u41_.trans O0_τ
    replace p42_x0 : r40.toInt = (-1 : Int) := p42_x0
    exact sf_ret ⟨Iu41, Fu41, O83_u41, O0_u41, ti_lo _, ti_hi _⟩
  obtain ⟨rfl, q43⟩ := p35
  refine sf_in ?_
  rw [f_X3_firstOf_e]
  refine sf_ite (fun c44 => ?_) (fun c44 => ?_)
  · have C44 : (-1 : Int) = (0 : Int) := ti_eq c44
    exfalso; omega
  have C44 : ¬ (-1 : Int) = (0 : Int) := ti_ne c44
  refine sf_ret ?_
  refine sf_ite (fun c45 => ?_) (fun c45 => ?_)
  · have C45 : (-1 : Int) = (0 : Int) := ti_eq c45
    exfalso; omega
  have C45 : ¬ (-1 : Int) = (0 : Int) := ti_ne c45
  refine sf_bnd (s_X3_refuse hF hI (by decide) (by decide)) (fun r46 u47 p48 => ?_)
  obtain ⟨Iu47, Fu47_, O83_u47_, O0_u47_, p48_1, p48_2, p48_x0⟩ := p48
  have Fu47 : ∀ k, 101 ≤ k → u47 k = τ k := fun k hk => (Fu47_ k hk).trans (Fτ k hk)
  have O83_u47 : u47 83 1 = τ 83 1 := O83_u47_.trans O83_τ
  have O0_u47 : u47 0 7 = τ 0 7 := O0_u47_.trans O0_τ
  replace p48_x0 : r46.toInt = (-1 : Int) := p48_x0
  exact sf_ret ⟨Iu47, Fu47, O83_u47, O0_u47, ti_lo _, ti_hi _⟩
set_option maxHeartbeats 4000000 in
set_option maxRecDepth 100000 in
theorem s_X3_wall {F : Nat} (hF : 100000 ≤ F) {x1 : Int32} {x2 : Int32} {τ : Mem} (hI : wiX τ) : sf (f_X3_wall F x1 x2 τ) (fun r s => wiX s ∧ (∀ k, 101 ≤ k → s k = τ k) ∧ s 83 1 = τ 83 1 ∧ s 0 7 = τ 0 7 ∧ -2147483648 ≤ r.toInt ∧ r.toInt ≤ 2147483647) := by
  have Fτ : ∀ k, 101 ≤ k → τ k = τ k := fun _ _ => rfl
  have O83_τ : τ 83 1 = τ 83 1 := rfl
  have O0_τ : τ 0 7 = τ 0 7 := rfl
  rw [f_X3_wall_e]
  have b1 := ti_lo x1
  have b2 := ti_hi x1
  refine sf_bnd (s_X3_noPane hF hI) (fun r3 u4 p5 => ?_)
  obtain ⟨e9, p5⟩ := p5
  have e9 := e9.symm
  subst e9
  rcases p5 with ⟨rfl, q6, q7⟩ | p5
  · have b8 := ti_lo x2
    have b9 := ti_hi x2
    refine sf_bnd (s_X3_noView hF hI) (fun r10 u11 p12 => ?_)
    obtain ⟨e9, p12⟩ := p12
    have e9 := e9.symm
    subst e9
    rcases p12 with ⟨rfl, q13, q14⟩ | p12
    · refine sf_in ?_
      rw [f_X3_firstOf_e]
      refine sf_ite (fun c15 => ?_) (fun c15 => ?_)
      · have C15 : (0 : Int) = (0 : Int) := ti_eq c15
        refine sf_ret ?_
        refine sf_ite (fun c16 => ?_) (fun c16 => ?_)
        · have C16 : (0 : Int) = (0 : Int) := ti_eq c16
          refine sf_chk (ti_in (by omega) (by omega)) ?_
          have v17 : Int32.toNatClampNeg x1 = x1.toInt.toNat := rfl
          have b18 := ti_lo (τ (1 + 1) (Int32.toNatClampNeg x1))
          have b19 := ti_hi (τ (1 + 1) (Int32.toNatClampNeg x1))
          refine sf_bnd (s_X2_keep hF hI (by decide) (by decide) (by omega) (by omega)) (fun r20 u21 p22 => ?_)
          obtain ⟨Iu21, Fu21_, O83_u21_, O0_u21_, -⟩ := p22
          have Fu21 : ∀ k, 101 ≤ k → u21 k = τ k := fun k hk => (Fu21_ k hk).trans (Fτ k hk)
          have O83_u21 : u21 83 1 = τ 83 1 := O83_u21_.trans O83_τ
          have O0_u21 : u21 0 7 = τ 0 7 := O0_u21_.trans O0_τ
          refine sf_bnd (s_X0_flip hF wt_h1 Iu21) (fun r23 u24 p25 => ?_)
          obtain ⟨Iu24, Fu24_, O83_u24_, O0_u24_, p25_1, p25_2⟩ := p25
          have Fu24 : ∀ k, 101 ≤ k → u24 k = τ k := fun k hk => (Fu24_ k hk).trans (Fu21 k hk)
          have O83_u24 : u24 83 1 = τ 83 1 := O83_u24_.trans O83_u21
          have O0_u24 : u24 0 7 = τ 0 7 := O0_u24_.trans O0_u21
          have hb_r23 : r23 = 0 ∨ r23 = 1 := wi_bool p25_1 p25_2
          refine sf_bnd (s_X0_shows hF wt_h1 Iu24 (by omega) (by omega) (by omega) (by omega)) (fun r26 u27 p28 => ?_)
          obtain ⟨e9, p28_1, p28_2⟩ := p28
          have e9 := e9.symm
          subst e9
          have hb_r26 : r26 = 0 ∨ r26 = 1 := wi_bool p28_1 p28_2
          refine sf_ite (fun c29 => ?_) (fun c29 => ?_)
          · have C29 : r26.toInt = (0 : Int) := ti_eq c29
            exact sf_ret ⟨Iu24, Fu24, O83_u24, O0_u24, ti_lo _, ti_hi _⟩
          have C29 : ¬ r26.toInt = (0 : Int) := ti_ne c29
          exact sf_ret ⟨Iu24, Fu24, O83_u24, O0_u24, ti_lo _, ti_hi _⟩
        have C16 : ¬ (0 : Int) = (0 : Int) := ti_ne c16
        exfalso; omega
      have C15 : ¬ (0 : Int) = (0 : Int) := ti_ne c15
      exfalso; omega
    obtain ⟨rfl, q30⟩ := p12
    refine sf_in ?_
    rw [f_X3_firstOf_e]
    refine sf_ite (fun c31 => ?_) (fun c31 => ?_)
    · have C31 : (0 : Int) = (0 : Int) := ti_eq c31
      refine sf_ret ?_
      refine sf_ite (fun c32 => ?_) (fun c32 => ?_)
      · have C32 : (-1 : Int) = (0 : Int) := ti_eq c32
        exfalso; omega
      have C32 : ¬ (-1 : Int) = (0 : Int) := ti_ne c32
      refine sf_bnd (s_X3_refuse hF hI (by decide) (by decide)) (fun r33 u34 p35 => ?_)
      obtain ⟨Iu34, Fu34_, O83_u34_, O0_u34_, p35_1, p35_2, p35_x0⟩ := p35
      have Fu34 : ∀ k, 101 ≤ k → u34 k = τ k := fun k hk => (Fu34_ k hk).trans (Fτ k hk)
      have O83_u34 : u34 83 1 = τ 83 1 := O83_u34_.trans O83_τ
      have O0_u34 : u34 0 7 = τ 0 7 := O0_u34_.trans O0_τ
      replace p35_x0 : r33.toInt = (-1 : Int) := p35_x0
      exact sf_ret ⟨Iu34, Fu34, O83_u34, O0_u34, ti_lo _, ti_hi _⟩
    have C31 : ¬ (0 : Int) = (0 : Int) := ti_ne c31
    exfalso; omega
  obtain rfl := p5
  have b36 := ti_lo x2
  have b37 := ti_hi x2
  refine sf_bnd (s_X3_noView hF hI) (fun r38 u39 p40 => ?_)
  obtain ⟨e9, p40⟩ := p40
  have e9 := e9.symm
  subst e9
  rcases p40 with ⟨rfl, q41, q42⟩ | p40
  · refine sf_in ?_
    rw [f_X3_firstOf_e]
    refine sf_ite (fun c43 => ?_) (fun c43 => ?_)
    · have C43 : (-1 : Int) = (0 : Int) := ti_eq c43
      exfalso; omega
    have C43 : ¬ (-1 : Int) = (0 : Int) := ti_ne c43
    refine sf_ret ?_
    refine sf_ite (fun c44 => ?_) (fun c44 => ?_)
    · have C44 : (-1 : Int) = (0 : Int) := ti_eq c44
      exfalso; omega
    have C44 : ¬ (-1 : Int) = (0 : Int) := ti_ne c44
    refine sf_bnd (s_X3_refuse hF hI (by decide) (by decide)) (fun r45 u46 p47 => ?_)
    obtain ⟨Iu46, Fu46_, O83_u46_, O0_u46_, p47_1, p47_2, p47_x0⟩ := p47
    have Fu46 : ∀ k, 101 ≤ k → u46 k = τ k := fun k hk => (Fu46_ k hk).trans (Fτ k hk)
    have O83_u46 : u46 83 1 = τ 83 1 := O83_u46_.trans O83_τ
    have O0_u46 : u46 0 7 = τ 0 7 := O0_u46_.trans O0_τ
    replace p47_x0 : r45.toInt = (-1 : Int) := p47_x0
    exact sf_ret ⟨Iu46, Fu46, O83_u46, O0_u46, ti_lo _, ti_hi _⟩
  obtain ⟨rfl, q48⟩ := p40
  refine sf_in ?_
  rw [f_X3_firstOf_e]
  refine sf_ite (fun c49 => ?_) (fun c49 => ?_)
  · have C49 : (-1 : Int) = (0 : Int) := ti_eq c49
    exfalso; omega
  have C49 : ¬ (-1 : Int) = (0 : Int) := ti_ne c49
  refine sf_ret ?_
  refine sf_ite (fun c50 => ?_) (fun c50 => ?_)
  · have C50 : (-1 : Int) = (0 : Int) := ti_eq c50
    exfalso; omega
  have C50 : ¬ (-1 : Int) = (0 : Int) := ti_ne c50
  refine sf_bnd (s_X3_refuse hF hI (by decide) (by decide)) (fun r51 u52 p53 => ?_)
  obtain ⟨Iu52, Fu52_, O83_u52_, O0_u52_, p53_1, p53_2, p53_x0⟩ := p53
  have Fu52 : ∀ k, 101 ≤ k → u52 k = τ k := fun k hk => (Fu52_ k hk).trans (Fτ k hk)
  have O83_u52 : u52 83 1 = τ 83 1 := O83_u52_.trans O83_τ
  have O0_u52 : u52 0 7 = τ 0 7 := O0_u52_.trans O0_τ
  replace p53_x0 : r51.toInt = (-1 : Int) := p53_x0
  exact sf_ret ⟨Iu52, Fu52, O83_u52, O0_u52, ti_lo _, ti_hi _⟩
set_option maxHeartbeats 4000000 in
set_option maxRecDepth 100000 in
theorem s_X3_worth {F : Nat} (hF : 100000 ≤ F) {x1 : Int32} {x2 : Int32} {τ : Mem} (hI : wiX τ) : sf (f_X3_worth F x1 x2 τ) (fun r s => wiX s ∧ (∀ k, 101 ≤ k → s k = τ k) ∧ s 83 1 = τ 83 1 ∧ s 0 7 = τ 0 7 ∧ -2147483648 ≤ r.toInt ∧ r.toInt ≤ 2147483647) := by
  have Fτ : ∀ k, 101 ≤ k → τ k = τ k := fun _ _ => rfl
  have O83_τ : τ 83 1 = τ 83 1 := rfl
  have O0_τ : τ 0 7 = τ 0 7 := rfl
  rw [f_X3_worth_e]
  have b1 := ti_lo x1
  have b2 := ti_hi x1
  refine sf_bnd (s_X3_noView hF hI) (fun r3 u4 p5 => ?_)
  obtain ⟨e9, p5⟩ := p5
  have e9 := e9.symm
  subst e9
  rcases p5 with ⟨rfl, q6, q7⟩ | p5
  · refine sf_in ?_
    rw [f_X3_outside_e]
    have b8 := ti_lo x2
    have b9 := ti_hi x2
    refine sf_ite (fun c10 => ?_) (fun c10 => ?_)
    · have C10 : (0 : Int) ≤ x2.toInt := ti_le c10
      refine sf_ite (fun c11 => ?_) (fun c11 => ?_)
      · have C11 : x2.toInt ≤ (9 : Int) := ti_le c11
        refine sf_ret ?_
        refine sf_in ?_
        rw [f_X3_firstOf_e]
        refine sf_ite (fun c12 => ?_) (fun c12 => ?_)
        · have C12 : (0 : Int) = (0 : Int) := ti_eq c12
          refine sf_ret ?_
          refine sf_ite (fun c13 => ?_) (fun c13 => ?_)
          · have C13 : (0 : Int) = (0 : Int) := ti_eq c13
            refine sf_chk (ti_in (by omega) (by omega)) ?_
            have v14 : Int32.toNatClampNeg x1 = x1.toInt.toNat := rfl
            have b16 := ti_lo (τ (1 + 16) (Int32.toNatClampNeg x1))
            have b17 := ti_hi (τ (1 + 16) (Int32.toNatClampNeg x1))
            refine sf_lt (fun z15 hz15 => ?_)
            have hz15_ : z15.toInt = (τ (1 + 16) (Int32.toNatClampNeg x1)).toInt := (show z15.toInt = (τ (1 + 16) (Int32.toNatClampNeg x1)).toInt from congrArg Int32.toInt hz15)
            have b18 := ti_lo z15
            have b19 := ti_hi z15
            refine sf_bnd (s_X2_keep hF hI (by decide) (by decide) (by omega) (by omega)) (fun r20 u21 p22 => ?_)
            obtain ⟨Iu21, Fu21_, O83_u21_, O0_u21_, -⟩ := p22
            have Fu21 : ∀ k, 101 ≤ k → u21 k = τ k := fun k hk => (Fu21_ k hk).trans (Fτ k hk)
            have O83_u21 : u21 83 1 = τ 83 1 := O83_u21_.trans O83_τ
            have O0_u21 : u21 0 7 = τ 0 7 := O0_u21_.trans O0_τ
            refine sf_bnd (s_X0_price hF wt_h1 Iu21) (fun r23 u24 p25 => ?_)
            obtain ⟨Iu24, Fu24_, O83_u24_, O0_u24_, p25_1, p25_2⟩ := p25
            have Fu24 : ∀ k, 101 ≤ k → u24 k = τ k := fun k hk => (Fu24_ k hk).trans (Fu21 k hk)
            have O83_u24 : u24 83 1 = τ 83 1 := O83_u24_.trans O83_u21
            have O0_u24 : u24 0 7 = τ 0 7 := O0_u24_.trans O0_u21
            have hb_r23 : r23 = 0 ∨ r23 = 1 := wi_bool p25_1 p25_2
            exact sf_ret ⟨Iu24, Fu24, O83_u24, O0_u24, ti_lo _, ti_hi _⟩
          have C13 : ¬ (0 : Int) = (0 : Int) := ti_ne c13
          exfalso; omega
        have C12 : ¬ (0 : Int) = (0 : Int) := ti_ne c12
        exfalso; omega
      have C11 : (9 : Int) < x2.toInt := ti_nle c11
      refine sf_ret ?_
      refine sf_in ?_
      rw [f_X3_firstOf_e]
      refine sf_ite (fun c26 => ?_) (fun c26 => ?_)
      · have C26 : (0 : Int) = (0 : Int) := ti_eq c26
        refine sf_ret ?_
        refine sf_ite (fun c27 => ?_) (fun c27 => ?_)
        · have C27 : (-6 : Int) = (0 : Int) := ti_eq c27
          exfalso; omega
        have C27 : ¬ (-6 : Int) = (0 : Int) := ti_ne c27
        refine sf_bnd (s_X3_refuse hF hI (by decide) (by decide)) (fun r28 u29 p30 => ?_)
        obtain ⟨Iu29, Fu29_, O83_u29_, O0_u29_, p30_1, p30_2, p30_x0⟩ := p30
        have Fu29 : ∀ k, 101 ≤ k → u29 k = τ k := fun k hk => (Fu29_ k hk).trans (Fτ k hk)
        have O83_u29 : u29 83 1 = τ 83 1 := O83_u29_.trans O83_τ
        have O0_u29 : u29 0 7 = τ 0 7 := O0_u29_.trans O0_τ
        replace p30_x0 : r28.toInt = (-6 : Int) := p30_x0
        exact sf_ret ⟨Iu29, Fu29, O83_u29, O0_u29, ti_lo _, ti_hi _⟩
      have C26 : ¬ (0 : Int) = (0 : Int) := ti_ne c26
      exfalso; omega
    have C10 : x2.toInt < (0 : Int) := ti_nle c10
    refine sf_ret ?_
    refine sf_in ?_
    rw [f_X3_firstOf_e]
    refine sf_ite (fun c31 => ?_) (fun c31 => ?_)
    · have C31 : (0 : Int) = (0 : Int) := ti_eq c31
      refine sf_ret ?_
      refine sf_ite (fun c32 => ?_) (fun c32 => ?_)
      · have C32 : (-4 : Int) = (0 : Int) := ti_eq c32
        exfalso; omega
      have C32 : ¬ (-4 : Int) = (0 : Int) := ti_ne c32
      refine sf_bnd (s_X3_refuse hF hI (by decide) (by decide)) (fun r33 u34 p35 => ?_)
      obtain ⟨Iu34, Fu34_, O83_u34_, O0_u34_, p35_1, p35_2, p35_x0⟩ := p35
      have Fu34 : ∀ k, 101 ≤ k → u34 k = τ k := fun k hk => (Fu34_ k hk).trans (Fτ k hk)
      have O83_u34 : u34 83 1 = τ 83 1 := O83_u34_.trans O83_τ
      have O0_u34 : u34 0 7 = τ 0 7 := O0_u34_.trans O0_τ
      replace p35_x0 : r33.toInt = (-4 : Int) := p35_x0
      exact sf_ret ⟨Iu34, Fu34, O83_u34, O0_u34, ti_lo _, ti_hi _⟩
    have C31 : ¬ (0 : Int) = (0 : Int) := ti_ne c31
    exfalso; omega
  obtain ⟨rfl, q36⟩ := p5
  refine sf_in ?_
  rw [f_X3_outside_e]
  have b37 := ti_lo x2
  have b38 := ti_hi x2
  refine sf_ite (fun c39 => ?_) (fun c39 => ?_)
  · have C39 : (0 : Int) ≤ x2.toInt := ti_le c39
    refine sf_ite (fun c40 => ?_) (fun c40 => ?_)
    · have C40 : x2.toInt ≤ (9 : Int) := ti_le c40
      refine sf_ret ?_
      refine sf_in ?_
      rw [f_X3_firstOf_e]
      refine sf_ite (fun c41 => ?_) (fun c41 => ?_)
      · have C41 : (-1 : Int) = (0 : Int) := ti_eq c41
        exfalso; omega
      have C41 : ¬ (-1 : Int) = (0 : Int) := ti_ne c41
      refine sf_ret ?_
      refine sf_ite (fun c42 => ?_) (fun c42 => ?_)
      · have C42 : (-1 : Int) = (0 : Int) := ti_eq c42
        exfalso; omega
      have C42 : ¬ (-1 : Int) = (0 : Int) := ti_ne c42
      refine sf_bnd (s_X3_refuse hF hI (by decide) (by decide)) (fun r43 u44 p45 => ?_)
      obtain ⟨Iu44, Fu44_, O83_u44_, O0_u44_, p45_1, p45_2, p45_x0⟩ := p45
      have Fu44 : ∀ k, 101 ≤ k → u44 k = τ k := fun k hk => (Fu44_ k hk).trans (Fτ k hk)
      have O83_u44 : u44 83 1 = τ 83 1 := O83_u44_.trans O83_τ
      have O0_u44 : u44 0 7 = τ 0 7 := O0_u44_.trans O0_τ
      replace p45_x0 : r43.toInt = (-1 : Int) := p45_x0
      exact sf_ret ⟨Iu44, Fu44, O83_u44, O0_u44, ti_lo _, ti_hi _⟩
    have C40 : (9 : Int) < x2.toInt := ti_nle c40
    refine sf_ret ?_
    refine sf_in ?_
    rw [f_X3_firstOf_e]
    refine sf_ite (fun c46 => ?_) (fun c46 => ?_)
    · have C46 : (-1 : Int) = (0 : Int) := ti_eq c46
      exfalso; omega
    have C46 : ¬ (-1 : Int) = (0 : Int) := ti_ne c46
    refine sf_ret ?_
    refine sf_ite (fun c47 => ?_) (fun c47 => ?_)
    · have C47 : (-1 : Int) = (0 : Int) := ti_eq c47
      exfalso; omega
    have C47 : ¬ (-1 : Int) = (0 : Int) := ti_ne c47
    refine sf_bnd (s_X3_refuse hF hI (by decide) (by decide)) (fun r48 u49 p50 => ?_)
    obtain ⟨Iu49, Fu49_, O83_u49_, O0_u49_, p50_1, p50_2, p50_x0⟩ := p50
    have Fu49 : ∀ k, 101 ≤ k → u49 k = τ k := fun k hk => (Fu49_ k hk).trans (Fτ k hk)
    have O83_u49 : u49 83 1 = τ 83 1 := O83_u49_.trans O83_τ
    have O0_u49 : u49 0 7 = τ 0 7 := O0_u49_.trans O0_τ
    replace p50_x0 : r48.toInt = (-1 : Int) := p50_x0
    exact sf_ret ⟨Iu49, Fu49, O83_u49, O0_u49, ti_lo _, ti_hi _⟩
  have C39 : x2.toInt < (0 : Int) := ti_nle c39
  refine sf_ret ?_
  refine sf_in ?_
  rw [f_X3_firstOf_e]
  refine sf_ite (fun c51 => ?_) (fun c51 => ?_)
  · have C51 : (-1 : Int) = (0 : Int) := ti_eq c51
    exfalso; omega
  have C51 : ¬ (-1 : Int) = (0 : Int) := ti_ne c51
  refine sf_ret ?_
  refine sf_ite (fun c52 => ?_) (fun c52 => ?_)
  · have C52 : (-1 : Int) = (0 : Int) := ti_eq c52
    exfalso; omega
  have C52 : ¬ (-1 : Int) = (0 : Int) := ti_ne c52
  refine sf_bnd (s_X3_refuse hF hI (by decide) (by decide)) (fun r53 u54 p55 => ?_)
  obtain ⟨Iu54, Fu54_, O83_u54_, O0_u54_, p55_1, p55_2, p55_x0⟩ := p55
  have Fu54 : ∀ k, 101 ≤ k → u54 k = τ k := fun k hk => (Fu54_ k hk).trans (Fτ k hk)
  have O83_u54 : u54 83 1 = τ 83 1 := O83_u54_.trans O83_τ
  have O0_u54 : u54 0 7 = τ 0 7 := O0_u54_.trans O0_τ
  replace p55_x0 : r53.toInt = (-1 : Int) := p55_x0
  exact sf_ret ⟨Iu54, Fu54, O83_u54, O0_u54, ti_lo _, ti_hi _⟩
set_option maxHeartbeats 4000000 in
set_option maxRecDepth 100000 in
theorem s_X3_law {F : Nat} (hF : 100000 ≤ F) {x1 : Int32} {τ : Mem} (hI : wiX τ) : sf (f_X3_law F x1 τ) (fun r s => wiX s ∧ (∀ k, 101 ≤ k → s k = τ k) ∧ s 83 1 = τ 83 1 ∧ s 0 7 = τ 0 7 ∧ -2147483648 ≤ r.toInt ∧ r.toInt ≤ 2147483647) := by
  have Fτ : ∀ k, 101 ≤ k → τ k = τ k := fun _ _ => rfl
  have O83_τ : τ 83 1 = τ 83 1 := rfl
  have O0_τ : τ 0 7 = τ 0 7 := rfl
  rw [f_X3_law_e]
  refine sf_in ?_
  rw [f_X3_notBelow_e]
  have b1 := ti_lo x1
  have b2 := ti_hi x1
  refine sf_ite (fun c3 => ?_) (fun c3 => ?_)
  · have C3 : x1.toInt < (0 : Int) := ti_lt c3
    rw [j_X3_notBelow_13_e]
    refine sf_ret ?_
    refine sf_ite (fun c4 => ?_) (fun c4 => ?_)
    · have C4 : (-2 : Int) = (0 : Int) := ti_eq c4
      exfalso; omega
    have C4 : ¬ (-2 : Int) = (0 : Int) := ti_ne c4
    refine sf_bnd (s_X3_refuse hF hI (by decide) (by decide)) (fun r5 u6 p7 => ?_)
    obtain ⟨Iu6, Fu6_, O83_u6_, O0_u6_, p7_1, p7_2, p7_x0⟩ := p7
    have Fu6 : ∀ k, 101 ≤ k → u6 k = τ k := fun k hk => (Fu6_ k hk).trans (Fτ k hk)
    have O83_u6 : u6 83 1 = τ 83 1 := O83_u6_.trans O83_τ
    have O0_u6 : u6 0 7 = τ 0 7 := O0_u6_.trans O0_τ
    replace p7_x0 : r5.toInt = (-2 : Int) := p7_x0
    exact sf_ret ⟨Iu6, Fu6, O83_u6, O0_u6, ti_lo _, ti_hi _⟩
  have C3 : (0 : Int) ≤ x1.toInt := ti_nlt c3
  refine sf_ite (fun c8 => ?_) (fun c8 => ?_)
  · have C8 : (3 : Int) ≤ x1.toInt := ti_le c8
    rw [j_X3_notBelow_13_e]
    refine sf_ret ?_
    refine sf_ite (fun c9 => ?_) (fun c9 => ?_)
    · have C9 : (-2 : Int) = (0 : Int) := ti_eq c9
      exfalso; omega
    have C9 : ¬ (-2 : Int) = (0 : Int) := ti_ne c9
    refine sf_bnd (s_X3_refuse hF hI (by decide) (by decide)) (fun r10 u11 p12 => ?_)
    obtain ⟨Iu11, Fu11_, O83_u11_, O0_u11_, p12_1, p12_2, p12_x0⟩ := p12
    have Fu11 : ∀ k, 101 ≤ k → u11 k = τ k := fun k hk => (Fu11_ k hk).trans (Fτ k hk)
    have O83_u11 : u11 83 1 = τ 83 1 := O83_u11_.trans O83_τ
    have O0_u11 : u11 0 7 = τ 0 7 := O0_u11_.trans O0_τ
    replace p12_x0 : r10.toInt = (-2 : Int) := p12_x0
    exact sf_ret ⟨Iu11, Fu11, O83_u11, O0_u11, ti_lo _, ti_hi _⟩
  have C8 : x1.toInt < (3 : Int) := ti_nle c8
  refine sf_ret ?_
  refine sf_ite (fun c13 => ?_) (fun c13 => ?_)
  · have C13 : (0 : Int) = (0 : Int) := ti_eq c13
    have b14 := ti_lo (τ 1 8)
    have b15 := ti_hi (τ 1 8)
    refine sf_bnd (s_X2_keep hF hI (by decide) (by decide) (by decide) (by decide)) (fun r16 u17 p18 => ?_)
    obtain ⟨Iu17, Fu17_, O83_u17_, O0_u17_, -⟩ := p18
    have Fu17 : ∀ k, 101 ≤ k → u17 k = τ k := fun k hk => (Fu17_ k hk).trans (Fτ k hk)
    have O83_u17 : u17 83 1 = τ 83 1 := O83_u17_.trans O83_τ
    have O0_u17 : u17 0 7 = τ 0 7 := O0_u17_.trans O0_τ
    refine sf_bnd (s_X0_rule hF wt_h1 Iu17) (fun r19 u20 p21 => ?_)
    obtain ⟨Iu20, Fu20_, O83_u20_, O0_u20_, p21_1, p21_2⟩ := p21
    have Fu20 : ∀ k, 101 ≤ k → u20 k = τ k := fun k hk => (Fu20_ k hk).trans (Fu17 k hk)
    have O83_u20 : u20 83 1 = τ 83 1 := O83_u20_.trans O83_u17
    have O0_u20 : u20 0 7 = τ 0 7 := O0_u20_.trans O0_u17
    have hb_r19 : r19 = 0 ∨ r19 = 1 := wi_bool p21_1 p21_2
    exact sf_ret ⟨Iu20, Fu20, O83_u20, O0_u20, ti_lo _, ti_hi _⟩
  have C13 : ¬ (0 : Int) = (0 : Int) := ti_ne c13
  exfalso; omega
set_option maxHeartbeats 4000000 in
set_option maxRecDepth 100000 in
theorem s_J6_bitCount_0f7a4 {F : Nat} (hF : 100000 ≤ F) {x0 : Int32} {τ : Mem} (hI : wiX τ) : sf (f_J6_bitCount_0f7a4 F x0 τ) (fun r s => s = τ ∧ -2147483648 ≤ r.toInt ∧ r.toInt ≤ 2147483647) := by
  rw [f_J6_bitCount_0f7a4_e]
  have b2 := ti_lo x0
  have b3 := ti_hi x0
  have b4 := ti_lo ((wt_ushr x0 (1 : Int32)) &&& (1431655765 : Int32))
  have b5 := ti_hi ((wt_ushr x0 (1 : Int32)) &&& (1431655765 : Int32))
  have b6 := ti_lo (x0 - ((wt_ushr x0 (1 : Int32)) &&& (1431655765 : Int32)))
  have b7 := ti_hi (x0 - ((wt_ushr x0 (1 : Int32)) &&& (1431655765 : Int32)))
  refine sf_lt (fun z1 hz1 => ?_)
  have hz1_ : z1.toInt = (x0 - ((wt_ushr x0 (1 : Int32)) &&& (1431655765 : Int32))).toInt := (show z1.toInt = (x0 - ((wt_ushr x0 (1 : Int32)) &&& (1431655765 : Int32))).toInt from congrArg Int32.toInt hz1)
  have b9 := ti_lo (z1 &&& (858993459 : Int32))
  have b10 := ti_hi (z1 &&& (858993459 : Int32))
  have b11 := ti_lo ((wt_ushr z1 (2 : Int32)) &&& (858993459 : Int32))
  have b12 := ti_hi ((wt_ushr z1 (2 : Int32)) &&& (858993459 : Int32))
  have b13 := ti_lo ((z1 &&& (858993459 : Int32)) + ((wt_ushr z1 (2 : Int32)) &&& (858993459 : Int32)))
  have b14 := ti_hi ((z1 &&& (858993459 : Int32)) + ((wt_ushr z1 (2 : Int32)) &&& (858993459 : Int32)))
  refine sf_lt (fun z8 hz8 => ?_)
  have hz8_ : z8.toInt = ((z1 &&& (858993459 : Int32)) + ((wt_ushr z1 (2 : Int32)) &&& (858993459 : Int32))).toInt := (show z8.toInt = ((z1 &&& (858993459 : Int32)) + ((wt_ushr z1 (2 : Int32)) &&& (858993459 : Int32))).toInt from congrArg Int32.toInt hz8)
  have b16 := ti_lo ((z8 + (wt_ushr z8 (4 : Int32))) &&& (252645135 : Int32))
  have b17 := ti_hi ((z8 + (wt_ushr z8 (4 : Int32))) &&& (252645135 : Int32))
  refine sf_lt (fun z15 hz15 => ?_)
  have hz15_ : z15.toInt = ((z8 + (wt_ushr z8 (4 : Int32))) &&& (252645135 : Int32)).toInt := (show z15.toInt = ((z8 + (wt_ushr z8 (4 : Int32))) &&& (252645135 : Int32)).toInt from congrArg Int32.toInt hz15)
  have b19 := ti_lo z15
  have b20 := ti_hi z15
  have b21 := ti_lo (wt_ushr z15 (8 : Int32))
  have b22 := ti_hi (wt_ushr z15 (8 : Int32))
  have b23 := ti_lo (z15 + (wt_ushr z15 (8 : Int32)))
  have b24 := ti_hi (z15 + (wt_ushr z15 (8 : Int32)))
  refine sf_lt (fun z18 hz18 => ?_)
  have hz18_ : z18.toInt = (z15 + (wt_ushr z15 (8 : Int32))).toInt := (show z18.toInt = (z15 + (wt_ushr z15 (8 : Int32))).toInt from congrArg Int32.toInt hz18)
  have b26 := ti_lo z18
  have b27 := ti_hi z18
  have b28 := ti_lo (wt_ushr z18 (16 : Int32))
  have b29 := ti_hi (wt_ushr z18 (16 : Int32))
  have b30 := ti_lo (z18 + (wt_ushr z18 (16 : Int32)))
  have b31 := ti_hi (z18 + (wt_ushr z18 (16 : Int32)))
  refine sf_lt (fun z25 hz25 => ?_)
  have hz25_ : z25.toInt = (z18 + (wt_ushr z18 (16 : Int32))).toInt := (show z25.toInt = (z18 + (wt_ushr z18 (16 : Int32))).toInt from congrArg Int32.toInt hz25)
  have b32 := ti_lo (z25 &&& (63 : Int32))
  have b33 := ti_hi (z25 &&& (63 : Int32))
  exact sf_ret ⟨rfl, ti_lo _, ti_hi _⟩
set_option maxHeartbeats 4000000 in
set_option maxRecDepth 100000 in
theorem s_X3_days {F : Nat} (hF : 100000 ≤ F) {x1 : Int32} {τ : Mem} (hI : wiX τ) : sf (f_X3_days F x1 τ) (fun r s => wiX s ∧ (∀ k, 101 ≤ k → s k = τ k) ∧ s 83 1 = τ 83 1 ∧ s 0 7 = τ 0 7 ∧ -2147483648 ≤ r.toInt ∧ r.toInt ≤ 2147483647) := by
  have Fτ : ∀ k, 101 ≤ k → τ k = τ k := fun _ _ => rfl
  have O83_τ : τ 83 1 = τ 83 1 := rfl
  have O0_τ : τ 0 7 = τ 0 7 := rfl
  rw [f_X3_days_e]
  refine sf_in ?_
  rw [f_X3_outside_e]
  have b1 := ti_lo x1
  have b2 := ti_hi x1
  refine sf_ite (fun c3 => ?_) (fun c3 => ?_)
  · have C3 : (1 : Int) ≤ x1.toInt := ti_le c3
    refine sf_ite (fun c4 => ?_) (fun c4 => ?_)
    · have C4 : x1.toInt ≤ (99 : Int) := ti_le c4
      refine sf_ret ?_
      refine sf_ite (fun c5 => ?_) (fun c5 => ?_)
      · have C5 : (0 : Int) = (0 : Int) := ti_eq c5
        have b6 := ti_lo (τ 1 9)
        have b7 := ti_hi (τ 1 9)
        have b8 := ti_lo ((τ 1 9) + x1)
        have b9 := ti_hi ((τ 1 9) + x1)
        refine sf_ite (fun c10 => ?_) (fun c10 => ?_)
        · have C10 : ((τ 1 9) + x1).toInt ≤ (9999 : Int) := ti_le c10
          rw [j_X3_days_30_e]
          refine sf_ite (fun c11 => ?_) (fun c11 => ?_)
          · have C11 : (0 : Int) = (0 : Int) := ti_eq c11
            refine sf_bnd (s_X0_pass hF wt_h1 hI) (fun r12 u13 p14 => ?_)
            obtain ⟨Iu13, Fu13_, O83_u13_, O0_u13_, p14_1, p14_2⟩ := p14
            have Fu13 : ∀ k, 101 ≤ k → u13 k = τ k := fun k hk => (Fu13_ k hk).trans (Fτ k hk)
            have O83_u13 : u13 83 1 = τ 83 1 := O83_u13_.trans O83_τ
            have O0_u13 : u13 0 7 = τ 0 7 := O0_u13_.trans O0_τ
            have hb_r12 : r12 = 0 ∨ r12 = 1 := wi_bool p14_1 p14_2
            refine sf_bnd (s_X2_forget hF Iu13) (fun r15 u16 p17 => ?_)
            obtain ⟨Iu16, Fu16_, O83_u16_, O0_u16_, -⟩ := p17
            have Fu16 : ∀ k, 101 ≤ k → u16 k = τ k := fun k hk => (Fu16_ k hk).trans (Fu13 k hk)
            have O83_u16 : u16 83 1 = τ 83 1 := O83_u16_.trans O83_u13
            have O0_u16 : u16 0 7 = τ 0 7 := O0_u16_.trans O0_u13
            refine sf_bnd (s_X0_held hF wt_h1 Iu16 (by decide) (by decide)) (fun r18 u19 p20 => ?_)
            obtain ⟨e9, p20_1, p20_2⟩ := p20
            have e9 := e9.symm
            subst e9
            have b21 := ti_lo r18
            have b22 := ti_hi r18
            refine sf_bnd (s_J6_bitCount_0f7a4 hF Iu16) (fun r23 u24 p25 => ?_)
            obtain ⟨e9, p25_1, p25_2⟩ := p25
            have e9 := e9.symm
            subst e9
            have b26 := ti_lo r23
            have b27 := ti_hi r23
            exact sf_ret ⟨Iu16, Fu16, O83_u16, O0_u16, ti_lo _, ti_hi _⟩
          have C11 : ¬ (0 : Int) = (0 : Int) := ti_ne c11
          exfalso; omega
        have C10 : (9999 : Int) < ((τ 1 9) + x1).toInt := ti_nle c10
        rw [j_X3_days_30_e]
        refine sf_ite (fun c28 => ?_) (fun c28 => ?_)
        · have C28 : (-6 : Int) = (0 : Int) := ti_eq c28
          exfalso; omega
        have C28 : ¬ (-6 : Int) = (0 : Int) := ti_ne c28
        refine sf_bnd (s_X3_refuse hF hI (by decide) (by decide)) (fun r29 u30 p31 => ?_)
        obtain ⟨Iu30, Fu30_, O83_u30_, O0_u30_, p31_1, p31_2, p31_x0⟩ := p31
        have Fu30 : ∀ k, 101 ≤ k → u30 k = τ k := fun k hk => (Fu30_ k hk).trans (Fτ k hk)
        have O83_u30 : u30 83 1 = τ 83 1 := O83_u30_.trans O83_τ
        have O0_u30 : u30 0 7 = τ 0 7 := O0_u30_.trans O0_τ
        replace p31_x0 : r29.toInt = (-6 : Int) := p31_x0
        exact sf_ret ⟨Iu30, Fu30, O83_u30, O0_u30, ti_lo _, ti_hi _⟩
      have C5 : ¬ (0 : Int) = (0 : Int) := ti_ne c5
      exfalso; omega
    have C4 : (99 : Int) < x1.toInt := ti_nle c4
    refine sf_ret ?_
    refine sf_ite (fun c32 => ?_) (fun c32 => ?_)
    · have C32 : (-6 : Int) = (0 : Int) := ti_eq c32
      exfalso; omega
    have C32 : ¬ (-6 : Int) = (0 : Int) := ti_ne c32
    rw [j_X3_days_30_e]
    refine sf_ite (fun c33 => ?_) (fun c33 => ?_)
    · have C33 : (-6 : Int) = (0 : Int) := ti_eq c33
      exfalso; omega
    have C33 : ¬ (-6 : Int) = (0 : Int) := ti_ne c33
    refine sf_bnd (s_X3_refuse hF hI (by decide) (by decide)) (fun r34 u35 p36 => ?_)
    obtain ⟨Iu35, Fu35_, O83_u35_, O0_u35_, p36_1, p36_2, p36_x0⟩ := p36
    have Fu35 : ∀ k, 101 ≤ k → u35 k = τ k := fun k hk => (Fu35_ k hk).trans (Fτ k hk)
    have O83_u35 : u35 83 1 = τ 83 1 := O83_u35_.trans O83_τ
    have O0_u35 : u35 0 7 = τ 0 7 := O0_u35_.trans O0_τ
    replace p36_x0 : r34.toInt = (-6 : Int) := p36_x0
    exact sf_ret ⟨Iu35, Fu35, O83_u35, O0_u35, ti_lo _, ti_hi _⟩
  have C3 : x1.toInt < (1 : Int) := ti_nle c3
  refine sf_ret ?_
  refine sf_ite (fun c37 => ?_) (fun c37 => ?_)
  · have C37 : (-4 : Int) = (0 : Int) := ti_eq c37
    exfalso; omega
  have C37 : ¬ (-4 : Int) = (0 : Int) := ti_ne c37
  rw [j_X3_days_30_e]
  refine sf_ite (fun c38 => ?_) (fun c38 => ?_)
  · have C38 : (-4 : Int) = (0 : Int) := ti_eq c38
    exfalso; omega
  have C38 : ¬ (-4 : Int) = (0 : Int) := ti_ne c38
  refine sf_bnd (s_X3_refuse hF hI (by decide) (by decide)) (fun r39 u40 p41 => ?_)
  obtain ⟨Iu40, Fu40_, O83_u40_, O0_u40_, p41_1, p41_2, p41_x0⟩ := p41
  have Fu40 : ∀ k, 101 ≤ k → u40 k = τ k := fun k hk => (Fu40_ k hk).trans (Fτ k hk)
  have O83_u40 : u40 83 1 = τ 83 1 := O83_u40_.trans O83_τ
  have O0_u40 : u40 0 7 = τ 0 7 := O0_u40_.trans O0_τ
  replace p41_x0 : r39.toInt = (-4 : Int) := p41_x0
  exact sf_ret ⟨Iu40, Fu40, O83_u40, O0_u40, ti_lo _, ti_hi _⟩
set_option maxHeartbeats 4000000 in
set_option maxRecDepth 100000 in
theorem s_X3_back {F : Nat} (hF : 100000 ≤ F) {τ : Mem} (hI : wiX τ) : sf (f_X3_back F τ) (fun r s => wiX s ∧ (∀ k, 101 ≤ k → s k = τ k) ∧ s 83 1 = τ 83 1 ∧ s 0 7 = τ 0 7 ∧ -2147483648 ≤ r.toInt ∧ r.toInt ≤ 2147483647) := by
  have Fτ : ∀ k, 101 ≤ k → τ k = τ k := fun _ _ => rfl
  have O83_τ : τ 83 1 = τ 83 1 := rfl
  have O0_τ : τ 0 7 = τ 0 7 := rfl
  rw [f_X3_back_e]
  have m1 := wx_X2_5 hI
  refine sf_ite (fun c2 => ?_) (fun c2 => ?_)
  · have C2 : (τ 70 5).toInt = (0 : Int) := ti_eq c2
    refine sf_bnd (s_X3_refuse hF hI (by decide) (by decide)) (fun r3 u4 p5 => ?_)
    obtain ⟨Iu4, Fu4_, O83_u4_, O0_u4_, p5_1, p5_2, p5_x0⟩ := p5
    have Fu4 : ∀ k, 101 ≤ k → u4 k = τ k := fun k hk => (Fu4_ k hk).trans (Fτ k hk)
    have O83_u4 : u4 83 1 = τ 83 1 := O83_u4_.trans O83_τ
    have O0_u4 : u4 0 7 = τ 0 7 := O0_u4_.trans O0_τ
    replace p5_x0 : r3.toInt = (-3 : Int) := p5_x0
    exact sf_ret ⟨Iu4, Fu4, O83_u4, O0_u4, ti_lo _, ti_hi _⟩
  have C2 : ¬ (τ 70 5).toInt = (0 : Int) := ti_ne c2
  refine sf_bnd (s_X2_undoLatest hF wt_h1 hI) (fun r6 u7 p8 => ?_)
  obtain ⟨Iu7, Fu7_, O83_u7_, O0_u7_, -⟩ := p8
  have Fu7 : ∀ k, 101 ≤ k → u7 k = τ k := fun k hk => (Fu7_ k hk).trans (Fτ k hk)
  have O83_u7 : u7 83 1 = τ 83 1 := O83_u7_.trans O83_τ
  have O0_u7 : u7 0 7 = τ 0 7 := O0_u7_.trans O0_τ
  have m9 := wx_X2_5 Iu7
  exact sf_ret ⟨Iu7, Fu7, O83_u7, O0_u7, ti_lo _, ti_hi _⟩
set_option maxHeartbeats 4000000 in
set_option maxRecDepth 100000 in
theorem s_X3_counts {F : Nat} (hF : 100000 ≤ F) {x1 : Int32} {x2 : Int32} {x3 : Int32} {τ : Mem} (hI : wiX τ) : sf (f_X3_counts F x1 x2 x3 τ) (fun r s => wiX s ∧ (∀ k, 101 ≤ k → s k = τ k) ∧ s 83 1 = τ 83 1 ∧ s 0 7 = τ 0 7 ∧ -2147483648 ≤ r.toInt ∧ r.toInt ≤ 2147483647) := by
  have Fτ : ∀ k, 101 ≤ k → τ k = τ k := fun _ _ => rfl
  have O83_τ : τ 83 1 = τ 83 1 := rfl
  have O0_τ : τ 0 7 = τ 0 7 := rfl
  rw [f_X3_counts_e]
  have b1 := ti_lo x1
  have b2 := ti_hi x1
  refine sf_bnd (s_X3_noLooker hF hI) (fun r3 u4 p5 => ?_)
  obtain ⟨e9, p5⟩ := p5
  have e9 := e9.symm
  subst e9
  rcases p5 with ⟨rfl, q6, q7⟩ | p5
  · have b8 := ti_lo x2
    have b9 := ti_hi x2
    refine sf_bnd (s_X3_noView hF hI) (fun r10 u11 p12 => ?_)
    obtain ⟨e9, p12⟩ := p12
    have e9 := e9.symm
    subst e9
    rcases p12 with ⟨rfl, q13, q14⟩ | p12
    · refine sf_in ?_
      rw [f_X3_firstOf_e]
      refine sf_ite (fun c15 => ?_) (fun c15 => ?_)
      · have C15 : (0 : Int) = (0 : Int) := ti_eq c15
        refine sf_ret ?_
        refine sf_in ?_
        rw [f_X3_notBelow_e]
        have b16 := ti_lo x3
        have b17 := ti_hi x3
        refine sf_ite (fun c18 => ?_) (fun c18 => ?_)
        · have C18 : x3.toInt < (0 : Int) := ti_lt c18
          rw [j_X3_notBelow_13_e]
          refine sf_ret ?_
          refine sf_in ?_
          rw [f_X3_firstOf_e]
          refine sf_ite (fun c19 => ?_) (fun c19 => ?_)
          · have C19 : (0 : Int) = (0 : Int) := ti_eq c19
            refine sf_ret ?_
            refine sf_ite (fun c20 => ?_) (fun c20 => ?_)
            · have C20 : (-2 : Int) = (0 : Int) := ti_eq c20
              exfalso; omega
            have C20 : ¬ (-2 : Int) = (0 : Int) := ti_ne c20
            refine sf_bnd (s_X3_refuse hF hI (by decide) (by decide)) (fun r21 u22 p23 => ?_)
            obtain ⟨Iu22, Fu22_, O83_u22_, O0_u22_, p23_1, p23_2, p23_x0⟩ := p23
            have Fu22 : ∀ k, 101 ≤ k → u22 k = τ k := fun k hk => (Fu22_ k hk).trans (Fτ k hk)
            have O83_u22 : u22 83 1 = τ 83 1 := O83_u22_.trans O83_τ
            have O0_u22 : u22 0 7 = τ 0 7 := O0_u22_.trans O0_τ
            replace p23_x0 : r21.toInt = (-2 : Int) := p23_x0
            exact sf_ret ⟨Iu22, Fu22, O83_u22, O0_u22, ti_lo _, ti_hi _⟩
          have C19 : ¬ (0 : Int) = (0 : Int) := ti_ne c19
          exfalso; omega
        have C18 : (0 : Int) ≤ x3.toInt := ti_nlt c18
        refine sf_ite (fun c24 => ?_) (fun c24 => ?_)
        · have C24 : (2 : Int) ≤ x3.toInt := ti_le c24
          rw [j_X3_notBelow_13_e]
          refine sf_ret ?_
          refine sf_in ?_
          rw [f_X3_firstOf_e]
          refine sf_ite (fun c25 => ?_) (fun c25 => ?_)
          · have C25 : (0 : Int) = (0 : Int) := ti_eq c25
            refine sf_ret ?_
            refine sf_ite (fun c26 => ?_) (fun c26 => ?_)
            · have C26 : (-2 : Int) = (0 : Int) := ti_eq c26
              exfalso; omega
            have C26 : ¬ (-2 : Int) = (0 : Int) := ti_ne c26
            refine sf_bnd (s_X3_refuse hF hI (by decide) (by decide)) (fun r27 u28 p29 => ?_)
            obtain ⟨Iu28, Fu28_, O83_u28_, O0_u28_, p29_1, p29_2, p29_x0⟩ := p29
            have Fu28 : ∀ k, 101 ≤ k → u28 k = τ k := fun k hk => (Fu28_ k hk).trans (Fτ k hk)
            have O83_u28 : u28 83 1 = τ 83 1 := O83_u28_.trans O83_τ
            have O0_u28 : u28 0 7 = τ 0 7 := O0_u28_.trans O0_τ
            replace p29_x0 : r27.toInt = (-2 : Int) := p29_x0
            exact sf_ret ⟨Iu28, Fu28, O83_u28, O0_u28, ti_lo _, ti_hi _⟩
          have C25 : ¬ (0 : Int) = (0 : Int) := ti_ne c25
          exfalso; omega
        have C24 : x3.toInt < (2 : Int) := ti_nle c24
        refine sf_ret ?_
        refine sf_in ?_
        rw [f_X3_firstOf_e]
        refine sf_ite (fun c30 => ?_) (fun c30 => ?_)
        · have C30 : (0 : Int) = (0 : Int) := ti_eq c30
          refine sf_ret ?_
          refine sf_ite (fun c31 => ?_) (fun c31 => ?_)
          · have C31 : (0 : Int) = (0 : Int) := ti_eq c31
            refine sf_bnd (s_X0_reckon hF wt_h1 hI) (fun r32 u33 p34 => ?_)
            obtain ⟨Iu33, Fu33_, O83_u33_, O0_u33_, -⟩ := p34
            have Fu33 : ∀ k, 101 ≤ k → u33 k = τ k := fun k hk => (Fu33_ k hk).trans (Fτ k hk)
            have O83_u33 : u33 83 1 = τ 83 1 := O83_u33_.trans O83_τ
            have O0_u33 : u33 0 7 = τ 0 7 := O0_u33_.trans O0_τ
            refine sf_ite (fun c35 => ?_) (fun c35 => ?_)
            · have C35 : x3.toInt = (0 : Int) := ti_eq c35
              refine sf_chk (ti_in (by omega) (by omega)) ?_
              have v36 : Int32.toNatClampNeg x1 = x1.toInt.toNat := rfl
              refine sf_chk (ti_in (by omega) (by omega)) ?_
              have v37 : Int32.toNatClampNeg x2 = x2.toInt.toNat := rfl
              have b38 := ti_lo (u33 ((1 + 11) + (Int32.toNatClampNeg x1)) (Int32.toNatClampNeg x2))
              have b39 := ti_hi (u33 ((1 + 11) + (Int32.toNatClampNeg x1)) (Int32.toNatClampNeg x2))
              exact sf_ret ⟨Iu33, Fu33, O83_u33, O0_u33, ti_lo _, ti_hi _⟩
            have C35 : ¬ x3.toInt = (0 : Int) := ti_ne c35
            refine sf_chk (ti_in (by omega) (by omega)) ?_
            have v40 : Int32.toNatClampNeg x1 = x1.toInt.toNat := rfl
            refine sf_chk (ti_in (by omega) (by omega)) ?_
            have v41 : Int32.toNatClampNeg x2 = x2.toInt.toNat := rfl
            have b42 := ti_lo (u33 ((1 + 18) + (Int32.toNatClampNeg x1)) (Int32.toNatClampNeg x2))
            have b43 := ti_hi (u33 ((1 + 18) + (Int32.toNatClampNeg x1)) (Int32.toNatClampNeg x2))
            exact sf_ret ⟨Iu33, Fu33, O83_u33, O0_u33, ti_lo _, ti_hi _⟩
          have C31 : ¬ (0 : Int) = (0 : Int) := ti_ne c31
          exfalso; omega
        have C30 : ¬ (0 : Int) = (0 : Int) := ti_ne c30
        exfalso; omega
      have C15 : ¬ (0 : Int) = (0 : Int) := ti_ne c15
      exfalso; omega
    obtain ⟨rfl, q44⟩ := p12
    refine sf_in ?_
    rw [f_X3_firstOf_e]
    refine sf_ite (fun c45 => ?_) (fun c45 => ?_)
    · have C45 : (0 : Int) = (0 : Int) := ti_eq c45
      refine sf_ret ?_
      refine sf_in ?_
      rw [f_X3_notBelow_e]
      have b46 := ti_lo x3
      have b47 := ti_hi x3
      refine sf_ite (fun c48 => ?_) (fun c48 => ?_)
      · have C48 : x3.toInt < (0 : Int) := ti_lt c48
        rw [j_X3_notBelow_13_e]
        refine sf_ret ?_
        refine sf_in ?_
        rw [f_X3_firstOf_e]
        refine sf_ite (fun c49 => ?_) (fun c49 => ?_)
        · have C49 : (-1 : Int) = (0 : Int) := ti_eq c49
          exfalso; omega
        have C49 : ¬ (-1 : Int) = (0 : Int) := ti_ne c49
        refine sf_ret ?_
        refine sf_ite (fun c50 => ?_) (fun c50 => ?_)
        · have C50 : (-1 : Int) = (0 : Int) := ti_eq c50
          exfalso; omega
        have C50 : ¬ (-1 : Int) = (0 : Int) := ti_ne c50
        refine sf_bnd (s_X3_refuse hF hI (by decide) (by decide)) (fun r51 u52 p53 => ?_)
        obtain ⟨Iu52, Fu52_, O83_u52_, O0_u52_, p53_1, p53_2, p53_x0⟩ := p53
        have Fu52 : ∀ k, 101 ≤ k → u52 k = τ k := fun k hk => (Fu52_ k hk).trans (Fτ k hk)
        have O83_u52 : u52 83 1 = τ 83 1 := O83_u52_.trans O83_τ
        have O0_u52 : u52 0 7 = τ 0 7 := O0_u52_.trans O0_τ
        replace p53_x0 : r51.toInt = (-1 : Int) := p53_x0
        exact sf_ret ⟨Iu52, Fu52, O83_u52, O0_u52, ti_lo _, ti_hi _⟩
      have C48 : (0 : Int) ≤ x3.toInt := ti_nlt c48
      refine sf_ite (fun c54 => ?_) (fun c54 => ?_)
      · have C54 : (2 : Int) ≤ x3.toInt := ti_le c54
        rw [j_X3_notBelow_13_e]
        refine sf_ret ?_
        refine sf_in ?_
        rw [f_X3_firstOf_e]
        refine sf_ite (fun c55 => ?_) (fun c55 => ?_)
        · have C55 : (-1 : Int) = (0 : Int) := ti_eq c55
          exfalso; omega
        have C55 : ¬ (-1 : Int) = (0 : Int) := ti_ne c55
        refine sf_ret ?_
        refine sf_ite (fun c56 => ?_) (fun c56 => ?_)
        · have C56 : (-1 : Int) = (0 : Int) := ti_eq c56
          exfalso; omega
        have C56 : ¬ (-1 : Int) = (0 : Int) := ti_ne c56
        refine sf_bnd (s_X3_refuse hF hI (by decide) (by decide)) (fun r57 u58 p59 => ?_)
        obtain ⟨Iu58, Fu58_, O83_u58_, O0_u58_, p59_1, p59_2, p59_x0⟩ := p59
        have Fu58 : ∀ k, 101 ≤ k → u58 k = τ k := fun k hk => (Fu58_ k hk).trans (Fτ k hk)
        have O83_u58 : u58 83 1 = τ 83 1 := O83_u58_.trans O83_τ
        have O0_u58 : u58 0 7 = τ 0 7 := O0_u58_.trans O0_τ
        replace p59_x0 : r57.toInt = (-1 : Int) := p59_x0
        exact sf_ret ⟨Iu58, Fu58, O83_u58, O0_u58, ti_lo _, ti_hi _⟩
      have C54 : x3.toInt < (2 : Int) := ti_nle c54
      refine sf_ret ?_
      refine sf_in ?_
      rw [f_X3_firstOf_e]
      refine sf_ite (fun c60 => ?_) (fun c60 => ?_)
      · have C60 : (-1 : Int) = (0 : Int) := ti_eq c60
        exfalso; omega
      have C60 : ¬ (-1 : Int) = (0 : Int) := ti_ne c60
      refine sf_ret ?_
      refine sf_ite (fun c61 => ?_) (fun c61 => ?_)
      · have C61 : (-1 : Int) = (0 : Int) := ti_eq c61
        exfalso; omega
      have C61 : ¬ (-1 : Int) = (0 : Int) := ti_ne c61
      refine sf_bnd (s_X3_refuse hF hI (by decide) (by decide)) (fun r62 u63 p64 => ?_)
      obtain ⟨Iu63, Fu63_, O83_u63_, O0_u63_, p64_1, p64_2, p64_x0⟩ := p64
      have Fu63 : ∀ k, 101 ≤ k → u63 k = τ k := fun k hk => (Fu63_ k hk).trans (Fτ k hk)
      have O83_u63 : u63 83 1 = τ 83 1 := O83_u63_.trans O83_τ
      have O0_u63 : u63 0 7 = τ 0 7 := O0_u63_.trans O0_τ
      replace p64_x0 : r62.toInt = (-1 : Int) := p64_x0
      exact sf_ret ⟨Iu63, Fu63, O83_u63, O0_u63, ti_lo _, ti_hi _⟩
    have C45 : ¬ (0 : Int) = (0 : Int) := ti_ne c45
    exfalso; omega
  obtain rfl := p5
  have b65 := ti_lo x2
  have b66 := ti_hi x2
  refine sf_bnd (s_X3_noView hF hI) (fun r67 u68 p69 => ?_)
  obtain ⟨e9, p69⟩ := p69
  have e9 := e9.symm
  subst e9
  rcases p69 with ⟨rfl, q70, q71⟩ | p69
  · refine sf_in ?_
    rw [f_X3_firstOf_e]
    refine sf_ite (fun c72 => ?_) (fun c72 => ?_)
    · have C72 : (-1 : Int) = (0 : Int) := ti_eq c72
      exfalso; omega
    have C72 : ¬ (-1 : Int) = (0 : Int) := ti_ne c72
    refine sf_ret ?_
    refine sf_in ?_
    rw [f_X3_notBelow_e]
    have b73 := ti_lo x3
    have b74 := ti_hi x3
    refine sf_ite (fun c75 => ?_) (fun c75 => ?_)
    · have C75 : x3.toInt < (0 : Int) := ti_lt c75
      rw [j_X3_notBelow_13_e]
      refine sf_ret ?_
      refine sf_in ?_
      rw [f_X3_firstOf_e]
      refine sf_ite (fun c76 => ?_) (fun c76 => ?_)
      · have C76 : (-1 : Int) = (0 : Int) := ti_eq c76
        exfalso; omega
      have C76 : ¬ (-1 : Int) = (0 : Int) := ti_ne c76
      refine sf_ret ?_
      refine sf_ite (fun c77 => ?_) (fun c77 => ?_)
      · have C77 : (-1 : Int) = (0 : Int) := ti_eq c77
        exfalso; omega
      have C77 : ¬ (-1 : Int) = (0 : Int) := ti_ne c77
      refine sf_bnd (s_X3_refuse hF hI (by decide) (by decide)) (fun r78 u79 p80 => ?_)
      obtain ⟨Iu79, Fu79_, O83_u79_, O0_u79_, p80_1, p80_2, p80_x0⟩ := p80
      have Fu79 : ∀ k, 101 ≤ k → u79 k = τ k := fun k hk => (Fu79_ k hk).trans (Fτ k hk)
      have O83_u79 : u79 83 1 = τ 83 1 := O83_u79_.trans O83_τ
      have O0_u79 : u79 0 7 = τ 0 7 := O0_u79_.trans O0_τ
      replace p80_x0 : r78.toInt = (-1 : Int) := p80_x0
      exact sf_ret ⟨Iu79, Fu79, O83_u79, O0_u79, ti_lo _, ti_hi _⟩
    have C75 : (0 : Int) ≤ x3.toInt := ti_nlt c75
    refine sf_ite (fun c81 => ?_) (fun c81 => ?_)
    · have C81 : (2 : Int) ≤ x3.toInt := ti_le c81
      rw [j_X3_notBelow_13_e]
      refine sf_ret ?_
      refine sf_in ?_
      rw [f_X3_firstOf_e]
      refine sf_ite (fun c82 => ?_) (fun c82 => ?_)
      · have C82 : (-1 : Int) = (0 : Int) := ti_eq c82
        exfalso; omega
      have C82 : ¬ (-1 : Int) = (0 : Int) := ti_ne c82
      refine sf_ret ?_
      refine sf_ite (fun c83 => ?_) (fun c83 => ?_)
      · have C83 : (-1 : Int) = (0 : Int) := ti_eq c83
        exfalso; omega
      have C83 : ¬ (-1 : Int) = (0 : Int) := ti_ne c83
      refine sf_bnd (s_X3_refuse hF hI (by decide) (by decide)) (fun r84 u85 p86 => ?_)
      obtain ⟨Iu85, Fu85_, O83_u85_, O0_u85_, p86_1, p86_2, p86_x0⟩ := p86
      have Fu85 : ∀ k, 101 ≤ k → u85 k = τ k := fun k hk => (Fu85_ k hk).trans (Fτ k hk)
      have O83_u85 : u85 83 1 = τ 83 1 := O83_u85_.trans O83_τ
      have O0_u85 : u85 0 7 = τ 0 7 := O0_u85_.trans O0_τ
      replace p86_x0 : r84.toInt = (-1 : Int) := p86_x0
      exact sf_ret ⟨Iu85, Fu85, O83_u85, O0_u85, ti_lo _, ti_hi _⟩
    have C81 : x3.toInt < (2 : Int) := ti_nle c81
    refine sf_ret ?_
    refine sf_in ?_
    rw [f_X3_firstOf_e]
    refine sf_ite (fun c87 => ?_) (fun c87 => ?_)
    · have C87 : (-1 : Int) = (0 : Int) := ti_eq c87
      exfalso; omega
    have C87 : ¬ (-1 : Int) = (0 : Int) := ti_ne c87
    refine sf_ret ?_
    refine sf_ite (fun c88 => ?_) (fun c88 => ?_)
    · have C88 : (-1 : Int) = (0 : Int) := ti_eq c88
      exfalso; omega
    have C88 : ¬ (-1 : Int) = (0 : Int) := ti_ne c88
    refine sf_bnd (s_X3_refuse hF hI (by decide) (by decide)) (fun r89 u90 p91 => ?_)
    obtain ⟨Iu90, Fu90_, O83_u90_, O0_u90_, p91_1, p91_2, p91_x0⟩ := p91
    have Fu90 : ∀ k, 101 ≤ k → u90 k = τ k := fun k hk => (Fu90_ k hk).trans (Fτ k hk)
    have O83_u90 : u90 83 1 = τ 83 1 := O83_u90_.trans O83_τ
    have O0_u90 : u90 0 7 = τ 0 7 := O0_u90_.trans O0_τ
    replace p91_x0 : r89.toInt = (-1 : Int) := p91_x0
    exact sf_ret ⟨Iu90, Fu90, O83_u90, O0_u90, ti_lo _, ti_hi _⟩
  obtain ⟨rfl, q92⟩ := p69
  refine sf_in ?_
  rw [f_X3_firstOf_e]
  refine sf_ite (fun c93 => ?_) (fun c93 => ?_)
  · have C93 : (-1 : Int) = (0 : Int) := ti_eq c93
    exfalso; omega
  have C93 : ¬ (-1 : Int) = (0 : Int) := ti_ne c93
  refine sf_ret ?_
  refine sf_in ?_
  rw [f_X3_notBelow_e]
  have b94 := ti_lo x3
  have b95 := ti_hi x3
  refine sf_ite (fun c96 => ?_) (fun c96 => ?_)
  · have C96 : x3.toInt < (0 : Int) := ti_lt c96
    rw [j_X3_notBelow_13_e]
    refine sf_ret ?_
    refine sf_in ?_
    rw [f_X3_firstOf_e]
    refine sf_ite (fun c97 => ?_) (fun c97 => ?_)
    · have C97 : (-1 : Int) = (0 : Int) := ti_eq c97
      exfalso; omega
    have C97 : ¬ (-1 : Int) = (0 : Int) := ti_ne c97
    refine sf_ret ?_
    refine sf_ite (fun c98 => ?_) (fun c98 => ?_)
    · have C98 : (-1 : Int) = (0 : Int) := ti_eq c98
      exfalso; omega
    have C98 : ¬ (-1 : Int) = (0 : Int) := ti_ne c98
    refine sf_bnd (s_X3_refuse hF hI (by decide) (by decide)) (fun r99 u100 p101 => ?_)
    obtain ⟨Iu100, Fu100_, O83_u100_, O0_u100_, p101_1, p101_2, p101_x0⟩ := p101
    have Fu100 : ∀ k, 101 ≤ k → u100 k = τ k := fun k hk => (Fu100_ k hk).trans (Fτ k hk)
    have O83_u100 : u100 83 1 = τ 83 1 := O83_u100_.trans O83_τ
    have O0_u100 : u100 0 7 = τ 0 7 := O0_u100_.trans O0_τ
    replace p101_x0 : r99.toInt = (-1 : Int) := p101_x0
    exact sf_ret ⟨Iu100, Fu100, O83_u100, O0_u100, ti_lo _, ti_hi _⟩
  have C96 : (0 : Int) ≤ x3.toInt := ti_nlt c96
  refine sf_ite (fun c102 => ?_) (fun c102 => ?_)
  · have C102 : (2 : Int) ≤ x3.toInt := ti_le c102
    rw [j_X3_notBelow_13_e]
    refine sf_ret ?_
    refine sf_in ?_
    rw [f_X3_firstOf_e]
    refine sf_ite (fun c103 => ?_) (fun c103 => ?_)
    · have C103 : (-1 : Int) = (0 : Int) := ti_eq c103
      exfalso; omega
    have C103 : ¬ (-1 : Int) = (0 : Int) := ti_ne c103
    refine sf_ret ?_
    refine sf_ite (fun c104 => ?_) (fun c104 => ?_)
    · have C104 : (-1 : Int) = (0 : Int) := ti_eq c104
      exfalso; omega
    have C104 : ¬ (-1 : Int) = (0 : Int) := ti_ne c104
    refine sf_bnd (s_X3_refuse hF hI (by decide) (by decide)) (fun r105 u106 p107 => ?_)
    obtain ⟨Iu106, Fu106_, O83_u106_, O0_u106_, p107_1, p107_2, p107_x0⟩ := p107
    have Fu106 : ∀ k, 101 ≤ k → u106 k = τ k := fun k hk => (Fu106_ k hk).trans (Fτ k hk)
    have O83_u106 : u106 83 1 = τ 83 1 := O83_u106_.trans O83_τ
    have O0_u106 : u106 0 7 = τ 0 7 := O0_u106_.trans O0_τ
    replace p107_x0 : r105.toInt = (-1 : Int) := p107_x0
    exact sf_ret ⟨Iu106, Fu106, O83_u106, O0_u106, ti_lo _, ti_hi _⟩
  have C102 : x3.toInt < (2 : Int) := ti_nle c102
  refine sf_ret ?_
  refine sf_in ?_
  rw [f_X3_firstOf_e]
  refine sf_ite (fun c108 => ?_) (fun c108 => ?_)
  · have C108 : (-1 : Int) = (0 : Int) := ti_eq c108
    exfalso; omega
  have C108 : ¬ (-1 : Int) = (0 : Int) := ti_ne c108
  refine sf_ret ?_
  refine sf_ite (fun c109 => ?_) (fun c109 => ?_)
  · have C109 : (-1 : Int) = (0 : Int) := ti_eq c109
    exfalso; omega
  have C109 : ¬ (-1 : Int) = (0 : Int) := ti_ne c109
  refine sf_bnd (s_X3_refuse hF hI (by decide) (by decide)) (fun r110 u111 p112 => ?_)
  obtain ⟨Iu111, Fu111_, O83_u111_, O0_u111_, p112_1, p112_2, p112_x0⟩ := p112
  have Fu111 : ∀ k, 101 ≤ k → u111 k = τ k := fun k hk => (Fu111_ k hk).trans (Fτ k hk)
  have O83_u111 : u111 83 1 = τ 83 1 := O83_u111_.trans O83_τ
  have O0_u111 : u111 0 7 = τ 0 7 := O0_u111_.trans O0_τ
  replace p112_x0 : r110.toInt = (-1 : Int) := p112_x0
  exact sf_ret ⟨Iu111, Fu111, O83_u111, O0_u111, ti_lo _, ti_hi _⟩
set_option maxHeartbeats 4000000 in
set_option maxRecDepth 100000 in
theorem s_X3_owner {F : Nat} (hF : 100000 ≤ F) {x1 : Int32} {x2 : Int32} {τ : Mem} (hI : wiX τ) : sf (f_X3_owner F x1 x2 τ) (fun r s => wiX s ∧ (∀ k, 101 ≤ k → s k = τ k) ∧ s 83 1 = τ 83 1 ∧ s 0 7 = τ 0 7 ∧ -2147483648 ≤ r.toInt ∧ r.toInt ≤ 2147483647) := by
  have Fτ : ∀ k, 101 ≤ k → τ k = τ k := fun _ _ => rfl
  have O83_τ : τ 83 1 = τ 83 1 := rfl
  have O0_τ : τ 0 7 = τ 0 7 := rfl
  rw [f_X3_owner_e]
  have b1 := ti_lo x1
  have b2 := ti_hi x1
  refine sf_bnd (s_X3_noView hF hI) (fun r3 u4 p5 => ?_)
  obtain ⟨e9, p5⟩ := p5
  have e9 := e9.symm
  subst e9
  rcases p5 with ⟨rfl, q6, q7⟩ | p5
  · refine sf_in ?_
    rw [f_X3_outside_e]
    have b8 := ti_lo x2
    have b9 := ti_hi x2
    refine sf_ite (fun c10 => ?_) (fun c10 => ?_)
    · have C10 : (0 : Int) ≤ x2.toInt := ti_le c10
      refine sf_ite (fun c11 => ?_) (fun c11 => ?_)
      · have C11 : x2.toInt ≤ (999 : Int) := ti_le c11
        refine sf_ret ?_
        refine sf_in ?_
        rw [f_X3_firstOf_e]
        refine sf_ite (fun c12 => ?_) (fun c12 => ?_)
        · have C12 : (0 : Int) = (0 : Int) := ti_eq c12
          refine sf_ret ?_
          refine sf_ite (fun c13 => ?_) (fun c13 => ?_)
          · have C13 : (0 : Int) = (0 : Int) := ti_eq c13
            refine sf_bnd (s_X0_reckon hF wt_h1 hI) (fun r14 u15 p16 => ?_)
            obtain ⟨Iu15, Fu15_, O83_u15_, O0_u15_, -⟩ := p16
            have Fu15 : ∀ k, 101 ≤ k → u15 k = τ k := fun k hk => (Fu15_ k hk).trans (Fτ k hk)
            have O83_u15 : u15 83 1 = τ 83 1 := O83_u15_.trans O83_τ
            have O0_u15 : u15 0 7 = τ 0 7 := O0_u15_.trans O0_τ
            refine sf_bnd (s_X0_holder hF wt_h1 Iu15 (by omega) (by omega) (by omega) (by omega)) (fun r17 u18 p19 => ?_)
            obtain ⟨e9, p19_1, p19_2⟩ := p19
            have e9 := e9.symm
            subst e9
            exact sf_ret ⟨Iu15, Fu15, O83_u15, O0_u15, ti_lo _, ti_hi _⟩
          have C13 : ¬ (0 : Int) = (0 : Int) := ti_ne c13
          exfalso; omega
        have C12 : ¬ (0 : Int) = (0 : Int) := ti_ne c12
        exfalso; omega
      have C11 : (999 : Int) < x2.toInt := ti_nle c11
      refine sf_ret ?_
      refine sf_in ?_
      rw [f_X3_firstOf_e]
      refine sf_ite (fun c20 => ?_) (fun c20 => ?_)
      · have C20 : (0 : Int) = (0 : Int) := ti_eq c20
        refine sf_ret ?_
        refine sf_ite (fun c21 => ?_) (fun c21 => ?_)
        · have C21 : (-6 : Int) = (0 : Int) := ti_eq c21
          exfalso; omega
        have C21 : ¬ (-6 : Int) = (0 : Int) := ti_ne c21
        refine sf_bnd (s_X3_refuse hF hI (by decide) (by decide)) (fun r22 u23 p24 => ?_)
        obtain ⟨Iu23, Fu23_, O83_u23_, O0_u23_, p24_1, p24_2, p24_x0⟩ := p24
        have Fu23 : ∀ k, 101 ≤ k → u23 k = τ k := fun k hk => (Fu23_ k hk).trans (Fτ k hk)
        have O83_u23 : u23 83 1 = τ 83 1 := O83_u23_.trans O83_τ
        have O0_u23 : u23 0 7 = τ 0 7 := O0_u23_.trans O0_τ
        replace p24_x0 : r22.toInt = (-6 : Int) := p24_x0
        exact sf_ret ⟨Iu23, Fu23, O83_u23, O0_u23, ti_lo _, ti_hi _⟩
      have C20 : ¬ (0 : Int) = (0 : Int) := ti_ne c20
      exfalso; omega
    have C10 : x2.toInt < (0 : Int) := ti_nle c10
    refine sf_ret ?_
    refine sf_in ?_
    rw [f_X3_firstOf_e]
    refine sf_ite (fun c25 => ?_) (fun c25 => ?_)
    · have C25 : (0 : Int) = (0 : Int) := ti_eq c25
      refine sf_ret ?_
      refine sf_ite (fun c26 => ?_) (fun c26 => ?_)
      · have C26 : (-4 : Int) = (0 : Int) := ti_eq c26
        exfalso; omega
      have C26 : ¬ (-4 : Int) = (0 : Int) := ti_ne c26
      refine sf_bnd (s_X3_refuse hF hI (by decide) (by decide)) (fun r27 u28 p29 => ?_)
      obtain ⟨Iu28, Fu28_, O83_u28_, O0_u28_, p29_1, p29_2, p29_x0⟩ := p29
      have Fu28 : ∀ k, 101 ≤ k → u28 k = τ k := fun k hk => (Fu28_ k hk).trans (Fτ k hk)
      have O83_u28 : u28 83 1 = τ 83 1 := O83_u28_.trans O83_τ
      have O0_u28 : u28 0 7 = τ 0 7 := O0_u28_.trans O0_τ
      replace p29_x0 : r27.toInt = (-4 : Int) := p29_x0
      exact sf_ret ⟨Iu28, Fu28, O83_u28, O0_u28, ti_lo _, ti_hi _⟩
    have C25 : ¬ (0 : Int) = (0 : Int) := ti_ne c25
    exfalso; omega
  obtain ⟨rfl, q30⟩ := p5
  refine sf_in ?_
  rw [f_X3_outside_e]
  have b31 := ti_lo x2
  have b32 := ti_hi x2
  refine sf_ite (fun c33 => ?_) (fun c33 => ?_)
  · have C33 : (0 : Int) ≤ x2.toInt := ti_le c33
    refine sf_ite (fun c34 => ?_) (fun c34 => ?_)
    · have C34 : x2.toInt ≤ (999 : Int) := ti_le c34
      refine sf_ret ?_
      refine sf_in ?_
      rw [f_X3_firstOf_e]
      refine sf_ite (fun c35 => ?_) (fun c35 => ?_)
      · have C35 : (-1 : Int) = (0 : Int) := ti_eq c35
        exfalso; omega
      have C35 : ¬ (-1 : Int) = (0 : Int) := ti_ne c35
      refine sf_ret ?_
      refine sf_ite (fun c36 => ?_) (fun c36 => ?_)
      · have C36 : (-1 : Int) = (0 : Int) := ti_eq c36
        exfalso; omega
      have C36 : ¬ (-1 : Int) = (0 : Int) := ti_ne c36
      refine sf_bnd (s_X3_refuse hF hI (by decide) (by decide)) (fun r37 u38 p39 => ?_)
      obtain ⟨Iu38, Fu38_, O83_u38_, O0_u38_, p39_1, p39_2, p39_x0⟩ := p39
      have Fu38 : ∀ k, 101 ≤ k → u38 k = τ k := fun k hk => (Fu38_ k hk).trans (Fτ k hk)
      have O83_u38 : u38 83 1 = τ 83 1 := O83_u38_.trans O83_τ
      have O0_u38 : u38 0 7 = τ 0 7 := O0_u38_.trans O0_τ
      replace p39_x0 : r37.toInt = (-1 : Int) := p39_x0
      exact sf_ret ⟨Iu38, Fu38, O83_u38, O0_u38, ti_lo _, ti_hi _⟩
    have C34 : (999 : Int) < x2.toInt := ti_nle c34
    refine sf_ret ?_
    refine sf_in ?_
    rw [f_X3_firstOf_e]
    refine sf_ite (fun c40 => ?_) (fun c40 => ?_)
    · have C40 : (-1 : Int) = (0 : Int) := ti_eq c40
      exfalso; omega
    have C40 : ¬ (-1 : Int) = (0 : Int) := ti_ne c40
    refine sf_ret ?_
    refine sf_ite (fun c41 => ?_) (fun c41 => ?_)
    · have C41 : (-1 : Int) = (0 : Int) := ti_eq c41
      exfalso; omega
    have C41 : ¬ (-1 : Int) = (0 : Int) := ti_ne c41
    refine sf_bnd (s_X3_refuse hF hI (by decide) (by decide)) (fun r42 u43 p44 => ?_)
    obtain ⟨Iu43, Fu43_, O83_u43_, O0_u43_, p44_1, p44_2, p44_x0⟩ := p44
    have Fu43 : ∀ k, 101 ≤ k → u43 k = τ k := fun k hk => (Fu43_ k hk).trans (Fτ k hk)
    have O83_u43 : u43 83 1 = τ 83 1 := O83_u43_.trans O83_τ
    have O0_u43 : u43 0 7 = τ 0 7 := O0_u43_.trans O0_τ
    replace p44_x0 : r42.toInt = (-1 : Int) := p44_x0
    exact sf_ret ⟨Iu43, Fu43, O83_u43, O0_u43, ti_lo _, ti_hi _⟩
  have C33 : x2.toInt < (0 : Int) := ti_nle c33
  refine sf_ret ?_
  refine sf_in ?_
  rw [f_X3_firstOf_e]
  refine sf_ite (fun c45 => ?_) (fun c45 => ?_)
  · have C45 : (-1 : Int) = (0 : Int) := ti_eq c45
    exfalso; omega
  have C45 : ¬ (-1 : Int) = (0 : Int) := ti_ne c45
  refine sf_ret ?_
  refine sf_ite (fun c46 => ?_) (fun c46 => ?_)
  · have C46 : (-1 : Int) = (0 : Int) := ti_eq c46
    exfalso; omega
  have C46 : ¬ (-1 : Int) = (0 : Int) := ti_ne c46
  refine sf_bnd (s_X3_refuse hF hI (by decide) (by decide)) (fun r47 u48 p49 => ?_)
  obtain ⟨Iu48, Fu48_, O83_u48_, O0_u48_, p49_1, p49_2, p49_x0⟩ := p49
  have Fu48 : ∀ k, 101 ≤ k → u48 k = τ k := fun k hk => (Fu48_ k hk).trans (Fτ k hk)
  have O83_u48 : u48 83 1 = τ 83 1 := O83_u48_.trans O83_τ
  have O0_u48 : u48 0 7 = τ 0 7 := O0_u48_.trans O0_τ
  replace p49_x0 : r47.toInt = (-1 : Int) := p49_x0
  exact sf_ret ⟨Iu48, Fu48, O83_u48, O0_u48, ti_lo _, ti_hi _⟩
set_option maxHeartbeats 4000000 in
set_option maxRecDepth 100000 in
theorem s_X3_owns {F : Nat} (hF : 100000 ≤ F) {x1 : Int32} {x2 : Int32} {x3 : Int32} {τ : Mem} (hI : wiX τ) : sf (f_X3_owns F x1 x2 x3 τ) (fun r s => wiX s ∧ (∀ k, 101 ≤ k → s k = τ k) ∧ s 83 1 = τ 83 1 ∧ s 0 7 = τ 0 7 ∧ -2147483648 ≤ r.toInt ∧ r.toInt ≤ 2147483647) := by
  have Fτ : ∀ k, 101 ≤ k → τ k = τ k := fun _ _ => rfl
  have O83_τ : τ 83 1 = τ 83 1 := rfl
  have O0_τ : τ 0 7 = τ 0 7 := rfl
  rw [f_X3_owns_e]
  have b1 := ti_lo x1
  have b2 := ti_hi x1
  have b3 := ti_lo x2
  have b4 := ti_hi x2
  refine sf_bnd (s_X3_noLookerFar hF hI) (fun r5 u6 p7 => ?_)
  obtain ⟨e9, p7⟩ := p7
  have e9 := e9.symm
  subst e9
  rcases p7 with ⟨rfl, q8, q9, q10, q11⟩ | p7
  · refine sf_in ?_
    rw [f_X3_notBelow_e]
    have b12 := ti_lo x3
    have b13 := ti_hi x3
    refine sf_ite (fun c14 => ?_) (fun c14 => ?_)
    · have C14 : x3.toInt < (0 : Int) := ti_lt c14
      rw [j_X3_notBelow_13_e]
      refine sf_ret ?_
      refine sf_in ?_
      rw [f_X3_firstOf_e]
      refine sf_ite (fun c15 => ?_) (fun c15 => ?_)
      · have C15 : (0 : Int) = (0 : Int) := ti_eq c15
        refine sf_ret ?_
        refine sf_ite (fun c16 => ?_) (fun c16 => ?_)
        · have C16 : (-2 : Int) = (0 : Int) := ti_eq c16
          exfalso; omega
        have C16 : ¬ (-2 : Int) = (0 : Int) := ti_ne c16
        refine sf_bnd (s_X3_refuse hF hI (by decide) (by decide)) (fun r17 u18 p19 => ?_)
        obtain ⟨Iu18, Fu18_, O83_u18_, O0_u18_, p19_1, p19_2, p19_x0⟩ := p19
        have Fu18 : ∀ k, 101 ≤ k → u18 k = τ k := fun k hk => (Fu18_ k hk).trans (Fτ k hk)
        have O83_u18 : u18 83 1 = τ 83 1 := O83_u18_.trans O83_τ
        have O0_u18 : u18 0 7 = τ 0 7 := O0_u18_.trans O0_τ
        replace p19_x0 : r17.toInt = (-2 : Int) := p19_x0
        exact sf_ret ⟨Iu18, Fu18, O83_u18, O0_u18, ti_lo _, ti_hi _⟩
      have C15 : ¬ (0 : Int) = (0 : Int) := ti_ne c15
      exfalso; omega
    have C14 : (0 : Int) ≤ x3.toInt := ti_nlt c14
    refine sf_ite (fun c20 => ?_) (fun c20 => ?_)
    · have C20 : (2 : Int) ≤ x3.toInt := ti_le c20
      rw [j_X3_notBelow_13_e]
      refine sf_ret ?_
      refine sf_in ?_
      rw [f_X3_firstOf_e]
      refine sf_ite (fun c21 => ?_) (fun c21 => ?_)
      · have C21 : (0 : Int) = (0 : Int) := ti_eq c21
        refine sf_ret ?_
        refine sf_ite (fun c22 => ?_) (fun c22 => ?_)
        · have C22 : (-2 : Int) = (0 : Int) := ti_eq c22
          exfalso; omega
        have C22 : ¬ (-2 : Int) = (0 : Int) := ti_ne c22
        refine sf_bnd (s_X3_refuse hF hI (by decide) (by decide)) (fun r23 u24 p25 => ?_)
        obtain ⟨Iu24, Fu24_, O83_u24_, O0_u24_, p25_1, p25_2, p25_x0⟩ := p25
        have Fu24 : ∀ k, 101 ≤ k → u24 k = τ k := fun k hk => (Fu24_ k hk).trans (Fτ k hk)
        have O83_u24 : u24 83 1 = τ 83 1 := O83_u24_.trans O83_τ
        have O0_u24 : u24 0 7 = τ 0 7 := O0_u24_.trans O0_τ
        replace p25_x0 : r23.toInt = (-2 : Int) := p25_x0
        exact sf_ret ⟨Iu24, Fu24, O83_u24, O0_u24, ti_lo _, ti_hi _⟩
      have C21 : ¬ (0 : Int) = (0 : Int) := ti_ne c21
      exfalso; omega
    have C20 : x3.toInt < (2 : Int) := ti_nle c20
    refine sf_ret ?_
    refine sf_in ?_
    rw [f_X3_firstOf_e]
    refine sf_ite (fun c26 => ?_) (fun c26 => ?_)
    · have C26 : (0 : Int) = (0 : Int) := ti_eq c26
      refine sf_ret ?_
      refine sf_ite (fun c27 => ?_) (fun c27 => ?_)
      · have C27 : (0 : Int) = (0 : Int) := ti_eq c27
        refine sf_bnd (s_X0_reckon hF wt_h1 hI) (fun r28 u29 p30 => ?_)
        obtain ⟨Iu29, Fu29_, O83_u29_, O0_u29_, -⟩ := p30
        have Fu29 : ∀ k, 101 ≤ k → u29 k = τ k := fun k hk => (Fu29_ k hk).trans (Fτ k hk)
        have O83_u29 : u29 83 1 = τ 83 1 := O83_u29_.trans O83_τ
        have O0_u29 : u29 0 7 = τ 0 7 := O0_u29_.trans O0_τ
        refine sf_ite (fun c31 => ?_) (fun c31 => ?_)
        · have C31 : x3.toInt = (0 : Int) := ti_eq c31
          refine sf_bnd (s_X0_holdings hF wt_h1 Iu29 (by omega) (by omega) (by omega) (by omega)) (fun r32 u33 p34 => ?_)
          obtain ⟨e9, p34_1, p34_2⟩ := p34
          have e9 := e9.symm
          subst e9
          have b35 := ti_lo r32
          have b36 := ti_hi r32
          exact sf_ret ⟨Iu29, Fu29, O83_u29, O0_u29, ti_lo _, ti_hi _⟩
        have C31 : ¬ x3.toInt = (0 : Int) := ti_ne c31
        refine sf_bnd (s_X0_wealth hF wt_h1 Iu29 (by omega) (by omega)) (fun r37 u38 p39 => ?_)
        obtain ⟨e9, p39_1, p39_2⟩ := p39
        have e9 := e9.symm
        subst e9
        have b40 := ti_lo r37
        have b41 := ti_hi r37
        exact sf_ret ⟨Iu29, Fu29, O83_u29, O0_u29, ti_lo _, ti_hi _⟩
      have C27 : ¬ (0 : Int) = (0 : Int) := ti_ne c27
      exfalso; omega
    have C26 : ¬ (0 : Int) = (0 : Int) := ti_ne c26
    exfalso; omega
  rcases p7 with rfl | p7
  · refine sf_in ?_
    rw [f_X3_notBelow_e]
    have b42 := ti_lo x3
    have b43 := ti_hi x3
    refine sf_ite (fun c44 => ?_) (fun c44 => ?_)
    · have C44 : x3.toInt < (0 : Int) := ti_lt c44
      rw [j_X3_notBelow_13_e]
      refine sf_ret ?_
      refine sf_in ?_
      rw [f_X3_firstOf_e]
      refine sf_ite (fun c45 => ?_) (fun c45 => ?_)
      · have C45 : (-1 : Int) = (0 : Int) := ti_eq c45
        exfalso; omega
      have C45 : ¬ (-1 : Int) = (0 : Int) := ti_ne c45
      refine sf_ret ?_
      refine sf_ite (fun c46 => ?_) (fun c46 => ?_)
      · have C46 : (-1 : Int) = (0 : Int) := ti_eq c46
        exfalso; omega
      have C46 : ¬ (-1 : Int) = (0 : Int) := ti_ne c46
      refine sf_bnd (s_X3_refuse hF hI (by decide) (by decide)) (fun r47 u48 p49 => ?_)
      obtain ⟨Iu48, Fu48_, O83_u48_, O0_u48_, p49_1, p49_2, p49_x0⟩ := p49
      have Fu48 : ∀ k, 101 ≤ k → u48 k = τ k := fun k hk => (Fu48_ k hk).trans (Fτ k hk)
      have O83_u48 : u48 83 1 = τ 83 1 := O83_u48_.trans O83_τ
      have O0_u48 : u48 0 7 = τ 0 7 := O0_u48_.trans O0_τ
      replace p49_x0 : r47.toInt = (-1 : Int) := p49_x0
      exact sf_ret ⟨Iu48, Fu48, O83_u48, O0_u48, ti_lo _, ti_hi _⟩
    have C44 : (0 : Int) ≤ x3.toInt := ti_nlt c44
    refine sf_ite (fun c50 => ?_) (fun c50 => ?_)
    · have C50 : (2 : Int) ≤ x3.toInt := ti_le c50
      rw [j_X3_notBelow_13_e]
      refine sf_ret ?_
      refine sf_in ?_
      rw [f_X3_firstOf_e]
      refine sf_ite (fun c51 => ?_) (fun c51 => ?_)
      · have C51 : (-1 : Int) = (0 : Int) := ti_eq c51
        exfalso; omega
      have C51 : ¬ (-1 : Int) = (0 : Int) := ti_ne c51
      refine sf_ret ?_
      refine sf_ite (fun c52 => ?_) (fun c52 => ?_)
      · have C52 : (-1 : Int) = (0 : Int) := ti_eq c52
        exfalso; omega
      have C52 : ¬ (-1 : Int) = (0 : Int) := ti_ne c52
      refine sf_bnd (s_X3_refuse hF hI (by decide) (by decide)) (fun r53 u54 p55 => ?_)
      obtain ⟨Iu54, Fu54_, O83_u54_, O0_u54_, p55_1, p55_2, p55_x0⟩ := p55
      have Fu54 : ∀ k, 101 ≤ k → u54 k = τ k := fun k hk => (Fu54_ k hk).trans (Fτ k hk)
      have O83_u54 : u54 83 1 = τ 83 1 := O83_u54_.trans O83_τ
      have O0_u54 : u54 0 7 = τ 0 7 := O0_u54_.trans O0_τ
      replace p55_x0 : r53.toInt = (-1 : Int) := p55_x0
      exact sf_ret ⟨Iu54, Fu54, O83_u54, O0_u54, ti_lo _, ti_hi _⟩
    have C50 : x3.toInt < (2 : Int) := ti_nle c50
    refine sf_ret ?_
    refine sf_in ?_
    rw [f_X3_firstOf_e]
    refine sf_ite (fun c56 => ?_) (fun c56 => ?_)
    · have C56 : (-1 : Int) = (0 : Int) := ti_eq c56
      exfalso; omega
    have C56 : ¬ (-1 : Int) = (0 : Int) := ti_ne c56
    refine sf_ret ?_
    refine sf_ite (fun c57 => ?_) (fun c57 => ?_)
    · have C57 : (-1 : Int) = (0 : Int) := ti_eq c57
      exfalso; omega
    have C57 : ¬ (-1 : Int) = (0 : Int) := ti_ne c57
    refine sf_bnd (s_X3_refuse hF hI (by decide) (by decide)) (fun r58 u59 p60 => ?_)
    obtain ⟨Iu59, Fu59_, O83_u59_, O0_u59_, p60_1, p60_2, p60_x0⟩ := p60
    have Fu59 : ∀ k, 101 ≤ k → u59 k = τ k := fun k hk => (Fu59_ k hk).trans (Fτ k hk)
    have O83_u59 : u59 83 1 = τ 83 1 := O83_u59_.trans O83_τ
    have O0_u59 : u59 0 7 = τ 0 7 := O0_u59_.trans O0_τ
    replace p60_x0 : r58.toInt = (-1 : Int) := p60_x0
    exact sf_ret ⟨Iu59, Fu59, O83_u59, O0_u59, ti_lo _, ti_hi _⟩
  rcases p7 with rfl | p7
  · refine sf_in ?_
    rw [f_X3_notBelow_e]
    have b61 := ti_lo x3
    have b62 := ti_hi x3
    refine sf_ite (fun c63 => ?_) (fun c63 => ?_)
    · have C63 : x3.toInt < (0 : Int) := ti_lt c63
      rw [j_X3_notBelow_13_e]
      refine sf_ret ?_
      refine sf_in ?_
      rw [f_X3_firstOf_e]
      refine sf_ite (fun c64 => ?_) (fun c64 => ?_)
      · have C64 : (-4 : Int) = (0 : Int) := ti_eq c64
        exfalso; omega
      have C64 : ¬ (-4 : Int) = (0 : Int) := ti_ne c64
      refine sf_ret ?_
      refine sf_ite (fun c65 => ?_) (fun c65 => ?_)
      · have C65 : (-4 : Int) = (0 : Int) := ti_eq c65
        exfalso; omega
      have C65 : ¬ (-4 : Int) = (0 : Int) := ti_ne c65
      refine sf_bnd (s_X3_refuse hF hI (by decide) (by decide)) (fun r66 u67 p68 => ?_)
      obtain ⟨Iu67, Fu67_, O83_u67_, O0_u67_, p68_1, p68_2, p68_x0⟩ := p68
      have Fu67 : ∀ k, 101 ≤ k → u67 k = τ k := fun k hk => (Fu67_ k hk).trans (Fτ k hk)
      have O83_u67 : u67 83 1 = τ 83 1 := O83_u67_.trans O83_τ
      have O0_u67 : u67 0 7 = τ 0 7 := O0_u67_.trans O0_τ
      replace p68_x0 : r66.toInt = (-4 : Int) := p68_x0
      exact sf_ret ⟨Iu67, Fu67, O83_u67, O0_u67, ti_lo _, ti_hi _⟩
    have C63 : (0 : Int) ≤ x3.toInt := ti_nlt c63
    refine sf_ite (fun c69 => ?_) (fun c69 => ?_)
    · have C69 : (2 : Int) ≤ x3.toInt := ti_le c69
      rw [j_X3_notBelow_13_e]
      refine sf_ret ?_
      refine sf_in ?_
      rw [f_X3_firstOf_e]
      refine sf_ite (fun c70 => ?_) (fun c70 => ?_)
      · have C70 : (-4 : Int) = (0 : Int) := ti_eq c70
        exfalso; omega
      have C70 : ¬ (-4 : Int) = (0 : Int) := ti_ne c70
      refine sf_ret ?_
      refine sf_ite (fun c71 => ?_) (fun c71 => ?_)
      · have C71 : (-4 : Int) = (0 : Int) := ti_eq c71
        exfalso; omega
      have C71 : ¬ (-4 : Int) = (0 : Int) := ti_ne c71
      refine sf_bnd (s_X3_refuse hF hI (by decide) (by decide)) (fun r72 u73 p74 => ?_)
      obtain ⟨Iu73, Fu73_, O83_u73_, O0_u73_, p74_1, p74_2, p74_x0⟩ := p74
      have Fu73 : ∀ k, 101 ≤ k → u73 k = τ k := fun k hk => (Fu73_ k hk).trans (Fτ k hk)
      have O83_u73 : u73 83 1 = τ 83 1 := O83_u73_.trans O83_τ
      have O0_u73 : u73 0 7 = τ 0 7 := O0_u73_.trans O0_τ
      replace p74_x0 : r72.toInt = (-4 : Int) := p74_x0
      exact sf_ret ⟨Iu73, Fu73, O83_u73, O0_u73, ti_lo _, ti_hi _⟩
    have C69 : x3.toInt < (2 : Int) := ti_nle c69
    refine sf_ret ?_
    refine sf_in ?_
    rw [f_X3_firstOf_e]
    refine sf_ite (fun c75 => ?_) (fun c75 => ?_)
    · have C75 : (-4 : Int) = (0 : Int) := ti_eq c75
      exfalso; omega
    have C75 : ¬ (-4 : Int) = (0 : Int) := ti_ne c75
    refine sf_ret ?_
    refine sf_ite (fun c76 => ?_) (fun c76 => ?_)
    · have C76 : (-4 : Int) = (0 : Int) := ti_eq c76
      exfalso; omega
    have C76 : ¬ (-4 : Int) = (0 : Int) := ti_ne c76
    refine sf_bnd (s_X3_refuse hF hI (by decide) (by decide)) (fun r77 u78 p79 => ?_)
    obtain ⟨Iu78, Fu78_, O83_u78_, O0_u78_, p79_1, p79_2, p79_x0⟩ := p79
    have Fu78 : ∀ k, 101 ≤ k → u78 k = τ k := fun k hk => (Fu78_ k hk).trans (Fτ k hk)
    have O83_u78 : u78 83 1 = τ 83 1 := O83_u78_.trans O83_τ
    have O0_u78 : u78 0 7 = τ 0 7 := O0_u78_.trans O0_τ
    replace p79_x0 : r77.toInt = (-4 : Int) := p79_x0
    exact sf_ret ⟨Iu78, Fu78, O83_u78, O0_u78, ti_lo _, ti_hi _⟩
  obtain rfl := p7
  refine sf_in ?_
  rw [f_X3_notBelow_e]
  have b80 := ti_lo x3
  have b81 := ti_hi x3
  refine sf_ite (fun c82 => ?_) (fun c82 => ?_)
  · have C82 : x3.toInt < (0 : Int) := ti_lt c82
    rw [j_X3_notBelow_13_e]
    refine sf_ret ?_
    refine sf_in ?_
    rw [f_X3_firstOf_e]
    refine sf_ite (fun c83 => ?_) (fun c83 => ?_)
    · have C83 : (-6 : Int) = (0 : Int) := ti_eq c83
      exfalso; omega
    have C83 : ¬ (-6 : Int) = (0 : Int) := ti_ne c83
    refine sf_ret ?_
    refine sf_ite (fun c84 => ?_) (fun c84 => ?_)
    · have C84 : (-6 : Int) = (0 : Int) := ti_eq c84
      exfalso; omega
    have C84 : ¬ (-6 : Int) = (0 : Int) := ti_ne c84
    refine sf_bnd (s_X3_refuse hF hI (by decide) (by decide)) (fun r85 u86 p87 => ?_)
    obtain ⟨Iu86, Fu86_, O83_u86_, O0_u86_, p87_1, p87_2, p87_x0⟩ := p87
    have Fu86 : ∀ k, 101 ≤ k → u86 k = τ k := fun k hk => (Fu86_ k hk).trans (Fτ k hk)
    have O83_u86 : u86 83 1 = τ 83 1 := O83_u86_.trans O83_τ
    have O0_u86 : u86 0 7 = τ 0 7 := O0_u86_.trans O0_τ
    replace p87_x0 : r85.toInt = (-6 : Int) := p87_x0
    exact sf_ret ⟨Iu86, Fu86, O83_u86, O0_u86, ti_lo _, ti_hi _⟩
  have C82 : (0 : Int) ≤ x3.toInt := ti_nlt c82
  refine sf_ite (fun c88 => ?_) (fun c88 => ?_)
  · have C88 : (2 : Int) ≤ x3.toInt := ti_le c88
    rw [j_X3_notBelow_13_e]
    refine sf_ret ?_
    refine sf_in ?_
    rw [f_X3_firstOf_e]
    refine sf_ite (fun c89 => ?_) (fun c89 => ?_)
    · have C89 : (-6 : Int) = (0 : Int) := ti_eq c89
      exfalso; omega
    have C89 : ¬ (-6 : Int) = (0 : Int) := ti_ne c89
    refine sf_ret ?_
    refine sf_ite (fun c90 => ?_) (fun c90 => ?_)
    · have C90 : (-6 : Int) = (0 : Int) := ti_eq c90
      exfalso; omega
    have C90 : ¬ (-6 : Int) = (0 : Int) := ti_ne c90
    refine sf_bnd (s_X3_refuse hF hI (by decide) (by decide)) (fun r91 u92 p93 => ?_)
    obtain ⟨Iu92, Fu92_, O83_u92_, O0_u92_, p93_1, p93_2, p93_x0⟩ := p93
    have Fu92 : ∀ k, 101 ≤ k → u92 k = τ k := fun k hk => (Fu92_ k hk).trans (Fτ k hk)
    have O83_u92 : u92 83 1 = τ 83 1 := O83_u92_.trans O83_τ
    have O0_u92 : u92 0 7 = τ 0 7 := O0_u92_.trans O0_τ
    replace p93_x0 : r91.toInt = (-6 : Int) := p93_x0
    exact sf_ret ⟨Iu92, Fu92, O83_u92, O0_u92, ti_lo _, ti_hi _⟩
  have C88 : x3.toInt < (2 : Int) := ti_nle c88
  refine sf_ret ?_
  refine sf_in ?_
  rw [f_X3_firstOf_e]
  refine sf_ite (fun c94 => ?_) (fun c94 => ?_)
  · have C94 : (-6 : Int) = (0 : Int) := ti_eq c94
    exfalso; omega
  have C94 : ¬ (-6 : Int) = (0 : Int) := ti_ne c94
  refine sf_ret ?_
  refine sf_ite (fun c95 => ?_) (fun c95 => ?_)
  · have C95 : (-6 : Int) = (0 : Int) := ti_eq c95
    exfalso; omega
  have C95 : ¬ (-6 : Int) = (0 : Int) := ti_ne c95
  refine sf_bnd (s_X3_refuse hF hI (by decide) (by decide)) (fun r96 u97 p98 => ?_)
  obtain ⟨Iu97, Fu97_, O83_u97_, O0_u97_, p98_1, p98_2, p98_x0⟩ := p98
  have Fu97 : ∀ k, 101 ≤ k → u97 k = τ k := fun k hk => (Fu97_ k hk).trans (Fτ k hk)
  have O83_u97 : u97 83 1 = τ 83 1 := O83_u97_.trans O83_τ
  have O0_u97 : u97 0 7 = τ 0 7 := O0_u97_.trans O0_τ
  replace p98_x0 : r96.toInt = (-6 : Int) := p98_x0
  exact sf_ret ⟨Iu97, Fu97, O83_u97, O0_u97, ti_lo _, ti_hi _⟩
set_option maxHeartbeats 4000000 in
set_option maxRecDepth 100000 in
theorem s_X3_nobodys {F : Nat} (hF : 100000 ≤ F) {x1 : Int32} {τ : Mem} (hI : wiX τ) : sf (f_X3_nobodys F x1 τ) (fun r s => wiX s ∧ (∀ k, 101 ≤ k → s k = τ k) ∧ s 83 1 = τ 83 1 ∧ s 0 7 = τ 0 7 ∧ -2147483648 ≤ r.toInt ∧ r.toInt ≤ 2147483647) := by
  have Fτ : ∀ k, 101 ≤ k → τ k = τ k := fun _ _ => rfl
  have O83_τ : τ 83 1 = τ 83 1 := rfl
  have O0_τ : τ 0 7 = τ 0 7 := rfl
  rw [f_X3_nobodys_e]
  refine sf_in ?_
  rw [f_X3_outside_e]
  have b1 := ti_lo x1
  have b2 := ti_hi x1
  refine sf_ite (fun c3 => ?_) (fun c3 => ?_)
  · have C3 : (0 : Int) ≤ x1.toInt := ti_le c3
    refine sf_ite (fun c4 => ?_) (fun c4 => ?_)
    · have C4 : x1.toInt ≤ (999 : Int) := ti_le c4
      refine sf_ret ?_
      refine sf_ite (fun c5 => ?_) (fun c5 => ?_)
      · have C5 : (0 : Int) = (0 : Int) := ti_eq c5
        refine sf_bnd (s_X0_reckon hF wt_h1 hI) (fun r6 u7 p8 => ?_)
        obtain ⟨Iu7, Fu7_, O83_u7_, O0_u7_, -⟩ := p8
        have Fu7 : ∀ k, 101 ≤ k → u7 k = τ k := fun k hk => (Fu7_ k hk).trans (Fτ k hk)
        have O83_u7 : u7 83 1 = τ 83 1 := O83_u7_.trans O83_τ
        have O0_u7 : u7 0 7 = τ 0 7 := O0_u7_.trans O0_τ
        refine sf_bnd (s_X0_held hF wt_h1 Iu7 (by omega) (by omega)) (fun r9 u10 p11 => ?_)
        obtain ⟨e9, p11_1, p11_2⟩ := p11
        have e9 := e9.symm
        subst e9
        have b12 := ti_lo r9
        have b13 := ti_hi r9
        have b14 := ti_lo ((255 : Int32) - r9)
        have b15 := ti_hi ((255 : Int32) - r9)
        exact sf_ret ⟨Iu7, Fu7, O83_u7, O0_u7, ti_lo _, ti_hi _⟩
      have C5 : ¬ (0 : Int) = (0 : Int) := ti_ne c5
      exfalso; omega
    have C4 : (999 : Int) < x1.toInt := ti_nle c4
    refine sf_ret ?_
    refine sf_ite (fun c16 => ?_) (fun c16 => ?_)
    · have C16 : (-6 : Int) = (0 : Int) := ti_eq c16
      exfalso; omega
    have C16 : ¬ (-6 : Int) = (0 : Int) := ti_ne c16
    refine sf_bnd (s_X3_refuse hF hI (by decide) (by decide)) (fun r17 u18 p19 => ?_)
    obtain ⟨Iu18, Fu18_, O83_u18_, O0_u18_, p19_1, p19_2, p19_x0⟩ := p19
    have Fu18 : ∀ k, 101 ≤ k → u18 k = τ k := fun k hk => (Fu18_ k hk).trans (Fτ k hk)
    have O83_u18 : u18 83 1 = τ 83 1 := O83_u18_.trans O83_τ
    have O0_u18 : u18 0 7 = τ 0 7 := O0_u18_.trans O0_τ
    replace p19_x0 : r17.toInt = (-6 : Int) := p19_x0
    exact sf_ret ⟨Iu18, Fu18, O83_u18, O0_u18, ti_lo _, ti_hi _⟩
  have C3 : x1.toInt < (0 : Int) := ti_nle c3
  refine sf_ret ?_
  refine sf_ite (fun c20 => ?_) (fun c20 => ?_)
  · have C20 : (-4 : Int) = (0 : Int) := ti_eq c20
    exfalso; omega
  have C20 : ¬ (-4 : Int) = (0 : Int) := ti_ne c20
  refine sf_bnd (s_X3_refuse hF hI (by decide) (by decide)) (fun r21 u22 p23 => ?_)
  obtain ⟨Iu22, Fu22_, O83_u22_, O0_u22_, p23_1, p23_2, p23_x0⟩ := p23
  have Fu22 : ∀ k, 101 ≤ k → u22 k = τ k := fun k hk => (Fu22_ k hk).trans (Fτ k hk)
  have O83_u22 : u22 83 1 = τ 83 1 := O83_u22_.trans O83_τ
  have O0_u22 : u22 0 7 = τ 0 7 := O0_u22_.trans O0_τ
  replace p23_x0 : r21.toInt = (-4 : Int) := p23_x0
  exact sf_ret ⟨Iu22, Fu22, O83_u22, O0_u22, ti_lo _, ti_hi _⟩
set_option maxHeartbeats 4000000 in
set_option maxRecDepth 100000 in
theorem sl_X3_from_33 {F : Nat} (hF : 100000 ≤ F) {x1 : Int32} {x2 : Int32} {τ : Mem} (x1_1 : 0 ≤ x1.toInt) (x1_2 : x1.toInt ≤ 4) (x2_1 : 0 ≤ x2.toInt) (x2_2 : x2.toInt ≤ 7) : ∀ (N : Nat) (x4 : Int32) (σ : Mem), wiX σ → (∀ k, 101 ≤ k → σ k = τ k) → σ 83 1 = τ 83 1 → σ 0 7 = τ 0 7 → 1000 < x4.toInt + N → 0 ≤ x4.toInt → x4.toInt ≤ 1000 → sf (lp_X3_from_33 F x1 x2 N x4 σ) (fun r s => wiX s ∧ (∀ k, 101 ≤ k → s k = τ k) ∧ s 83 1 = τ 83 1 ∧ s 0 7 = τ 0 7 ∧ -2147483648 ≤ r.toInt ∧ r.toInt ≤ 2147483647) := by
  intro N
  induction N with
  | zero => intro x4 σ hI Fσ O83_σ O0_σ hN x4_1 x4_2; exfalso; omega
  | succ N ih =>
    intro x4 σ hI Fσ O83_σ O0_σ hN x4_1 x4_2
    rw [lp_X3_from_33_s]
    refine sf_ite (fun c1 => ?_) (fun c1 => ?_)
    · have C1 : (999 : Int) < x4.toInt := ti_lt c1
      exact sf_ret ⟨hI, Fσ, O83_σ, O0_σ, ti_lo _, ti_hi _⟩
    have C1 : x4.toInt ≤ (999 : Int) := ti_nlt c1
    refine sf_bnd (s_X0_holder hF wt_h1 hI (by omega) (by omega) (by omega) (by omega)) (fun r2 u3 p4 => ?_)
    obtain ⟨e9, p4_1, p4_2⟩ := p4
    have e9 := e9.symm
    subst e9
    refine sf_ite (fun c5 => ?_) (fun c5 => ?_)
    · have C5 : r2.toInt = x1.toInt := ti_eq c5
      exact sf_ret ⟨hI, Fσ, O83_σ, O0_σ, ti_lo _, ti_hi _⟩
    have C5 : ¬ r2.toInt = x1.toInt := ti_ne c5
    have t6 : (x4 + (1 : Int32)).toInt = x4.toInt + (1 : Int) := ti_add (show -2147483648 ≤ x4.toInt + (1 : Int) by omega) (show x4.toInt + (1 : Int) ≤ 2147483647 by omega)
    exact ih _ _ hI Fσ O83_σ O0_σ (by omega) (by omega) (by omega)
set_option maxHeartbeats 4000000 in
set_option maxRecDepth 100000 in
theorem s_X3_from {F : Nat} (hF : 100000 ≤ F) {x1 : Int32} {x2 : Int32} {τ : Mem} (hI : wiX τ) : sf (f_X3_from F x1 x2 τ) (fun r s => wiX s ∧ (∀ k, 101 ≤ k → s k = τ k) ∧ s 83 1 = τ 83 1 ∧ s 0 7 = τ 0 7 ∧ -2147483648 ≤ r.toInt ∧ r.toInt ≤ 2147483647) := by
  have Fτ : ∀ k, 101 ≤ k → τ k = τ k := fun _ _ => rfl
  have O83_τ : τ 83 1 = τ 83 1 := rfl
  have O0_τ : τ 0 7 = τ 0 7 := rfl
  rw [f_X3_from_e]
  have b1 := ti_lo x1
  have b2 := ti_hi x1
  refine sf_bnd (s_X3_noLooker hF hI) (fun r3 u4 p5 => ?_)
  obtain ⟨e9, p5⟩ := p5
  have e9 := e9.symm
  subst e9
  rcases p5 with ⟨rfl, q6, q7⟩ | p5
  · have b8 := ti_lo x2
    have b9 := ti_hi x2
    refine sf_bnd (s_X3_noView hF hI) (fun r10 u11 p12 => ?_)
    obtain ⟨e9, p12⟩ := p12
    have e9 := e9.symm
    subst e9
    rcases p12 with ⟨rfl, q13, q14⟩ | p12
    · refine sf_in ?_
      rw [f_X3_firstOf_e]
      refine sf_ite (fun c15 => ?_) (fun c15 => ?_)
      · have C15 : (0 : Int) = (0 : Int) := ti_eq c15
        refine sf_ret ?_
        refine sf_ite (fun c16 => ?_) (fun c16 => ?_)
        · have C16 : (0 : Int) = (0 : Int) := ti_eq c16
          refine sf_bnd (s_X0_reckon hF wt_h1 hI) (fun r17 u18 p19 => ?_)
          obtain ⟨Iu18, Fu18_, O83_u18_, O0_u18_, -⟩ := p19
          have Fu18 : ∀ k, 101 ≤ k → u18 k = τ k := fun k hk => (Fu18_ k hk).trans (Fτ k hk)
          have O83_u18 : u18 83 1 = τ 83 1 := O83_u18_.trans O83_τ
          have O0_u18 : u18 0 7 = τ 0 7 := O0_u18_.trans O0_τ
          have l_0 : (0 : Int32).toInt = 0 := rfl
          exact sl_X3_from_33 hF (by omega) (by omega) (by omega) (by omega) _ _ _ Iu18 Fu18 O83_u18 O0_u18 (by omega) (by decide) (by decide)
        have C16 : ¬ (0 : Int) = (0 : Int) := ti_ne c16
        exfalso; omega
      have C15 : ¬ (0 : Int) = (0 : Int) := ti_ne c15
      exfalso; omega
    obtain ⟨rfl, q20⟩ := p12
    refine sf_in ?_
    rw [f_X3_firstOf_e]
    refine sf_ite (fun c21 => ?_) (fun c21 => ?_)
    · have C21 : (0 : Int) = (0 : Int) := ti_eq c21
      refine sf_ret ?_
      refine sf_ite (fun c22 => ?_) (fun c22 => ?_)
      · have C22 : (-1 : Int) = (0 : Int) := ti_eq c22
        exfalso; omega
      have C22 : ¬ (-1 : Int) = (0 : Int) := ti_ne c22
      refine sf_bnd (s_X3_refuse hF hI (by decide) (by decide)) (fun r23 u24 p25 => ?_)
      obtain ⟨Iu24, Fu24_, O83_u24_, O0_u24_, p25_1, p25_2, p25_x0⟩ := p25
      have Fu24 : ∀ k, 101 ≤ k → u24 k = τ k := fun k hk => (Fu24_ k hk).trans (Fτ k hk)
      have O83_u24 : u24 83 1 = τ 83 1 := O83_u24_.trans O83_τ
      have O0_u24 : u24 0 7 = τ 0 7 := O0_u24_.trans O0_τ
      replace p25_x0 : r23.toInt = (-1 : Int) := p25_x0
      exact sf_ret ⟨Iu24, Fu24, O83_u24, O0_u24, ti_lo _, ti_hi _⟩
    have C21 : ¬ (0 : Int) = (0 : Int) := ti_ne c21
    exfalso; omega
  obtain rfl := p5
  have b26 := ti_lo x2
  have b27 := ti_hi x2
  refine sf_bnd (s_X3_noView hF hI) (fun r28 u29 p30 => ?_)
  obtain ⟨e9, p30⟩ := p30
  have e9 := e9.symm
  subst e9
  rcases p30 with ⟨rfl, q31, q32⟩ | p30
  · refine sf_in ?_
    rw [f_X3_firstOf_e]
    refine sf_ite (fun c33 => ?_) (fun c33 => ?_)
    · have C33 : (-1 : Int) = (0 : Int) := ti_eq c33
      exfalso; omega
    have C33 : ¬ (-1 : Int) = (0 : Int) := ti_ne c33
    refine sf_ret ?_
    refine sf_ite (fun c34 => ?_) (fun c34 => ?_)
    · have C34 : (-1 : Int) = (0 : Int) := ti_eq c34
      exfalso; omega
    have C34 : ¬ (-1 : Int) = (0 : Int) := ti_ne c34
    refine sf_bnd (s_X3_refuse hF hI (by decide) (by decide)) (fun r35 u36 p37 => ?_)
    obtain ⟨Iu36, Fu36_, O83_u36_, O0_u36_, p37_1, p37_2, p37_x0⟩ := p37
    have Fu36 : ∀ k, 101 ≤ k → u36 k = τ k := fun k hk => (Fu36_ k hk).trans (Fτ k hk)
    have O83_u36 : u36 83 1 = τ 83 1 := O83_u36_.trans O83_τ
    have O0_u36 : u36 0 7 = τ 0 7 := O0_u36_.trans O0_τ
    replace p37_x0 : r35.toInt = (-1 : Int) := p37_x0
    exact sf_ret ⟨Iu36, Fu36, O83_u36, O0_u36, ti_lo _, ti_hi _⟩
  obtain ⟨rfl, q38⟩ := p30
  refine sf_in ?_
  rw [f_X3_firstOf_e]
  refine sf_ite (fun c39 => ?_) (fun c39 => ?_)
  · have C39 : (-1 : Int) = (0 : Int) := ti_eq c39
    exfalso; omega
  have C39 : ¬ (-1 : Int) = (0 : Int) := ti_ne c39
  refine sf_ret ?_
  refine sf_ite (fun c40 => ?_) (fun c40 => ?_)
  · have C40 : (-1 : Int) = (0 : Int) := ti_eq c40
    exfalso; omega
  have C40 : ¬ (-1 : Int) = (0 : Int) := ti_ne c40
  refine sf_bnd (s_X3_refuse hF hI (by decide) (by decide)) (fun r41 u42 p43 => ?_)
  obtain ⟨Iu42, Fu42_, O83_u42_, O0_u42_, p43_1, p43_2, p43_x0⟩ := p43
  have Fu42 : ∀ k, 101 ≤ k → u42 k = τ k := fun k hk => (Fu42_ k hk).trans (Fτ k hk)
  have O83_u42 : u42 83 1 = τ 83 1 := O83_u42_.trans O83_τ
  have O0_u42 : u42 0 7 = τ 0 7 := O0_u42_.trans O0_τ
  replace p43_x0 : r41.toInt = (-1 : Int) := p43_x0
  exact sf_ret ⟨Iu42, Fu42, O83_u42, O0_u42, ti_lo _, ti_hi _⟩
set_option maxHeartbeats 4000000 in
set_option maxRecDepth 100000 in
theorem sl_X3_lost_45 {F : Nat} (hF : 100000 ≤ F) {x1 : Int32} {x2 : Int32} {τ : Mem} (x1_1 : 0 ≤ x1.toInt) (x1_2 : x1.toInt ≤ 7) : ∀ (N : Nat) (x3 : Int32) (σ : Mem), wiX σ → (∀ k, 101 ≤ k → σ k = τ k) → σ 83 1 = τ 83 1 → σ 0 7 = τ 0 7 → 1000 < x3.toInt + N → 1 ≤ x3.toInt → x3.toInt ≤ 1000 → sf (lp_X3_lost_45 F x1 x2 N x3 σ) (fun r s => wiX s ∧ (∀ k, 101 ≤ k → s k = τ k) ∧ s 83 1 = τ 83 1 ∧ s 0 7 = τ 0 7 ∧ -2147483648 ≤ r.toInt ∧ r.toInt ≤ 2147483647) := by
  intro N
  induction N with
  | zero => intro x3 σ hI Fσ O83_σ O0_σ hN x3_1 x3_2; exfalso; omega
  | succ N ih =>
    intro x3 σ hI Fσ O83_σ O0_σ hN x3_1 x3_2
    rw [lp_X3_lost_45_s]
    refine sf_ite (fun c1 => ?_) (fun c1 => ?_)
    · have C1 : (999 : Int) < x3.toInt := ti_lt c1
      exact sf_ret ⟨hI, Fσ, O83_σ, O0_σ, ti_lo _, ti_hi _⟩
    have C1 : x3.toInt ≤ (999 : Int) := ti_nlt c1
    refine sf_bnd (s_X0_holder hF wt_h1 hI (by omega) (by omega) (by omega) (by omega)) (fun r2 u3 p4 => ?_)
    obtain ⟨e9, p4_1, p4_2⟩ := p4
    have e9 := e9.symm
    subst e9
    have b5 := ti_lo x2
    have b6 := ti_hi x2
    refine sf_ite (fun c7 => ?_) (fun c7 => ?_)
    · have C7 : r2.toInt = x2.toInt := ti_eq c7
      have t8 : (x3 + (1 : Int32)).toInt = x3.toInt + (1 : Int) := ti_add (show -2147483648 ≤ x3.toInt + (1 : Int) by omega) (show x3.toInt + (1 : Int) ≤ 2147483647 by omega)
      exact ih _ _ hI Fσ O83_σ O0_σ (by omega) (by omega) (by omega)
    have C7 : ¬ r2.toInt = x2.toInt := ti_ne c7
    exact sf_ret ⟨hI, Fσ, O83_σ, O0_σ, ti_lo _, ti_hi _⟩
set_option maxHeartbeats 4000000 in
set_option maxRecDepth 100000 in
theorem s_X3_lost {F : Nat} (hF : 100000 ≤ F) {x1 : Int32} {τ : Mem} (hI : wiX τ) : sf (f_X3_lost F x1 τ) (fun r s => wiX s ∧ (∀ k, 101 ≤ k → s k = τ k) ∧ s 83 1 = τ 83 1 ∧ s 0 7 = τ 0 7 ∧ -2147483648 ≤ r.toInt ∧ r.toInt ≤ 2147483647) := by
  have Fτ : ∀ k, 101 ≤ k → τ k = τ k := fun _ _ => rfl
  have O83_τ : τ 83 1 = τ 83 1 := rfl
  have O0_τ : τ 0 7 = τ 0 7 := rfl
  rw [f_X3_lost_e]
  have b1 := ti_lo x1
  have b2 := ti_hi x1
  refine sf_bnd (s_X0_isView hF hI) (fun r3 u4 p5 => ?_)
  obtain ⟨e9, p5⟩ := p5
  have e9 := e9.symm
  subst e9
  rcases p5 with ⟨rfl, q6, q7⟩ | p5
  · refine sf_ite (fun c8 => ?_) (fun c8 => ?_)
    · have C8 : (1 : Int) = (0 : Int) := ti_eq c8
      exfalso; omega
    have C8 : ¬ (1 : Int) = (0 : Int) := ti_ne c8
    refine sf_bnd (s_X0_reckon hF wt_h1 hI) (fun r9 u10 p11 => ?_)
    obtain ⟨Iu10, Fu10_, O83_u10_, O0_u10_, -⟩ := p11
    have Fu10 : ∀ k, 101 ≤ k → u10 k = τ k := fun k hk => (Fu10_ k hk).trans (Fτ k hk)
    have O83_u10 : u10 83 1 = τ 83 1 := O83_u10_.trans O83_τ
    have O0_u10 : u10 0 7 = τ 0 7 := O0_u10_.trans O0_τ
    refine sf_bnd (s_X0_holder hF wt_h1 Iu10 (by omega) (by omega) (by decide) (by decide)) (fun r12 u13 p14 => ?_)
    obtain ⟨e9, p14_1, p14_2⟩ := p14
    have e9 := e9.symm
    subst e9
    refine sf_ite (fun c15 => ?_) (fun c15 => ?_)
    · have C15 : r12.toInt = (-9 : Int) := ti_eq c15
      refine sf_bnd (s_X3_refuse hF Iu10 (by decide) (by decide)) (fun r16 u17 p18 => ?_)
      obtain ⟨Iu17, Fu17_, O83_u17_, O0_u17_, p18_1, p18_2, p18_x0⟩ := p18
      have Fu17 : ∀ k, 101 ≤ k → u17 k = τ k := fun k hk => (Fu17_ k hk).trans (Fu10 k hk)
      have O83_u17 : u17 83 1 = τ 83 1 := O83_u17_.trans O83_u10
      have O0_u17 : u17 0 7 = τ 0 7 := O0_u17_.trans O0_u10
      replace p18_x0 : r16.toInt = (-3 : Int) := p18_x0
      exact sf_ret ⟨Iu17, Fu17, O83_u17, O0_u17, ti_lo _, ti_hi _⟩
    have C15 : ¬ r12.toInt = (-9 : Int) := ti_ne c15
    have l_1 : (1 : Int32).toInt = 1 := rfl
    exact sl_X3_lost_45 hF (by omega) (by omega) _ _ _ Iu10 Fu10 O83_u10 O0_u10 (by omega) (by decide) (by decide)
  obtain ⟨rfl, q19⟩ := p5
  refine sf_ite (fun c20 => ?_) (fun c20 => ?_)
  · have C20 : (0 : Int) = (0 : Int) := ti_eq c20
    refine sf_bnd (s_X3_refuse hF hI (by decide) (by decide)) (fun r21 u22 p23 => ?_)
    obtain ⟨Iu22, Fu22_, O83_u22_, O0_u22_, p23_1, p23_2, p23_x0⟩ := p23
    have Fu22 : ∀ k, 101 ≤ k → u22 k = τ k := fun k hk => (Fu22_ k hk).trans (Fτ k hk)
    have O83_u22 : u22 83 1 = τ 83 1 := O83_u22_.trans O83_τ
    have O0_u22 : u22 0 7 = τ 0 7 := O0_u22_.trans O0_τ
    replace p23_x0 : r21.toInt = (-1 : Int) := p23_x0
    exact sf_ret ⟨Iu22, Fu22, O83_u22, O0_u22, ti_lo _, ti_hi _⟩
  have C20 : ¬ (0 : Int) = (0 : Int) := ti_ne c20
  exfalso; omega
set_option maxHeartbeats 4000000 in
set_option maxRecDepth 100000 in
theorem s_X3_richest {F : Nat} (hF : 100000 ≤ F) {x1 : Int32} {x2 : Int32} {τ : Mem} (hI : wiX τ) : sf (f_X3_richest F x1 x2 τ) (fun r s => wiX s ∧ (∀ k, 101 ≤ k → s k = τ k) ∧ s 83 1 = τ 83 1 ∧ s 0 7 = τ 0 7 ∧ -2147483648 ≤ r.toInt ∧ r.toInt ≤ 2147483647) := by
  have Fτ : ∀ k, 101 ≤ k → τ k = τ k := fun _ _ => rfl
  have O83_τ : τ 83 1 = τ 83 1 := rfl
  have O0_τ : τ 0 7 = τ 0 7 := rfl
  rw [f_X3_richest_e]
  refine sf_in ?_
  rw [f_X3_outside_e]
  have b1 := ti_lo x1
  have b2 := ti_hi x1
  refine sf_ite (fun c3 => ?_) (fun c3 => ?_)
  · have C3 : (0 : Int) ≤ x1.toInt := ti_le c3
    refine sf_ite (fun c4 => ?_) (fun c4 => ?_)
    · have C4 : x1.toInt ≤ (999 : Int) := ti_le c4
      refine sf_ret ?_
      refine sf_in ?_
      rw [f_X3_notBelow_e]
      have b5 := ti_lo x2
      have b6 := ti_hi x2
      refine sf_ite (fun c7 => ?_) (fun c7 => ?_)
      · have C7 : x2.toInt < (0 : Int) := ti_lt c7
        rw [j_X3_notBelow_13_e]
        refine sf_ret ?_
        refine sf_in ?_
        rw [f_X3_firstOf_e]
        refine sf_ite (fun c8 => ?_) (fun c8 => ?_)
        · have C8 : (0 : Int) = (0 : Int) := ti_eq c8
          refine sf_ret ?_
          refine sf_ite (fun c9 => ?_) (fun c9 => ?_)
          · have C9 : (-2 : Int) = (0 : Int) := ti_eq c9
            exfalso; omega
          have C9 : ¬ (-2 : Int) = (0 : Int) := ti_ne c9
          refine sf_bnd (s_X3_refuse hF hI (by decide) (by decide)) (fun r10 u11 p12 => ?_)
          obtain ⟨Iu11, Fu11_, O83_u11_, O0_u11_, p12_1, p12_2, p12_x0⟩ := p12
          have Fu11 : ∀ k, 101 ≤ k → u11 k = τ k := fun k hk => (Fu11_ k hk).trans (Fτ k hk)
          have O83_u11 : u11 83 1 = τ 83 1 := O83_u11_.trans O83_τ
          have O0_u11 : u11 0 7 = τ 0 7 := O0_u11_.trans O0_τ
          replace p12_x0 : r10.toInt = (-2 : Int) := p12_x0
          exact sf_ret ⟨Iu11, Fu11, O83_u11, O0_u11, ti_lo _, ti_hi _⟩
        have C8 : ¬ (0 : Int) = (0 : Int) := ti_ne c8
        exfalso; omega
      have C7 : (0 : Int) ≤ x2.toInt := ti_nlt c7
      refine sf_ite (fun c13 => ?_) (fun c13 => ?_)
      · have C13 : (2 : Int) ≤ x2.toInt := ti_le c13
        rw [j_X3_notBelow_13_e]
        refine sf_ret ?_
        refine sf_in ?_
        rw [f_X3_firstOf_e]
        refine sf_ite (fun c14 => ?_) (fun c14 => ?_)
        · have C14 : (0 : Int) = (0 : Int) := ti_eq c14
          refine sf_ret ?_
          refine sf_ite (fun c15 => ?_) (fun c15 => ?_)
          · have C15 : (-2 : Int) = (0 : Int) := ti_eq c15
            exfalso; omega
          have C15 : ¬ (-2 : Int) = (0 : Int) := ti_ne c15
          refine sf_bnd (s_X3_refuse hF hI (by decide) (by decide)) (fun r16 u17 p18 => ?_)
          obtain ⟨Iu17, Fu17_, O83_u17_, O0_u17_, p18_1, p18_2, p18_x0⟩ := p18
          have Fu17 : ∀ k, 101 ≤ k → u17 k = τ k := fun k hk => (Fu17_ k hk).trans (Fτ k hk)
          have O83_u17 : u17 83 1 = τ 83 1 := O83_u17_.trans O83_τ
          have O0_u17 : u17 0 7 = τ 0 7 := O0_u17_.trans O0_τ
          replace p18_x0 : r16.toInt = (-2 : Int) := p18_x0
          exact sf_ret ⟨Iu17, Fu17, O83_u17, O0_u17, ti_lo _, ti_hi _⟩
        have C14 : ¬ (0 : Int) = (0 : Int) := ti_ne c14
        exfalso; omega
      have C13 : x2.toInt < (2 : Int) := ti_nle c13
      refine sf_ret ?_
      refine sf_in ?_
      rw [f_X3_firstOf_e]
      refine sf_ite (fun c19 => ?_) (fun c19 => ?_)
      · have C19 : (0 : Int) = (0 : Int) := ti_eq c19
        refine sf_ret ?_
        refine sf_ite (fun c20 => ?_) (fun c20 => ?_)
        · have C20 : (0 : Int) = (0 : Int) := ti_eq c20
          refine sf_bnd (s_X0_reckon hF wt_h1 hI) (fun r21 u22 p23 => ?_)
          obtain ⟨Iu22, Fu22_, O83_u22_, O0_u22_, -⟩ := p23
          have Fu22 : ∀ k, 101 ≤ k → u22 k = τ k := fun k hk => (Fu22_ k hk).trans (Fτ k hk)
          have O83_u22 : u22 83 1 = τ 83 1 := O83_u22_.trans O83_τ
          have O0_u22 : u22 0 7 = τ 0 7 := O0_u22_.trans O0_τ
          refine sf_bnd (s_X0_wealthiest hF wt_h1 Iu22 (by omega) (by omega)) (fun r24 u25 p26 => ?_)
          obtain ⟨e9, p26_1, p26_2⟩ := p26
          have e9 := e9.symm
          subst e9
          refine sf_ite (fun c27 => ?_) (fun c27 => ?_)
          · have C27 : x2.toInt = (0 : Int) := ti_eq c27
            rw [j_X3_richest_55_e]
            exact sf_ret ⟨Iu22, Fu22, O83_u22, O0_u22, ti_lo _, ti_hi _⟩
          have C27 : ¬ x2.toInt = (0 : Int) := ti_ne c27
          refine sf_ite (fun c28 => ?_) (fun c28 => ?_)
          · have C28 : r24.toInt = (-9 : Int) := ti_eq c28
            rw [j_X3_richest_55_e]
            exact sf_ret ⟨Iu22, Fu22, O83_u22, O0_u22, ti_lo _, ti_hi _⟩
          have C28 : ¬ r24.toInt = (-9 : Int) := ti_ne c28
          refine sf_bnd (s_X0_wealth hF wt_h1 Iu22 (by omega) (by omega)) (fun r29 u30 p31 => ?_)
          obtain ⟨e9, p31_1, p31_2⟩ := p31
          have e9 := e9.symm
          subst e9
          have b32 := ti_lo r29
          have b33 := ti_hi r29
          exact sf_ret ⟨Iu22, Fu22, O83_u22, O0_u22, ti_lo _, ti_hi _⟩
        have C20 : ¬ (0 : Int) = (0 : Int) := ti_ne c20
        exfalso; omega
      have C19 : ¬ (0 : Int) = (0 : Int) := ti_ne c19
      exfalso; omega
    have C4 : (999 : Int) < x1.toInt := ti_nle c4
    refine sf_ret ?_
    refine sf_in ?_
    rw [f_X3_notBelow_e]
    have b34 := ti_lo x2
    have b35 := ti_hi x2
    refine sf_ite (fun c36 => ?_) (fun c36 => ?_)
    · have C36 : x2.toInt < (0 : Int) := ti_lt c36
      rw [j_X3_notBelow_13_e]
      refine sf_ret ?_
      refine sf_in ?_
      rw [f_X3_firstOf_e]
      refine sf_ite (fun c37 => ?_) (fun c37 => ?_)
      · have C37 : (-6 : Int) = (0 : Int) := ti_eq c37
        exfalso; omega
      have C37 : ¬ (-6 : Int) = (0 : Int) := ti_ne c37
      refine sf_ret ?_
      refine sf_ite (fun c38 => ?_) (fun c38 => ?_)
      · have C38 : (-6 : Int) = (0 : Int) := ti_eq c38
        exfalso; omega
      have C38 : ¬ (-6 : Int) = (0 : Int) := ti_ne c38
      refine sf_bnd (s_X3_refuse hF hI (by decide) (by decide)) (fun r39 u40 p41 => ?_)
      obtain ⟨Iu40, Fu40_, O83_u40_, O0_u40_, p41_1, p41_2, p41_x0⟩ := p41
      have Fu40 : ∀ k, 101 ≤ k → u40 k = τ k := fun k hk => (Fu40_ k hk).trans (Fτ k hk)
      have O83_u40 : u40 83 1 = τ 83 1 := O83_u40_.trans O83_τ
      have O0_u40 : u40 0 7 = τ 0 7 := O0_u40_.trans O0_τ
      replace p41_x0 : r39.toInt = (-6 : Int) := p41_x0
      exact sf_ret ⟨Iu40, Fu40, O83_u40, O0_u40, ti_lo _, ti_hi _⟩
    have C36 : (0 : Int) ≤ x2.toInt := ti_nlt c36
    refine sf_ite (fun c42 => ?_) (fun c42 => ?_)
    · have C42 : (2 : Int) ≤ x2.toInt := ti_le c42
      rw [j_X3_notBelow_13_e]
      refine sf_ret ?_
      refine sf_in ?_
      rw [f_X3_firstOf_e]
      refine sf_ite (fun c43 => ?_) (fun c43 => ?_)
      · have C43 : (-6 : Int) = (0 : Int) := ti_eq c43
        exfalso; omega
      have C43 : ¬ (-6 : Int) = (0 : Int) := ti_ne c43
      refine sf_ret ?_
      refine sf_ite (fun c44 => ?_) (fun c44 => ?_)
      · have C44 : (-6 : Int) = (0 : Int) := ti_eq c44
        exfalso; omega
      have C44 : ¬ (-6 : Int) = (0 : Int) := ti_ne c44
      refine sf_bnd (s_X3_refuse hF hI (by decide) (by decide)) (fun r45 u46 p47 => ?_)
      obtain ⟨Iu46, Fu46_, O83_u46_, O0_u46_, p47_1, p47_2, p47_x0⟩ := p47
      have Fu46 : ∀ k, 101 ≤ k → u46 k = τ k := fun k hk => (Fu46_ k hk).trans (Fτ k hk)
      have O83_u46 : u46 83 1 = τ 83 1 := O83_u46_.trans O83_τ
      have O0_u46 : u46 0 7 = τ 0 7 := O0_u46_.trans O0_τ
      replace p47_x0 : r45.toInt = (-6 : Int) := p47_x0
      exact sf_ret ⟨Iu46, Fu46, O83_u46, O0_u46, ti_lo _, ti_hi _⟩
    have C42 : x2.toInt < (2 : Int) := ti_nle c42
    refine sf_ret ?_
    refine sf_in ?_
    rw [f_X3_firstOf_e]
    refine sf_ite (fun c48 => ?_) (fun c48 => ?_)
    · have C48 : (-6 : Int) = (0 : Int) := ti_eq c48
      exfalso; omega
    have C48 : ¬ (-6 : Int) = (0 : Int) := ti_ne c48
    refine sf_ret ?_
    refine sf_ite (fun c49 => ?_) (fun c49 => ?_)
    · have C49 : (-6 : Int) = (0 : Int) := ti_eq c49
      exfalso; omega
    have C49 : ¬ (-6 : Int) = (0 : Int) := ti_ne c49
    refine sf_bnd (s_X3_refuse hF hI (by decide) (by decide)) (fun r50 u51 p52 => ?_)
    obtain ⟨Iu51, Fu51_, O83_u51_, O0_u51_, p52_1, p52_2, p52_x0⟩ := p52
    have Fu51 : ∀ k, 101 ≤ k → u51 k = τ k := fun k hk => (Fu51_ k hk).trans (Fτ k hk)
    have O83_u51 : u51 83 1 = τ 83 1 := O83_u51_.trans O83_τ
    have O0_u51 : u51 0 7 = τ 0 7 := O0_u51_.trans O0_τ
    replace p52_x0 : r50.toInt = (-6 : Int) := p52_x0
    exact sf_ret ⟨Iu51, Fu51, O83_u51, O0_u51, ti_lo _, ti_hi _⟩
  have C3 : x1.toInt < (0 : Int) := ti_nle c3
  refine sf_ret ?_
  refine sf_in ?_
  rw [f_X3_notBelow_e]
  have b53 := ti_lo x2
  have b54 := ti_hi x2
  refine sf_ite (fun c55 => ?_) (fun c55 => ?_)
  · have C55 : x2.toInt < (0 : Int) := ti_lt c55
    rw [j_X3_notBelow_13_e]
    refine sf_ret ?_
    refine sf_in ?_
    rw [f_X3_firstOf_e]
    refine sf_ite (fun c56 => ?_) (fun c56 => ?_)
    · have C56 : (-4 : Int) = (0 : Int) := ti_eq c56
      exfalso; omega
    have C56 : ¬ (-4 : Int) = (0 : Int) := ti_ne c56
    refine sf_ret ?_
    refine sf_ite (fun c57 => ?_) (fun c57 => ?_)
    · have C57 : (-4 : Int) = (0 : Int) := ti_eq c57
      exfalso; omega
    have C57 : ¬ (-4 : Int) = (0 : Int) := ti_ne c57
    refine sf_bnd (s_X3_refuse hF hI (by decide) (by decide)) (fun r58 u59 p60 => ?_)
    obtain ⟨Iu59, Fu59_, O83_u59_, O0_u59_, p60_1, p60_2, p60_x0⟩ := p60
    have Fu59 : ∀ k, 101 ≤ k → u59 k = τ k := fun k hk => (Fu59_ k hk).trans (Fτ k hk)
    have O83_u59 : u59 83 1 = τ 83 1 := O83_u59_.trans O83_τ
    have O0_u59 : u59 0 7 = τ 0 7 := O0_u59_.trans O0_τ
    replace p60_x0 : r58.toInt = (-4 : Int) := p60_x0
    exact sf_ret ⟨Iu59, Fu59, O83_u59, O0_u59, ti_lo _, ti_hi _⟩
  have C55 : (0 : Int) ≤ x2.toInt := ti_nlt c55
  refine sf_ite (fun c61 => ?_) (fun c61 => ?_)
  · have C61 : (2 : Int) ≤ x2.toInt := ti_le c61
    rw [j_X3_notBelow_13_e]
    refine sf_ret ?_
    refine sf_in ?_
    rw [f_X3_firstOf_e]
    refine sf_ite (fun c62 => ?_) (fun c62 => ?_)
    · have C62 : (-4 : Int) = (0 : Int) := ti_eq c62
      exfalso; omega
    have C62 : ¬ (-4 : Int) = (0 : Int) := ti_ne c62
    refine sf_ret ?_
    refine sf_ite (fun c63 => ?_) (fun c63 => ?_)
    · have C63 : (-4 : Int) = (0 : Int) := ti_eq c63
      exfalso; omega
    have C63 : ¬ (-4 : Int) = (0 : Int) := ti_ne c63
    refine sf_bnd (s_X3_refuse hF hI (by decide) (by decide)) (fun r64 u65 p66 => ?_)
    obtain ⟨Iu65, Fu65_, O83_u65_, O0_u65_, p66_1, p66_2, p66_x0⟩ := p66
    have Fu65 : ∀ k, 101 ≤ k → u65 k = τ k := fun k hk => (Fu65_ k hk).trans (Fτ k hk)
    have O83_u65 : u65 83 1 = τ 83 1 := O83_u65_.trans O83_τ
    have O0_u65 : u65 0 7 = τ 0 7 := O0_u65_.trans O0_τ
    replace p66_x0 : r64.toInt = (-4 : Int) := p66_x0
    exact sf_ret ⟨Iu65, Fu65, O83_u65, O0_u65, ti_lo _, ti_hi _⟩
  have C61 : x2.toInt < (2 : Int) := ti_nle c61
  refine sf_ret ?_
  refine sf_in ?_
  rw [f_X3_firstOf_e]
  refine sf_ite (fun c67 => ?_) (fun c67 => ?_)
  · have C67 : (-4 : Int) = (0 : Int) := ti_eq c67
    exfalso; omega
  have C67 : ¬ (-4 : Int) = (0 : Int) := ti_ne c67
  refine sf_ret ?_
  refine sf_ite (fun c68 => ?_) (fun c68 => ?_)
  · have C68 : (-4 : Int) = (0 : Int) := ti_eq c68
    exfalso; omega
  have C68 : ¬ (-4 : Int) = (0 : Int) := ti_ne c68
  refine sf_bnd (s_X3_refuse hF hI (by decide) (by decide)) (fun r69 u70 p71 => ?_)
  obtain ⟨Iu70, Fu70_, O83_u70_, O0_u70_, p71_1, p71_2, p71_x0⟩ := p71
  have Fu70 : ∀ k, 101 ≤ k → u70 k = τ k := fun k hk => (Fu70_ k hk).trans (Fτ k hk)
  have O83_u70 : u70 83 1 = τ 83 1 := O83_u70_.trans O83_τ
  have O0_u70 : u70 0 7 = τ 0 7 := O0_u70_.trans O0_τ
  replace p71_x0 : r69.toInt = (-4 : Int) := p71_x0
  exact sf_ret ⟨Iu70, Fu70, O83_u70, O0_u70, ti_lo _, ti_hi _⟩
set_option maxHeartbeats 4000000 in
set_option maxRecDepth 100000 in
theorem s_X3_staredOut {F : Nat} (hF : 100000 ≤ F) {x1 : Int32} {x2 : Int32} {x3 : Int32} {τ : Mem} (hI : wiX τ) : sf (f_X3_staredOut F x1 x2 x3 τ) (fun r s => wiX s ∧ (∀ k, 101 ≤ k → s k = τ k) ∧ s 83 1 = τ 83 1 ∧ s 0 7 = τ 0 7 ∧ -2147483648 ≤ r.toInt ∧ r.toInt ≤ 2147483647) := by
  have Fτ : ∀ k, 101 ≤ k → τ k = τ k := fun _ _ => rfl
  have O83_τ : τ 83 1 = τ 83 1 := rfl
  have O0_τ : τ 0 7 = τ 0 7 := rfl
  rw [f_X3_staredOut_e]
  have b1 := ti_lo x1
  have b2 := ti_hi x1
  have b3 := ti_lo x2
  have b4 := ti_hi x2
  have b5 := ti_lo x3
  have b6 := ti_hi x3
  refine sf_bnd (s_X3_noPairFar hF hI) (fun r7 u8 p9 => ?_)
  obtain ⟨e9, p9⟩ := p9
  have e9 := e9.symm
  subst e9
  rcases p9 with ⟨rfl, q10, q11, q12, q13, q14, q15⟩ | p9
  · refine sf_ite (fun c16 => ?_) (fun c16 => ?_)
    · have C16 : (0 : Int) = (0 : Int) := ti_eq c16
      refine sf_bnd (s_X0_reckon hF wt_h1 hI) (fun r17 u18 p19 => ?_)
      obtain ⟨Iu18, Fu18_, O83_u18_, O0_u18_, -⟩ := p19
      have Fu18 : ∀ k, 101 ≤ k → u18 k = τ k := fun k hk => (Fu18_ k hk).trans (Fτ k hk)
      have O83_u18 : u18 83 1 = τ 83 1 := O83_u18_.trans O83_τ
      have O0_u18 : u18 0 7 = τ 0 7 := O0_u18_.trans O0_τ
      refine sf_bnd (s_X0_holdings hF wt_h1 Iu18 (by omega) (by omega) (by decide) (by decide)) (fun r20 u21 p22 => ?_)
      obtain ⟨e9, p22_1, p22_2⟩ := p22
      have e9 := e9.symm
      subst e9
      refine sf_bnd (s_X0_holdings hF wt_h1 Iu18 (by omega) (by omega) (by omega) (by omega)) (fun r23 u24 p25 => ?_)
      obtain ⟨e9, p25_1, p25_2⟩ := p25
      have e9 := e9.symm
      subst e9
      have b26 := ti_lo (r20 &&& r23)
      have b27 := ti_hi (r20 &&& r23)
      exact sf_ret ⟨Iu18, Fu18, O83_u18, O0_u18, ti_lo _, ti_hi _⟩
    have C16 : ¬ (0 : Int) = (0 : Int) := ti_ne c16
    exfalso; omega
  rcases p9 with rfl | p9
  · refine sf_ite (fun c28 => ?_) (fun c28 => ?_)
    · have C28 : (-1 : Int) = (0 : Int) := ti_eq c28
      exfalso; omega
    have C28 : ¬ (-1 : Int) = (0 : Int) := ti_ne c28
    refine sf_bnd (s_X3_refuse hF hI (by decide) (by decide)) (fun r29 u30 p31 => ?_)
    obtain ⟨Iu30, Fu30_, O83_u30_, O0_u30_, p31_1, p31_2, p31_x0⟩ := p31
    have Fu30 : ∀ k, 101 ≤ k → u30 k = τ k := fun k hk => (Fu30_ k hk).trans (Fτ k hk)
    have O83_u30 : u30 83 1 = τ 83 1 := O83_u30_.trans O83_τ
    have O0_u30 : u30 0 7 = τ 0 7 := O0_u30_.trans O0_τ
    replace p31_x0 : r29.toInt = (-1 : Int) := p31_x0
    exact sf_ret ⟨Iu30, Fu30, O83_u30, O0_u30, ti_lo _, ti_hi _⟩
  rcases p9 with rfl | p9
  · refine sf_ite (fun c32 => ?_) (fun c32 => ?_)
    · have C32 : (-4 : Int) = (0 : Int) := ti_eq c32
      exfalso; omega
    have C32 : ¬ (-4 : Int) = (0 : Int) := ti_ne c32
    refine sf_bnd (s_X3_refuse hF hI (by decide) (by decide)) (fun r33 u34 p35 => ?_)
    obtain ⟨Iu34, Fu34_, O83_u34_, O0_u34_, p35_1, p35_2, p35_x0⟩ := p35
    have Fu34 : ∀ k, 101 ≤ k → u34 k = τ k := fun k hk => (Fu34_ k hk).trans (Fτ k hk)
    have O83_u34 : u34 83 1 = τ 83 1 := O83_u34_.trans O83_τ
    have O0_u34 : u34 0 7 = τ 0 7 := O0_u34_.trans O0_τ
    replace p35_x0 : r33.toInt = (-4 : Int) := p35_x0
    exact sf_ret ⟨Iu34, Fu34, O83_u34, O0_u34, ti_lo _, ti_hi _⟩
  obtain rfl := p9
  refine sf_ite (fun c36 => ?_) (fun c36 => ?_)
  · have C36 : (-6 : Int) = (0 : Int) := ti_eq c36
    exfalso; omega
  have C36 : ¬ (-6 : Int) = (0 : Int) := ti_ne c36
  refine sf_bnd (s_X3_refuse hF hI (by decide) (by decide)) (fun r37 u38 p39 => ?_)
  obtain ⟨Iu38, Fu38_, O83_u38_, O0_u38_, p39_1, p39_2, p39_x0⟩ := p39
  have Fu38 : ∀ k, 101 ≤ k → u38 k = τ k := fun k hk => (Fu38_ k hk).trans (Fτ k hk)
  have O83_u38 : u38 83 1 = τ 83 1 := O83_u38_.trans O83_τ
  have O0_u38 : u38 0 7 = τ 0 7 := O0_u38_.trans O0_τ
  replace p39_x0 : r37.toInt = (-6 : Int) := p39_x0
  exact sf_ret ⟨Iu38, Fu38, O83_u38, O0_u38, ti_lo _, ti_hi _⟩
set_option maxHeartbeats 4000000 in
set_option maxRecDepth 100000 in
theorem sl_X3_hoursUntilOwned_33 {F : Nat} (hF : 100000 ≤ F) {x1 : Int32} {x2 : Int32} {x3 : Int32} {x5 : Int32} {k25 : Int32 → Int32 → Mem → Option (Int32 × Mem)} {τ : Mem} (x1_1 : 0 ≤ x1.toInt) (x1_2 : x1.toInt ≤ 4) (x2_1 : 0 ≤ x2.toInt) (x2_2 : x2.toInt ≤ 7) (x3_1 : 1 ≤ x3.toInt) (x3_2 : x3.toInt ≤ 999) (x5_1 : 1 ≤ x5.toInt) (x5_2 : x5.toInt ≤ 10) {N25 : Nat} (hM25 : x5.toInt < (N25 + 1)) (hk25 : ∀ (x4 : Int32) (x5 : Int32) (σ : Mem), wiX σ → (∀ k, 101 ≤ k → σ k = τ k) → σ 83 1 = τ 83 1 → σ 0 7 = τ 0 7 → x5.toInt < N25 → 0 ≤ x5.toInt → x5.toInt ≤ 10 → sf (k25 x4 x5 σ) (fun r s => wiX s ∧ (∀ k, 101 ≤ k → s k = τ k) ∧ s 83 1 = τ 83 1 ∧ s 0 7 = τ 0 7 ∧ -2147483648 ≤ r.toInt ∧ r.toInt ≤ 2147483647)) : ∀ (N : Nat) (x4 : Int32) (x6 : Int32) (σ : Mem), wiX σ → (∀ k, 101 ≤ k → σ k = τ k) → σ 83 1 = τ 83 1 → σ 0 7 = τ 0 7 → 24 < x6.toInt + N → 0 ≤ x6.toInt → x6.toInt ≤ 24 → sf (lp_X3_hoursUntilOwned_33 F k25 x1 x2 x3 x5 N x4 x6 σ) (fun r s => wiX s ∧ (∀ k, 101 ≤ k → s k = τ k) ∧ s 83 1 = τ 83 1 ∧ s 0 7 = τ 0 7 ∧ -2147483648 ≤ r.toInt ∧ r.toInt ≤ 2147483647) := by
  intro N
  induction N with
  | zero => intro x4 x6 σ hI Fσ O83_σ O0_σ hN x6_1 x6_2; exfalso; omega
  | succ N ih =>
    intro x4 x6 σ hI Fσ O83_σ O0_σ hN x6_1 x6_2
    rw [lp_X3_hoursUntilOwned_33_s]
    refine sf_ite (fun c1 => ?_) (fun c1 => ?_)
    · have C1 : (24 : Int) ≤ x6.toInt := ti_le c1
      have b2 := ti_lo x4
      have b3 := ti_hi x4
      have t4 : (x5 + (-1 : Int32)).toInt = x5.toInt + (-1 : Int) := ti_add (show -2147483648 ≤ x5.toInt + (-1 : Int) by omega) (show x5.toInt + (-1 : Int) ≤ 2147483647 by omega)
      exact hk25 _ _ _ hI Fσ O83_σ O0_σ (by omega) (by omega) (by omega)
    have C1 : x6.toInt < (24 : Int) := ti_nle c1
    refine sf_chk (ti_in (by omega) (by omega)) ?_
    have v5 : Int32.toNatClampNeg x1 = x1.toInt.toNat := rfl
    refine sf_chk (ti_in (by omega) (by omega)) ?_
    have v6 : Int32.toNatClampNeg x6 = x6.toInt.toNat := rfl
    have b7 := ti_lo (σ ((1 + 5) + (Int32.toNatClampNeg x1)) (Int32.toNatClampNeg x6))
    have b8 := ti_hi (σ ((1 + 5) + (Int32.toNatClampNeg x1)) (Int32.toNatClampNeg x6))
    refine sf_ite (fun c9 => ?_) (fun c9 => ?_)
    · have C9 : (σ ((1 + 5) + (Int32.toNatClampNeg x1)) (Int32.toNatClampNeg x6)).toInt = (9 : Int) := ti_eq c9
      refine sf_bnd (s_X0_pull hF wt_h1 hI (by omega) (by omega) (by omega) (by omega)) (fun r10 u11 p12 => ?_)
      obtain ⟨e9, p12_1, p12_2⟩ := p12
      have e9 := e9.symm
      subst e9
      have b13 := ti_lo r10
      have b14 := ti_hi r10
      refine sf_ite (fun c15 => ?_) (fun c15 => ?_)
      · have C15 : r10.toInt = x5.toInt := ti_eq c15
        refine sf_chk (ti_in (by omega) (by omega)) ?_
        have v16 : Int32.toNatClampNeg x2 = x2.toInt.toNat := rfl
        refine sf_lt (fun s17 hs17 => ?_)
        have Is17 : wiX s17 := by rw [hs17]; exact wx_oth hI (fun q hq e => by have := wt_Hcs hq; omega) (fun e => by omega) (fun e => by omega) (fun e => by omega)
        have Fs17 : ∀ k, 101 ≤ k → s17 k = τ k := fun k hk => (show s17 k = σ k by rw [hs17, up2_k (by omega)]).trans (Fσ k hk)
        have O83_s17 : s17 83 1 = τ 83 1 := (show s17 83 1 = σ 83 1 by rw [hs17, up2_k (by omega)]).trans O83_σ
        have O0_s17 : s17 0 7 = τ 0 7 := (show s17 0 7 = σ 0 7 by rw [hs17, up2_k (by omega)]).trans O0_σ
        refine sf_bnd (s_X0_holder hF wt_h24 Is17 (by omega) (by omega) (by omega) (by omega)) (fun r18 u19 p20 => ?_)
        obtain ⟨e9, p20_1, p20_2⟩ := p20
        have e9 := e9.symm
        subst e9
        refine sf_ite (fun c21 => ?_) (fun c21 => ?_)
        · have C21 : r18.toInt = x1.toInt := ti_eq c21
          have b22 := ti_lo x4
          have b23 := ti_hi x4
          have b24 := ti_lo (x4 + (1 : Int32))
          have b25 := ti_hi (x4 + (1 : Int32))
          exact sf_ret ⟨Is17, Fs17, O83_s17, O0_s17, ti_lo _, ti_hi _⟩
        have C21 : ¬ r18.toInt = x1.toInt := ti_ne c21
        rw [j_X3_hoursUntilOwned_107_e]
        have b26 := ti_lo x4
        have b27 := ti_hi x4
        have b28 := ti_lo (x4 + (1 : Int32))
        have b29 := ti_hi (x4 + (1 : Int32))
        have t30 : (x6 + (1 : Int32)).toInt = x6.toInt + (1 : Int) := ti_add (show -2147483648 ≤ x6.toInt + (1 : Int) by omega) (show x6.toInt + (1 : Int) ≤ 2147483647 by omega)
        exact ih _ _ _ Is17 Fs17 O83_s17 O0_s17 (by omega) (by omega) (by omega)
      have C15 : ¬ r10.toInt = x5.toInt := ti_ne c15
      rw [j_X3_hoursUntilOwned_107_e]
      have b31 := ti_lo x4
      have b32 := ti_hi x4
      have t33 : (x6 + (1 : Int32)).toInt = x6.toInt + (1 : Int) := ti_add (show -2147483648 ≤ x6.toInt + (1 : Int) by omega) (show x6.toInt + (1 : Int) ≤ 2147483647 by omega)
      exact ih _ _ _ hI Fσ O83_σ O0_σ (by omega) (by omega) (by omega)
    have C9 : ¬ (σ ((1 + 5) + (Int32.toNatClampNeg x1)) (Int32.toNatClampNeg x6)).toInt = (9 : Int) := ti_ne c9
    rw [j_X3_hoursUntilOwned_107_e]
    have b34 := ti_lo x4
    have b35 := ti_hi x4
    have t36 : (x6 + (1 : Int32)).toInt = x6.toInt + (1 : Int) := ti_add (show -2147483648 ≤ x6.toInt + (1 : Int) by omega) (show x6.toInt + (1 : Int) ≤ 2147483647 by omega)
    exact ih _ _ _ hI Fσ O83_σ O0_σ (by omega) (by omega) (by omega)
set_option maxHeartbeats 4000000 in
set_option maxRecDepth 100000 in
theorem sl_X3_hoursUntilOwned_25 {F : Nat} (hF : 100000 ≤ F) {x1 : Int32} {x2 : Int32} {x3 : Int32} {τ : Mem} (x1_1 : 0 ≤ x1.toInt) (x1_2 : x1.toInt ≤ 4) (x2_1 : 0 ≤ x2.toInt) (x2_2 : x2.toInt ≤ 7) (x3_1 : 1 ≤ x3.toInt) (x3_2 : x3.toInt ≤ 999) : ∀ (N : Nat) (x4 : Int32) (x5 : Int32) (σ : Mem), wiX σ → (∀ k, 101 ≤ k → σ k = τ k) → σ 83 1 = τ 83 1 → σ 0 7 = τ 0 7 → x5.toInt < N → 0 ≤ x5.toInt → x5.toInt ≤ 10 → sf (lp_X3_hoursUntilOwned_25 F x1 x2 x3 N x4 x5 σ) (fun r s => wiX s ∧ (∀ k, 101 ≤ k → s k = τ k) ∧ s 83 1 = τ 83 1 ∧ s 0 7 = τ 0 7 ∧ -2147483648 ≤ r.toInt ∧ r.toInt ≤ 2147483647) := by
  intro N
  induction N with
  | zero => intro x4 x5 σ hI Fσ O83_σ O0_σ hN x5_1 x5_2; exfalso; omega
  | succ N ih =>
    intro x4 x5 σ hI Fσ O83_σ O0_σ hN x5_1 x5_2
    rw [lp_X3_hoursUntilOwned_25_s]
    refine sf_ite (fun c1 => ?_) (fun c1 => ?_)
    · have C1 : x5.toInt ≤ (0 : Int) := ti_le c1
      exact sf_ret ⟨hI, Fσ, O83_σ, O0_σ, ti_lo _, ti_hi _⟩
    have C1 : (0 : Int) < x5.toInt := ti_nle c1
    have b2 := ti_lo x4
    have b3 := ti_hi x4
    have l_0 : (0 : Int32).toInt = 0 := rfl
    exact sl_X3_hoursUntilOwned_33 hF (by omega) (by omega) (by omega) (by omega) (by omega) (by omega) (by omega) (by omega) (by omega) ih _ _ _ _ hI Fσ O83_σ O0_σ (by omega) (by decide) (by decide)
set_option maxHeartbeats 4000000 in
set_option maxRecDepth 100000 in
theorem s_X3_hoursUntilOwned {F : Nat} (hF : 100000 ≤ F) {x1 : Int32} {x2 : Int32} {x3 : Int32} {τ : Mem} (hI : wiX τ) (x1_1 : 0 ≤ x1.toInt) (x1_2 : x1.toInt ≤ 4) (x2_1 : 0 ≤ x2.toInt) (x2_2 : x2.toInt ≤ 7) (x3_1 : 1 ≤ x3.toInt) (x3_2 : x3.toInt ≤ 999) : sf (f_X3_hoursUntilOwned F x1 x2 x3 τ) (fun r s => wiX s ∧ (∀ k, 101 ≤ k → s k = τ k) ∧ s 83 1 = τ 83 1 ∧ s 0 7 = τ 0 7 ∧ -2147483648 ≤ r.toInt ∧ r.toInt ≤ 2147483647) := by
  have Fτ : ∀ k, 101 ≤ k → τ k = τ k := fun _ _ => rfl
  have O83_τ : τ 83 1 = τ 83 1 := rfl
  have O0_τ : τ 0 7 = τ 0 7 := rfl
  rw [f_X3_hoursUntilOwned_e]
  refine sf_bnd (s_X0_takeFrom hF wt_h24 wt_h1 hI) (fun r1 u2 p3 => ?_)
  obtain ⟨Iu2, Fu2_, O83_u2_, O0_u2_, -⟩ := p3
  have Fu2 : ∀ k, 101 ≤ k → u2 k = τ k := fun k hk => (Fu2_ k hk).trans (Fτ k hk)
  have O83_u2 : u2 83 1 = τ 83 1 := O83_u2_.trans O83_τ
  have O0_u2 : u2 0 7 = τ 0 7 := O0_u2_.trans O0_τ
  refine sf_bnd (s_X0_reckon hF wt_h24 Iu2) (fun r4 u5 p6 => ?_)
  obtain ⟨Iu5, Fu5_, O83_u5_, O0_u5_, -⟩ := p6
  have Fu5 : ∀ k, 101 ≤ k → u5 k = τ k := fun k hk => (Fu5_ k hk).trans (Fu2 k hk)
  have O83_u5 : u5 83 1 = τ 83 1 := O83_u5_.trans O83_u2
  have O0_u5 : u5 0 7 = τ 0 7 := O0_u5_.trans O0_u2
  have l_10 : (10 : Int32).toInt = 10 := rfl
  exact sl_X3_hoursUntilOwned_25 hF (by omega) (by omega) (by omega) (by omega) (by omega) (by omega) _ _ _ _ Iu5 Fu5 O83_u5 O0_u5 (by omega) (by decide) (by decide)
set_option maxHeartbeats 4000000 in
set_option maxRecDepth 100000 in
theorem s_X3_moreHours {F : Nat} (hF : 100000 ≤ F) {x1 : Int32} {x2 : Int32} {x3 : Int32} {τ : Mem} (hI : wiX τ) : sf (f_X3_moreHours F x1 x2 x3 τ) (fun r s => wiX s ∧ (∀ k, 101 ≤ k → s k = τ k) ∧ s 83 1 = τ 83 1 ∧ s 0 7 = τ 0 7 ∧ -2147483648 ≤ r.toInt ∧ r.toInt ≤ 2147483647) := by
  have Fτ : ∀ k, 101 ≤ k → τ k = τ k := fun _ _ => rfl
  have O83_τ : τ 83 1 = τ 83 1 := rfl
  have O0_τ : τ 0 7 = τ 0 7 := rfl
  rw [f_X3_moreHours_e]
  have b1 := ti_lo x1
  have b2 := ti_hi x1
  refine sf_bnd (s_X3_noLooker hF hI) (fun r3 u4 p5 => ?_)
  obtain ⟨e9, p5⟩ := p5
  have e9 := e9.symm
  subst e9
  rcases p5 with ⟨rfl, q6, q7⟩ | p5
  · have b8 := ti_lo x2
    have b9 := ti_hi x2
    refine sf_bnd (s_X3_noView hF hI) (fun r10 u11 p12 => ?_)
    obtain ⟨e9, p12⟩ := p12
    have e9 := e9.symm
    subst e9
    rcases p12 with ⟨rfl, q13, q14⟩ | p12
    · refine sf_in ?_
      rw [f_X3_firstOf_e]
      refine sf_ite (fun c15 => ?_) (fun c15 => ?_)
      · have C15 : (0 : Int) = (0 : Int) := ti_eq c15
        refine sf_ret ?_
        refine sf_in ?_
        rw [f_X3_outside_e]
        have b16 := ti_lo x3
        have b17 := ti_hi x3
        refine sf_ite (fun c18 => ?_) (fun c18 => ?_)
        · have C18 : (1 : Int) ≤ x3.toInt := ti_le c18
          refine sf_ite (fun c19 => ?_) (fun c19 => ?_)
          · have C19 : x3.toInt ≤ (999 : Int) := ti_le c19
            refine sf_ret ?_
            refine sf_in ?_
            rw [f_X3_firstOf_e]
            refine sf_ite (fun c20 => ?_) (fun c20 => ?_)
            · have C20 : (0 : Int) = (0 : Int) := ti_eq c20
              refine sf_ret ?_
              refine sf_ite (fun c21 => ?_) (fun c21 => ?_)
              · have C21 : (0 : Int) = (0 : Int) := ti_eq c21
                refine sf_bnd (s_X0_reckon hF wt_h1 hI) (fun r22 u23 p24 => ?_)
                obtain ⟨Iu23, Fu23_, O83_u23_, O0_u23_, -⟩ := p24
                have Fu23 : ∀ k, 101 ≤ k → u23 k = τ k := fun k hk => (Fu23_ k hk).trans (Fτ k hk)
                have O83_u23 : u23 83 1 = τ 83 1 := O83_u23_.trans O83_τ
                have O0_u23 : u23 0 7 = τ 0 7 := O0_u23_.trans O0_τ
                refine sf_bnd (s_X0_holder hF wt_h1 Iu23 (by omega) (by omega) (by omega) (by omega)) (fun r25 u26 p27 => ?_)
                obtain ⟨e9, p27_1, p27_2⟩ := p27
                have e9 := e9.symm
                subst e9
                refine sf_ite (fun c28 => ?_) (fun c28 => ?_)
                · have C28 : r25.toInt = x1.toInt := ti_eq c28
                  exact sf_ret ⟨Iu23, Fu23, O83_u23, O0_u23, ti_lo _, ti_hi _⟩
                have C28 : ¬ r25.toInt = x1.toInt := ti_ne c28
                refine sf_bnd (s_X0_timesShown hF wt_h1 Iu23 (by omega) (by omega)) (fun r29 u30 p31 => ?_)
                obtain ⟨e9, p31_1, p31_2⟩ := p31
                have e9 := e9.symm
                subst e9
                have b32 := ti_lo r29
                have b33 := ti_hi r29
                refine sf_ite (fun c34 => ?_) (fun c34 => ?_)
                · have C34 : r29.toInt = (0 : Int) := ti_eq c34
                  rw [j_X3_moreHours_83_e]
                  exact sf_ret ⟨Iu23, Fu23, O83_u23, O0_u23, ti_lo _, ti_hi _⟩
                have C34 : ¬ r29.toInt = (0 : Int) := ti_ne c34
                refine sf_chk (ti_in (by omega) (by omega)) ?_
                have v35 : Int32.toNatClampNeg x1 = x1.toInt.toNat := rfl
                have b36 := ti_lo (u23 (1 + 2) (Int32.toNatClampNeg x1))
                have b37 := ti_hi (u23 (1 + 2) (Int32.toNatClampNeg x1))
                refine sf_ite (fun c38 => ?_) (fun c38 => ?_)
                · have C38 : (u23 (1 + 2) (Int32.toNatClampNeg x1)).toInt = (2 : Int) := ti_eq c38
                  rw [j_X3_moreHours_83_e]
                  exact sf_ret ⟨Iu23, Fu23, O83_u23, O0_u23, ti_lo _, ti_hi _⟩
                have C38 : ¬ (u23 (1 + 2) (Int32.toNatClampNeg x1)).toInt = (2 : Int) := ti_ne c38
                refine sf_bnd (s_X3_hoursUntilOwned hF Iu23 (by omega) (by omega) (by omega) (by omega) (by omega) (by omega)) (fun r39 u40 p41 => ?_)
                obtain ⟨Iu40, Fu40_, O83_u40_, O0_u40_, p41_1, p41_2⟩ := p41
                have Fu40 : ∀ k, 101 ≤ k → u40 k = τ k := fun k hk => (Fu40_ k hk).trans (Fu23 k hk)
                have O83_u40 : u40 83 1 = τ 83 1 := O83_u40_.trans O83_u23
                have O0_u40 : u40 0 7 = τ 0 7 := O0_u40_.trans O0_u23
                have b42 := ti_lo r39
                have b43 := ti_hi r39
                exact sf_ret ⟨Iu40, Fu40, O83_u40, O0_u40, ti_lo _, ti_hi _⟩
              have C21 : ¬ (0 : Int) = (0 : Int) := ti_ne c21
              exfalso; omega
            have C20 : ¬ (0 : Int) = (0 : Int) := ti_ne c20
            exfalso; omega
          have C19 : (999 : Int) < x3.toInt := ti_nle c19
          refine sf_ret ?_
          refine sf_in ?_
          rw [f_X3_firstOf_e]
          refine sf_ite (fun c44 => ?_) (fun c44 => ?_)
          · have C44 : (0 : Int) = (0 : Int) := ti_eq c44
            refine sf_ret ?_
            refine sf_ite (fun c45 => ?_) (fun c45 => ?_)
            · have C45 : (-6 : Int) = (0 : Int) := ti_eq c45
              exfalso; omega
            have C45 : ¬ (-6 : Int) = (0 : Int) := ti_ne c45
            refine sf_bnd (s_X3_refuse hF hI (by decide) (by decide)) (fun r46 u47 p48 => ?_)
            obtain ⟨Iu47, Fu47_, O83_u47_, O0_u47_, p48_1, p48_2, p48_x0⟩ := p48
            have Fu47 : ∀ k, 101 ≤ k → u47 k = τ k := fun k hk => (Fu47_ k hk).trans (Fτ k hk)
            have O83_u47 : u47 83 1 = τ 83 1 := O83_u47_.trans O83_τ
            have O0_u47 : u47 0 7 = τ 0 7 := O0_u47_.trans O0_τ
            replace p48_x0 : r46.toInt = (-6 : Int) := p48_x0
            exact sf_ret ⟨Iu47, Fu47, O83_u47, O0_u47, ti_lo _, ti_hi _⟩
          have C44 : ¬ (0 : Int) = (0 : Int) := ti_ne c44
          exfalso; omega
        have C18 : x3.toInt < (1 : Int) := ti_nle c18
        refine sf_ret ?_
        refine sf_in ?_
        rw [f_X3_firstOf_e]
        refine sf_ite (fun c49 => ?_) (fun c49 => ?_)
        · have C49 : (0 : Int) = (0 : Int) := ti_eq c49
          refine sf_ret ?_
          refine sf_ite (fun c50 => ?_) (fun c50 => ?_)
          · have C50 : (-4 : Int) = (0 : Int) := ti_eq c50
            exfalso; omega
          have C50 : ¬ (-4 : Int) = (0 : Int) := ti_ne c50
          refine sf_bnd (s_X3_refuse hF hI (by decide) (by decide)) (fun r51 u52 p53 => ?_)
          obtain ⟨Iu52, Fu52_, O83_u52_, O0_u52_, p53_1, p53_2, p53_x0⟩ := p53
          have Fu52 : ∀ k, 101 ≤ k → u52 k = τ k := fun k hk => (Fu52_ k hk).trans (Fτ k hk)
          have O83_u52 : u52 83 1 = τ 83 1 := O83_u52_.trans O83_τ
          have O0_u52 : u52 0 7 = τ 0 7 := O0_u52_.trans O0_τ
          replace p53_x0 : r51.toInt = (-4 : Int) := p53_x0
          exact sf_ret ⟨Iu52, Fu52, O83_u52, O0_u52, ti_lo _, ti_hi _⟩
        have C49 : ¬ (0 : Int) = (0 : Int) := ti_ne c49
        exfalso; omega
      have C15 : ¬ (0 : Int) = (0 : Int) := ti_ne c15
      exfalso; omega
    obtain ⟨rfl, q54⟩ := p12
    refine sf_in ?_
    rw [f_X3_firstOf_e]
    refine sf_ite (fun c55 => ?_) (fun c55 => ?_)
    · have C55 : (0 : Int) = (0 : Int) := ti_eq c55
      refine sf_ret ?_
      refine sf_in ?_
      rw [f_X3_outside_e]
      have b56 := ti_lo x3
      have b57 := ti_hi x3
      refine sf_ite (fun c58 => ?_) (fun c58 => ?_)
      · have C58 : (1 : Int) ≤ x3.toInt := ti_le c58
        refine sf_ite (fun c59 => ?_) (fun c59 => ?_)
        · have C59 : x3.toInt ≤ (999 : Int) := ti_le c59
          refine sf_ret ?_
          refine sf_in ?_
          rw [f_X3_firstOf_e]
          refine sf_ite (fun c60 => ?_) (fun c60 => ?_)
          · have C60 : (-1 : Int) = (0 : Int) := ti_eq c60
            exfalso; omega
          have C60 : ¬ (-1 : Int) = (0 : Int) := ti_ne c60
          refine sf_ret ?_
          refine sf_ite (fun c61 => ?_) (fun c61 => ?_)
          · have C61 : (-1 : Int) = (0 : Int) := ti_eq c61
            exfalso; omega
          have C61 : ¬ (-1 : Int) = (0 : Int) := ti_ne c61
          refine sf_bnd (s_X3_refuse hF hI (by decide) (by decide)) (fun r62 u63 p64 => ?_)
          obtain ⟨Iu63, Fu63_, O83_u63_, O0_u63_, p64_1, p64_2, p64_x0⟩ := p64
          have Fu63 : ∀ k, 101 ≤ k → u63 k = τ k := fun k hk => (Fu63_ k hk).trans (Fτ k hk)
          have O83_u63 : u63 83 1 = τ 83 1 := O83_u63_.trans O83_τ
          have O0_u63 : u63 0 7 = τ 0 7 := O0_u63_.trans O0_τ
          replace p64_x0 : r62.toInt = (-1 : Int) := p64_x0
          exact sf_ret ⟨Iu63, Fu63, O83_u63, O0_u63, ti_lo _, ti_hi _⟩
        have C59 : (999 : Int) < x3.toInt := ti_nle c59
        refine sf_ret ?_
        refine sf_in ?_
        rw [f_X3_firstOf_e]
        refine sf_ite (fun c65 => ?_) (fun c65 => ?_)
        · have C65 : (-1 : Int) = (0 : Int) := ti_eq c65
          exfalso; omega
        have C65 : ¬ (-1 : Int) = (0 : Int) := ti_ne c65
        refine sf_ret ?_
        refine sf_ite (fun c66 => ?_) (fun c66 => ?_)
        · have C66 : (-1 : Int) = (0 : Int) := ti_eq c66
          exfalso; omega
        have C66 : ¬ (-1 : Int) = (0 : Int) := ti_ne c66
        refine sf_bnd (s_X3_refuse hF hI (by decide) (by decide)) (fun r67 u68 p69 => ?_)
        obtain ⟨Iu68, Fu68_, O83_u68_, O0_u68_, p69_1, p69_2, p69_x0⟩ := p69
        have Fu68 : ∀ k, 101 ≤ k → u68 k = τ k := fun k hk => (Fu68_ k hk).trans (Fτ k hk)
        have O83_u68 : u68 83 1 = τ 83 1 := O83_u68_.trans O83_τ
        have O0_u68 : u68 0 7 = τ 0 7 := O0_u68_.trans O0_τ
        replace p69_x0 : r67.toInt = (-1 : Int) := p69_x0
        exact sf_ret ⟨Iu68, Fu68, O83_u68, O0_u68, ti_lo _, ti_hi _⟩
      have C58 : x3.toInt < (1 : Int) := ti_nle c58
      refine sf_ret ?_
      refine sf_in ?_
      rw [f_X3_firstOf_e]
      refine sf_ite (fun c70 => ?_) (fun c70 => ?_)
      · have C70 : (-1 : Int) = (0 : Int) := ti_eq c70
        exfalso; omega
      have C70 : ¬ (-1 : Int) = (0 : Int) := ti_ne c70
      refine sf_ret ?_
      refine sf_ite (fun c71 => ?_) (fun c71 => ?_)
      · have C71 : (-1 : Int) = (0 : Int) := ti_eq c71
        exfalso; omega
      have C71 : ¬ (-1 : Int) = (0 : Int) := ti_ne c71
      refine sf_bnd (s_X3_refuse hF hI (by decide) (by decide)) (fun r72 u73 p74 => ?_)
      obtain ⟨Iu73, Fu73_, O83_u73_, O0_u73_, p74_1, p74_2, p74_x0⟩ := p74
      have Fu73 : ∀ k, 101 ≤ k → u73 k = τ k := fun k hk => (Fu73_ k hk).trans (Fτ k hk)
      have O83_u73 : u73 83 1 = τ 83 1 := O83_u73_.trans O83_τ
      have O0_u73 : u73 0 7 = τ 0 7 := O0_u73_.trans O0_τ
      replace p74_x0 : r72.toInt = (-1 : Int) := p74_x0
      exact sf_ret ⟨Iu73, Fu73, O83_u73, O0_u73, ti_lo _, ti_hi _⟩
    have C55 : ¬ (0 : Int) = (0 : Int) := ti_ne c55
    exfalso; omega
  obtain rfl := p5
  have b75 := ti_lo x2
  have b76 := ti_hi x2
  refine sf_bnd (s_X3_noView hF hI) (fun r77 u78 p79 => ?_)
  obtain ⟨e9, p79⟩ := p79
  have e9 := e9.symm
  subst e9
  rcases p79 with ⟨rfl, q80, q81⟩ | p79
  · refine sf_in ?_
    rw [f_X3_firstOf_e]
    refine sf_ite (fun c82 => ?_) (fun c82 => ?_)
    · have C82 : (-1 : Int) = (0 : Int) := ti_eq c82
      exfalso; omega
    have C82 : ¬ (-1 : Int) = (0 : Int) := ti_ne c82
    refine sf_ret ?_
    refine sf_in ?_
    rw [f_X3_outside_e]
    have b83 := ti_lo x3
    have b84 := ti_hi x3
    refine sf_ite (fun c85 => ?_) (fun c85 => ?_)
    · have C85 : (1 : Int) ≤ x3.toInt := ti_le c85
      refine sf_ite (fun c86 => ?_) (fun c86 => ?_)
      · have C86 : x3.toInt ≤ (999 : Int) := ti_le c86
        refine sf_ret ?_
        refine sf_in ?_
        rw [f_X3_firstOf_e]
        refine sf_ite (fun c87 => ?_) (fun c87 => ?_)
        · have C87 : (-1 : Int) = (0 : Int) := ti_eq c87
          exfalso; omega
        have C87 : ¬ (-1 : Int) = (0 : Int) := ti_ne c87
        refine sf_ret ?_
        refine sf_ite (fun c88 => ?_) (fun c88 => ?_)
        · have C88 : (-1 : Int) = (0 : Int) := ti_eq c88
          exfalso; omega
        have C88 : ¬ (-1 : Int) = (0 : Int) := ti_ne c88
        refine sf_bnd (s_X3_refuse hF hI (by decide) (by decide)) (fun r89 u90 p91 => ?_)
        obtain ⟨Iu90, Fu90_, O83_u90_, O0_u90_, p91_1, p91_2, p91_x0⟩ := p91
        have Fu90 : ∀ k, 101 ≤ k → u90 k = τ k := fun k hk => (Fu90_ k hk).trans (Fτ k hk)
        have O83_u90 : u90 83 1 = τ 83 1 := O83_u90_.trans O83_τ
        have O0_u90 : u90 0 7 = τ 0 7 := O0_u90_.trans O0_τ
        replace p91_x0 : r89.toInt = (-1 : Int) := p91_x0
        exact sf_ret ⟨Iu90, Fu90, O83_u90, O0_u90, ti_lo _, ti_hi _⟩
      have C86 : (999 : Int) < x3.toInt := ti_nle c86
      refine sf_ret ?_
      refine sf_in ?_
      rw [f_X3_firstOf_e]
      refine sf_ite (fun c92 => ?_) (fun c92 => ?_)
      · have C92 : (-1 : Int) = (0 : Int) := ti_eq c92
        exfalso; omega
      have C92 : ¬ (-1 : Int) = (0 : Int) := ti_ne c92
      refine sf_ret ?_
      refine sf_ite (fun c93 => ?_) (fun c93 => ?_)
      · have C93 : (-1 : Int) = (0 : Int) := ti_eq c93
        exfalso; omega
      have C93 : ¬ (-1 : Int) = (0 : Int) := ti_ne c93
      refine sf_bnd (s_X3_refuse hF hI (by decide) (by decide)) (fun r94 u95 p96 => ?_)
      obtain ⟨Iu95, Fu95_, O83_u95_, O0_u95_, p96_1, p96_2, p96_x0⟩ := p96
      have Fu95 : ∀ k, 101 ≤ k → u95 k = τ k := fun k hk => (Fu95_ k hk).trans (Fτ k hk)
      have O83_u95 : u95 83 1 = τ 83 1 := O83_u95_.trans O83_τ
      have O0_u95 : u95 0 7 = τ 0 7 := O0_u95_.trans O0_τ
      replace p96_x0 : r94.toInt = (-1 : Int) := p96_x0
      exact sf_ret ⟨Iu95, Fu95, O83_u95, O0_u95, ti_lo _, ti_hi _⟩
    have C85 : x3.toInt < (1 : Int) := ti_nle c85
    refine sf_ret ?_
    refine sf_in ?_
    rw [f_X3_firstOf_e]
    refine sf_ite (fun c97 => ?_) (fun c97 => ?_)
    · have C97 : (-1 : Int) = (0 : Int) := ti_eq c97
      exfalso; omega
    have C97 : ¬ (-1 : Int) = (0 : Int) := ti_ne c97
    refine sf_ret ?_
    refine sf_ite (fun c98 => ?_) (fun c98 => ?_)
    · have C98 : (-1 : Int) = (0 : Int) := ti_eq c98
      exfalso; omega
    have C98 : ¬ (-1 : Int) = (0 : Int) := ti_ne c98
    refine sf_bnd (s_X3_refuse hF hI (by decide) (by decide)) (fun r99 u100 p101 => ?_)
    obtain ⟨Iu100, Fu100_, O83_u100_, O0_u100_, p101_1, p101_2, p101_x0⟩ := p101
    have Fu100 : ∀ k, 101 ≤ k → u100 k = τ k := fun k hk => (Fu100_ k hk).trans (Fτ k hk)
    have O83_u100 : u100 83 1 = τ 83 1 := O83_u100_.trans O83_τ
    have O0_u100 : u100 0 7 = τ 0 7 := O0_u100_.trans O0_τ
    replace p101_x0 : r99.toInt = (-1 : Int) := p101_x0
    exact sf_ret ⟨Iu100, Fu100, O83_u100, O0_u100, ti_lo _, ti_hi _⟩
  obtain ⟨rfl, q102⟩ := p79
  refine sf_in ?_
  rw [f_X3_firstOf_e]
  refine sf_ite (fun c103 => ?_) (fun c103 => ?_)
  · have C103 : (-1 : Int) = (0 : Int) := ti_eq c103
    exfalso; omega
  have C103 : ¬ (-1 : Int) = (0 : Int) := ti_ne c103
  refine sf_ret ?_
  refine sf_in ?_
  rw [f_X3_outside_e]
  have b104 := ti_lo x3
  have b105 := ti_hi x3
  refine sf_ite (fun c106 => ?_) (fun c106 => ?_)
  · have C106 : (1 : Int) ≤ x3.toInt := ti_le c106
    refine sf_ite (fun c107 => ?_) (fun c107 => ?_)
    · have C107 : x3.toInt ≤ (999 : Int) := ti_le c107
      refine sf_ret ?_
      refine sf_in ?_
      rw [f_X3_firstOf_e]
      refine sf_ite (fun c108 => ?_) (fun c108 => ?_)
      · have C108 : (-1 : Int) = (0 : Int) := ti_eq c108
        exfalso; omega
      have C108 : ¬ (-1 : Int) = (0 : Int) := ti_ne c108
      refine sf_ret ?_
      refine sf_ite (fun c109 => ?_) (fun c109 => ?_)
      · have C109 : (-1 : Int) = (0 : Int) := ti_eq c109
        exfalso; omega
      have C109 : ¬ (-1 : Int) = (0 : Int) := ti_ne c109
      refine sf_bnd (s_X3_refuse hF hI (by decide) (by decide)) (fun r110 u111 p112 => ?_)
      obtain ⟨Iu111, Fu111_, O83_u111_, O0_u111_, p112_1, p112_2, p112_x0⟩ := p112
      have Fu111 : ∀ k, 101 ≤ k → u111 k = τ k := fun k hk => (Fu111_ k hk).trans (Fτ k hk)
      have O83_u111 : u111 83 1 = τ 83 1 := O83_u111_.trans O83_τ
      have O0_u111 : u111 0 7 = τ 0 7 := O0_u111_.trans O0_τ
      replace p112_x0 : r110.toInt = (-1 : Int) := p112_x0
      exact sf_ret ⟨Iu111, Fu111, O83_u111, O0_u111, ti_lo _, ti_hi _⟩
    have C107 : (999 : Int) < x3.toInt := ti_nle c107
    refine sf_ret ?_
    refine sf_in ?_
    rw [f_X3_firstOf_e]
    refine sf_ite (fun c113 => ?_) (fun c113 => ?_)
    · have C113 : (-1 : Int) = (0 : Int) := ti_eq c113
      exfalso; omega
    have C113 : ¬ (-1 : Int) = (0 : Int) := ti_ne c113
    refine sf_ret ?_
    refine sf_ite (fun c114 => ?_) (fun c114 => ?_)
    · have C114 : (-1 : Int) = (0 : Int) := ti_eq c114
      exfalso; omega
    have C114 : ¬ (-1 : Int) = (0 : Int) := ti_ne c114
    refine sf_bnd (s_X3_refuse hF hI (by decide) (by decide)) (fun r115 u116 p117 => ?_)
    obtain ⟨Iu116, Fu116_, O83_u116_, O0_u116_, p117_1, p117_2, p117_x0⟩ := p117
    have Fu116 : ∀ k, 101 ≤ k → u116 k = τ k := fun k hk => (Fu116_ k hk).trans (Fτ k hk)
    have O83_u116 : u116 83 1 = τ 83 1 := O83_u116_.trans O83_τ
    have O0_u116 : u116 0 7 = τ 0 7 := O0_u116_.trans O0_τ
    replace p117_x0 : r115.toInt = (-1 : Int) := p117_x0
    exact sf_ret ⟨Iu116, Fu116, O83_u116, O0_u116, ti_lo _, ti_hi _⟩
  have C106 : x3.toInt < (1 : Int) := ti_nle c106
  refine sf_ret ?_
  refine sf_in ?_
  rw [f_X3_firstOf_e]
  refine sf_ite (fun c118 => ?_) (fun c118 => ?_)
  · have C118 : (-1 : Int) = (0 : Int) := ti_eq c118
    exfalso; omega
  have C118 : ¬ (-1 : Int) = (0 : Int) := ti_ne c118
  refine sf_ret ?_
  refine sf_ite (fun c119 => ?_) (fun c119 => ?_)
  · have C119 : (-1 : Int) = (0 : Int) := ti_eq c119
    exfalso; omega
  have C119 : ¬ (-1 : Int) = (0 : Int) := ti_ne c119
  refine sf_bnd (s_X3_refuse hF hI (by decide) (by decide)) (fun r120 u121 p122 => ?_)
  obtain ⟨Iu121, Fu121_, O83_u121_, O0_u121_, p122_1, p122_2, p122_x0⟩ := p122
  have Fu121 : ∀ k, 101 ≤ k → u121 k = τ k := fun k hk => (Fu121_ k hk).trans (Fτ k hk)
  have O83_u121 : u121 83 1 = τ 83 1 := O83_u121_.trans O83_τ
  have O0_u121 : u121 0 7 = τ 0 7 := O0_u121_.trans O0_τ
  replace p122_x0 : r120.toInt = (-1 : Int) := p122_x0
  exact sf_ret ⟨Iu121, Fu121, O83_u121, O0_u121, ti_lo _, ti_hi _⟩
