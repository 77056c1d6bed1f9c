set_option maxHeartbeats 4000000 in
set_option maxRecDepth 100000 in
theorem s_X4_counts {F : Nat} (hF : 73786976294838206464 ≤ F) {x1 : Int32} {x2 : Int32} {x3 : Int32} {τ : Mem} (hI : wiM τ) : sf (f_X4_counts F x1 x2 x3 τ) (fun r s => wiM s ∧ (∀ k, k < 101 → s k = τ k) ∧ s 101 15 = τ 101 15 ∧ s 101 34 = τ 101 34 ∧ s 101 1 = τ 101 1 ∧ s 101 30 = τ 101 30 ∧ s 101 18 = τ 101 18 ∧ -2147483648 ≤ r.toInt ∧ r.toInt ≤ 2147483647) := by
  have Fτ : ∀ k, k < 101 → τ k = τ k := fun _ _ => rfl
  have Of15_τ : τ 101 15 = τ 101 15 := rfl
  have Of34_τ : τ 101 34 = τ 101 34 := rfl
  have Of1_τ : τ 101 1 = τ 101 1 := rfl
  have Of30_τ : τ 101 30 = τ 101 30 := rfl
  have Of18_τ : τ 101 18 = τ 101 18 := rfl
  rw [f_X4_counts_e]
  refine sf_lt (fun s1 hs1 => ?_)
  have Is1 : wiM s1 := by rw [hs1]; exact wm_fld hI (by decide) (by decide) (by decide) (by decide) (by decide) (by decide) (by decide)
  have Fs1 : ∀ k, k < 101 → s1 k = τ k := fun k hk => (show s1 k = τ k by rw [hs1, up2_k (by omega)]).trans (Fτ k hk)
  have Of15_s1 : s1 101 15 = τ 101 15 := (show s1 101 15 = τ 101 15 by rw [hs1, up2_i (by decide)]).trans Of15_τ
  have Of34_s1 : s1 101 34 = τ 101 34 := (show s1 101 34 = τ 101 34 by rw [hs1, up2_i (by decide)]).trans Of34_τ
  have Of1_s1 : s1 101 1 = τ 101 1 := (show s1 101 1 = τ 101 1 by rw [hs1, up2_i (by decide)]).trans Of1_τ
  have Of30_s1 : s1 101 30 = τ 101 30 := (show s1 101 30 = τ 101 30 by rw [hs1, up2_i (by decide)]).trans Of30_τ
  have Of18_s1 : s1 101 18 = τ 101 18 := (show s1 101 18 = τ 101 18 by rw [hs1, up2_i (by decide)]).trans Of18_τ
  have b2 := ti_lo x1
  have b3 := ti_hi x1
  refine sf_bnd (s_X4_isLooker hF Is1) (fun r4 u5 p6 => ?_)
  obtain ⟨e9, p6⟩ := p6
  have e9 := e9.symm
  subst e9
  rcases p6 with ⟨rfl, q7, q8⟩ | p6
  · refine sf_ite (fun c9 => ?_) (fun c9 => ?_)
    · have C9 : (1 : Int) = (0 : Int) := ti_eq c9
      exfalso; omega
    have C9 : ¬ (1 : Int) = (0 : Int) := ti_ne c9
    have b10 := ti_lo x2
    have b11 := ti_hi x2
    refine sf_bnd (s_X4_isView hF Is1) (fun r12 u13 p14 => ?_)
    obtain ⟨e9, p14⟩ := p14
    have e9 := e9.symm
    subst e9
    rcases p14 with ⟨rfl, q15, q16⟩ | p14
    · refine sf_ite (fun c17 => ?_) (fun c17 => ?_)
      · have C17 : (1 : Int) = (0 : Int) := ti_eq c17
        exfalso; omega
      have C17 : ¬ (1 : Int) = (0 : Int) := ti_ne c17
      refine sf_in ?_
      rw [f_X4_wrongBit_e]
      refine sf_ite (fun c18 => ?_) (fun c18 => ?_)
      · have C18 : (0 : Int) = (0 : Int) := ti_eq c18
        refine sf_in ?_
        rw [f_X4_in_e]
        have b19 := ti_lo x3
        have b20 := ti_hi x3
        have b21 := ti_lo (lg_cmp (Int32.toInt64 x3) (0 : Int64))
        have b22 := ti_hi (lg_cmp (Int32.toInt64 x3) (0 : Int64))
        refine sf_ite (fun c23 => ?_) (fun c23 => ?_)
        · have C23 : (lg_cmp (Int32.toInt64 x3) (0 : Int64)).toInt < (0 : Int) := ti_lt c23
          have L23 : x3.toInt < (0 : Int) := by have q := lg_ltl c23; (repeat (rw [Int32.toInt_toInt64] at q)); exact q
          rw [j_X4_in_17_e]
          refine sf_ret ?_
          refine sf_ite (fun c24 => ?_) (fun c24 => ?_)
          · have C24 : (0 : Int) = (0 : Int) := ti_eq c24
            refine sf_ret ?_
            rw [j_X4_counts_30_e]
            refine sf_ite (fun c25 => ?_) (fun c25 => ?_)
            · have C25 : (0 : Int) ≤ (-2 : Int) := ti_le c25
              exfalso; omega
            have C25 : (-2 : Int) < (0 : Int) := ti_nle c25
            refine sf_bnd (s_X4_refuse hF Is1 (by decide) (by decide)) (fun r26 u27 p28 => ?_)
            obtain ⟨Iu27, Fu27_, Of15_u27_, Of34_u27_, Of1_u27_, Of30_u27_, Of18_u27_, p28_1, p28_2, p28_x0⟩ := p28
            have Fu27 : ∀ k, k < 101 → u27 k = τ k := fun k hk => (Fu27_ k hk).trans (Fs1 k hk)
            have Of15_u27 : u27 101 15 = τ 101 15 := Of15_u27_.trans Of15_s1
            have Of34_u27 : u27 101 34 = τ 101 34 := Of34_u27_.trans Of34_s1
            have Of1_u27 : u27 101 1 = τ 101 1 := Of1_u27_.trans Of1_s1
            have Of30_u27 : u27 101 30 = τ 101 30 := Of30_u27_.trans Of30_s1
            have Of18_u27 : u27 101 18 = τ 101 18 := Of18_u27_.trans Of18_s1
            replace p28_x0 : r26.toInt = (-2 : Int) := p28_x0
            exact sf_ret ⟨Iu27, Fu27, Of15_u27, Of34_u27, Of1_u27, Of30_u27, Of18_u27, ti_lo _, ti_hi _⟩
          have C24 : ¬ (0 : Int) = (0 : Int) := ti_ne c24
          exfalso; omega
        have C23 : (0 : Int) ≤ (lg_cmp (Int32.toInt64 x3) (0 : Int64)).toInt := ti_nlt c23
        have L23 : (0 : Int) ≤ x3.toInt := by have q := lg_ltln c23; (repeat (rw [Int32.toInt_toInt64] at q)); exact q
        have b29 := ti_lo (lg_cmp (Int32.toInt64 x3) (Int32.toInt64 (1 : Int32)))
        have b30 := ti_hi (lg_cmp (Int32.toInt64 x3) (Int32.toInt64 (1 : Int32)))
        refine sf_ite (fun c31 => ?_) (fun c31 => ?_)
        · have C31 : (0 : Int) < (lg_cmp (Int32.toInt64 x3) (Int32.toInt64 (1 : Int32))).toInt := ti_lt c31
          have L31 : (1 : Int) < x3.toInt := by have q := lg_ltr c31; (repeat (rw [Int32.toInt_toInt64] at q)); exact q
          rw [j_X4_in_17_e]
          refine sf_ret ?_
          refine sf_ite (fun c32 => ?_) (fun c32 => ?_)
          · have C32 : (0 : Int) = (0 : Int) := ti_eq c32
            refine sf_ret ?_
            rw [j_X4_counts_30_e]
            refine sf_ite (fun c33 => ?_) (fun c33 => ?_)
            · have C33 : (0 : Int) ≤ (-2 : Int) := ti_le c33
              exfalso; omega
            have C33 : (-2 : Int) < (0 : Int) := ti_nle c33
            refine sf_bnd (s_X4_refuse hF Is1 (by decide) (by decide)) (fun r34 u35 p36 => ?_)
            obtain ⟨Iu35, Fu35_, Of15_u35_, Of34_u35_, Of1_u35_, Of30_u35_, Of18_u35_, p36_1, p36_2, p36_x0⟩ := p36
            have Fu35 : ∀ k, k < 101 → u35 k = τ k := fun k hk => (Fu35_ k hk).trans (Fs1 k hk)
            have Of15_u35 : u35 101 15 = τ 101 15 := Of15_u35_.trans Of15_s1
            have Of34_u35 : u35 101 34 = τ 101 34 := Of34_u35_.trans Of34_s1
            have Of1_u35 : u35 101 1 = τ 101 1 := Of1_u35_.trans Of1_s1
            have Of30_u35 : u35 101 30 = τ 101 30 := Of30_u35_.trans Of30_s1
            have Of18_u35 : u35 101 18 = τ 101 18 := Of18_u35_.trans Of18_s1
            replace p36_x0 : r34.toInt = (-2 : Int) := p36_x0
            exact sf_ret ⟨Iu35, Fu35, Of15_u35, Of34_u35, Of1_u35, Of30_u35, Of18_u35, ti_lo _, ti_hi _⟩
          have C32 : ¬ (0 : Int) = (0 : Int) := ti_ne c32
          exfalso; omega
        have C31 : (lg_cmp (Int32.toInt64 x3) (Int32.toInt64 (1 : Int32))).toInt ≤ (0 : Int) := ti_nlt c31
        have L31 : x3.toInt ≤ (1 : Int) := by have q := lg_ltrn c31; (repeat (rw [Int32.toInt_toInt64] at q)); exact q
        refine sf_ret ?_
        refine sf_ite (fun c37 => ?_) (fun c37 => ?_)
        · have C37 : (1 : Int) = (0 : Int) := ti_eq c37
          exfalso; omega
        have C37 : ¬ (1 : Int) = (0 : Int) := ti_ne c37
        rw [j_X4_wrongBit_20_e]
        refine sf_ret ?_
        rw [j_X4_counts_30_e]
        refine sf_ite (fun c38 => ?_) (fun c38 => ?_)
        · have C38 : (0 : Int) ≤ (0 : Int) := ti_le c38
          refine sf_ite (fun c39 => ?_) (fun c39 => ?_)
          · have C39 : x3.toInt = (0 : Int) := ti_eq c39
            have t40 : ((8 : Int32) * x1).toInt = (8 : Int) * x1.toInt := ti_mul (show -2147483648 ≤ (8 : Int) * x1.toInt by omega) (show (8 : Int) * x1.toInt ≤ 2147483647 by omega)
            have t41 : (((8 : Int32) * x1) + x2).toInt = ((8 : Int32) * x1).toInt + x2.toInt := ti_add (show -2147483648 ≤ ((8 : Int32) * x1).toInt + x2.toInt by omega) (show ((8 : Int32) * x1).toInt + x2.toInt ≤ 2147483647 by omega)
            refine sf_chk (ti_in (by omega) (by omega)) ?_
            have v42 : Int32.toNatClampNeg (((8 : Int32) * x1) + x2) = (((8 : Int32) * x1) + x2).toInt.toNat := rfl
            have b43 := ti_lo (s1 107 (Int32.toNatClampNeg (((8 : Int32) * x1) + x2)))
            have b44 := ti_hi (s1 107 (Int32.toNatClampNeg (((8 : Int32) * x1) + x2)))
            exact sf_ret ⟨Is1, Fs1, Of15_s1, Of34_s1, Of1_s1, Of30_s1, Of18_s1, ti_lo _, ti_hi _⟩
          have C39 : ¬ x3.toInt = (0 : Int) := ti_ne c39
          refine sf_bnd (s_X4_bringsOf hF Is1 (by omega) (by omega) (by omega) (by omega)) (fun r45 u46 p47 => ?_)
          obtain ⟨e9, p47_1, p47_2⟩ := p47
          have e9 := e9.symm
          subst e9
          have b48 := ti_lo r45
          have b49 := ti_hi r45
          exact sf_ret ⟨Is1, Fs1, Of15_s1, Of34_s1, Of1_s1, Of30_s1, Of18_s1, ti_lo _, ti_hi _⟩
        have C38 : (0 : Int) < (0 : Int) := ti_nle c38
        exfalso; omega
      have C18 : ¬ (0 : Int) = (0 : Int) := ti_ne c18
      exfalso; omega
    obtain ⟨rfl, q50⟩ := p14
    refine sf_ite (fun c51 => ?_) (fun c51 => ?_)
    · have C51 : (0 : Int) = (0 : Int) := ti_eq c51
      rw [j_X4_counts_29_e]
      rw [j_X4_counts_30_e]
      refine sf_ite (fun c52 => ?_) (fun c52 => ?_)
      · have C52 : (0 : Int) ≤ (-1 : Int) := ti_le c52
        exfalso; omega
      have C52 : (-1 : Int) < (0 : Int) := ti_nle c52
      refine sf_bnd (s_X4_refuse hF Is1 (by decide) (by decide)) (fun r53 u54 p55 => ?_)
      obtain ⟨Iu54, Fu54_, Of15_u54_, Of34_u54_, Of1_u54_, Of30_u54_, Of18_u54_, p55_1, p55_2, p55_x0⟩ := p55
      have Fu54 : ∀ k, k < 101 → u54 k = τ k := fun k hk => (Fu54_ k hk).trans (Fs1 k hk)
      have Of15_u54 : u54 101 15 = τ 101 15 := Of15_u54_.trans Of15_s1
      have Of34_u54 : u54 101 34 = τ 101 34 := Of34_u54_.trans Of34_s1
      have Of1_u54 : u54 101 1 = τ 101 1 := Of1_u54_.trans Of1_s1
      have Of30_u54 : u54 101 30 = τ 101 30 := Of30_u54_.trans Of30_s1
      have Of18_u54 : u54 101 18 = τ 101 18 := Of18_u54_.trans Of18_s1
      replace p55_x0 : r53.toInt = (-1 : Int) := p55_x0
      exact sf_ret ⟨Iu54, Fu54, Of15_u54, Of34_u54, Of1_u54, Of30_u54, Of18_u54, ti_lo _, ti_hi _⟩
    have C51 : ¬ (0 : Int) = (0 : Int) := ti_ne c51
    exfalso; omega
  obtain rfl := p6
  refine sf_ite (fun c56 => ?_) (fun c56 => ?_)
  · have C56 : (0 : Int) = (0 : Int) := ti_eq c56
    rw [j_X4_counts_29_e]
    rw [j_X4_counts_30_e]
    refine sf_ite (fun c57 => ?_) (fun c57 => ?_)
    · have C57 : (0 : Int) ≤ (-1 : Int) := ti_le c57
      exfalso; omega
    have C57 : (-1 : Int) < (0 : Int) := ti_nle c57
    refine sf_bnd (s_X4_refuse hF Is1 (by decide) (by decide)) (fun r58 u59 p60 => ?_)
    obtain ⟨Iu59, Fu59_, Of15_u59_, Of34_u59_, Of1_u59_, Of30_u59_, Of18_u59_, p60_1, p60_2, p60_x0⟩ := p60
    have Fu59 : ∀ k, k < 101 → u59 k = τ k := fun k hk => (Fu59_ k hk).trans (Fs1 k hk)
    have Of15_u59 : u59 101 15 = τ 101 15 := Of15_u59_.trans Of15_s1
    have Of34_u59 : u59 101 34 = τ 101 34 := Of34_u59_.trans Of34_s1
    have Of1_u59 : u59 101 1 = τ 101 1 := Of1_u59_.trans Of1_s1
    have Of30_u59 : u59 101 30 = τ 101 30 := Of30_u59_.trans Of30_s1
    have Of18_u59 : u59 101 18 = τ 101 18 := Of18_u59_.trans Of18_s1
    replace p60_x0 : r58.toInt = (-1 : Int) := p60_x0
    exact sf_ret ⟨Iu59, Fu59, Of15_u59, Of34_u59, Of1_u59, Of30_u59, Of18_u59, ti_lo _, ti_hi _⟩
  have C56 : ¬ (0 : Int) = (0 : Int) := ti_ne c56
  exfalso; omega
set_option maxHeartbeats 4000000 in
set_option maxRecDepth 100000 in
theorem s_X4_owner {F : Nat} (hF : 73786976294838206464 ≤ F) {x1 : Int32} {x2 : Int32} {τ : Mem} (hI : wiM τ) : sf (f_X4_owner F x1 x2 τ) (fun r s => wiM s ∧ (∀ k, k < 101 → s k = τ k) ∧ s 101 15 = τ 101 15 ∧ s 101 34 = τ 101 34 ∧ s 101 1 = τ 101 1 ∧ s 101 30 = τ 101 30 ∧ s 101 18 = τ 101 18 ∧ -2147483648 ≤ r.toInt ∧ r.toInt ≤ 2147483647) := by
  have Fτ : ∀ k, k < 101 → τ k = τ k := fun _ _ => rfl
  have Of15_τ : τ 101 15 = τ 101 15 := rfl
  have Of34_τ : τ 101 34 = τ 101 34 := rfl
  have Of1_τ : τ 101 1 = τ 101 1 := rfl
  have Of30_τ : τ 101 30 = τ 101 30 := rfl
  have Of18_τ : τ 101 18 = τ 101 18 := rfl
  rw [f_X4_owner_e]
  refine sf_lt (fun s1 hs1 => ?_)
  have Is1 : wiM s1 := by rw [hs1]; exact wm_fld hI (by decide) (by decide) (by decide) (by decide) (by decide) (by decide) (by decide)
  have Fs1 : ∀ k, k < 101 → s1 k = τ k := fun k hk => (show s1 k = τ k by rw [hs1, up2_k (by omega)]).trans (Fτ k hk)
  have Of15_s1 : s1 101 15 = τ 101 15 := (show s1 101 15 = τ 101 15 by rw [hs1, up2_i (by decide)]).trans Of15_τ
  have Of34_s1 : s1 101 34 = τ 101 34 := (show s1 101 34 = τ 101 34 by rw [hs1, up2_i (by decide)]).trans Of34_τ
  have Of1_s1 : s1 101 1 = τ 101 1 := (show s1 101 1 = τ 101 1 by rw [hs1, up2_i (by decide)]).trans Of1_τ
  have Of30_s1 : s1 101 30 = τ 101 30 := (show s1 101 30 = τ 101 30 by rw [hs1, up2_i (by decide)]).trans Of30_τ
  have Of18_s1 : s1 101 18 = τ 101 18 := (show s1 101 18 = τ 101 18 by rw [hs1, up2_i (by decide)]).trans Of18_τ
  have b2 := ti_lo x1
  have b3 := ti_hi x1
  refine sf_bnd (s_X4_isView hF Is1) (fun r4 u5 p6 => ?_)
  obtain ⟨e9, p6⟩ := p6
  have e9 := e9.symm
  subst e9
  rcases p6 with ⟨rfl, q7, q8⟩ | p6
  · refine sf_ite (fun c9 => ?_) (fun c9 => ?_)
    · have C9 : (1 : Int) = (0 : Int) := ti_eq c9
      exfalso; omega
    have C9 : ¬ (1 : Int) = (0 : Int) := ti_ne c9
    refine sf_in ?_
    rw [f_X4_wrongNumber_e]
    have b10 := ti_lo x2
    have b11 := ti_hi x2
    refine sf_ite (fun c12 => ?_) (fun c12 => ?_)
    · have C12 : (0 : Int) ≤ x2.toInt := ti_le c12
      refine sf_ite (fun c13 => ?_) (fun c13 => ?_)
      · have C13 : x2.toInt ≤ (999 : Int) := ti_le c13
        refine sf_ret ?_
        rw [j_X4_owner_24_e]
        refine sf_ite (fun c14 => ?_) (fun c14 => ?_)
        · have C14 : (0 : Int) ≤ (0 : Int) := ti_le c14
          refine sf_bnd (s_X4_layBrings hF Is1) (fun r15 u16 p17 => ?_)
          obtain ⟨Iu16, Fu16_, Of15_u16_, Of34_u16_, Of1_u16_, Of30_u16_, Of18_u16_, -⟩ := p17
          have Fu16 : ∀ k, k < 101 → u16 k = τ k := fun k hk => (Fu16_ k hk).trans (Fs1 k hk)
          have Of15_u16 : u16 101 15 = τ 101 15 := Of15_u16_.trans Of15_s1
          have Of34_u16 : u16 101 34 = τ 101 34 := Of34_u16_.trans Of34_s1
          have Of1_u16 : u16 101 1 = τ 101 1 := Of1_u16_.trans Of1_s1
          have Of30_u16 : u16 101 30 = τ 101 30 := Of30_u16_.trans Of30_s1
          have Of18_u16 : u16 101 18 = τ 101 18 := Of18_u16_.trans Of18_s1
          refine sf_bnd (s_X4_ownerIn hF Iu16 (by omega) (by omega) (by omega) (by omega)) (fun r18 u19 p20 => ?_)
          obtain ⟨Iu19, Fu19_, Of15_u19_, Of34_u19_, Of1_u19_, Of30_u19_, Of18_u19_, p20_1, p20_2⟩ := p20
          have Fu19 : ∀ k, k < 101 → u19 k = τ k := fun k hk => (Fu19_ k hk).trans (Fu16 k hk)
          have Of15_u19 : u19 101 15 = τ 101 15 := Of15_u19_.trans Of15_u16
          have Of34_u19 : u19 101 34 = τ 101 34 := Of34_u19_.trans Of34_u16
          have Of1_u19 : u19 101 1 = τ 101 1 := Of1_u19_.trans Of1_u16
          have Of30_u19 : u19 101 30 = τ 101 30 := Of30_u19_.trans Of30_u16
          have Of18_u19 : u19 101 18 = τ 101 18 := Of18_u19_.trans Of18_u16
          exact sf_ret ⟨Iu19, Fu19, Of15_u19, Of34_u19, Of1_u19, Of30_u19, Of18_u19, ti_lo _, ti_hi _⟩
        have C14 : (0 : Int) < (0 : Int) := ti_nle c14
        exfalso; omega
      have C13 : (999 : Int) < x2.toInt := ti_nle c13
      refine sf_ret ?_
      rw [j_X4_owner_24_e]
      refine sf_ite (fun c21 => ?_) (fun c21 => ?_)
      · have C21 : (0 : Int) ≤ (-6 : Int) := ti_le c21
        exfalso; omega
      have C21 : (-6 : Int) < (0 : Int) := ti_nle c21
      refine sf_bnd (s_X4_refuse hF Is1 (by decide) (by decide)) (fun r22 u23 p24 => ?_)
      obtain ⟨Iu23, Fu23_, Of15_u23_, Of34_u23_, Of1_u23_, Of30_u23_, Of18_u23_, p24_1, p24_2, p24_x0⟩ := p24
      have Fu23 : ∀ k, k < 101 → u23 k = τ k := fun k hk => (Fu23_ k hk).trans (Fs1 k hk)
      have Of15_u23 : u23 101 15 = τ 101 15 := Of15_u23_.trans Of15_s1
      have Of34_u23 : u23 101 34 = τ 101 34 := Of34_u23_.trans Of34_s1
      have Of1_u23 : u23 101 1 = τ 101 1 := Of1_u23_.trans Of1_s1
      have Of30_u23 : u23 101 30 = τ 101 30 := Of30_u23_.trans Of30_s1
      have Of18_u23 : u23 101 18 = τ 101 18 := Of18_u23_.trans Of18_s1
      replace p24_x0 : r22.toInt = (-6 : Int) := p24_x0
      exact sf_ret ⟨Iu23, Fu23, Of15_u23, Of34_u23, Of1_u23, Of30_u23, Of18_u23, ti_lo _, ti_hi _⟩
    have C12 : x2.toInt < (0 : Int) := ti_nle c12
    refine sf_ret ?_
    rw [j_X4_owner_24_e]
    refine sf_ite (fun c25 => ?_) (fun c25 => ?_)
    · have C25 : (0 : Int) ≤ (-4 : Int) := ti_le c25
      exfalso; omega
    have C25 : (-4 : Int) < (0 : Int) := ti_nle c25
    refine sf_bnd (s_X4_refuse hF Is1 (by decide) (by decide)) (fun r26 u27 p28 => ?_)
    obtain ⟨Iu27, Fu27_, Of15_u27_, Of34_u27_, Of1_u27_, Of30_u27_, Of18_u27_, p28_1, p28_2, p28_x0⟩ := p28
    have Fu27 : ∀ k, k < 101 → u27 k = τ k := fun k hk => (Fu27_ k hk).trans (Fs1 k hk)
    have Of15_u27 : u27 101 15 = τ 101 15 := Of15_u27_.trans Of15_s1
    have Of34_u27 : u27 101 34 = τ 101 34 := Of34_u27_.trans Of34_s1
    have Of1_u27 : u27 101 1 = τ 101 1 := Of1_u27_.trans Of1_s1
    have Of30_u27 : u27 101 30 = τ 101 30 := Of30_u27_.trans Of30_s1
    have Of18_u27 : u27 101 18 = τ 101 18 := Of18_u27_.trans Of18_s1
    replace p28_x0 : r26.toInt = (-4 : Int) := p28_x0
    exact sf_ret ⟨Iu27, Fu27, Of15_u27, Of34_u27, Of1_u27, Of30_u27, Of18_u27, ti_lo _, ti_hi _⟩
  obtain ⟨rfl, q29⟩ := p6
  refine sf_ite (fun c30 => ?_) (fun c30 => ?_)
  · have C30 : (0 : Int) = (0 : Int) := ti_eq c30
    rw [j_X4_owner_24_e]
    refine sf_ite (fun c31 => ?_) (fun c31 => ?_)
    · have C31 : (0 : Int) ≤ (-1 : Int) := ti_le c31
      exfalso; omega
    have C31 : (-1 : Int) < (0 : Int) := ti_nle c31
    refine sf_bnd (s_X4_refuse hF Is1 (by decide) (by decide)) (fun r32 u33 p34 => ?_)
    obtain ⟨Iu33, Fu33_, Of15_u33_, Of34_u33_, Of1_u33_, Of30_u33_, Of18_u33_, p34_1, p34_2, p34_x0⟩ := p34
    have Fu33 : ∀ k, k < 101 → u33 k = τ k := fun k hk => (Fu33_ k hk).trans (Fs1 k hk)
    have Of15_u33 : u33 101 15 = τ 101 15 := Of15_u33_.trans Of15_s1
    have Of34_u33 : u33 101 34 = τ 101 34 := Of34_u33_.trans Of34_s1
    have Of1_u33 : u33 101 1 = τ 101 1 := Of1_u33_.trans Of1_s1
    have Of30_u33 : u33 101 30 = τ 101 30 := Of30_u33_.trans Of30_s1
    have Of18_u33 : u33 101 18 = τ 101 18 := Of18_u33_.trans Of18_s1
    replace p34_x0 : r32.toInt = (-1 : Int) := p34_x0
    exact sf_ret ⟨Iu33, Fu33, Of15_u33, Of34_u33, Of1_u33, Of30_u33, Of18_u33, ti_lo _, ti_hi _⟩
  have C30 : ¬ (0 : Int) = (0 : Int) := ti_ne c30
  exfalso; omega
set_option maxHeartbeats 4000000 in
set_option maxRecDepth 100000 in
theorem s_X4_owns {F : Nat} (hF : 73786976294838206464 ≤ F) {x1 : Int32} {x2 : Int32} {x3 : Int32} {τ : Mem} (hI : wiM τ) : sf (f_X4_owns F x1 x2 x3 τ) (fun r s => wiM s ∧ (∀ k, k < 101 → s k = τ k) ∧ s 101 15 = τ 101 15 ∧ s 101 34 = τ 101 34 ∧ s 101 1 = τ 101 1 ∧ s 101 30 = τ 101 30 ∧ s 101 18 = τ 101 18 ∧ -2147483648 ≤ r.toInt ∧ r.toInt ≤ 2147483647) := by
  have Fτ : ∀ k, k < 101 → τ k = τ k := fun _ _ => rfl
  have Of15_τ : τ 101 15 = τ 101 15 := rfl
  have Of34_τ : τ 101 34 = τ 101 34 := rfl
  have Of1_τ : τ 101 1 = τ 101 1 := rfl
  have Of30_τ : τ 101 30 = τ 101 30 := rfl
  have Of18_τ : τ 101 18 = τ 101 18 := rfl
  rw [f_X4_owns_e]
  refine sf_lt (fun s1 hs1 => ?_)
  have Is1 : wiM s1 := by rw [hs1]; exact wm_fld hI (by decide) (by decide) (by decide) (by decide) (by decide) (by decide) (by decide)
  have Fs1 : ∀ k, k < 101 → s1 k = τ k := fun k hk => (show s1 k = τ k by rw [hs1, up2_k (by omega)]).trans (Fτ k hk)
  have Of15_s1 : s1 101 15 = τ 101 15 := (show s1 101 15 = τ 101 15 by rw [hs1, up2_i (by decide)]).trans Of15_τ
  have Of34_s1 : s1 101 34 = τ 101 34 := (show s1 101 34 = τ 101 34 by rw [hs1, up2_i (by decide)]).trans Of34_τ
  have Of1_s1 : s1 101 1 = τ 101 1 := (show s1 101 1 = τ 101 1 by rw [hs1, up2_i (by decide)]).trans Of1_τ
  have Of30_s1 : s1 101 30 = τ 101 30 := (show s1 101 30 = τ 101 30 by rw [hs1, up2_i (by decide)]).trans Of30_τ
  have Of18_s1 : s1 101 18 = τ 101 18 := (show s1 101 18 = τ 101 18 by rw [hs1, up2_i (by decide)]).trans Of18_τ
  have b2 := ti_lo x1
  have b3 := ti_hi x1
  refine sf_bnd (s_X4_isLooker hF Is1) (fun r4 u5 p6 => ?_)
  obtain ⟨e9, p6⟩ := p6
  have e9 := e9.symm
  subst e9
  rcases p6 with ⟨rfl, q7, q8⟩ | p6
  · refine sf_ite (fun c9 => ?_) (fun c9 => ?_)
    · have C9 : (1 : Int) = (0 : Int) := ti_eq c9
      exfalso; omega
    have C9 : ¬ (1 : Int) = (0 : Int) := ti_ne c9
    refine sf_in ?_
    rw [f_X4_wrongNumber_e]
    have b10 := ti_lo x2
    have b11 := ti_hi x2
    refine sf_ite (fun c12 => ?_) (fun c12 => ?_)
    · have C12 : (0 : Int) ≤ x2.toInt := ti_le c12
      refine sf_ite (fun c13 => ?_) (fun c13 => ?_)
      · have C13 : x2.toInt ≤ (999 : Int) := ti_le c13
        refine sf_ret ?_
        rw [j_X4_owns_25_e]
        refine sf_in ?_
        rw [f_X4_wrongBit_e]
        refine sf_ite (fun c14 => ?_) (fun c14 => ?_)
        · have C14 : (0 : Int) = (0 : Int) := ti_eq c14
          refine sf_in ?_
          rw [f_X4_in_e]
          have b15 := ti_lo x3
          have b16 := ti_hi x3
          have b17 := ti_lo (lg_cmp (Int32.toInt64 x3) (0 : Int64))
          have b18 := ti_hi (lg_cmp (Int32.toInt64 x3) (0 : Int64))
          refine sf_ite (fun c19 => ?_) (fun c19 => ?_)
          · have C19 : (lg_cmp (Int32.toInt64 x3) (0 : Int64)).toInt < (0 : Int) := ti_lt c19
            have L19 : x3.toInt < (0 : Int) := by have q := lg_ltl c19; (repeat (rw [Int32.toInt_toInt64] at q)); exact q
            rw [j_X4_in_17_e]
            refine sf_ret ?_
            refine sf_ite (fun c20 => ?_) (fun c20 => ?_)
            · have C20 : (0 : Int) = (0 : Int) := ti_eq c20
              refine sf_ret ?_
              refine sf_ite (fun c21 => ?_) (fun c21 => ?_)
              · have C21 : (0 : Int) ≤ (-2 : Int) := ti_le c21
                exfalso; omega
              have C21 : (-2 : Int) < (0 : Int) := ti_nle c21
              refine sf_bnd (s_X4_refuse hF Is1 (by decide) (by decide)) (fun r22 u23 p24 => ?_)
              obtain ⟨Iu23, Fu23_, Of15_u23_, Of34_u23_, Of1_u23_, Of30_u23_, Of18_u23_, p24_1, p24_2, p24_x0⟩ := p24
              have Fu23 : ∀ k, k < 101 → u23 k = τ k := fun k hk => (Fu23_ k hk).trans (Fs1 k hk)
              have Of15_u23 : u23 101 15 = τ 101 15 := Of15_u23_.trans Of15_s1
              have Of34_u23 : u23 101 34 = τ 101 34 := Of34_u23_.trans Of34_s1
              have Of1_u23 : u23 101 1 = τ 101 1 := Of1_u23_.trans Of1_s1
              have Of30_u23 : u23 101 30 = τ 101 30 := Of30_u23_.trans Of30_s1
              have Of18_u23 : u23 101 18 = τ 101 18 := Of18_u23_.trans Of18_s1
              replace p24_x0 : r22.toInt = (-2 : Int) := p24_x0
              exact sf_ret ⟨Iu23, Fu23, Of15_u23, Of34_u23, Of1_u23, Of30_u23, Of18_u23, ti_lo _, ti_hi _⟩
            have C20 : ¬ (0 : Int) = (0 : Int) := ti_ne c20
            exfalso; omega
          have C19 : (0 : Int) ≤ (lg_cmp (Int32.toInt64 x3) (0 : Int64)).toInt := ti_nlt c19
          have L19 : (0 : Int) ≤ x3.toInt := by have q := lg_ltln c19; (repeat (rw [Int32.toInt_toInt64] at q)); exact q
          have b25 := ti_lo (lg_cmp (Int32.toInt64 x3) (Int32.toInt64 (1 : Int32)))
          have b26 := ti_hi (lg_cmp (Int32.toInt64 x3) (Int32.toInt64 (1 : Int32)))
          refine sf_ite (fun c27 => ?_) (fun c27 => ?_)
          · have C27 : (0 : Int) < (lg_cmp (Int32.toInt64 x3) (Int32.toInt64 (1 : Int32))).toInt := ti_lt c27
            have L27 : (1 : Int) < x3.toInt := by have q := lg_ltr c27; (repeat (rw [Int32.toInt_toInt64] at q)); exact q
            rw [j_X4_in_17_e]
            refine sf_ret ?_
            refine sf_ite (fun c28 => ?_) (fun c28 => ?_)
            · have C28 : (0 : Int) = (0 : Int) := ti_eq c28
              refine sf_ret ?_
              refine sf_ite (fun c29 => ?_) (fun c29 => ?_)
              · have C29 : (0 : Int) ≤ (-2 : Int) := ti_le c29
                exfalso; omega
              have C29 : (-2 : Int) < (0 : Int) := ti_nle c29
              refine sf_bnd (s_X4_refuse hF Is1 (by decide) (by decide)) (fun r30 u31 p32 => ?_)
              obtain ⟨Iu31, Fu31_, Of15_u31_, Of34_u31_, Of1_u31_, Of30_u31_, Of18_u31_, p32_1, p32_2, p32_x0⟩ := p32
              have Fu31 : ∀ k, k < 101 → u31 k = τ k := fun k hk => (Fu31_ k hk).trans (Fs1 k hk)
              have Of15_u31 : u31 101 15 = τ 101 15 := Of15_u31_.trans Of15_s1
              have Of34_u31 : u31 101 34 = τ 101 34 := Of34_u31_.trans Of34_s1
              have Of1_u31 : u31 101 1 = τ 101 1 := Of1_u31_.trans Of1_s1
              have Of30_u31 : u31 101 30 = τ 101 30 := Of30_u31_.trans Of30_s1
              have Of18_u31 : u31 101 18 = τ 101 18 := Of18_u31_.trans Of18_s1
              replace p32_x0 : r30.toInt = (-2 : Int) := p32_x0
              exact sf_ret ⟨Iu31, Fu31, Of15_u31, Of34_u31, Of1_u31, Of30_u31, Of18_u31, ti_lo _, ti_hi _⟩
            have C28 : ¬ (0 : Int) = (0 : Int) := ti_ne c28
            exfalso; omega
          have C27 : (lg_cmp (Int32.toInt64 x3) (Int32.toInt64 (1 : Int32))).toInt ≤ (0 : Int) := ti_nlt c27
          have L27 : x3.toInt ≤ (1 : Int) := by have q := lg_ltrn c27; (repeat (rw [Int32.toInt_toInt64] at q)); exact q
          refine sf_ret ?_
          refine sf_ite (fun c33 => ?_) (fun c33 => ?_)
          · have C33 : (1 : Int) = (0 : Int) := ti_eq c33
            exfalso; omega
          have C33 : ¬ (1 : Int) = (0 : Int) := ti_ne c33
          rw [j_X4_wrongBit_20_e]
          refine sf_ret ?_
          refine sf_ite (fun c34 => ?_) (fun c34 => ?_)
          · have C34 : (0 : Int) ≤ (0 : Int) := ti_le c34
            refine sf_bnd (s_X4_layBrings hF Is1) (fun r35 u36 p37 => ?_)
            obtain ⟨Iu36, Fu36_, Of15_u36_, Of34_u36_, Of1_u36_, Of30_u36_, Of18_u36_, -⟩ := p37
            have Fu36 : ∀ k, k < 101 → u36 k = τ k := fun k hk => (Fu36_ k hk).trans (Fs1 k hk)
            have Of15_u36 : u36 101 15 = τ 101 15 := Of15_u36_.trans Of15_s1
            have Of34_u36 : u36 101 34 = τ 101 34 := Of34_u36_.trans Of34_s1
            have Of1_u36 : u36 101 1 = τ 101 1 := Of1_u36_.trans Of1_s1
            have Of30_u36 : u36 101 30 = τ 101 30 := Of30_u36_.trans Of30_s1
            have Of18_u36 : u36 101 18 = τ 101 18 := Of18_u36_.trans Of18_s1
            refine sf_ite (fun c38 => ?_) (fun c38 => ?_)
            · have C38 : x3.toInt = (0 : Int) := ti_eq c38
              refine sf_bnd (s_X4_viewsIn hF Iu36 (by omega) (by omega) (by omega) (by omega)) (fun r39 u40 p41 => ?_)
              obtain ⟨Iu40, Fu40_, Of15_u40_, Of34_u40_, Of1_u40_, Of30_u40_, Of18_u40_, p41_1, p41_2⟩ := p41
              have Fu40 : ∀ k, k < 101 → u40 k = τ k := fun k hk => (Fu40_ k hk).trans (Fu36 k hk)
              have Of15_u40 : u40 101 15 = τ 101 15 := Of15_u40_.trans Of15_u36
              have Of34_u40 : u40 101 34 = τ 101 34 := Of34_u40_.trans Of34_u36
              have Of1_u40 : u40 101 1 = τ 101 1 := Of1_u40_.trans Of1_u36
              have Of30_u40 : u40 101 30 = τ 101 30 := Of30_u40_.trans Of30_u36
              have Of18_u40 : u40 101 18 = τ 101 18 := Of18_u40_.trans Of18_u36
              have b42 := ti_lo r39
              have b43 := ti_hi r39
              exact sf_ret ⟨Iu40, Fu40, Of15_u40, Of34_u40, Of1_u40, Of30_u40, Of18_u40, ti_lo _, ti_hi _⟩
            have C38 : ¬ x3.toInt = (0 : Int) := ti_ne c38
            refine sf_bnd (s_X4_worthIn hF Iu36 (by omega) (by omega) (by omega) (by omega)) (fun r44 u45 p46 => ?_)
            obtain ⟨Iu45, Fu45_, Of15_u45_, Of34_u45_, Of1_u45_, Of30_u45_, Of18_u45_, p46_1, p46_2⟩ := p46
            have Fu45 : ∀ k, k < 101 → u45 k = τ k := fun k hk => (Fu45_ k hk).trans (Fu36 k hk)
            have Of15_u45 : u45 101 15 = τ 101 15 := Of15_u45_.trans Of15_u36
            have Of34_u45 : u45 101 34 = τ 101 34 := Of34_u45_.trans Of34_u36
            have Of1_u45 : u45 101 1 = τ 101 1 := Of1_u45_.trans Of1_u36
            have Of30_u45 : u45 101 30 = τ 101 30 := Of30_u45_.trans Of30_u36
            have Of18_u45 : u45 101 18 = τ 101 18 := Of18_u45_.trans Of18_u36
            have b47 := ti_lo r44
            have b48 := ti_hi r44
            exact sf_ret ⟨Iu45, Fu45, Of15_u45, Of34_u45, Of1_u45, Of30_u45, Of18_u45, ti_lo _, ti_hi _⟩
          have C34 : (0 : Int) < (0 : Int) := ti_nle c34
          exfalso; omega
        have C14 : ¬ (0 : Int) = (0 : Int) := ti_ne c14
        exfalso; omega
      have C13 : (999 : Int) < x2.toInt := ti_nle c13
      refine sf_ret ?_
      rw [j_X4_owns_25_e]
      refine sf_in ?_
      rw [f_X4_wrongBit_e]
      refine sf_ite (fun c49 => ?_) (fun c49 => ?_)
      · have C49 : (-6 : Int) = (0 : Int) := ti_eq c49
        exfalso; omega
      have C49 : ¬ (-6 : Int) = (0 : Int) := ti_ne c49
      rw [j_X4_wrongBit_20_e]
      refine sf_ret ?_
      refine sf_ite (fun c50 => ?_) (fun c50 => ?_)
      · have C50 : (0 : Int) ≤ (-6 : Int) := ti_le c50
        exfalso; omega
      have C50 : (-6 : Int) < (0 : Int) := ti_nle c50
      refine sf_bnd (s_X4_refuse hF Is1 (by decide) (by decide)) (fun r51 u52 p53 => ?_)
      obtain ⟨Iu52, Fu52_, Of15_u52_, Of34_u52_, Of1_u52_, Of30_u52_, Of18_u52_, p53_1, p53_2, p53_x0⟩ := p53
      have Fu52 : ∀ k, k < 101 → u52 k = τ k := fun k hk => (Fu52_ k hk).trans (Fs1 k hk)
      have Of15_u52 : u52 101 15 = τ 101 15 := Of15_u52_.trans Of15_s1
      have Of34_u52 : u52 101 34 = τ 101 34 := Of34_u52_.trans Of34_s1
      have Of1_u52 : u52 101 1 = τ 101 1 := Of1_u52_.trans Of1_s1
      have Of30_u52 : u52 101 30 = τ 101 30 := Of30_u52_.trans Of30_s1
      have Of18_u52 : u52 101 18 = τ 101 18 := Of18_u52_.trans Of18_s1
      replace p53_x0 : r51.toInt = (-6 : Int) := p53_x0
      exact sf_ret ⟨Iu52, Fu52, Of15_u52, Of34_u52, Of1_u52, Of30_u52, Of18_u52, ti_lo _, ti_hi _⟩
    have C12 : x2.toInt < (0 : Int) := ti_nle c12
    refine sf_ret ?_
    rw [j_X4_owns_25_e]
    refine sf_in ?_
    rw [f_X4_wrongBit_e]
    refine sf_ite (fun c54 => ?_) (fun c54 => ?_)
    · have C54 : (-4 : Int) = (0 : Int) := ti_eq c54
      exfalso; omega
    have C54 : ¬ (-4 : Int) = (0 : Int) := ti_ne c54
    rw [j_X4_wrongBit_20_e]
    refine sf_ret ?_
    refine sf_ite (fun c55 => ?_) (fun c55 => ?_)
    · have C55 : (0 : Int) ≤ (-4 : Int) := ti_le c55
      exfalso; omega
    have C55 : (-4 : Int) < (0 : Int) := ti_nle c55
    refine sf_bnd (s_X4_refuse hF Is1 (by decide) (by decide)) (fun r56 u57 p58 => ?_)
    obtain ⟨Iu57, Fu57_, Of15_u57_, Of34_u57_, Of1_u57_, Of30_u57_, Of18_u57_, p58_1, p58_2, p58_x0⟩ := p58
    have Fu57 : ∀ k, k < 101 → u57 k = τ k := fun k hk => (Fu57_ k hk).trans (Fs1 k hk)
    have Of15_u57 : u57 101 15 = τ 101 15 := Of15_u57_.trans Of15_s1
    have Of34_u57 : u57 101 34 = τ 101 34 := Of34_u57_.trans Of34_s1
    have Of1_u57 : u57 101 1 = τ 101 1 := Of1_u57_.trans Of1_s1
    have Of30_u57 : u57 101 30 = τ 101 30 := Of30_u57_.trans Of30_s1
    have Of18_u57 : u57 101 18 = τ 101 18 := Of18_u57_.trans Of18_s1
    replace p58_x0 : r56.toInt = (-4 : Int) := p58_x0
    exact sf_ret ⟨Iu57, Fu57, Of15_u57, Of34_u57, Of1_u57, Of30_u57, Of18_u57, ti_lo _, ti_hi _⟩
  obtain rfl := p6
  refine sf_ite (fun c59 => ?_) (fun c59 => ?_)
  · have C59 : (0 : Int) = (0 : Int) := ti_eq c59
    rw [j_X4_owns_25_e]
    refine sf_in ?_
    rw [f_X4_wrongBit_e]
    refine sf_ite (fun c60 => ?_) (fun c60 => ?_)
    · have C60 : (-1 : Int) = (0 : Int) := ti_eq c60
      exfalso; omega
    have C60 : ¬ (-1 : Int) = (0 : Int) := ti_ne c60
    rw [j_X4_wrongBit_20_e]
    refine sf_ret ?_
    refine sf_ite (fun c61 => ?_) (fun c61 => ?_)
    · have C61 : (0 : Int) ≤ (-1 : Int) := ti_le c61
      exfalso; omega
    have C61 : (-1 : Int) < (0 : Int) := ti_nle c61
    refine sf_bnd (s_X4_refuse hF Is1 (by decide) (by decide)) (fun r62 u63 p64 => ?_)
    obtain ⟨Iu63, Fu63_, Of15_u63_, Of34_u63_, Of1_u63_, Of30_u63_, Of18_u63_, p64_1, p64_2, p64_x0⟩ := p64
    have Fu63 : ∀ k, k < 101 → u63 k = τ k := fun k hk => (Fu63_ k hk).trans (Fs1 k hk)
    have Of15_u63 : u63 101 15 = τ 101 15 := Of15_u63_.trans Of15_s1
    have Of34_u63 : u63 101 34 = τ 101 34 := Of34_u63_.trans Of34_s1
    have Of1_u63 : u63 101 1 = τ 101 1 := Of1_u63_.trans Of1_s1
    have Of30_u63 : u63 101 30 = τ 101 30 := Of30_u63_.trans Of30_s1
    have Of18_u63 : u63 101 18 = τ 101 18 := Of18_u63_.trans Of18_s1
    replace p64_x0 : r62.toInt = (-1 : Int) := p64_x0
    exact sf_ret ⟨Iu63, Fu63, Of15_u63, Of34_u63, Of1_u63, Of30_u63, Of18_u63, ti_lo _, ti_hi _⟩
  have C59 : ¬ (0 : Int) = (0 : Int) := ti_ne c59
  exfalso; omega
set_option maxHeartbeats 4000000 in
set_option maxRecDepth 100000 in
theorem s_X4_nobodys {F : Nat} (hF : 73786976294838206464 ≤ F) {x1 : Int32} {τ : Mem} (hI : wiM τ) : sf (f_X4_nobodys F x1 τ) (fun r s => wiM s ∧ (∀ k, k < 101 → s k = τ k) ∧ s 101 15 = τ 101 15 ∧ s 101 34 = τ 101 34 ∧ s 101 1 = τ 101 1 ∧ s 101 30 = τ 101 30 ∧ s 101 18 = τ 101 18 ∧ -2147483648 ≤ r.toInt ∧ r.toInt ≤ 2147483647) := by
  have Fτ : ∀ k, k < 101 → τ k = τ k := fun _ _ => rfl
  have Of15_τ : τ 101 15 = τ 101 15 := rfl
  have Of34_τ : τ 101 34 = τ 101 34 := rfl
  have Of1_τ : τ 101 1 = τ 101 1 := rfl
  have Of30_τ : τ 101 30 = τ 101 30 := rfl
  have Of18_τ : τ 101 18 = τ 101 18 := rfl
  rw [f_X4_nobodys_e]
  refine sf_lt (fun s1 hs1 => ?_)
  have Is1 : wiM s1 := by rw [hs1]; exact wm_fld hI (by decide) (by decide) (by decide) (by decide) (by decide) (by decide) (by decide)
  have Fs1 : ∀ k, k < 101 → s1 k = τ k := fun k hk => (show s1 k = τ k by rw [hs1, up2_k (by omega)]).trans (Fτ k hk)
  have Of15_s1 : s1 101 15 = τ 101 15 := (show s1 101 15 = τ 101 15 by rw [hs1, up2_i (by decide)]).trans Of15_τ
  have Of34_s1 : s1 101 34 = τ 101 34 := (show s1 101 34 = τ 101 34 by rw [hs1, up2_i (by decide)]).trans Of34_τ
  have Of1_s1 : s1 101 1 = τ 101 1 := (show s1 101 1 = τ 101 1 by rw [hs1, up2_i (by decide)]).trans Of1_τ
  have Of30_s1 : s1 101 30 = τ 101 30 := (show s1 101 30 = τ 101 30 by rw [hs1, up2_i (by decide)]).trans Of30_τ
  have Of18_s1 : s1 101 18 = τ 101 18 := (show s1 101 18 = τ 101 18 by rw [hs1, up2_i (by decide)]).trans Of18_τ
  refine sf_in ?_
  rw [f_X4_wrongNumber_e]
  have b2 := ti_lo x1
  have b3 := ti_hi x1
  refine sf_ite (fun c4 => ?_) (fun c4 => ?_)
  · have C4 : (0 : Int) ≤ x1.toInt := ti_le c4
    refine sf_ite (fun c5 => ?_) (fun c5 => ?_)
    · have C5 : x1.toInt ≤ (999 : Int) := ti_le c5
      refine sf_ret ?_
      refine sf_ite (fun c6 => ?_) (fun c6 => ?_)
      · have C6 : (0 : Int) ≤ (0 : Int) := ti_le c6
        refine sf_bnd (s_X4_layBrings hF Is1) (fun r7 u8 p9 => ?_)
        obtain ⟨Iu8, Fu8_, Of15_u8_, Of34_u8_, Of1_u8_, Of30_u8_, Of18_u8_, -⟩ := p9
        have Fu8 : ∀ k, k < 101 → u8 k = τ k := fun k hk => (Fu8_ k hk).trans (Fs1 k hk)
        have Of15_u8 : u8 101 15 = τ 101 15 := Of15_u8_.trans Of15_s1
        have Of34_u8 : u8 101 34 = τ 101 34 := Of34_u8_.trans Of34_s1
        have Of1_u8 : u8 101 1 = τ 101 1 := Of1_u8_.trans Of1_s1
        have Of30_u8 : u8 101 30 = τ 101 30 := Of30_u8_.trans Of30_s1
        have Of18_u8 : u8 101 18 = τ 101 18 := Of18_u8_.trans Of18_s1
        refine sf_bnd (s_X4_viewsIn hF Iu8 (by decide) (by decide) (by omega) (by omega)) (fun r10 u11 p12 => ?_)
        obtain ⟨Iu11, Fu11_, Of15_u11_, Of34_u11_, Of1_u11_, Of30_u11_, Of18_u11_, p12_1, p12_2⟩ := p12
        have Fu11 : ∀ k, k < 101 → u11 k = τ k := fun k hk => (Fu11_ k hk).trans (Fu8 k hk)
        have Of15_u11 : u11 101 15 = τ 101 15 := Of15_u11_.trans Of15_u8
        have Of34_u11 : u11 101 34 = τ 101 34 := Of34_u11_.trans Of34_u8
        have Of1_u11 : u11 101 1 = τ 101 1 := Of1_u11_.trans Of1_u8
        have Of30_u11 : u11 101 30 = τ 101 30 := Of30_u11_.trans Of30_u8
        have Of18_u11 : u11 101 18 = τ 101 18 := Of18_u11_.trans Of18_u8
        have b13 := ti_lo r10
        have b14 := ti_hi r10
        exact sf_ret ⟨Iu11, Fu11, Of15_u11, Of34_u11, Of1_u11, Of30_u11, Of18_u11, ti_lo _, ti_hi _⟩
      have C6 : (0 : Int) < (0 : Int) := ti_nle c6
      exfalso; omega
    have C5 : (999 : Int) < x1.toInt := ti_nle c5
    refine sf_ret ?_
    refine sf_ite (fun c15 => ?_) (fun c15 => ?_)
    · have C15 : (0 : Int) ≤ (-6 : Int) := ti_le c15
      exfalso; omega
    have C15 : (-6 : Int) < (0 : Int) := ti_nle c15
    refine sf_in ?_
    rw [f_X4_wrongNumber_e]
    refine sf_ite (fun c16 => ?_) (fun c16 => ?_)
    · have C16 : (0 : Int) ≤ x1.toInt := ti_le c16
      refine sf_ite (fun c17 => ?_) (fun c17 => ?_)
      · have C17 : x1.toInt ≤ (999 : Int) := ti_le c17
        exfalso; omega
      have C17 : (999 : Int) < x1.toInt := ti_nle c17
      refine sf_ret ?_
      refine sf_bnd (s_X4_refuse hF Is1 (by decide) (by decide)) (fun r18 u19 p20 => ?_)
      obtain ⟨Iu19, Fu19_, Of15_u19_, Of34_u19_, Of1_u19_, Of30_u19_, Of18_u19_, p20_1, p20_2, p20_x0⟩ := p20
      have Fu19 : ∀ k, k < 101 → u19 k = τ k := fun k hk => (Fu19_ k hk).trans (Fs1 k hk)
      have Of15_u19 : u19 101 15 = τ 101 15 := Of15_u19_.trans Of15_s1
      have Of34_u19 : u19 101 34 = τ 101 34 := Of34_u19_.trans Of34_s1
      have Of1_u19 : u19 101 1 = τ 101 1 := Of1_u19_.trans Of1_s1
      have Of30_u19 : u19 101 30 = τ 101 30 := Of30_u19_.trans Of30_s1
      have Of18_u19 : u19 101 18 = τ 101 18 := Of18_u19_.trans Of18_s1
      replace p20_x0 : r18.toInt = (-6 : Int) := p20_x0
      exact sf_ret ⟨Iu19, Fu19, Of15_u19, Of34_u19, Of1_u19, Of30_u19, Of18_u19, ti_lo _, ti_hi _⟩
    have C16 : x1.toInt < (0 : Int) := ti_nle c16
    exfalso; omega
  have C4 : x1.toInt < (0 : Int) := ti_nle c4
  refine sf_ret ?_
  refine sf_ite (fun c21 => ?_) (fun c21 => ?_)
  · have C21 : (0 : Int) ≤ (-4 : Int) := ti_le c21
    exfalso; omega
  have C21 : (-4 : Int) < (0 : Int) := ti_nle c21
  refine sf_in ?_
  rw [f_X4_wrongNumber_e]
  refine sf_ite (fun c22 => ?_) (fun c22 => ?_)
  · have C22 : (0 : Int) ≤ x1.toInt := ti_le c22
    exfalso; omega
  have C22 : x1.toInt < (0 : Int) := ti_nle c22
  refine sf_ret ?_
  refine sf_bnd (s_X4_refuse hF Is1 (by decide) (by decide)) (fun r23 u24 p25 => ?_)
  obtain ⟨Iu24, Fu24_, Of15_u24_, Of34_u24_, Of1_u24_, Of30_u24_, Of18_u24_, p25_1, p25_2, p25_x0⟩ := p25
  have Fu24 : ∀ k, k < 101 → u24 k = τ k := fun k hk => (Fu24_ k hk).trans (Fs1 k hk)
  have Of15_u24 : u24 101 15 = τ 101 15 := Of15_u24_.trans Of15_s1
  have Of34_u24 : u24 101 34 = τ 101 34 := Of34_u24_.trans Of34_s1
  have Of1_u24 : u24 101 1 = τ 101 1 := Of1_u24_.trans Of1_s1
  have Of30_u24 : u24 101 30 = τ 101 30 := Of30_u24_.trans Of30_s1
  have Of18_u24 : u24 101 18 = τ 101 18 := Of18_u24_.trans Of18_s1
  replace p25_x0 : r23.toInt = (-4 : Int) := p25_x0
  exact sf_ret ⟨Iu24, Fu24, Of15_u24, Of34_u24, Of1_u24, Of30_u24, Of18_u24, ti_lo _, ti_hi _⟩
set_option maxHeartbeats 4000000 in
set_option maxRecDepth 100000 in
theorem sl_X4_from_32 {F : Nat} (hF : 73786976294838206464 ≤ F) {x1 : Int32} {x2 : Int32} {τ : Mem} (x1_1 : 0 ≤ x1.toInt) (x1_2 : x1.toInt ≤ 4) (x2_1 : 0 ≤ x2.toInt) (x2_2 : x2.toInt ≤ 7) : ∀ (N : Nat) (x3 : Int32) (σ : Mem), wiM σ → (∀ k, k < 101 → σ k = τ k) → σ 101 15 = τ 101 15 → σ 101 34 = τ 101 34 → σ 101 1 = τ 101 1 → σ 101 30 = τ 101 30 → σ 101 18 = τ 101 18 → 1000 < x3.toInt + N → 0 ≤ x3.toInt → x3.toInt ≤ 1000 → sf (lp_X4_from_32 F x1 x2 N x3 σ) (fun r s => wiM s ∧ (∀ k, k < 101 → s k = τ k) ∧ s 101 15 = τ 101 15 ∧ s 101 34 = τ 101 34 ∧ s 101 1 = τ 101 1 ∧ s 101 30 = τ 101 30 ∧ s 101 18 = τ 101 18 ∧ -2147483648 ≤ r.toInt ∧ r.toInt ≤ 2147483647) := by
  intro N
  induction N with
  | zero => intro x3 σ hI Fσ Of15_σ Of34_σ Of1_σ Of30_σ Of18_σ hN x3_1 x3_2; exfalso; omega
  | succ N ih =>
    intro x3 σ hI Fσ Of15_σ Of34_σ Of1_σ Of30_σ Of18_σ hN x3_1 x3_2
    rw [lp_X4_from_32_s]
    refine sf_ite (fun c1 => ?_) (fun c1 => ?_)
    · have C1 : (999 : Int) < x3.toInt := ti_lt c1
      exact sf_ret ⟨hI, Fσ, Of15_σ, Of34_σ, Of1_σ, Of30_σ, Of18_σ, ti_lo _, ti_hi _⟩
    have C1 : x3.toInt ≤ (999 : Int) := ti_nlt c1
    refine sf_bnd (s_X4_ownerIn hF hI (by omega) (by omega) (by omega) (by omega)) (fun r2 u3 p4 => ?_)
    obtain ⟨Iu3, Fu3_, Of15_u3_, Of34_u3_, Of1_u3_, Of30_u3_, Of18_u3_, p4_1, p4_2⟩ := p4
    have Fu3 : ∀ k, k < 101 → u3 k = τ k := fun k hk => (Fu3_ k hk).trans (Fσ k hk)
    have Of15_u3 : u3 101 15 = τ 101 15 := Of15_u3_.trans Of15_σ
    have Of34_u3 : u3 101 34 = τ 101 34 := Of34_u3_.trans Of34_σ
    have Of1_u3 : u3 101 1 = τ 101 1 := Of1_u3_.trans Of1_σ
    have Of30_u3 : u3 101 30 = τ 101 30 := Of30_u3_.trans Of30_σ
    have Of18_u3 : u3 101 18 = τ 101 18 := Of18_u3_.trans Of18_σ
    refine sf_ite (fun c5 => ?_) (fun c5 => ?_)
    · have C5 : r2.toInt = x1.toInt := ti_eq c5
      exact sf_ret ⟨Iu3, Fu3, Of15_u3, Of34_u3, Of1_u3, Of30_u3, Of18_u3, ti_lo _, ti_hi _⟩
    have C5 : ¬ r2.toInt = x1.toInt := ti_ne c5
    have t6 : (x3 + (1 : Int32)).toInt = x3.toInt + (1 : Int) := ti_add (show -2147483648 ≤ x3.toInt + (1 : Int) by omega) (show x3.toInt + (1 : Int) ≤ 2147483647 by omega)
    exact ih _ _ Iu3 Fu3 Of15_u3 Of34_u3 Of1_u3 Of30_u3 Of18_u3 (by omega) (by omega) (by omega)
set_option maxHeartbeats 4000000 in
set_option maxRecDepth 100000 in
theorem s_X4_from {F : Nat} (hF : 73786976294838206464 ≤ F) {x1 : Int32} {x2 : Int32} {τ : Mem} (hI : wiM τ) : sf (f_X4_from F x1 x2 τ) (fun r s => wiM s ∧ (∀ k, k < 101 → s k = τ k) ∧ s 101 15 = τ 101 15 ∧ s 101 34 = τ 101 34 ∧ s 101 1 = τ 101 1 ∧ s 101 30 = τ 101 30 ∧ s 101 18 = τ 101 18 ∧ -2147483648 ≤ r.toInt ∧ r.toInt ≤ 2147483647) := by
  have Fτ : ∀ k, k < 101 → τ k = τ k := fun _ _ => rfl
  have Of15_τ : τ 101 15 = τ 101 15 := rfl
  have Of34_τ : τ 101 34 = τ 101 34 := rfl
  have Of1_τ : τ 101 1 = τ 101 1 := rfl
  have Of30_τ : τ 101 30 = τ 101 30 := rfl
  have Of18_τ : τ 101 18 = τ 101 18 := rfl
  rw [f_X4_from_e]
  refine sf_lt (fun s1 hs1 => ?_)
  have Is1 : wiM s1 := by rw [hs1]; exact wm_fld hI (by decide) (by decide) (by decide) (by decide) (by decide) (by decide) (by decide)
  have Fs1 : ∀ k, k < 101 → s1 k = τ k := fun k hk => (show s1 k = τ k by rw [hs1, up2_k (by omega)]).trans (Fτ k hk)
  have Of15_s1 : s1 101 15 = τ 101 15 := (show s1 101 15 = τ 101 15 by rw [hs1, up2_i (by decide)]).trans Of15_τ
  have Of34_s1 : s1 101 34 = τ 101 34 := (show s1 101 34 = τ 101 34 by rw [hs1, up2_i (by decide)]).trans Of34_τ
  have Of1_s1 : s1 101 1 = τ 101 1 := (show s1 101 1 = τ 101 1 by rw [hs1, up2_i (by decide)]).trans Of1_τ
  have Of30_s1 : s1 101 30 = τ 101 30 := (show s1 101 30 = τ 101 30 by rw [hs1, up2_i (by decide)]).trans Of30_τ
  have Of18_s1 : s1 101 18 = τ 101 18 := (show s1 101 18 = τ 101 18 by rw [hs1, up2_i (by decide)]).trans Of18_τ
  have b2 := ti_lo x1
  have b3 := ti_hi x1
  refine sf_bnd (s_X4_isLooker hF Is1) (fun r4 u5 p6 => ?_)
  obtain ⟨e9, p6⟩ := p6
  have e9 := e9.symm
  subst e9
  rcases p6 with ⟨rfl, q7, q8⟩ | p6
  · refine sf_ite (fun c9 => ?_) (fun c9 => ?_)
    · have C9 : (1 : Int) = (0 : Int) := ti_eq c9
      exfalso; omega
    have C9 : ¬ (1 : Int) = (0 : Int) := ti_ne c9
    have b10 := ti_lo x2
    have b11 := ti_hi x2
    refine sf_bnd (s_X4_isView hF Is1) (fun r12 u13 p14 => ?_)
    obtain ⟨e9, p14⟩ := p14
    have e9 := e9.symm
    subst e9
    rcases p14 with ⟨rfl, q15, q16⟩ | p14
    · refine sf_ite (fun c17 => ?_) (fun c17 => ?_)
      · have C17 : (1 : Int) = (0 : Int) := ti_eq c17
        exfalso; omega
      have C17 : ¬ (1 : Int) = (0 : Int) := ti_ne c17
      refine sf_bnd (s_X4_layBrings hF Is1) (fun r18 u19 p20 => ?_)
      obtain ⟨Iu19, Fu19_, Of15_u19_, Of34_u19_, Of1_u19_, Of30_u19_, Of18_u19_, -⟩ := p20
      have Fu19 : ∀ k, k < 101 → u19 k = τ k := fun k hk => (Fu19_ k hk).trans (Fs1 k hk)
      have Of15_u19 : u19 101 15 = τ 101 15 := Of15_u19_.trans Of15_s1
      have Of34_u19 : u19 101 34 = τ 101 34 := Of34_u19_.trans Of34_s1
      have Of1_u19 : u19 101 1 = τ 101 1 := Of1_u19_.trans Of1_s1
      have Of30_u19 : u19 101 30 = τ 101 30 := Of30_u19_.trans Of30_s1
      have Of18_u19 : u19 101 18 = τ 101 18 := Of18_u19_.trans Of18_s1
      have l_0 : (0 : Int32).toInt = 0 := rfl
      exact sl_X4_from_32 hF (by omega) (by omega) (by omega) (by omega) _ _ _ Iu19 Fu19 Of15_u19 Of34_u19 Of1_u19 Of30_u19 Of18_u19 (by omega) (by decide) (by decide)
    obtain ⟨rfl, q21⟩ := p14
    refine sf_ite (fun c22 => ?_) (fun c22 => ?_)
    · have C22 : (0 : Int) = (0 : Int) := ti_eq c22
      rw [j_X4_from_20_e]
      refine sf_bnd (s_X4_refuse hF Is1 (by decide) (by decide)) (fun r23 u24 p25 => ?_)
      obtain ⟨Iu24, Fu24_, Of15_u24_, Of34_u24_, Of1_u24_, Of30_u24_, Of18_u24_, p25_1, p25_2, p25_x0⟩ := p25
      have Fu24 : ∀ k, k < 101 → u24 k = τ k := fun k hk => (Fu24_ k hk).trans (Fs1 k hk)
      have Of15_u24 : u24 101 15 = τ 101 15 := Of15_u24_.trans Of15_s1
      have Of34_u24 : u24 101 34 = τ 101 34 := Of34_u24_.trans Of34_s1
      have Of1_u24 : u24 101 1 = τ 101 1 := Of1_u24_.trans Of1_s1
      have Of30_u24 : u24 101 30 = τ 101 30 := Of30_u24_.trans Of30_s1
      have Of18_u24 : u24 101 18 = τ 101 18 := Of18_u24_.trans Of18_s1
      replace p25_x0 : r23.toInt = (-1 : Int) := p25_x0
      exact sf_ret ⟨Iu24, Fu24, Of15_u24, Of34_u24, Of1_u24, Of30_u24, Of18_u24, ti_lo _, ti_hi _⟩
    have C22 : ¬ (0 : Int) = (0 : Int) := ti_ne c22
    exfalso; omega
  obtain rfl := p6
  refine sf_ite (fun c26 => ?_) (fun c26 => ?_)
  · have C26 : (0 : Int) = (0 : Int) := ti_eq c26
    rw [j_X4_from_20_e]
    refine sf_bnd (s_X4_refuse hF Is1 (by decide) (by decide)) (fun r27 u28 p29 => ?_)
    obtain ⟨Iu28, Fu28_, Of15_u28_, Of34_u28_, Of1_u28_, Of30_u28_, Of18_u28_, p29_1, p29_2, p29_x0⟩ := p29
    have Fu28 : ∀ k, k < 101 → u28 k = τ k := fun k hk => (Fu28_ k hk).trans (Fs1 k hk)
    have Of15_u28 : u28 101 15 = τ 101 15 := Of15_u28_.trans Of15_s1
    have Of34_u28 : u28 101 34 = τ 101 34 := Of34_u28_.trans Of34_s1
    have Of1_u28 : u28 101 1 = τ 101 1 := Of1_u28_.trans Of1_s1
    have Of30_u28 : u28 101 30 = τ 101 30 := Of30_u28_.trans Of30_s1
    have Of18_u28 : u28 101 18 = τ 101 18 := Of18_u28_.trans Of18_s1
    replace p29_x0 : r27.toInt = (-1 : Int) := p29_x0
    exact sf_ret ⟨Iu28, Fu28, Of15_u28, Of34_u28, Of1_u28, Of30_u28, Of18_u28, ti_lo _, ti_hi _⟩
  have C26 : ¬ (0 : Int) = (0 : Int) := ti_ne c26
  exfalso; omega
set_option maxHeartbeats 4000000 in
set_option maxRecDepth 100000 in
theorem sl_X4_lost_42 {F : Nat} (hF : 73786976294838206464 ≤ F) {x1 : Int32} {x2 : Int32} {τ : Mem} (x1_1 : 0 ≤ x1.toInt) (x1_2 : x1.toInt ≤ 7) (x2_1 : 0 ≤ x2.toInt) (x2_2 : x2.toInt ≤ 2147483647) : ∀ (N : Nat) (x3 : Int32) (σ : Mem), wiM σ → (∀ k, k < 101 → σ k = τ k) → σ 101 15 = τ 101 15 → σ 101 34 = τ 101 34 → σ 101 1 = τ 101 1 → σ 101 30 = τ 101 30 → σ 101 18 = τ 101 18 → 1000 < x3.toInt + N → 1 ≤ x3.toInt → x3.toInt ≤ 1000 → sf (lp_X4_lost_42 F x1 x2 N x3 σ) (fun r s => wiM s ∧ (∀ k, k < 101 → s k = τ k) ∧ s 101 15 = τ 101 15 ∧ s 101 34 = τ 101 34 ∧ s 101 1 = τ 101 1 ∧ s 101 30 = τ 101 30 ∧ s 101 18 = τ 101 18 ∧ -2147483648 ≤ r.toInt ∧ r.toInt ≤ 2147483647) := by
  intro N
  induction N with
  | zero => intro x3 σ hI Fσ Of15_σ Of34_σ Of1_σ Of30_σ Of18_σ hN x3_1 x3_2; exfalso; omega
  | succ N ih =>
    intro x3 σ hI Fσ Of15_σ Of34_σ Of1_σ Of30_σ Of18_σ hN x3_1 x3_2
    rw [lp_X4_lost_42_s]
    refine sf_ite (fun c1 => ?_) (fun c1 => ?_)
    · have C1 : (999 : Int) < x3.toInt := ti_lt c1
      exact sf_ret ⟨hI, Fσ, Of15_σ, Of34_σ, Of1_σ, Of30_σ, Of18_σ, ti_lo _, ti_hi _⟩
    have C1 : x3.toInt ≤ (999 : Int) := ti_nlt c1
    refine sf_bnd (s_X4_ownerIn hF hI (by omega) (by omega) (by omega) (by omega)) (fun r2 u3 p4 => ?_)
    obtain ⟨Iu3, Fu3_, Of15_u3_, Of34_u3_, Of1_u3_, Of30_u3_, Of18_u3_, p4_1, p4_2⟩ := p4
    have Fu3 : ∀ k, k < 101 → u3 k = τ k := fun k hk => (Fu3_ k hk).trans (Fσ k hk)
    have Of15_u3 : u3 101 15 = τ 101 15 := Of15_u3_.trans Of15_σ
    have Of34_u3 : u3 101 34 = τ 101 34 := Of34_u3_.trans Of34_σ
    have Of1_u3 : u3 101 1 = τ 101 1 := Of1_u3_.trans Of1_σ
    have Of30_u3 : u3 101 30 = τ 101 30 := Of30_u3_.trans Of30_σ
    have Of18_u3 : u3 101 18 = τ 101 18 := Of18_u3_.trans Of18_σ
    have b5 := ti_lo x2
    have b6 := ti_hi x2
    refine sf_ite (fun c7 => ?_) (fun c7 => ?_)
    · have C7 : r2.toInt = x2.toInt := ti_eq c7
      have t8 : (x3 + (1 : Int32)).toInt = x3.toInt + (1 : Int) := ti_add (show -2147483648 ≤ x3.toInt + (1 : Int) by omega) (show x3.toInt + (1 : Int) ≤ 2147483647 by omega)
      exact ih _ _ Iu3 Fu3 Of15_u3 Of34_u3 Of1_u3 Of30_u3 Of18_u3 (by omega) (by omega) (by omega)
    have C7 : ¬ r2.toInt = x2.toInt := ti_ne c7
    exact sf_ret ⟨Iu3, Fu3, Of15_u3, Of34_u3, Of1_u3, Of30_u3, Of18_u3, ti_lo _, ti_hi _⟩
set_option maxHeartbeats 4000000 in
set_option maxRecDepth 100000 in
theorem s_X4_lost {F : Nat} (hF : 73786976294838206464 ≤ F) {x1 : Int32} {τ : Mem} (hI : wiM τ) : sf (f_X4_lost F x1 τ) (fun r s => wiM s ∧ (∀ k, k < 101 → s k = τ k) ∧ s 101 15 = τ 101 15 ∧ s 101 34 = τ 101 34 ∧ s 101 1 = τ 101 1 ∧ s 101 30 = τ 101 30 ∧ s 101 18 = τ 101 18 ∧ -2147483648 ≤ r.toInt ∧ r.toInt ≤ 2147483647) := by
  have Fτ : ∀ k, k < 101 → τ k = τ k := fun _ _ => rfl
  have Of15_τ : τ 101 15 = τ 101 15 := rfl
  have Of34_τ : τ 101 34 = τ 101 34 := rfl
  have Of1_τ : τ 101 1 = τ 101 1 := rfl
  have Of30_τ : τ 101 30 = τ 101 30 := rfl
  have Of18_τ : τ 101 18 = τ 101 18 := rfl
  rw [f_X4_lost_e]
  refine sf_lt (fun s1 hs1 => ?_)
  have Is1 : wiM s1 := by rw [hs1]; exact wm_fld hI (by decide) (by decide) (by decide) (by decide) (by decide) (by decide) (by decide)
  have Fs1 : ∀ k, k < 101 → s1 k = τ k := fun k hk => (show s1 k = τ k by rw [hs1, up2_k (by omega)]).trans (Fτ k hk)
  have Of15_s1 : s1 101 15 = τ 101 15 := (show s1 101 15 = τ 101 15 by rw [hs1, up2_i (by decide)]).trans Of15_τ
  have Of34_s1 : s1 101 34 = τ 101 34 := (show s1 101 34 = τ 101 34 by rw [hs1, up2_i (by decide)]).trans Of34_τ
  have Of1_s1 : s1 101 1 = τ 101 1 := (show s1 101 1 = τ 101 1 by rw [hs1, up2_i (by decide)]).trans Of1_τ
  have Of30_s1 : s1 101 30 = τ 101 30 := (show s1 101 30 = τ 101 30 by rw [hs1, up2_i (by decide)]).trans Of30_τ
  have Of18_s1 : s1 101 18 = τ 101 18 := (show s1 101 18 = τ 101 18 by rw [hs1, up2_i (by decide)]).trans Of18_τ
  have b2 := ti_lo x1
  have b3 := ti_hi x1
  refine sf_bnd (s_X4_isView hF Is1) (fun r4 u5 p6 => ?_)
  obtain ⟨e9, p6⟩ := p6
  have e9 := e9.symm
  subst e9
  rcases p6 with ⟨rfl, q7, q8⟩ | p6
  · refine sf_ite (fun c9 => ?_) (fun c9 => ?_)
    · have C9 : (1 : Int) = (0 : Int) := ti_eq c9
      exfalso; omega
    have C9 : ¬ (1 : Int) = (0 : Int) := ti_ne c9
    refine sf_bnd (s_X4_layBrings hF Is1) (fun r10 u11 p12 => ?_)
    obtain ⟨Iu11, Fu11_, Of15_u11_, Of34_u11_, Of1_u11_, Of30_u11_, Of18_u11_, -⟩ := p12
    have Fu11 : ∀ k, k < 101 → u11 k = τ k := fun k hk => (Fu11_ k hk).trans (Fs1 k hk)
    have Of15_u11 : u11 101 15 = τ 101 15 := Of15_u11_.trans Of15_s1
    have Of34_u11 : u11 101 34 = τ 101 34 := Of34_u11_.trans Of34_s1
    have Of1_u11 : u11 101 1 = τ 101 1 := Of1_u11_.trans Of1_s1
    have Of30_u11 : u11 101 30 = τ 101 30 := Of30_u11_.trans Of30_s1
    have Of18_u11 : u11 101 18 = τ 101 18 := Of18_u11_.trans Of18_s1
    refine sf_bnd (s_X4_ownerIn hF Iu11 (by omega) (by omega) (by decide) (by decide)) (fun r13 u14 p15 => ?_)
    obtain ⟨Iu14, Fu14_, Of15_u14_, Of34_u14_, Of1_u14_, Of30_u14_, Of18_u14_, p15_1, p15_2⟩ := p15
    have Fu14 : ∀ k, k < 101 → u14 k = τ k := fun k hk => (Fu14_ k hk).trans (Fu11 k hk)
    have Of15_u14 : u14 101 15 = τ 101 15 := Of15_u14_.trans Of15_u11
    have Of34_u14 : u14 101 34 = τ 101 34 := Of34_u14_.trans Of34_u11
    have Of1_u14 : u14 101 1 = τ 101 1 := Of1_u14_.trans Of1_u11
    have Of30_u14 : u14 101 30 = τ 101 30 := Of30_u14_.trans Of30_u11
    have Of18_u14 : u14 101 18 = τ 101 18 := Of18_u14_.trans Of18_u11
    refine sf_ite (fun c16 => ?_) (fun c16 => ?_)
    · have C16 : (0 : Int) ≤ r13.toInt := ti_le c16
      have l_1 : (1 : Int32).toInt = 1 := rfl
      exact sl_X4_lost_42 hF (by omega) (by omega) (by omega) (by omega) _ _ _ Iu14 Fu14 Of15_u14 Of34_u14 Of1_u14 Of30_u14 Of18_u14 (by omega) (by decide) (by decide)
    have C16 : r13.toInt < (0 : Int) := ti_nle c16
    refine sf_bnd (s_X4_refuse hF Iu14 (by decide) (by decide)) (fun r17 u18 p19 => ?_)
    obtain ⟨Iu18, Fu18_, Of15_u18_, Of34_u18_, Of1_u18_, Of30_u18_, Of18_u18_, p19_1, p19_2, p19_x0⟩ := p19
    have Fu18 : ∀ k, k < 101 → u18 k = τ k := fun k hk => (Fu18_ k hk).trans (Fu14 k hk)
    have Of15_u18 : u18 101 15 = τ 101 15 := Of15_u18_.trans Of15_u14
    have Of34_u18 : u18 101 34 = τ 101 34 := Of34_u18_.trans Of34_u14
    have Of1_u18 : u18 101 1 = τ 101 1 := Of1_u18_.trans Of1_u14
    have Of30_u18 : u18 101 30 = τ 101 30 := Of30_u18_.trans Of30_u14
    have Of18_u18 : u18 101 18 = τ 101 18 := Of18_u18_.trans Of18_u14
    replace p19_x0 : r17.toInt = (-3 : Int) := p19_x0
    exact sf_ret ⟨Iu18, Fu18, Of15_u18, Of34_u18, Of1_u18, Of30_u18, Of18_u18, ti_lo _, ti_hi _⟩
  obtain ⟨rfl, q20⟩ := p6
  refine sf_ite (fun c21 => ?_) (fun c21 => ?_)
  · have C21 : (0 : Int) = (0 : Int) := ti_eq c21
    refine sf_bnd (s_X4_refuse hF Is1 (by decide) (by decide)) (fun r22 u23 p24 => ?_)
    obtain ⟨Iu23, Fu23_, Of15_u23_, Of34_u23_, Of1_u23_, Of30_u23_, Of18_u23_, p24_1, p24_2, p24_x0⟩ := p24
    have Fu23 : ∀ k, k < 101 → u23 k = τ k := fun k hk => (Fu23_ k hk).trans (Fs1 k hk)
    have Of15_u23 : u23 101 15 = τ 101 15 := Of15_u23_.trans Of15_s1
    have Of34_u23 : u23 101 34 = τ 101 34 := Of34_u23_.trans Of34_s1
    have Of1_u23 : u23 101 1 = τ 101 1 := Of1_u23_.trans Of1_s1
    have Of30_u23 : u23 101 30 = τ 101 30 := Of30_u23_.trans Of30_s1
    have Of18_u23 : u23 101 18 = τ 101 18 := Of18_u23_.trans Of18_s1
    replace p24_x0 : r22.toInt = (-1 : Int) := p24_x0
    exact sf_ret ⟨Iu23, Fu23, Of15_u23, Of34_u23, Of1_u23, Of30_u23, Of18_u23, ti_lo _, ti_hi _⟩
  have C21 : ¬ (0 : Int) = (0 : Int) := ti_ne c21
  exfalso; omega
set_option maxHeartbeats 4000000 in
set_option maxRecDepth 100000 in
theorem sl_X4_richestIn_5 {F : Nat} (hF : 73786976294838206464 ≤ F) {x1 : Int32} {τ : Mem} (x1_1 : 0 ≤ x1.toInt) (x1_2 : x1.toInt ≤ 999) : ∀ (N : Nat) (x2 : Int32) (x3 : Int32) (σ : Mem), wiM σ → (∀ k, k < 101 → σ k = τ k) → σ 101 15 = τ 101 15 → σ 101 34 = τ 101 34 → σ 101 1 = τ 101 1 → σ 101 30 = τ 101 30 → σ 101 18 = τ 101 18 → 5 < x3.toInt + N → -9 ≤ x2.toInt → x2.toInt ≤ 4 → 0 ≤ x3.toInt → x3.toInt ≤ 5 → sf (lp_X4_richestIn_5 F x1 N x2 x3 σ) (fun r s => wiM s ∧ (∀ k, k < 101 → s k = τ k) ∧ s 101 15 = τ 101 15 ∧ s 101 34 = τ 101 34 ∧ s 101 1 = τ 101 1 ∧ s 101 30 = τ 101 30 ∧ s 101 18 = τ 101 18 ∧ -9 ≤ r.toInt ∧ r.toInt ≤ 4) := by
  intro N
  induction N with
  | zero => intro x2 x3 σ hI Fσ Of15_σ Of34_σ Of1_σ Of30_σ Of18_σ hN x2_1 x2_2 x3_1 x3_2; exfalso; omega
  | succ N ih =>
    intro x2 x3 σ hI Fσ Of15_σ Of34_σ Of1_σ Of30_σ Of18_σ hN x2_1 x2_2 x3_1 x3_2
    rw [lp_X4_richestIn_5_s]
    have m1 := wx_X4_3 hI
    refine sf_ite (fun c2 => ?_) (fun c2 => ?_)
    · have C2 : (σ 101 3).toInt ≤ x3.toInt := ti_le c2
      exact sf_ret ⟨hI, Fσ, Of15_σ, Of34_σ, Of1_σ, Of30_σ, Of18_σ, by omega, by omega⟩
    have C2 : x3.toInt < (σ 101 3).toInt := ti_nle c2
    refine sf_ite (fun c3 => ?_) (fun c3 => ?_)
    · have C3 : x2.toInt < (0 : Int) := ti_lt c3
      rw [j_X4_richestIn_32_e]
      rw [j_X4_richestIn_37_e]
      have t4 : (x3 + (1 : Int32)).toInt = x3.toInt + (1 : Int) := ti_add (show -2147483648 ≤ x3.toInt + (1 : Int) by omega) (show x3.toInt + (1 : Int) ≤ 2147483647 by omega)
      exact ih _ _ _ hI Fσ Of15_σ Of34_σ Of1_σ Of30_σ Of18_σ (by omega) (by omega) (by omega) (by omega) (by omega)
    have C3 : (0 : Int) ≤ x2.toInt := ti_nlt c3
    refine sf_bnd (s_X4_worthIn hF hI (by omega) (by omega) (by omega) (by omega)) (fun r5 u6 p7 => ?_)
    obtain ⟨Iu6, Fu6_, Of15_u6_, Of34_u6_, Of1_u6_, Of30_u6_, Of18_u6_, p7_1, p7_2⟩ := p7
    have Fu6 : ∀ k, k < 101 → u6 k = τ k := fun k hk => (Fu6_ k hk).trans (Fσ k hk)
    have Of15_u6 : u6 101 15 = τ 101 15 := Of15_u6_.trans Of15_σ
    have Of34_u6 : u6 101 34 = τ 101 34 := Of34_u6_.trans Of34_σ
    have Of1_u6 : u6 101 1 = τ 101 1 := Of1_u6_.trans Of1_σ
    have Of30_u6 : u6 101 30 = τ 101 30 := Of30_u6_.trans Of30_σ
    have Of18_u6 : u6 101 18 = τ 101 18 := Of18_u6_.trans Of18_σ
    refine sf_bnd (s_X4_worthIn hF Iu6 (by omega) (by omega) (by omega) (by omega)) (fun r8 u9 p10 => ?_)
    obtain ⟨Iu9, Fu9_, Of15_u9_, Of34_u9_, Of1_u9_, Of30_u9_, Of18_u9_, p10_1, p10_2⟩ := p10
    have Fu9 : ∀ k, k < 101 → u9 k = τ k := fun k hk => (Fu9_ k hk).trans (Fu6 k hk)
    have Of15_u9 : u9 101 15 = τ 101 15 := Of15_u9_.trans Of15_u6
    have Of34_u9 : u9 101 34 = τ 101 34 := Of34_u9_.trans Of34_u6
    have Of1_u9 : u9 101 1 = τ 101 1 := Of1_u9_.trans Of1_u6
    have Of30_u9 : u9 101 30 = τ 101 30 := Of30_u9_.trans Of30_u6
    have Of18_u9 : u9 101 18 = τ 101 18 := Of18_u9_.trans Of18_u6
    have b11 := ti_lo r5
    have b12 := ti_hi r5
    have b13 := ti_lo r8
    have b14 := ti_hi r8
    refine sf_ite (fun c15 => ?_) (fun c15 => ?_)
    · have C15 : r5.toInt ≤ r8.toInt := ti_le c15
      rw [j_X4_richestIn_37_e]
      have t16 : (x3 + (1 : Int32)).toInt = x3.toInt + (1 : Int) := ti_add (show -2147483648 ≤ x3.toInt + (1 : Int) by omega) (show x3.toInt + (1 : Int) ≤ 2147483647 by omega)
      exact ih _ _ _ Iu9 Fu9 Of15_u9 Of34_u9 Of1_u9 Of30_u9 Of18_u9 (by omega) (by omega) (by omega) (by omega) (by omega)
    have C15 : r8.toInt < r5.toInt := ti_nle c15
    rw [j_X4_richestIn_32_e]
    rw [j_X4_richestIn_37_e]
    have t17 : (x3 + (1 : Int32)).toInt = x3.toInt + (1 : Int) := ti_add (show -2147483648 ≤ x3.toInt + (1 : Int) by omega) (show x3.toInt + (1 : Int) ≤ 2147483647 by omega)
    exact ih _ _ _ Iu9 Fu9 Of15_u9 Of34_u9 Of1_u9 Of30_u9 Of18_u9 (by omega) (by omega) (by omega) (by omega) (by omega)
set_option maxHeartbeats 4000000 in
set_option maxRecDepth 100000 in
theorem s_X4_richestIn {F : Nat} (hF : 73786976294838206464 ≤ F) {x1 : Int32} {τ : Mem} (hI : wiM τ) (x1_1 : 0 ≤ x1.toInt) (x1_2 : x1.toInt ≤ 999) : sf (f_X4_richestIn F x1 τ) (fun r s => wiM s ∧ (∀ k, k < 101 → s k = τ k) ∧ s 101 15 = τ 101 15 ∧ s 101 34 = τ 101 34 ∧ s 101 1 = τ 101 1 ∧ s 101 30 = τ 101 30 ∧ s 101 18 = τ 101 18 ∧ -9 ≤ r.toInt ∧ r.toInt ≤ 4) := by
  have Fτ : ∀ k, k < 101 → τ k = τ k := fun _ _ => rfl
  have Of15_τ : τ 101 15 = τ 101 15 := rfl
  have Of34_τ : τ 101 34 = τ 101 34 := rfl
  have Of1_τ : τ 101 1 = τ 101 1 := rfl
  have Of30_τ : τ 101 30 = τ 101 30 := rfl
  have Of18_τ : τ 101 18 = τ 101 18 := rfl
  rw [f_X4_richestIn_e]
  have l_0 : (0 : Int32).toInt = 0 := rfl
  exact sl_X4_richestIn_5 hF (by omega) (by omega) _ _ _ _ hI Fτ Of15_τ Of34_τ Of1_τ Of30_τ Of18_τ (by omega) (by decide) (by decide) (by decide) (by decide)
set_option maxHeartbeats 4000000 in
set_option maxRecDepth 100000 in
theorem s_X4_richest {F : Nat} (hF : 73786976294838206464 ≤ F) {x1 : Int32} {x2 : Int32} {τ : Mem} (hI : wiM τ) : sf (f_X4_richest F x1 x2 τ) (fun r s => wiM s ∧ (∀ k, k < 101 → s k = τ k) ∧ s 101 15 = τ 101 15 ∧ s 101 34 = τ 101 34 ∧ s 101 1 = τ 101 1 ∧ s 101 30 = τ 101 30 ∧ s 101 18 = τ 101 18 ∧ -2147483648 ≤ r.toInt ∧ r.toInt ≤ 2147483647) := by
  have Fτ : ∀ k, k < 101 → τ k = τ k := fun _ _ => rfl
  have Of15_τ : τ 101 15 = τ 101 15 := rfl
  have Of34_τ : τ 101 34 = τ 101 34 := rfl
  have Of1_τ : τ 101 1 = τ 101 1 := rfl
  have Of30_τ : τ 101 30 = τ 101 30 := rfl
  have Of18_τ : τ 101 18 = τ 101 18 := rfl
  rw [f_X4_richest_e]
  refine sf_lt (fun s1 hs1 => ?_)
  have Is1 : wiM s1 := by rw [hs1]; exact wm_fld hI (by decide) (by decide) (by decide) (by decide) (by decide) (by decide) (by decide)
  have Fs1 : ∀ k, k < 101 → s1 k = τ k := fun k hk => (show s1 k = τ k by rw [hs1, up2_k (by omega)]).trans (Fτ k hk)
  have Of15_s1 : s1 101 15 = τ 101 15 := (show s1 101 15 = τ 101 15 by rw [hs1, up2_i (by decide)]).trans Of15_τ
  have Of34_s1 : s1 101 34 = τ 101 34 := (show s1 101 34 = τ 101 34 by rw [hs1, up2_i (by decide)]).trans Of34_τ
  have Of1_s1 : s1 101 1 = τ 101 1 := (show s1 101 1 = τ 101 1 by rw [hs1, up2_i (by decide)]).trans Of1_τ
  have Of30_s1 : s1 101 30 = τ 101 30 := (show s1 101 30 = τ 101 30 by rw [hs1, up2_i (by decide)]).trans Of30_τ
  have Of18_s1 : s1 101 18 = τ 101 18 := (show s1 101 18 = τ 101 18 by rw [hs1, up2_i (by decide)]).trans Of18_τ
  refine sf_in ?_
  rw [f_X4_wrongNumber_e]
  have b2 := ti_lo x1
  have b3 := ti_hi x1
  refine sf_ite (fun c4 => ?_) (fun c4 => ?_)
  · have C4 : (0 : Int) ≤ x1.toInt := ti_le c4
    refine sf_ite (fun c5 => ?_) (fun c5 => ?_)
    · have C5 : x1.toInt ≤ (999 : Int) := ti_le c5
      refine sf_ret ?_
      refine sf_in ?_
      rw [f_X4_wrongBit_e]
      refine sf_ite (fun c6 => ?_) (fun c6 => ?_)
      · have C6 : (0 : Int) = (0 : Int) := ti_eq c6
        refine sf_in ?_
        rw [f_X4_in_e]
        have b7 := ti_lo x2
        have b8 := ti_hi x2
        have b9 := ti_lo (lg_cmp (Int32.toInt64 x2) (0 : Int64))
        have b10 := ti_hi (lg_cmp (Int32.toInt64 x2) (0 : Int64))
        refine sf_ite (fun c11 => ?_) (fun c11 => ?_)
        · have C11 : (lg_cmp (Int32.toInt64 x2) (0 : Int64)).toInt < (0 : Int) := ti_lt c11
          have L11 : x2.toInt < (0 : Int) := by have q := lg_ltl c11; (repeat (rw [Int32.toInt_toInt64] at q)); exact q
          rw [j_X4_in_17_e]
          refine sf_ret ?_
          refine sf_ite (fun c12 => ?_) (fun c12 => ?_)
          · have C12 : (0 : Int) = (0 : Int) := ti_eq c12
            refine sf_ret ?_
            refine sf_ite (fun c13 => ?_) (fun c13 => ?_)
            · have C13 : (0 : Int) ≤ (-2 : Int) := ti_le c13
              exfalso; omega
            have C13 : (-2 : Int) < (0 : Int) := ti_nle c13
            refine sf_bnd (s_X4_refuse hF Is1 (by decide) (by decide)) (fun r14 u15 p16 => ?_)
            obtain ⟨Iu15, Fu15_, Of15_u15_, Of34_u15_, Of1_u15_, Of30_u15_, Of18_u15_, p16_1, p16_2, p16_x0⟩ := p16
            have Fu15 : ∀ k, k < 101 → u15 k = τ k := fun k hk => (Fu15_ k hk).trans (Fs1 k hk)
            have Of15_u15 : u15 101 15 = τ 101 15 := Of15_u15_.trans Of15_s1
            have Of34_u15 : u15 101 34 = τ 101 34 := Of34_u15_.trans Of34_s1
            have Of1_u15 : u15 101 1 = τ 101 1 := Of1_u15_.trans Of1_s1
            have Of30_u15 : u15 101 30 = τ 101 30 := Of30_u15_.trans Of30_s1
            have Of18_u15 : u15 101 18 = τ 101 18 := Of18_u15_.trans Of18_s1
            replace p16_x0 : r14.toInt = (-2 : Int) := p16_x0
            exact sf_ret ⟨Iu15, Fu15, Of15_u15, Of34_u15, Of1_u15, Of30_u15, Of18_u15, ti_lo _, ti_hi _⟩
          have C12 : ¬ (0 : Int) = (0 : Int) := ti_ne c12
          exfalso; omega
        have C11 : (0 : Int) ≤ (lg_cmp (Int32.toInt64 x2) (0 : Int64)).toInt := ti_nlt c11
        have L11 : (0 : Int) ≤ x2.toInt := by have q := lg_ltln c11; (repeat (rw [Int32.toInt_toInt64] at q)); exact q
        have b17 := ti_lo (lg_cmp (Int32.toInt64 x2) (Int32.toInt64 (1 : Int32)))
        have b18 := ti_hi (lg_cmp (Int32.toInt64 x2) (Int32.toInt64 (1 : Int32)))
        refine sf_ite (fun c19 => ?_) (fun c19 => ?_)
        · have C19 : (0 : Int) < (lg_cmp (Int32.toInt64 x2) (Int32.toInt64 (1 : Int32))).toInt := ti_lt c19
          have L19 : (1 : Int) < x2.toInt := by have q := lg_ltr c19; (repeat (rw [Int32.toInt_toInt64] at q)); exact q
          rw [j_X4_in_17_e]
          refine sf_ret ?_
          refine sf_ite (fun c20 => ?_) (fun c20 => ?_)
          · have C20 : (0 : Int) = (0 : Int) := ti_eq c20
            refine sf_ret ?_
            refine sf_ite (fun c21 => ?_) (fun c21 => ?_)
            · have C21 : (0 : Int) ≤ (-2 : Int) := ti_le c21
              exfalso; omega
            have C21 : (-2 : Int) < (0 : Int) := ti_nle c21
            refine sf_bnd (s_X4_refuse hF Is1 (by decide) (by decide)) (fun r22 u23 p24 => ?_)
            obtain ⟨Iu23, Fu23_, Of15_u23_, Of34_u23_, Of1_u23_, Of30_u23_, Of18_u23_, p24_1, p24_2, p24_x0⟩ := p24
            have Fu23 : ∀ k, k < 101 → u23 k = τ k := fun k hk => (Fu23_ k hk).trans (Fs1 k hk)
            have Of15_u23 : u23 101 15 = τ 101 15 := Of15_u23_.trans Of15_s1
            have Of34_u23 : u23 101 34 = τ 101 34 := Of34_u23_.trans Of34_s1
            have Of1_u23 : u23 101 1 = τ 101 1 := Of1_u23_.trans Of1_s1
            have Of30_u23 : u23 101 30 = τ 101 30 := Of30_u23_.trans Of30_s1
            have Of18_u23 : u23 101 18 = τ 101 18 := Of18_u23_.trans Of18_s1
            replace p24_x0 : r22.toInt = (-2 : Int) := p24_x0
            exact sf_ret ⟨Iu23, Fu23, Of15_u23, Of34_u23, Of1_u23, Of30_u23, Of18_u23, ti_lo _, ti_hi _⟩
          have C20 : ¬ (0 : Int) = (0 : Int) := ti_ne c20
          exfalso; omega
        have C19 : (lg_cmp (Int32.toInt64 x2) (Int32.toInt64 (1 : Int32))).toInt ≤ (0 : Int) := ti_nlt c19
        have L19 : x2.toInt ≤ (1 : Int) := by have q := lg_ltrn c19; (repeat (rw [Int32.toInt_toInt64] at q)); exact q
        refine sf_ret ?_
        refine sf_ite (fun c25 => ?_) (fun c25 => ?_)
        · have C25 : (1 : Int) = (0 : Int) := ti_eq c25
          exfalso; omega
        have C25 : ¬ (1 : Int) = (0 : Int) := ti_ne c25
        rw [j_X4_wrongBit_20_e]
        refine sf_ret ?_
        refine sf_ite (fun c26 => ?_) (fun c26 => ?_)
        · have C26 : (0 : Int) ≤ (0 : Int) := ti_le c26
          refine sf_bnd (s_X4_layBrings hF Is1) (fun r27 u28 p29 => ?_)
          obtain ⟨Iu28, Fu28_, Of15_u28_, Of34_u28_, Of1_u28_, Of30_u28_, Of18_u28_, -⟩ := p29
          have Fu28 : ∀ k, k < 101 → u28 k = τ k := fun k hk => (Fu28_ k hk).trans (Fs1 k hk)
          have Of15_u28 : u28 101 15 = τ 101 15 := Of15_u28_.trans Of15_s1
          have Of34_u28 : u28 101 34 = τ 101 34 := Of34_u28_.trans Of34_s1
          have Of1_u28 : u28 101 1 = τ 101 1 := Of1_u28_.trans Of1_s1
          have Of30_u28 : u28 101 30 = τ 101 30 := Of30_u28_.trans Of30_s1
          have Of18_u28 : u28 101 18 = τ 101 18 := Of18_u28_.trans Of18_s1
          refine sf_bnd (s_X4_richestIn hF Iu28 (by omega) (by omega)) (fun r30 u31 p32 => ?_)
          obtain ⟨Iu31, Fu31_, Of15_u31_, Of34_u31_, Of1_u31_, Of30_u31_, Of18_u31_, p32_1, p32_2⟩ := p32
          have Fu31 : ∀ k, k < 101 → u31 k = τ k := fun k hk => (Fu31_ k hk).trans (Fu28 k hk)
          have Of15_u31 : u31 101 15 = τ 101 15 := Of15_u31_.trans Of15_u28
          have Of34_u31 : u31 101 34 = τ 101 34 := Of34_u31_.trans Of34_u28
          have Of1_u31 : u31 101 1 = τ 101 1 := Of1_u31_.trans Of1_u28
          have Of30_u31 : u31 101 30 = τ 101 30 := Of30_u31_.trans Of30_u28
          have Of18_u31 : u31 101 18 = τ 101 18 := Of18_u31_.trans Of18_u28
          refine sf_ite (fun c33 => ?_) (fun c33 => ?_)
          · have C33 : x2.toInt = (0 : Int) := ti_eq c33
            rw [j_X4_richest_49_e]
            exact sf_ret ⟨Iu31, Fu31, Of15_u31, Of34_u31, Of1_u31, Of30_u31, Of18_u31, ti_lo _, ti_hi _⟩
          have C33 : ¬ x2.toInt = (0 : Int) := ti_ne c33
          refine sf_ite (fun c34 => ?_) (fun c34 => ?_)
          · have C34 : (0 : Int) ≤ r30.toInt := ti_le c34
            refine sf_bnd (s_X4_worthIn hF Iu31 (by omega) (by omega) (by omega) (by omega)) (fun r35 u36 p37 => ?_)
            obtain ⟨Iu36, Fu36_, Of15_u36_, Of34_u36_, Of1_u36_, Of30_u36_, Of18_u36_, p37_1, p37_2⟩ := p37
            have Fu36 : ∀ k, k < 101 → u36 k = τ k := fun k hk => (Fu36_ k hk).trans (Fu31 k hk)
            have Of15_u36 : u36 101 15 = τ 101 15 := Of15_u36_.trans Of15_u31
            have Of34_u36 : u36 101 34 = τ 101 34 := Of34_u36_.trans Of34_u31
            have Of1_u36 : u36 101 1 = τ 101 1 := Of1_u36_.trans Of1_u31
            have Of30_u36 : u36 101 30 = τ 101 30 := Of30_u36_.trans Of30_u31
            have Of18_u36 : u36 101 18 = τ 101 18 := Of18_u36_.trans Of18_u31
            have b38 := ti_lo r35
            have b39 := ti_hi r35
            exact sf_ret ⟨Iu36, Fu36, Of15_u36, Of34_u36, Of1_u36, Of30_u36, Of18_u36, ti_lo _, ti_hi _⟩
          have C34 : r30.toInt < (0 : Int) := ti_nle c34
          rw [j_X4_richest_49_e]
          exact sf_ret ⟨Iu31, Fu31, Of15_u31, Of34_u31, Of1_u31, Of30_u31, Of18_u31, ti_lo _, ti_hi _⟩
        have C26 : (0 : Int) < (0 : Int) := ti_nle c26
        exfalso; omega
      have C6 : ¬ (0 : Int) = (0 : Int) := ti_ne c6
      exfalso; omega
    have C5 : (999 : Int) < x1.toInt := ti_nle c5
    refine sf_ret ?_
    refine sf_in ?_
    rw [f_X4_wrongBit_e]
    refine sf_ite (fun c40 => ?_) (fun c40 => ?_)
    · have C40 : (-6 : Int) = (0 : Int) := ti_eq c40
      exfalso; omega
    have C40 : ¬ (-6 : Int) = (0 : Int) := ti_ne c40
    rw [j_X4_wrongBit_20_e]
    refine sf_ret ?_
    refine sf_ite (fun c41 => ?_) (fun c41 => ?_)
    · have C41 : (0 : Int) ≤ (-6 : Int) := ti_le c41
      exfalso; omega
    have C41 : (-6 : Int) < (0 : Int) := ti_nle c41
    refine sf_bnd (s_X4_refuse hF Is1 (by decide) (by decide)) (fun r42 u43 p44 => ?_)
    obtain ⟨Iu43, Fu43_, Of15_u43_, Of34_u43_, Of1_u43_, Of30_u43_, Of18_u43_, p44_1, p44_2, p44_x0⟩ := p44
    have Fu43 : ∀ k, k < 101 → u43 k = τ k := fun k hk => (Fu43_ k hk).trans (Fs1 k hk)
    have Of15_u43 : u43 101 15 = τ 101 15 := Of15_u43_.trans Of15_s1
    have Of34_u43 : u43 101 34 = τ 101 34 := Of34_u43_.trans Of34_s1
    have Of1_u43 : u43 101 1 = τ 101 1 := Of1_u43_.trans Of1_s1
    have Of30_u43 : u43 101 30 = τ 101 30 := Of30_u43_.trans Of30_s1
    have Of18_u43 : u43 101 18 = τ 101 18 := Of18_u43_.trans Of18_s1
    replace p44_x0 : r42.toInt = (-6 : Int) := p44_x0
    exact sf_ret ⟨Iu43, Fu43, Of15_u43, Of34_u43, Of1_u43, Of30_u43, Of18_u43, ti_lo _, ti_hi _⟩
  have C4 : x1.toInt < (0 : Int) := ti_nle c4
  refine sf_ret ?_
  refine sf_in ?_
  rw [f_X4_wrongBit_e]
  refine sf_ite (fun c45 => ?_) (fun c45 => ?_)
  · have C45 : (-4 : Int) = (0 : Int) := ti_eq c45
    exfalso; omega
  have C45 : ¬ (-4 : Int) = (0 : Int) := ti_ne c45
  rw [j_X4_wrongBit_20_e]
  refine sf_ret ?_
  refine sf_ite (fun c46 => ?_) (fun c46 => ?_)
  · have C46 : (0 : Int) ≤ (-4 : Int) := ti_le c46
    exfalso; omega
  have C46 : (-4 : Int) < (0 : Int) := ti_nle c46
  refine sf_bnd (s_X4_refuse hF Is1 (by decide) (by decide)) (fun r47 u48 p49 => ?_)
  obtain ⟨Iu48, Fu48_, Of15_u48_, Of34_u48_, Of1_u48_, Of30_u48_, Of18_u48_, p49_1, p49_2, p49_x0⟩ := p49
  have Fu48 : ∀ k, k < 101 → u48 k = τ k := fun k hk => (Fu48_ k hk).trans (Fs1 k hk)
  have Of15_u48 : u48 101 15 = τ 101 15 := Of15_u48_.trans Of15_s1
  have Of34_u48 : u48 101 34 = τ 101 34 := Of34_u48_.trans Of34_s1
  have Of1_u48 : u48 101 1 = τ 101 1 := Of1_u48_.trans Of1_s1
  have Of30_u48 : u48 101 30 = τ 101 30 := Of30_u48_.trans Of30_s1
  have Of18_u48 : u48 101 18 = τ 101 18 := Of18_u48_.trans Of18_s1
  replace p49_x0 : r47.toInt = (-4 : Int) := p49_x0
  exact sf_ret ⟨Iu48, Fu48, Of15_u48, Of34_u48, Of1_u48, Of30_u48, Of18_u48, ti_lo _, ti_hi _⟩
set_option maxHeartbeats 4000000 in
set_option maxRecDepth 100000 in
theorem s_X4_staredOut {F : Nat} (hF : 73786976294838206464 ≤ F) {x1 : Int32} {x2 : Int32} {x3 : Int32} {τ : Mem} (hI : wiM τ) : sf (f_X4_staredOut F x1 x2 x3 τ) (fun r s => wiM s ∧ (∀ k, k < 101 → s k = τ k) ∧ s 101 15 = τ 101 15 ∧ s 101 34 = τ 101 34 ∧ s 101 1 = τ 101 1 ∧ s 101 30 = τ 101 30 ∧ s 101 18 = τ 101 18 ∧ -2147483648 ≤ r.toInt ∧ r.toInt ≤ 2147483647) := by
  have Fτ : ∀ k, k < 101 → τ k = τ k := fun _ _ => rfl
  have Of15_τ : τ 101 15 = τ 101 15 := rfl
  have Of34_τ : τ 101 34 = τ 101 34 := rfl
  have Of1_τ : τ 101 1 = τ 101 1 := rfl
  have Of30_τ : τ 101 30 = τ 101 30 := rfl
  have Of18_τ : τ 101 18 = τ 101 18 := rfl
  rw [f_X4_staredOut_e]
  refine sf_lt (fun s1 hs1 => ?_)
  have Is1 : wiM s1 := by rw [hs1]; exact wm_fld hI (by decide) (by decide) (by decide) (by decide) (by decide) (by decide) (by decide)
  have Fs1 : ∀ k, k < 101 → s1 k = τ k := fun k hk => (show s1 k = τ k by rw [hs1, up2_k (by omega)]).trans (Fτ k hk)
  have Of15_s1 : s1 101 15 = τ 101 15 := (show s1 101 15 = τ 101 15 by rw [hs1, up2_i (by decide)]).trans Of15_τ
  have Of34_s1 : s1 101 34 = τ 101 34 := (show s1 101 34 = τ 101 34 by rw [hs1, up2_i (by decide)]).trans Of34_τ
  have Of1_s1 : s1 101 1 = τ 101 1 := (show s1 101 1 = τ 101 1 by rw [hs1, up2_i (by decide)]).trans Of1_τ
  have Of30_s1 : s1 101 30 = τ 101 30 := (show s1 101 30 = τ 101 30 by rw [hs1, up2_i (by decide)]).trans Of30_τ
  have Of18_s1 : s1 101 18 = τ 101 18 := (show s1 101 18 = τ 101 18 by rw [hs1, up2_i (by decide)]).trans Of18_τ
  have b2 := ti_lo x1
  have b3 := ti_hi x1
  have b4 := ti_lo x2
  have b5 := ti_hi x2
  refine sf_bnd (s_X4_areTwo hF Is1) (fun r6 u7 p8 => ?_)
  obtain ⟨e9, p8⟩ := p8
  have e9 := e9.symm
  subst e9
  rcases p8 with ⟨rfl, q9, q10, q11, q12⟩ | p8
  · refine sf_ite (fun c13 => ?_) (fun c13 => ?_)
    · have C13 : (1 : Int) = (0 : Int) := ti_eq c13
      exfalso; omega
    have C13 : ¬ (1 : Int) = (0 : Int) := ti_ne c13
    refine sf_in ?_
    rw [f_X4_wrongNumber_e]
    have b14 := ti_lo x3
    have b15 := ti_hi x3
    refine sf_ite (fun c16 => ?_) (fun c16 => ?_)
    · have C16 : (0 : Int) ≤ x3.toInt := ti_le c16
      refine sf_ite (fun c17 => ?_) (fun c17 => ?_)
      · have C17 : x3.toInt ≤ (999 : Int) := ti_le c17
        refine sf_ret ?_
        rw [j_X4_staredOut_26_e]
        refine sf_ite (fun c18 => ?_) (fun c18 => ?_)
        · have C18 : (0 : Int) ≤ (0 : Int) := ti_le c18
          refine sf_bnd (s_X4_layBrings hF Is1) (fun r19 u20 p21 => ?_)
          obtain ⟨Iu20, Fu20_, Of15_u20_, Of34_u20_, Of1_u20_, Of30_u20_, Of18_u20_, -⟩ := p21
          have Fu20 : ∀ k, k < 101 → u20 k = τ k := fun k hk => (Fu20_ k hk).trans (Fs1 k hk)
          have Of15_u20 : u20 101 15 = τ 101 15 := Of15_u20_.trans Of15_s1
          have Of34_u20 : u20 101 34 = τ 101 34 := Of34_u20_.trans Of34_s1
          have Of1_u20 : u20 101 1 = τ 101 1 := Of1_u20_.trans Of1_s1
          have Of30_u20 : u20 101 30 = τ 101 30 := Of30_u20_.trans Of30_s1
          have Of18_u20 : u20 101 18 = τ 101 18 := Of18_u20_.trans Of18_s1
          refine sf_bnd (s_X4_viewsIn hF Iu20 (by omega) (by omega) (by decide) (by decide)) (fun r22 u23 p24 => ?_)
          obtain ⟨Iu23, Fu23_, Of15_u23_, Of34_u23_, Of1_u23_, Of30_u23_, Of18_u23_, p24_1, p24_2⟩ := p24
          have Fu23 : ∀ k, k < 101 → u23 k = τ k := fun k hk => (Fu23_ k hk).trans (Fu20 k hk)
          have Of15_u23 : u23 101 15 = τ 101 15 := Of15_u23_.trans Of15_u20
          have Of34_u23 : u23 101 34 = τ 101 34 := Of34_u23_.trans Of34_u20
          have Of1_u23 : u23 101 1 = τ 101 1 := Of1_u23_.trans Of1_u20
          have Of30_u23 : u23 101 30 = τ 101 30 := Of30_u23_.trans Of30_u20
          have Of18_u23 : u23 101 18 = τ 101 18 := Of18_u23_.trans Of18_u20
          refine sf_bnd (s_X4_viewsIn hF Iu23 (by omega) (by omega) (by omega) (by omega)) (fun r25 u26 p27 => ?_)
          obtain ⟨Iu26, Fu26_, Of15_u26_, Of34_u26_, Of1_u26_, Of30_u26_, Of18_u26_, p27_1, p27_2⟩ := p27
          have Fu26 : ∀ k, k < 101 → u26 k = τ k := fun k hk => (Fu26_ k hk).trans (Fu23 k hk)
          have Of15_u26 : u26 101 15 = τ 101 15 := Of15_u26_.trans Of15_u23
          have Of34_u26 : u26 101 34 = τ 101 34 := Of34_u26_.trans Of34_u23
          have Of1_u26 : u26 101 1 = τ 101 1 := Of1_u26_.trans Of1_u23
          have Of30_u26 : u26 101 30 = τ 101 30 := Of30_u26_.trans Of30_u23
          have Of18_u26 : u26 101 18 = τ 101 18 := Of18_u26_.trans Of18_u23
          have b28 := ti_lo (r22 &&& r25)
          have b29 := ti_hi (r22 &&& r25)
          exact sf_ret ⟨Iu26, Fu26, Of15_u26, Of34_u26, Of1_u26, Of30_u26, Of18_u26, ti_lo _, ti_hi _⟩
        have C18 : (0 : Int) < (0 : Int) := ti_nle c18
        exfalso; omega
      have C17 : (999 : Int) < x3.toInt := ti_nle c17
      refine sf_ret ?_
      rw [j_X4_staredOut_26_e]
      refine sf_ite (fun c30 => ?_) (fun c30 => ?_)
      · have C30 : (0 : Int) ≤ (-6 : Int) := ti_le c30
        exfalso; omega
      have C30 : (-6 : Int) < (0 : Int) := ti_nle c30
      refine sf_bnd (s_X4_refuse hF Is1 (by decide) (by decide)) (fun r31 u32 p33 => ?_)
      obtain ⟨Iu32, Fu32_, Of15_u32_, Of34_u32_, Of1_u32_, Of30_u32_, Of18_u32_, p33_1, p33_2, p33_x0⟩ := p33
      have Fu32 : ∀ k, k < 101 → u32 k = τ k := fun k hk => (Fu32_ k hk).trans (Fs1 k hk)
      have Of15_u32 : u32 101 15 = τ 101 15 := Of15_u32_.trans Of15_s1
      have Of34_u32 : u32 101 34 = τ 101 34 := Of34_u32_.trans Of34_s1
      have Of1_u32 : u32 101 1 = τ 101 1 := Of1_u32_.trans Of1_s1
      have Of30_u32 : u32 101 30 = τ 101 30 := Of30_u32_.trans Of30_s1
      have Of18_u32 : u32 101 18 = τ 101 18 := Of18_u32_.trans Of18_s1
      replace p33_x0 : r31.toInt = (-6 : Int) := p33_x0
      exact sf_ret ⟨Iu32, Fu32, Of15_u32, Of34_u32, Of1_u32, Of30_u32, Of18_u32, ti_lo _, ti_hi _⟩
    have C16 : x3.toInt < (0 : Int) := ti_nle c16
    refine sf_ret ?_
    rw [j_X4_staredOut_26_e]
    refine sf_ite (fun c34 => ?_) (fun c34 => ?_)
    · have C34 : (0 : Int) ≤ (-4 : Int) := ti_le c34
      exfalso; omega
    have C34 : (-4 : Int) < (0 : Int) := ti_nle c34
    refine sf_bnd (s_X4_refuse hF Is1 (by decide) (by decide)) (fun r35 u36 p37 => ?_)
    obtain ⟨Iu36, Fu36_, Of15_u36_, Of34_u36_, Of1_u36_, Of30_u36_, Of18_u36_, p37_1, p37_2, p37_x0⟩ := p37
    have Fu36 : ∀ k, k < 101 → u36 k = τ k := fun k hk => (Fu36_ k hk).trans (Fs1 k hk)
    have Of15_u36 : u36 101 15 = τ 101 15 := Of15_u36_.trans Of15_s1
    have Of34_u36 : u36 101 34 = τ 101 34 := Of34_u36_.trans Of34_s1
    have Of1_u36 : u36 101 1 = τ 101 1 := Of1_u36_.trans Of1_s1
    have Of30_u36 : u36 101 30 = τ 101 30 := Of30_u36_.trans Of30_s1
    have Of18_u36 : u36 101 18 = τ 101 18 := Of18_u36_.trans Of18_s1
    replace p37_x0 : r35.toInt = (-4 : Int) := p37_x0
    exact sf_ret ⟨Iu36, Fu36, Of15_u36, Of34_u36, Of1_u36, Of30_u36, Of18_u36, ti_lo _, ti_hi _⟩
  obtain rfl := p8
  refine sf_ite (fun c38 => ?_) (fun c38 => ?_)
  · have C38 : (0 : Int) = (0 : Int) := ti_eq c38
    rw [j_X4_staredOut_26_e]
    refine sf_ite (fun c39 => ?_) (fun c39 => ?_)
    · have C39 : (0 : Int) ≤ (-1 : Int) := ti_le c39
      exfalso; omega
    have C39 : (-1 : Int) < (0 : Int) := ti_nle c39
    refine sf_bnd (s_X4_refuse hF Is1 (by decide) (by decide)) (fun r40 u41 p42 => ?_)
    obtain ⟨Iu41, Fu41_, Of15_u41_, Of34_u41_, Of1_u41_, Of30_u41_, Of18_u41_, p42_1, p42_2, p42_x0⟩ := p42
    have Fu41 : ∀ k, k < 101 → u41 k = τ k := fun k hk => (Fu41_ k hk).trans (Fs1 k hk)
    have Of15_u41 : u41 101 15 = τ 101 15 := Of15_u41_.trans Of15_s1
    have Of34_u41 : u41 101 34 = τ 101 34 := Of34_u41_.trans Of34_s1
    have Of1_u41 : u41 101 1 = τ 101 1 := Of1_u41_.trans Of1_s1
    have Of30_u41 : u41 101 30 = τ 101 30 := Of30_u41_.trans Of30_s1
    have Of18_u41 : u41 101 18 = τ 101 18 := Of18_u41_.trans Of18_s1
    replace p42_x0 : r40.toInt = (-1 : Int) := p42_x0
    exact sf_ret ⟨Iu41, Fu41, Of15_u41, Of34_u41, Of1_u41, Of30_u41, Of18_u41, ti_lo _, ti_hi _⟩
  have C38 : ¬ (0 : Int) = (0 : Int) := ti_ne c38
  exfalso; omega
set_option maxHeartbeats 4000000 in
set_option maxRecDepth 100000 in
theorem sl_X4_moreHours_101 {F : Nat} (hF : 73786976294838206464 ≤ F) {x1 : Int32} {x2 : Int32} {x3 : Int32} {x6 : Int32} {k93 : Int32 → Int32 → Mem → Option (Int32 × Mem)} {τ : Mem} (x1_1 : 0 ≤ x1.toInt) (x1_2 : x1.toInt ≤ 4) (x2_1 : 0 ≤ x2.toInt) (x2_2 : x2.toInt ≤ 7) (x3_1 : 1 ≤ x3.toInt) (x3_2 : x3.toInt ≤ 999) (x6_1 : 0 ≤ x6.toInt) (x6_2 : x6.toInt ≤ 10) {N93 : Nat} (hM93 : x6.toInt + 1 < (N93 + 1)) (hk93 : ∀ (x5 : Int32) (x6 : Int32) (σ : Mem), wiM σ → (∀ k, k < 101 → σ k = τ k) → σ 101 15 = τ 101 15 → σ 101 34 = τ 101 34 → σ 101 1 = τ 101 1 → σ 101 30 = τ 101 30 → σ 101 18 = τ 101 18 → x6.toInt + 1 < N93 → -1 ≤ x6.toInt → x6.toInt ≤ 10 → sf (k93 x5 x6 σ) (fun r s => wiM s ∧ (∀ k, k < 101 → s k = τ k) ∧ s 101 15 = τ 101 15 ∧ s 101 34 = τ 101 34 ∧ s 101 1 = τ 101 1 ∧ s 101 30 = τ 101 30 ∧ s 101 18 = τ 101 18 ∧ -2147483648 ≤ r.toInt ∧ r.toInt ≤ 2147483647)) : ∀ (N : Nat) (x5 : Int32) (x7 : Int32) (σ : Mem), wiM σ → (∀ k, k < 101 → σ k = τ k) → σ 101 15 = τ 101 15 → σ 101 34 = τ 101 34 → σ 101 1 = τ 101 1 → σ 101 30 = τ 101 30 → σ 101 18 = τ 101 18 → 24 < x7.toInt + N → 0 ≤ x7.toInt → x7.toInt ≤ 24 → sf (lp_X4_moreHours_101 F k93 x1 x2 x3 x6 N x5 x7 σ) (fun r s => wiM s ∧ (∀ k, k < 101 → s k = τ k) ∧ s 101 15 = τ 101 15 ∧ s 101 34 = τ 101 34 ∧ s 101 1 = τ 101 1 ∧ s 101 30 = τ 101 30 ∧ s 101 18 = τ 101 18 ∧ -2147483648 ≤ r.toInt ∧ r.toInt ≤ 2147483647) := by
  intro N
  induction N with
  | zero => intro x5 x7 σ hI Fσ Of15_σ Of34_σ Of1_σ Of30_σ Of18_σ hN x7_1 x7_2; exfalso; omega
  | succ N ih =>
    intro x5 x7 σ hI Fσ Of15_σ Of34_σ Of1_σ Of30_σ Of18_σ hN x7_1 x7_2
    rw [lp_X4_moreHours_101_s]
    refine sf_ite (fun c1 => ?_) (fun c1 => ?_)
    · have C1 : (24 : Int) ≤ x7.toInt := ti_le c1
      have b2 := ti_lo x5
      have b3 := ti_hi x5
      have t4 : (x6 + (-1 : Int32)).toInt = x6.toInt + (-1 : Int) := ti_add (show -2147483648 ≤ x6.toInt + (-1 : Int) by omega) (show x6.toInt + (-1 : Int) ≤ 2147483647 by omega)
      exact hk93 _ _ _ hI Fσ Of15_σ Of34_σ Of1_σ Of30_σ Of18_σ (by omega) (by omega) (by omega)
    have C1 : x7.toInt < (24 : Int) := ti_nle c1
    have t5 : ((24 : Int32) * x1).toInt = (24 : Int) * x1.toInt := ti_mul (show -2147483648 ≤ (24 : Int) * x1.toInt by omega) (show (24 : Int) * x1.toInt ≤ 2147483647 by omega)
    have t6 : (((24 : Int32) * x1) + x7).toInt = ((24 : Int32) * x1).toInt + x7.toInt := ti_add (show -2147483648 ≤ ((24 : Int32) * x1).toInt + x7.toInt by omega) (show ((24 : Int32) * x1).toInt + x7.toInt ≤ 2147483647 by omega)
    refine sf_chk (ti_in (by omega) (by omega)) ?_
    have v7 : Int32.toNatClampNeg (((24 : Int32) * x1) + x7) = (((24 : Int32) * x1) + x7).toInt.toNat := rfl
    have m8 := wx_106 hI (Int32.toNatClampNeg (((24 : Int32) * x1) + x7))
    refine sf_ite (fun c9 => ?_) (fun c9 => ?_)
    · have C9 : (0 : Int) ≤ (σ 106 (Int32.toNatClampNeg (((24 : Int32) * x1) + x7))).toInt := ti_le c9
      rw [j_X4_moreHours_167_e]
      have b10 := ti_lo x5
      have b11 := ti_hi x5
      have t12 : (x7 + (1 : Int32)).toInt = x7.toInt + (1 : Int) := ti_add (show -2147483648 ≤ x7.toInt + (1 : Int) by omega) (show x7.toInt + (1 : Int) ≤ 2147483647 by omega)
      exact ih _ _ _ hI Fσ Of15_σ Of34_σ Of1_σ Of30_σ Of18_σ (by omega) (by omega) (by omega)
    have C9 : (σ 106 (Int32.toNatClampNeg (((24 : Int32) * x1) + x7))).toInt < (0 : Int) := ti_nle c9
    refine sf_bnd (s_X4_pullOf hF hI (by omega) (by omega) (by omega) (by omega)) (fun r13 u14 p15 => ?_)
    obtain ⟨e9, p15_1, p15_2⟩ := p15
    have e9 := e9.symm
    subst e9
    have b16 := ti_lo r13
    have b17 := ti_hi r13
    refine sf_ite (fun c18 => ?_) (fun c18 => ?_)
    · have C18 : r13.toInt = x6.toInt := ti_eq c18
      have t19 : ((8 : Int32) * x1).toInt = (8 : Int) * x1.toInt := ti_mul (show -2147483648 ≤ (8 : Int) * x1.toInt by omega) (show (8 : Int) * x1.toInt ≤ 2147483647 by omega)
      have t20 : (((8 : Int32) * x1) + x2).toInt = ((8 : Int32) * x1).toInt + x2.toInt := ti_add (show -2147483648 ≤ ((8 : Int32) * x1).toInt + x2.toInt by omega) (show ((8 : Int32) * x1).toInt + x2.toInt ≤ 2147483647 by omega)
      refine sf_chk (ti_in (by omega) (by omega)) ?_
      have v21 : Int32.toNatClampNeg (((8 : Int32) * x1) + x2) = (((8 : Int32) * x1) + x2).toInt.toNat := rfl
      refine sf_lt (fun s22 hs22 => ?_)
      have Is22 : wiM s22 := by rw [hs22]; exact wm_oth hI (by decide) (by decide) (by decide) (by decide)
      have Fs22 : ∀ k, k < 101 → s22 k = τ k := fun k hk => (show s22 k = σ k by rw [hs22, up2_k (by omega)]).trans (Fσ k hk)
      have Of15_s22 : s22 101 15 = τ 101 15 := (show s22 101 15 = σ 101 15 by rw [hs22, up2_k (by omega)]).trans Of15_σ
      have Of34_s22 : s22 101 34 = τ 101 34 := (show s22 101 34 = σ 101 34 by rw [hs22, up2_k (by omega)]).trans Of34_σ
      have Of1_s22 : s22 101 1 = τ 101 1 := (show s22 101 1 = σ 101 1 by rw [hs22, up2_k (by omega)]).trans Of1_σ
      have Of30_s22 : s22 101 30 = τ 101 30 := (show s22 101 30 = σ 101 30 by rw [hs22, up2_k (by omega)]).trans Of30_σ
      have Of18_s22 : s22 101 18 = τ 101 18 := (show s22 101 18 = σ 101 18 by rw [hs22, up2_k (by omega)]).trans Of18_σ
      refine sf_bnd (s_X4_ownerIn hF Is22 (by omega) (by omega) (by omega) (by omega)) (fun r23 u24 p25 => ?_)
      obtain ⟨Iu24, Fu24_, Of15_u24_, Of34_u24_, Of1_u24_, Of30_u24_, Of18_u24_, p25_1, p25_2⟩ := p25
      have Fu24 : ∀ k, k < 101 → u24 k = τ k := fun k hk => (Fu24_ k hk).trans (Fs22 k hk)
      have Of15_u24 : u24 101 15 = τ 101 15 := Of15_u24_.trans Of15_s22
      have Of34_u24 : u24 101 34 = τ 101 34 := Of34_u24_.trans Of34_s22
      have Of1_u24 : u24 101 1 = τ 101 1 := Of1_u24_.trans Of1_s22
      have Of30_u24 : u24 101 30 = τ 101 30 := Of30_u24_.trans Of30_s22
      have Of18_u24 : u24 101 18 = τ 101 18 := Of18_u24_.trans Of18_s22
      refine sf_ite (fun c26 => ?_) (fun c26 => ?_)
      · have C26 : r23.toInt = x1.toInt := ti_eq c26
        have b27 := ti_lo x5
        have b28 := ti_hi x5
        have b29 := ti_lo (x5 + (1 : Int32))
        have b30 := ti_hi (x5 + (1 : Int32))
        exact sf_ret ⟨Iu24, Fu24, Of15_u24, Of34_u24, Of1_u24, Of30_u24, Of18_u24, ti_lo _, ti_hi _⟩
      have C26 : ¬ r23.toInt = x1.toInt := ti_ne c26
      rw [j_X4_moreHours_167_e]
      have b31 := ti_lo x5
      have b32 := ti_hi x5
      have b33 := ti_lo (x5 + (1 : Int32))
      have b34 := ti_hi (x5 + (1 : Int32))
      have t35 : (x7 + (1 : Int32)).toInt = x7.toInt + (1 : Int) := ti_add (show -2147483648 ≤ x7.toInt + (1 : Int) by omega) (show x7.toInt + (1 : Int) ≤ 2147483647 by omega)
      exact ih _ _ _ Iu24 Fu24 Of15_u24 Of34_u24 Of1_u24 Of30_u24 Of18_u24 (by omega) (by omega) (by omega)
    have C18 : ¬ r13.toInt = x6.toInt := ti_ne c18
    rw [j_X4_moreHours_167_e]
    have b36 := ti_lo x5
    have b37 := ti_hi x5
    have t38 : (x7 + (1 : Int32)).toInt = x7.toInt + (1 : Int) := ti_add (show -2147483648 ≤ x7.toInt + (1 : Int) by omega) (show x7.toInt + (1 : Int) ≤ 2147483647 by omega)
    exact ih _ _ _ hI Fσ Of15_σ Of34_σ Of1_σ Of30_σ Of18_σ (by omega) (by omega) (by omega)
set_option maxHeartbeats 4000000 in
set_option maxRecDepth 100000 in
theorem sl_X4_moreHours_93 {F : Nat} (hF : 73786976294838206464 ≤ F) {x1 : Int32} {x2 : Int32} {x3 : Int32} {τ : Mem} (x1_1 : 0 ≤ x1.toInt) (x1_2 : x1.toInt ≤ 4) (x2_1 : 0 ≤ x2.toInt) (x2_2 : x2.toInt ≤ 7) (x3_1 : 1 ≤ x3.toInt) (x3_2 : x3.toInt ≤ 999) : ∀ (N : Nat) (x5 : Int32) (x6 : Int32) (σ : Mem), wiM σ → (∀ k, k < 101 → σ k = τ k) → σ 101 15 = τ 101 15 → σ 101 34 = τ 101 34 → σ 101 1 = τ 101 1 → σ 101 30 = τ 101 30 → σ 101 18 = τ 101 18 → x6.toInt + 1 < N → -1 ≤ x6.toInt → x6.toInt ≤ 10 → sf (lp_X4_moreHours_93 F x1 x2 x3 N x5 x6 σ) (fun r s => wiM s ∧ (∀ k, k < 101 → s k = τ k) ∧ s 101 15 = τ 101 15 ∧ s 101 34 = τ 101 34 ∧ s 101 1 = τ 101 1 ∧ s 101 30 = τ 101 30 ∧ s 101 18 = τ 101 18 ∧ -2147483648 ≤ r.toInt ∧ r.toInt ≤ 2147483647) := by
  intro N
  induction N with
  | zero => intro x5 x6 σ hI Fσ Of15_σ Of34_σ Of1_σ Of30_σ Of18_σ hN x6_1 x6_2; exfalso; omega
  | succ N ih =>
    intro x5 x6 σ hI Fσ Of15_σ Of34_σ Of1_σ Of30_σ Of18_σ hN x6_1 x6_2
    rw [lp_X4_moreHours_93_s]
    refine sf_ite (fun c1 => ?_) (fun c1 => ?_)
    · have C1 : x6.toInt < (0 : Int) := ti_lt c1
      exact sf_ret ⟨hI, Fσ, Of15_σ, Of34_σ, Of1_σ, Of30_σ, Of18_σ, ti_lo _, ti_hi _⟩
    have C1 : (0 : Int) ≤ x6.toInt := ti_nlt c1
    have b2 := ti_lo x5
    have b3 := ti_hi x5
    have l_0 : (0 : Int32).toInt = 0 := rfl
    exact sl_X4_moreHours_101 hF (by omega) (by omega) (by omega) (by omega) (by omega) (by omega) (by omega) (by omega) (by omega) ih _ _ _ _ hI Fσ Of15_σ Of34_σ Of1_σ Of30_σ Of18_σ (by omega) (by decide) (by decide)
set_option maxHeartbeats 4000000 in
set_option maxRecDepth 100000 in
theorem s_X4_moreHours {F : Nat} (hF : 73786976294838206464 ≤ F) {x1 : Int32} {x2 : Int32} {x3 : Int32} {τ : Mem} (hI : wiM τ) : sf (f_X4_moreHours F x1 x2 x3 τ) (fun r s => wiM s ∧ (∀ k, k < 101 → s k = τ k) ∧ s 101 15 = τ 101 15 ∧ s 101 34 = τ 101 34 ∧ s 101 1 = τ 101 1 ∧ s 101 30 = τ 101 30 ∧ s 101 18 = τ 101 18 ∧ -2147483648 ≤ r.toInt ∧ r.toInt ≤ 2147483647) := by
  have Fτ : ∀ k, k < 101 → τ k = τ k := fun _ _ => rfl
  have Of15_τ : τ 101 15 = τ 101 15 := rfl
  have Of34_τ : τ 101 34 = τ 101 34 := rfl
  have Of1_τ : τ 101 1 = τ 101 1 := rfl
  have Of30_τ : τ 101 30 = τ 101 30 := rfl
  have Of18_τ : τ 101 18 = τ 101 18 := rfl
  rw [f_X4_moreHours_e]
  refine sf_lt (fun s1 hs1 => ?_)
  have Is1 : wiM s1 := by rw [hs1]; exact wm_fld hI (by decide) (by decide) (by decide) (by decide) (by decide) (by decide) (by decide)
  have Fs1 : ∀ k, k < 101 → s1 k = τ k := fun k hk => (show s1 k = τ k by rw [hs1, up2_k (by omega)]).trans (Fτ k hk)
  have Of15_s1 : s1 101 15 = τ 101 15 := (show s1 101 15 = τ 101 15 by rw [hs1, up2_i (by decide)]).trans Of15_τ
  have Of34_s1 : s1 101 34 = τ 101 34 := (show s1 101 34 = τ 101 34 by rw [hs1, up2_i (by decide)]).trans Of34_τ
  have Of1_s1 : s1 101 1 = τ 101 1 := (show s1 101 1 = τ 101 1 by rw [hs1, up2_i (by decide)]).trans Of1_τ
  have Of30_s1 : s1 101 30 = τ 101 30 := (show s1 101 30 = τ 101 30 by rw [hs1, up2_i (by decide)]).trans Of30_τ
  have Of18_s1 : s1 101 18 = τ 101 18 := (show s1 101 18 = τ 101 18 by rw [hs1, up2_i (by decide)]).trans Of18_τ
  have b2 := ti_lo x1
  have b3 := ti_hi x1
  refine sf_bnd (s_X4_isLooker hF Is1) (fun r4 u5 p6 => ?_)
  obtain ⟨e9, p6⟩ := p6
  have e9 := e9.symm
  subst e9
  rcases p6 with ⟨rfl, q7, q8⟩ | p6
  · refine sf_ite (fun c9 => ?_) (fun c9 => ?_)
    · have C9 : (1 : Int) = (0 : Int) := ti_eq c9
      exfalso; omega
    have C9 : ¬ (1 : Int) = (0 : Int) := ti_ne c9
    have b10 := ti_lo x2
    have b11 := ti_hi x2
    refine sf_bnd (s_X4_isView hF Is1) (fun r12 u13 p14 => ?_)
    obtain ⟨e9, p14⟩ := p14
    have e9 := e9.symm
    subst e9
    rcases p14 with ⟨rfl, q15, q16⟩ | p14
    · refine sf_ite (fun c17 => ?_) (fun c17 => ?_)
      · have C17 : (1 : Int) = (0 : Int) := ti_eq c17
        exfalso; omega
      have C17 : ¬ (1 : Int) = (0 : Int) := ti_ne c17
      refine sf_in ?_
      rw [f_X4_wrongNumber_e]
      have b18 := ti_lo x3
      have b19 := ti_hi x3
      refine sf_ite (fun c20 => ?_) (fun c20 => ?_)
      · have C20 : (1 : Int) ≤ x3.toInt := ti_le c20
        refine sf_ite (fun c21 => ?_) (fun c21 => ?_)
        · have C21 : x3.toInt ≤ (999 : Int) := ti_le c21
          refine sf_ret ?_
          rw [j_X4_moreHours_32_e]
          refine sf_ite (fun c22 => ?_) (fun c22 => ?_)
          · have C22 : (0 : Int) ≤ (0 : Int) := ti_le c22
            refine sf_bnd (s_X4_layBrings hF Is1) (fun r23 u24 p25 => ?_)
            obtain ⟨Iu24, Fu24_, Of15_u24_, Of34_u24_, Of1_u24_, Of30_u24_, Of18_u24_, -⟩ := p25
            have Fu24 : ∀ k, k < 101 → u24 k = τ k := fun k hk => (Fu24_ k hk).trans (Fs1 k hk)
            have Of15_u24 : u24 101 15 = τ 101 15 := Of15_u24_.trans Of15_s1
            have Of34_u24 : u24 101 34 = τ 101 34 := Of34_u24_.trans Of34_s1
            have Of1_u24 : u24 101 1 = τ 101 1 := Of1_u24_.trans Of1_s1
            have Of30_u24 : u24 101 30 = τ 101 30 := Of30_u24_.trans Of30_s1
            have Of18_u24 : u24 101 18 = τ 101 18 := Of18_u24_.trans Of18_s1
            refine sf_bnd (s_X4_ownerIn hF Iu24 (by omega) (by omega) (by omega) (by omega)) (fun r26 u27 p28 => ?_)
            obtain ⟨Iu27, Fu27_, Of15_u27_, Of34_u27_, Of1_u27_, Of30_u27_, Of18_u27_, p28_1, p28_2⟩ := p28
            have Fu27 : ∀ k, k < 101 → u27 k = τ k := fun k hk => (Fu27_ k hk).trans (Fu24 k hk)
            have Of15_u27 : u27 101 15 = τ 101 15 := Of15_u27_.trans Of15_u24
            have Of34_u27 : u27 101 34 = τ 101 34 := Of34_u27_.trans Of34_u24
            have Of1_u27 : u27 101 1 = τ 101 1 := Of1_u27_.trans Of1_u24
            have Of30_u27 : u27 101 30 = τ 101 30 := Of30_u27_.trans Of30_u24
            have Of18_u27 : u27 101 18 = τ 101 18 := Of18_u27_.trans Of18_u24
            refine sf_ite (fun c29 => ?_) (fun c29 => ?_)
            · have C29 : r26.toInt = x1.toInt := ti_eq c29
              exact sf_ret ⟨Iu27, Fu27, Of15_u27, Of34_u27, Of1_u27, Of30_u27, Of18_u27, ti_lo _, ti_hi _⟩
            have C29 : ¬ r26.toInt = x1.toInt := ti_ne c29
            refine sf_chk (ti_in (by omega) (by omega)) ?_
            have v30 : Int32.toNatClampNeg x1 = x1.toInt.toNat := rfl
            have b31 := ti_lo (u27 104 (Int32.toNatClampNeg x1))
            have b32 := ti_hi (u27 104 (Int32.toNatClampNeg x1))
            refine sf_ite (fun c33 => ?_) (fun c33 => ?_)
            · have C33 : (u27 104 (Int32.toNatClampNeg x1)).toInt = (2 : Int) := ti_eq c33
              rw [j_X4_moreHours_83_e]
              exact sf_ret ⟨Iu27, Fu27, Of15_u27, Of34_u27, Of1_u27, Of30_u27, Of18_u27, ti_lo _, ti_hi _⟩
            have C33 : ¬ (u27 104 (Int32.toNatClampNeg x1)).toInt = (2 : Int) := ti_ne c33
            refine sf_bnd (s_X4_allShown hF Iu27) (fun r34 u35 p36 => ?_)
            obtain ⟨e9, p36_1, p36_2⟩ := p36
            have e9 := e9.symm
            subst e9
            have b37 := ti_lo r34
            have b38 := ti_hi r34
            refine sf_bnd (s_X4_hasBit hF Iu27 (by omega) (by omega)) (fun r39 u40 p41 => ?_)
            obtain ⟨e9, p41_1, p41_2⟩ := p41
            have e9 := e9.symm
            subst e9
            have hb_r39 : r39 = 0 ∨ r39 = 1 := wi_bool p41_1 p41_2
            refine sf_ite (fun c42 => ?_) (fun c42 => ?_)
            · have C42 : r39.toInt = (0 : Int) := ti_eq c42
              rw [j_X4_moreHours_83_e]
              exact sf_ret ⟨Iu27, Fu27, Of15_u27, Of34_u27, Of1_u27, Of30_u27, Of18_u27, ti_lo _, ti_hi _⟩
            have C42 : ¬ r39.toInt = (0 : Int) := ti_ne c42
            have l_10 : (10 : Int32).toInt = 10 := rfl
            exact sl_X4_moreHours_93 hF (by omega) (by omega) (by omega) (by omega) (by omega) (by omega) _ _ _ _ Iu27 Fu27 Of15_u27 Of34_u27 Of1_u27 Of30_u27 Of18_u27 (by omega) (by decide) (by decide)
          have C22 : (0 : Int) < (0 : Int) := ti_nle c22
          exfalso; omega
        have C21 : (999 : Int) < x3.toInt := ti_nle c21
        refine sf_ret ?_
        rw [j_X4_moreHours_32_e]
        refine sf_ite (fun c43 => ?_) (fun c43 => ?_)
        · have C43 : (0 : Int) ≤ (-6 : Int) := ti_le c43
          exfalso; omega
        have C43 : (-6 : Int) < (0 : Int) := ti_nle c43
        refine sf_bnd (s_X4_refuse hF Is1 (by decide) (by decide)) (fun r44 u45 p46 => ?_)
        obtain ⟨Iu45, Fu45_, Of15_u45_, Of34_u45_, Of1_u45_, Of30_u45_, Of18_u45_, p46_1, p46_2, p46_x0⟩ := p46
        have Fu45 : ∀ k, k < 101 → u45 k = τ k := fun k hk => (Fu45_ k hk).trans (Fs1 k hk)
        have Of15_u45 : u45 101 15 = τ 101 15 := Of15_u45_.trans Of15_s1
        have Of34_u45 : u45 101 34 = τ 101 34 := Of34_u45_.trans Of34_s1
        have Of1_u45 : u45 101 1 = τ 101 1 := Of1_u45_.trans Of1_s1
        have Of30_u45 : u45 101 30 = τ 101 30 := Of30_u45_.trans Of30_s1
        have Of18_u45 : u45 101 18 = τ 101 18 := Of18_u45_.trans Of18_s1
        replace p46_x0 : r44.toInt = (-6 : Int) := p46_x0
        exact sf_ret ⟨Iu45, Fu45, Of15_u45, Of34_u45, Of1_u45, Of30_u45, Of18_u45, ti_lo _, ti_hi _⟩
      have C20 : x3.toInt < (1 : Int) := ti_nle c20
      refine sf_ret ?_
      rw [j_X4_moreHours_32_e]
      refine sf_ite (fun c47 => ?_) (fun c47 => ?_)
      · have C47 : (0 : Int) ≤ (-4 : Int) := ti_le c47
        exfalso; omega
      have C47 : (-4 : Int) < (0 : Int) := ti_nle c47
      refine sf_bnd (s_X4_refuse hF Is1 (by decide) (by decide)) (fun r48 u49 p50 => ?_)
      obtain ⟨Iu49, Fu49_, Of15_u49_, Of34_u49_, Of1_u49_, Of30_u49_, Of18_u49_, p50_1, p50_2, p50_x0⟩ := p50
      have Fu49 : ∀ k, k < 101 → u49 k = τ k := fun k hk => (Fu49_ k hk).trans (Fs1 k hk)
      have Of15_u49 : u49 101 15 = τ 101 15 := Of15_u49_.trans Of15_s1
      have Of34_u49 : u49 101 34 = τ 101 34 := Of34_u49_.trans Of34_s1
      have Of1_u49 : u49 101 1 = τ 101 1 := Of1_u49_.trans Of1_s1
      have Of30_u49 : u49 101 30 = τ 101 30 := Of30_u49_.trans Of30_s1
      have Of18_u49 : u49 101 18 = τ 101 18 := Of18_u49_.trans Of18_s1
      replace p50_x0 : r48.toInt = (-4 : Int) := p50_x0
      exact sf_ret ⟨Iu49, Fu49, Of15_u49, Of34_u49, Of1_u49, Of30_u49, Of18_u49, ti_lo _, ti_hi _⟩
    obtain ⟨rfl, q51⟩ := p14
    refine sf_ite (fun c52 => ?_) (fun c52 => ?_)
    · have C52 : (0 : Int) = (0 : Int) := ti_eq c52
      rw [j_X4_moreHours_31_e]
      rw [j_X4_moreHours_32_e]
      refine sf_ite (fun c53 => ?_) (fun c53 => ?_)
      · have C53 : (0 : Int) ≤ (-1 : Int) := ti_le c53
        exfalso; omega
      have C53 : (-1 : Int) < (0 : Int) := ti_nle c53
      refine sf_bnd (s_X4_refuse hF Is1 (by decide) (by decide)) (fun r54 u55 p56 => ?_)
      obtain ⟨Iu55, Fu55_, Of15_u55_, Of34_u55_, Of1_u55_, Of30_u55_, Of18_u55_, p56_1, p56_2, p56_x0⟩ := p56
      have Fu55 : ∀ k, k < 101 → u55 k = τ k := fun k hk => (Fu55_ k hk).trans (Fs1 k hk)
      have Of15_u55 : u55 101 15 = τ 101 15 := Of15_u55_.trans Of15_s1
      have Of34_u55 : u55 101 34 = τ 101 34 := Of34_u55_.trans Of34_s1
      have Of1_u55 : u55 101 1 = τ 101 1 := Of1_u55_.trans Of1_s1
      have Of30_u55 : u55 101 30 = τ 101 30 := Of30_u55_.trans Of30_s1
      have Of18_u55 : u55 101 18 = τ 101 18 := Of18_u55_.trans Of18_s1
      replace p56_x0 : r54.toInt = (-1 : Int) := p56_x0
      exact sf_ret ⟨Iu55, Fu55, Of15_u55, Of34_u55, Of1_u55, Of30_u55, Of18_u55, ti_lo _, ti_hi _⟩
    have C52 : ¬ (0 : Int) = (0 : Int) := ti_ne c52
    exfalso; omega
  obtain rfl := p6
  refine sf_ite (fun c57 => ?_) (fun c57 => ?_)
  · have C57 : (0 : Int) = (0 : Int) := ti_eq c57
    rw [j_X4_moreHours_31_e]
    rw [j_X4_moreHours_32_e]
    refine sf_ite (fun c58 => ?_) (fun c58 => ?_)
    · have C58 : (0 : Int) ≤ (-1 : Int) := ti_le c58
      exfalso; omega
    have C58 : (-1 : Int) < (0 : Int) := ti_nle c58
    refine sf_bnd (s_X4_refuse hF Is1 (by decide) (by decide)) (fun r59 u60 p61 => ?_)
    obtain ⟨Iu60, Fu60_, Of15_u60_, Of34_u60_, Of1_u60_, Of30_u60_, Of18_u60_, p61_1, p61_2, p61_x0⟩ := p61
    have Fu60 : ∀ k, k < 101 → u60 k = τ k := fun k hk => (Fu60_ k hk).trans (Fs1 k hk)
    have Of15_u60 : u60 101 15 = τ 101 15 := Of15_u60_.trans Of15_s1
    have Of34_u60 : u60 101 34 = τ 101 34 := Of34_u60_.trans Of34_s1
    have Of1_u60 : u60 101 1 = τ 101 1 := Of1_u60_.trans Of1_s1
    have Of30_u60 : u60 101 30 = τ 101 30 := Of30_u60_.trans Of30_s1
    have Of18_u60 : u60 101 18 = τ 101 18 := Of18_u60_.trans Of18_s1
    replace p61_x0 : r59.toInt = (-1 : Int) := p61_x0
    exact sf_ret ⟨Iu60, Fu60, Of15_u60, Of34_u60, Of1_u60, Of30_u60, Of18_u60, ti_lo _, ti_hi _⟩
  have C57 : ¬ (0 : Int) = (0 : Int) := ti_ne c57
  exfalso; omega
set_option maxHeartbeats 4000000 in
set_option maxRecDepth 100000 in
theorem sl_X4_bestPane_74 {F : Nat} (hF : 73786976294838206464 ≤ F) {x1 : Int32} {x2 : Int32} {x3 : Int32} {x4 : Int32} {x6 : Int32} {τ : Mem} (x1_1 : 0 ≤ x1.toInt) (x1_2 : x1.toInt ≤ 4) (x2_1 : 0 ≤ x2.toInt) (x2_2 : x2.toInt ≤ 23) (x3_1 : 0 ≤ x3.toInt) (x3_2 : x3.toInt ≤ 999) (x4_1 : 0 ≤ x4.toInt) (x4_2 : x4.toInt ≤ 1) (x6_1 : -9 ≤ x6.toInt) (x6_2 : x6.toInt ≤ 5) : ∀ (N : Nat) (x7 : Int32) (x8 : Int32) (x9 : Int32) (σ : Mem), wiM σ → (∀ k, k < 101 → σ k = τ k) → σ 101 15 = τ 101 15 → σ 101 34 = τ 101 34 → σ 101 1 = τ 101 1 → σ 101 30 = τ 101 30 → σ 101 18 = τ 101 18 → 7 < x9.toInt + N → -1 ≤ x7.toInt → x7.toInt ≤ 9 → -1 ≤ x8.toInt → x8.toInt ≤ 2147483647 → 0 ≤ x9.toInt → x9.toInt ≤ 7 → sf (lp_X4_bestPane_74 F x1 x2 x3 x4 x6 N x7 x8 x9 σ) (fun r s => wiM s ∧ (∀ k, k < 101 → s k = τ k) ∧ s 101 15 = τ 101 15 ∧ s 101 34 = τ 101 34 ∧ s 101 1 = τ 101 1 ∧ s 101 30 = τ 101 30 ∧ s 101 18 = τ 101 18 ∧ -2147483648 ≤ r.toInt ∧ r.toInt ≤ 2147483647) := by
  intro N
  induction N with
  | zero => intro x7 x8 x9 σ hI Fσ Of15_σ Of34_σ Of1_σ Of30_σ Of18_σ hN x7_1 x7_2 x8_1 x8_2 x9_1 x9_2; exfalso; omega
  | succ N ih =>
    intro x7 x8 x9 σ hI Fσ Of15_σ Of34_σ Of1_σ Of30_σ Of18_σ hN x7_1 x7_2 x8_1 x8_2 x9_1 x9_2
    rw [lp_X4_bestPane_74_s]
    have m1 := wx_X4_1 hI
    have e2 : (σ 101 1).toInt = (τ 101 1).toInt := congrArg Int32.toInt Of1_σ
    refine sf_ite (fun c3 => ?_) (fun c3 => ?_)
    · have C3 : (σ 101 1).toInt < x9.toInt := ti_lt c3
      have t4 : ((24 : Int32) * x1).toInt = (24 : Int) * x1.toInt := ti_mul (show -2147483648 ≤ (24 : Int) * x1.toInt by omega) (show (24 : Int) * x1.toInt ≤ 2147483647 by omega)
      have t5 : (((24 : Int32) * x1) + x2).toInt = ((24 : Int32) * x1).toInt + x2.toInt := ti_add (show -2147483648 ≤ ((24 : Int32) * x1).toInt + x2.toInt by omega) (show ((24 : Int32) * x1).toInt + x2.toInt ≤ 2147483647 by omega)
      refine sf_chk (ti_in (by omega) (by omega)) ?_
      have v6 : Int32.toNatClampNeg (((24 : Int32) * x1) + x2) = (((24 : Int32) * x1) + x2).toInt.toNat := rfl
      refine sf_lt (fun s7 hs7 => ?_)
      have Is7 : wiM s7 := by rw [hs7]; exact wx_put_106 hI (by omega) (by omega)
      have Fs7 : ∀ k, k < 101 → s7 k = τ k := fun k hk => (show s7 k = σ k by rw [hs7, up2_k (by omega)]).trans (Fσ k hk)
      have Of15_s7 : s7 101 15 = τ 101 15 := (show s7 101 15 = σ 101 15 by rw [hs7, up2_k (by omega)]).trans Of15_σ
      have Of34_s7 : s7 101 34 = τ 101 34 := (show s7 101 34 = σ 101 34 by rw [hs7, up2_k (by omega)]).trans Of34_σ
      have Of1_s7 : s7 101 1 = τ 101 1 := (show s7 101 1 = σ 101 1 by rw [hs7, up2_k (by omega)]).trans Of1_σ
      have Of30_s7 : s7 101 30 = τ 101 30 := (show s7 101 30 = σ 101 30 by rw [hs7, up2_k (by omega)]).trans Of30_σ
      have Of18_s7 : s7 101 18 = τ 101 18 := (show s7 101 18 = σ 101 18 by rw [hs7, up2_k (by omega)]).trans Of18_σ
      refine sf_ite (fun c8 => ?_) (fun c8 => ?_)
      · have C8 : x4.toInt = (0 : Int) := ti_eq c8
        exact sf_ret ⟨Is7, Fs7, Of15_s7, Of34_s7, Of1_s7, Of30_s7, Of18_s7, ti_lo _, ti_hi _⟩
      have C8 : ¬ x4.toInt = (0 : Int) := ti_ne c8
      have b9 := ti_lo x8
      have b10 := ti_hi x8
      exact sf_ret ⟨Is7, Fs7, Of15_s7, Of34_s7, Of1_s7, Of30_s7, Of18_s7, ti_lo _, ti_hi _⟩
    have C3 : x9.toInt ≤ (σ 101 1).toInt := ti_nlt c3
    refine sf_ite (fun c11 => ?_) (fun c11 => ?_)
    · have C11 : x9.toInt = (σ 101 1).toInt := ti_eq c11
      rw [j_X4_bestPane_109_e]
      have t12 : ((24 : Int32) * x1).toInt = (24 : Int) * x1.toInt := ti_mul (show -2147483648 ≤ (24 : Int) * x1.toInt by omega) (show (24 : Int) * x1.toInt ≤ 2147483647 by omega)
      have t13 : (((24 : Int32) * x1) + x2).toInt = ((24 : Int32) * x1).toInt + x2.toInt := ti_add (show -2147483648 ≤ ((24 : Int32) * x1).toInt + x2.toInt by omega) (show ((24 : Int32) * x1).toInt + x2.toInt ≤ 2147483647 by omega)
      refine sf_chk (ti_in (by omega) (by omega)) ?_
      have v14 : Int32.toNatClampNeg (((24 : Int32) * x1) + x2) = (((24 : Int32) * x1) + x2).toInt.toNat := rfl
      refine sf_lt (fun s15 hs15 => ?_)
      have Is15 : wiM s15 := by rw [hs15]; exact wx_put_106 hI (by decide) (by decide)
      have Fs15 : ∀ k, k < 101 → s15 k = τ k := fun k hk => (show s15 k = σ k by rw [hs15, up2_k (by omega)]).trans (Fσ k hk)
      have Of15_s15 : s15 101 15 = τ 101 15 := (show s15 101 15 = σ 101 15 by rw [hs15, up2_k (by omega)]).trans Of15_σ
      have Of34_s15 : s15 101 34 = τ 101 34 := (show s15 101 34 = σ 101 34 by rw [hs15, up2_k (by omega)]).trans Of34_σ
      have Of1_s15 : s15 101 1 = τ 101 1 := (show s15 101 1 = σ 101 1 by rw [hs15, up2_k (by omega)]).trans Of1_σ
      have Of30_s15 : s15 101 30 = τ 101 30 := (show s15 101 30 = σ 101 30 by rw [hs15, up2_k (by omega)]).trans Of30_σ
      have Of18_s15 : s15 101 18 = τ 101 18 := (show s15 101 18 = σ 101 18 by rw [hs15, up2_k (by omega)]).trans Of18_σ
      refine sf_bnd (s_X4_worthAnew hF Is15 (by omega) (by omega) (by omega) (by omega)) (fun r16 u17 p18 => ?_)
      obtain ⟨Iu17, Fu17_, Of15_u17_, Of34_u17_, Of1_u17_, Of30_u17_, Of18_u17_, p18_1, p18_2⟩ := p18
      have Fu17 : ∀ k, k < 101 → u17 k = τ k := fun k hk => (Fu17_ k hk).trans (Fs15 k hk)
      have Of15_u17 : u17 101 15 = τ 101 15 := Of15_u17_.trans Of15_s15
      have Of34_u17 : u17 101 34 = τ 101 34 := Of34_u17_.trans Of34_s15
      have Of1_u17 : u17 101 1 = τ 101 1 := Of1_u17_.trans Of1_s15
      have Of30_u17 : u17 101 30 = τ 101 30 := Of30_u17_.trans Of30_s15
      have Of18_u17 : u17 101 18 = τ 101 18 := Of18_u17_.trans Of18_s15
      have b19 := ti_lo r16
      have b20 := ti_hi r16
      have b21 := ti_lo x8
      have b22 := ti_hi x8
      refine sf_ite (fun c23 => ?_) (fun c23 => ?_)
      · have C23 : r16.toInt ≤ x8.toInt := ti_le c23
        rw [j_X4_bestPane_146_e]
        refine sf_ite (fun c24 => ?_) (fun c24 => ?_)
        · have C24 : r16.toInt ≤ x8.toInt := ti_le c24
          rw [j_X4_bestPane_162_e]
          have t25 : (x9 + (1 : Int32)).toInt = x9.toInt + (1 : Int) := ti_add (show -2147483648 ≤ x9.toInt + (1 : Int) by omega) (show x9.toInt + (1 : Int) ≤ 2147483647 by omega)
          exact ih _ _ _ _ Iu17 Fu17 Of15_u17 Of34_u17 Of1_u17 Of30_u17 Of18_u17 (by omega) (by omega) (by omega) (by omega) (by omega) (by omega) (by omega)
        have C24 : x8.toInt < r16.toInt := ti_nle c24
        rw [j_X4_bestPane_162_e]
        have t26 : (x9 + (1 : Int32)).toInt = x9.toInt + (1 : Int) := ti_add (show -2147483648 ≤ x9.toInt + (1 : Int) by omega) (show x9.toInt + (1 : Int) ≤ 2147483647 by omega)
        exact ih _ _ _ _ Iu17 Fu17 Of15_u17 Of34_u17 Of1_u17 Of30_u17 Of18_u17 (by omega) (by omega) (by omega) (by omega) (by omega) (by omega) (by omega)
      have C23 : x8.toInt < r16.toInt := ti_nle c23
      have m27 := wx_X4_1 Iu17
      have m28 := wx_X4_1 Is15
      have e29 : (s15 101 1).toInt = (σ 101 1).toInt := congrArg Int32.toInt (by rw [hs15, up2_k (by omega)])
      have e30 : (u17 101 1).toInt = (s15 101 1).toInt := congrArg Int32.toInt Of1_u17_
      refine sf_ite (fun c31 => ?_) (fun c31 => ?_)
      · have C31 : x9.toInt = (u17 101 1).toInt := ti_eq c31
        rw [j_X4_bestPane_146_e]
        refine sf_ite (fun c32 => ?_) (fun c32 => ?_)
        · have C32 : r16.toInt ≤ x8.toInt := ti_le c32
          rw [j_X4_bestPane_162_e]
          have t33 : (x9 + (1 : Int32)).toInt = x9.toInt + (1 : Int) := ti_add (show -2147483648 ≤ x9.toInt + (1 : Int) by omega) (show x9.toInt + (1 : Int) ≤ 2147483647 by omega)
          exact ih _ _ _ _ Iu17 Fu17 Of15_u17 Of34_u17 Of1_u17 Of30_u17 Of18_u17 (by omega) (by decide) (by decide) (by omega) (by omega) (by omega) (by omega)
        have C32 : x8.toInt < r16.toInt := ti_nle c32
        rw [j_X4_bestPane_162_e]
        have t34 : (x9 + (1 : Int32)).toInt = x9.toInt + (1 : Int) := ti_add (show -2147483648 ≤ x9.toInt + (1 : Int) by omega) (show x9.toInt + (1 : Int) ≤ 2147483647 by omega)
        exact ih _ _ _ _ Iu17 Fu17 Of15_u17 Of34_u17 Of1_u17 Of30_u17 Of18_u17 (by omega) (by decide) (by decide) (by omega) (by omega) (by omega) (by omega)
      have C31 : ¬ x9.toInt = (u17 101 1).toInt := ti_ne c31
      rw [j_X4_bestPane_146_e]
      refine sf_ite (fun c35 => ?_) (fun c35 => ?_)
      · have C35 : r16.toInt ≤ x8.toInt := ti_le c35
        rw [j_X4_bestPane_162_e]
        have t36 : (x9 + (1 : Int32)).toInt = x9.toInt + (1 : Int) := ti_add (show -2147483648 ≤ x9.toInt + (1 : Int) by omega) (show x9.toInt + (1 : Int) ≤ 2147483647 by omega)
        exact ih _ _ _ _ Iu17 Fu17 Of15_u17 Of34_u17 Of1_u17 Of30_u17 Of18_u17 (by omega) (by omega) (by omega) (by omega) (by omega) (by omega) (by omega)
      have C35 : x8.toInt < r16.toInt := ti_nle c35
      rw [j_X4_bestPane_162_e]
      have t37 : (x9 + (1 : Int32)).toInt = x9.toInt + (1 : Int) := ti_add (show -2147483648 ≤ x9.toInt + (1 : Int) by omega) (show x9.toInt + (1 : Int) ≤ 2147483647 by omega)
      exact ih _ _ _ _ Iu17 Fu17 Of15_u17 Of34_u17 Of1_u17 Of30_u17 Of18_u17 (by omega) (by omega) (by omega) (by omega) (by omega) (by omega) (by omega)
    have C11 : ¬ x9.toInt = (σ 101 1).toInt := ti_ne c11
    rw [j_X4_bestPane_109_e]
    have t38 : ((24 : Int32) * x1).toInt = (24 : Int) * x1.toInt := ti_mul (show -2147483648 ≤ (24 : Int) * x1.toInt by omega) (show (24 : Int) * x1.toInt ≤ 2147483647 by omega)
    have t39 : (((24 : Int32) * x1) + x2).toInt = ((24 : Int32) * x1).toInt + x2.toInt := ti_add (show -2147483648 ≤ ((24 : Int32) * x1).toInt + x2.toInt by omega) (show ((24 : Int32) * x1).toInt + x2.toInt ≤ 2147483647 by omega)
    refine sf_chk (ti_in (by omega) (by omega)) ?_
    have v40 : Int32.toNatClampNeg (((24 : Int32) * x1) + x2) = (((24 : Int32) * x1) + x2).toInt.toNat := rfl
    refine sf_lt (fun s41 hs41 => ?_)
    have Is41 : wiM s41 := by rw [hs41]; exact wx_put_106 hI (by omega) (by omega)
    have Fs41 : ∀ k, k < 101 → s41 k = τ k := fun k hk => (show s41 k = σ k by rw [hs41, up2_k (by omega)]).trans (Fσ k hk)
    have Of15_s41 : s41 101 15 = τ 101 15 := (show s41 101 15 = σ 101 15 by rw [hs41, up2_k (by omega)]).trans Of15_σ
    have Of34_s41 : s41 101 34 = τ 101 34 := (show s41 101 34 = σ 101 34 by rw [hs41, up2_k (by omega)]).trans Of34_σ
    have Of1_s41 : s41 101 1 = τ 101 1 := (show s41 101 1 = σ 101 1 by rw [hs41, up2_k (by omega)]).trans Of1_σ
    have Of30_s41 : s41 101 30 = τ 101 30 := (show s41 101 30 = σ 101 30 by rw [hs41, up2_k (by omega)]).trans Of30_σ
    have Of18_s41 : s41 101 18 = τ 101 18 := (show s41 101 18 = σ 101 18 by rw [hs41, up2_k (by omega)]).trans Of18_σ
    refine sf_bnd (s_X4_worthAnew hF Is41 (by omega) (by omega) (by omega) (by omega)) (fun r42 u43 p44 => ?_)
    obtain ⟨Iu43, Fu43_, Of15_u43_, Of34_u43_, Of1_u43_, Of30_u43_, Of18_u43_, p44_1, p44_2⟩ := p44
    have Fu43 : ∀ k, k < 101 → u43 k = τ k := fun k hk => (Fu43_ k hk).trans (Fs41 k hk)
    have Of15_u43 : u43 101 15 = τ 101 15 := Of15_u43_.trans Of15_s41
    have Of34_u43 : u43 101 34 = τ 101 34 := Of34_u43_.trans Of34_s41
    have Of1_u43 : u43 101 1 = τ 101 1 := Of1_u43_.trans Of1_s41
    have Of30_u43 : u43 101 30 = τ 101 30 := Of30_u43_.trans Of30_s41
    have Of18_u43 : u43 101 18 = τ 101 18 := Of18_u43_.trans Of18_s41
    have b45 := ti_lo r42
    have b46 := ti_hi r42
    have b47 := ti_lo x8
    have b48 := ti_hi x8
    refine sf_ite (fun c49 => ?_) (fun c49 => ?_)
    · have C49 : r42.toInt ≤ x8.toInt := ti_le c49
      rw [j_X4_bestPane_146_e]
      refine sf_ite (fun c50 => ?_) (fun c50 => ?_)
      · have C50 : r42.toInt ≤ x8.toInt := ti_le c50
        rw [j_X4_bestPane_162_e]
        have t51 : (x9 + (1 : Int32)).toInt = x9.toInt + (1 : Int) := ti_add (show -2147483648 ≤ x9.toInt + (1 : Int) by omega) (show x9.toInt + (1 : Int) ≤ 2147483647 by omega)
        exact ih _ _ _ _ Iu43 Fu43 Of15_u43 Of34_u43 Of1_u43 Of30_u43 Of18_u43 (by omega) (by omega) (by omega) (by omega) (by omega) (by omega) (by omega)
      have C50 : x8.toInt < r42.toInt := ti_nle c50
      rw [j_X4_bestPane_162_e]
      have t52 : (x9 + (1 : Int32)).toInt = x9.toInt + (1 : Int) := ti_add (show -2147483648 ≤ x9.toInt + (1 : Int) by omega) (show x9.toInt + (1 : Int) ≤ 2147483647 by omega)
      exact ih _ _ _ _ Iu43 Fu43 Of15_u43 Of34_u43 Of1_u43 Of30_u43 Of18_u43 (by omega) (by omega) (by omega) (by omega) (by omega) (by omega) (by omega)
    have C49 : x8.toInt < r42.toInt := ti_nle c49
    have m53 := wx_X4_1 Iu43
    have m54 := wx_X4_1 Is41
    have e55 : (s41 101 1).toInt = (σ 101 1).toInt := congrArg Int32.toInt (by rw [hs41, up2_k (by omega)])
    have e56 : (u43 101 1).toInt = (s41 101 1).toInt := congrArg Int32.toInt Of1_u43_
    refine sf_ite (fun c57 => ?_) (fun c57 => ?_)
    · have C57 : x9.toInt = (u43 101 1).toInt := ti_eq c57
      rw [j_X4_bestPane_146_e]
      refine sf_ite (fun c58 => ?_) (fun c58 => ?_)
      · have C58 : r42.toInt ≤ x8.toInt := ti_le c58
        rw [j_X4_bestPane_162_e]
        have t59 : (x9 + (1 : Int32)).toInt = x9.toInt + (1 : Int) := ti_add (show -2147483648 ≤ x9.toInt + (1 : Int) by omega) (show x9.toInt + (1 : Int) ≤ 2147483647 by omega)
        exact ih _ _ _ _ Iu43 Fu43 Of15_u43 Of34_u43 Of1_u43 Of30_u43 Of18_u43 (by omega) (by decide) (by decide) (by omega) (by omega) (by omega) (by omega)
      have C58 : x8.toInt < r42.toInt := ti_nle c58
      rw [j_X4_bestPane_162_e]
      have t60 : (x9 + (1 : Int32)).toInt = x9.toInt + (1 : Int) := ti_add (show -2147483648 ≤ x9.toInt + (1 : Int) by omega) (show x9.toInt + (1 : Int) ≤ 2147483647 by omega)
      exact ih _ _ _ _ Iu43 Fu43 Of15_u43 Of34_u43 Of1_u43 Of30_u43 Of18_u43 (by omega) (by decide) (by decide) (by omega) (by omega) (by omega) (by omega)
    have C57 : ¬ x9.toInt = (u43 101 1).toInt := ti_ne c57
    rw [j_X4_bestPane_146_e]
    refine sf_ite (fun c61 => ?_) (fun c61 => ?_)
    · have C61 : r42.toInt ≤ x8.toInt := ti_le c61
      rw [j_X4_bestPane_162_e]
      have t62 : (x9 + (1 : Int32)).toInt = x9.toInt + (1 : Int) := ti_add (show -2147483648 ≤ x9.toInt + (1 : Int) by omega) (show x9.toInt + (1 : Int) ≤ 2147483647 by omega)
      exact ih _ _ _ _ Iu43 Fu43 Of15_u43 Of34_u43 Of1_u43 Of30_u43 Of18_u43 (by omega) (by omega) (by omega) (by omega) (by omega) (by omega) (by omega)
    have C61 : x8.toInt < r42.toInt := ti_nle c61
    rw [j_X4_bestPane_162_e]
    have t63 : (x9 + (1 : Int32)).toInt = x9.toInt + (1 : Int) := ti_add (show -2147483648 ≤ x9.toInt + (1 : Int) by omega) (show x9.toInt + (1 : Int) ≤ 2147483647 by omega)
    exact ih _ _ _ _ Iu43 Fu43 Of15_u43 Of34_u43 Of1_u43 Of30_u43 Of18_u43 (by omega) (by omega) (by omega) (by omega) (by omega) (by omega) (by omega)
set_option maxHeartbeats 4000000 in
set_option maxRecDepth 100000 in
theorem s_X4_bestPane {F : Nat} (hF : 73786976294838206464 ≤ F) {x1 : Int32} {x2 : Int32} {x3 : Int32} {x4 : Int32} {τ : Mem} (hI : wiM τ) : sf (f_X4_bestPane F x1 x2 x3 x4 τ) (fun r s => wiM s ∧ (∀ k, k < 101 → s k = τ k) ∧ s 101 15 = τ 101 15 ∧ s 101 34 = τ 101 34 ∧ s 101 1 = τ 101 1 ∧ s 101 30 = τ 101 30 ∧ s 101 18 = τ 101 18 ∧ -2147483648 ≤ r.toInt ∧ r.toInt ≤ 2147483647) := by
  have Fτ : ∀ k, k < 101 → τ k = τ k := fun _ _ => rfl
  have Of15_τ : τ 101 15 = τ 101 15 := rfl
  have Of34_τ : τ 101 34 = τ 101 34 := rfl
  have Of1_τ : τ 101 1 = τ 101 1 := rfl
  have Of30_τ : τ 101 30 = τ 101 30 := rfl
  have Of18_τ : τ 101 18 = τ 101 18 := rfl
  rw [f_X4_bestPane_e]
  refine sf_lt (fun s1 hs1 => ?_)
  have Is1 : wiM s1 := by rw [hs1]; exact wm_fld hI (by decide) (by decide) (by decide) (by decide) (by decide) (by decide) (by decide)
  have Fs1 : ∀ k, k < 101 → s1 k = τ k := fun k hk => (show s1 k = τ k by rw [hs1, up2_k (by omega)]).trans (Fτ k hk)
  have Of15_s1 : s1 101 15 = τ 101 15 := (show s1 101 15 = τ 101 15 by rw [hs1, up2_i (by decide)]).trans Of15_τ
  have Of34_s1 : s1 101 34 = τ 101 34 := (show s1 101 34 = τ 101 34 by rw [hs1, up2_i (by decide)]).trans Of34_τ
  have Of1_s1 : s1 101 1 = τ 101 1 := (show s1 101 1 = τ 101 1 by rw [hs1, up2_i (by decide)]).trans Of1_τ
  have Of30_s1 : s1 101 30 = τ 101 30 := (show s1 101 30 = τ 101 30 by rw [hs1, up2_i (by decide)]).trans Of30_τ
  have Of18_s1 : s1 101 18 = τ 101 18 := (show s1 101 18 = τ 101 18 by rw [hs1, up2_i (by decide)]).trans Of18_τ
  have b2 := ti_lo x1
  have b3 := ti_hi x1
  refine sf_bnd (s_X4_isLooker hF Is1) (fun r4 u5 p6 => ?_)
  obtain ⟨e9, p6⟩ := p6
  have e9 := e9.symm
  subst e9
  rcases p6 with ⟨rfl, q7, q8⟩ | p6
  · refine sf_ite (fun c9 => ?_) (fun c9 => ?_)
    · have C9 : (1 : Int) = (0 : Int) := ti_eq c9
      exfalso; omega
    have C9 : ¬ (1 : Int) = (0 : Int) := ti_ne c9
    have b10 := ti_lo x2
    have b11 := ti_hi x2
    refine sf_bnd (s_X4_isHour hF Is1) (fun r12 u13 p14 => ?_)
    obtain ⟨e9, p14⟩ := p14
    have e9 := e9.symm
    subst e9
    rcases p14 with ⟨rfl, q15, q16⟩ | p14
    · refine sf_ite (fun c17 => ?_) (fun c17 => ?_)
      · have C17 : (1 : Int) = (0 : Int) := ti_eq c17
        exfalso; omega
      have C17 : ¬ (1 : Int) = (0 : Int) := ti_ne c17
      refine sf_in ?_
      rw [f_X4_wrongNumber_e]
      have b18 := ti_lo x3
      have b19 := ti_hi x3
      refine sf_ite (fun c20 => ?_) (fun c20 => ?_)
      · have C20 : (0 : Int) ≤ x3.toInt := ti_le c20
        refine sf_ite (fun c21 => ?_) (fun c21 => ?_)
        · have C21 : x3.toInt ≤ (999 : Int) := ti_le c21
          refine sf_ret ?_
          rw [j_X4_bestPane_32_e]
          refine sf_in ?_
          rw [f_X4_wrongBit_e]
          refine sf_ite (fun c22 => ?_) (fun c22 => ?_)
          · have C22 : (0 : Int) = (0 : Int) := ti_eq c22
            refine sf_in ?_
            rw [f_X4_in_e]
            have b23 := ti_lo x4
            have b24 := ti_hi x4
            have b25 := ti_lo (lg_cmp (Int32.toInt64 x4) (0 : Int64))
            have b26 := ti_hi (lg_cmp (Int32.toInt64 x4) (0 : Int64))
            refine sf_ite (fun c27 => ?_) (fun c27 => ?_)
            · have C27 : (lg_cmp (Int32.toInt64 x4) (0 : Int64)).toInt < (0 : Int) := ti_lt c27
              have L27 : x4.toInt < (0 : Int) := by have q := lg_ltl c27; (repeat (rw [Int32.toInt_toInt64] at q)); exact q
              rw [j_X4_in_17_e]
              refine sf_ret ?_
              refine sf_ite (fun c28 => ?_) (fun c28 => ?_)
              · have C28 : (0 : Int) = (0 : Int) := ti_eq c28
                refine sf_ret ?_
                refine sf_ite (fun c29 => ?_) (fun c29 => ?_)
                · have C29 : (0 : Int) ≤ (-2 : Int) := ti_le c29
                  exfalso; omega
                have C29 : (-2 : Int) < (0 : Int) := ti_nle c29
                refine sf_bnd (s_X4_refuse hF Is1 (by decide) (by decide)) (fun r30 u31 p32 => ?_)
                obtain ⟨Iu31, Fu31_, Of15_u31_, Of34_u31_, Of1_u31_, Of30_u31_, Of18_u31_, p32_1, p32_2, p32_x0⟩ := p32
                have Fu31 : ∀ k, k < 101 → u31 k = τ k := fun k hk => (Fu31_ k hk).trans (Fs1 k hk)
                have Of15_u31 : u31 101 15 = τ 101 15 := Of15_u31_.trans Of15_s1
                have Of34_u31 : u31 101 34 = τ 101 34 := Of34_u31_.trans Of34_s1
                have Of1_u31 : u31 101 1 = τ 101 1 := Of1_u31_.trans Of1_s1
                have Of30_u31 : u31 101 30 = τ 101 30 := Of30_u31_.trans Of30_s1
                have Of18_u31 : u31 101 18 = τ 101 18 := Of18_u31_.trans Of18_s1
                replace p32_x0 : r30.toInt = (-2 : Int) := p32_x0
                exact sf_ret ⟨Iu31, Fu31, Of15_u31, Of34_u31, Of1_u31, Of30_u31, Of18_u31, ti_lo _, ti_hi _⟩
              have C28 : ¬ (0 : Int) = (0 : Int) := ti_ne c28
              exfalso; omega
            have C27 : (0 : Int) ≤ (lg_cmp (Int32.toInt64 x4) (0 : Int64)).toInt := ti_nlt c27
            have L27 : (0 : Int) ≤ x4.toInt := by have q := lg_ltln c27; (repeat (rw [Int32.toInt_toInt64] at q)); exact q
            have b33 := ti_lo (lg_cmp (Int32.toInt64 x4) (Int32.toInt64 (1 : Int32)))
            have b34 := ti_hi (lg_cmp (Int32.toInt64 x4) (Int32.toInt64 (1 : Int32)))
            refine sf_ite (fun c35 => ?_) (fun c35 => ?_)
            · have C35 : (0 : Int) < (lg_cmp (Int32.toInt64 x4) (Int32.toInt64 (1 : Int32))).toInt := ti_lt c35
              have L35 : (1 : Int) < x4.toInt := by have q := lg_ltr c35; (repeat (rw [Int32.toInt_toInt64] at q)); exact q
              rw [j_X4_in_17_e]
              refine sf_ret ?_
              refine sf_ite (fun c36 => ?_) (fun c36 => ?_)
              · have C36 : (0 : Int) = (0 : Int) := ti_eq c36
                refine sf_ret ?_
                refine sf_ite (fun c37 => ?_) (fun c37 => ?_)
                · have C37 : (0 : Int) ≤ (-2 : Int) := ti_le c37
                  exfalso; omega
                have C37 : (-2 : Int) < (0 : Int) := ti_nle c37
                refine sf_bnd (s_X4_refuse hF Is1 (by decide) (by decide)) (fun r38 u39 p40 => ?_)
                obtain ⟨Iu39, Fu39_, Of15_u39_, Of34_u39_, Of1_u39_, Of30_u39_, Of18_u39_, p40_1, p40_2, p40_x0⟩ := p40
                have Fu39 : ∀ k, k < 101 → u39 k = τ k := fun k hk => (Fu39_ k hk).trans (Fs1 k hk)
                have Of15_u39 : u39 101 15 = τ 101 15 := Of15_u39_.trans Of15_s1
                have Of34_u39 : u39 101 34 = τ 101 34 := Of34_u39_.trans Of34_s1
                have Of1_u39 : u39 101 1 = τ 101 1 := Of1_u39_.trans Of1_s1
                have Of30_u39 : u39 101 30 = τ 101 30 := Of30_u39_.trans Of30_s1
                have Of18_u39 : u39 101 18 = τ 101 18 := Of18_u39_.trans Of18_s1
                replace p40_x0 : r38.toInt = (-2 : Int) := p40_x0
                exact sf_ret ⟨Iu39, Fu39, Of15_u39, Of34_u39, Of1_u39, Of30_u39, Of18_u39, ti_lo _, ti_hi _⟩
              have C36 : ¬ (0 : Int) = (0 : Int) := ti_ne c36
              exfalso; omega
            have C35 : (lg_cmp (Int32.toInt64 x4) (Int32.toInt64 (1 : Int32))).toInt ≤ (0 : Int) := ti_nlt c35
            have L35 : x4.toInt ≤ (1 : Int) := by have q := lg_ltrn c35; (repeat (rw [Int32.toInt_toInt64] at q)); exact q
            refine sf_ret ?_
            refine sf_ite (fun c41 => ?_) (fun c41 => ?_)
            · have C41 : (1 : Int) = (0 : Int) := ti_eq c41
              exfalso; omega
            have C41 : ¬ (1 : Int) = (0 : Int) := ti_ne c41
            rw [j_X4_wrongBit_20_e]
            refine sf_ret ?_
            refine sf_ite (fun c42 => ?_) (fun c42 => ?_)
            · have C42 : (0 : Int) ≤ (0 : Int) := ti_le c42
              have t43 : ((24 : Int32) * x1).toInt = (24 : Int) * x1.toInt := ti_mul (show -2147483648 ≤ (24 : Int) * x1.toInt by omega) (show (24 : Int) * x1.toInt ≤ 2147483647 by omega)
              have t44 : (((24 : Int32) * x1) + x2).toInt = ((24 : Int32) * x1).toInt + x2.toInt := ti_add (show -2147483648 ≤ ((24 : Int32) * x1).toInt + x2.toInt by omega) (show ((24 : Int32) * x1).toInt + x2.toInt ≤ 2147483647 by omega)
              refine sf_chk (ti_in (by omega) (by omega)) ?_
              have v45 : Int32.toNatClampNeg (((24 : Int32) * x1) + x2) = (((24 : Int32) * x1) + x2).toInt.toNat := rfl
              have m47 := wx_106 Is1 (Int32.toNatClampNeg (((24 : Int32) * x1) + x2))
              refine sf_lt (fun z46 hz46 => ?_)
              have hz46_ : z46.toInt = (s1 106 (Int32.toNatClampNeg (((24 : Int32) * x1) + x2))).toInt := (show z46.toInt = (s1 106 (Int32.toNatClampNeg (((24 : Int32) * x1) + x2))).toInt from congrArg Int32.toInt hz46)
              have l_0 : (0 : Int32).toInt = 0 := rfl
              exact sl_X4_bestPane_74 hF (by omega) (by omega) (by omega) (by omega) (by omega) (by omega) (by omega) (by omega) (by omega) (by omega) _ _ _ _ _ Is1 Fs1 Of15_s1 Of34_s1 Of1_s1 Of30_s1 Of18_s1 (by omega) (by decide) (by decide) (by decide) (by decide) (by decide) (by decide)
            have C42 : (0 : Int) < (0 : Int) := ti_nle c42
            exfalso; omega
          have C22 : ¬ (0 : Int) = (0 : Int) := ti_ne c22
          exfalso; omega
        have C21 : (999 : Int) < x3.toInt := ti_nle c21
        refine sf_ret ?_
        rw [j_X4_bestPane_32_e]
        refine sf_in ?_
        rw [f_X4_wrongBit_e]
        refine sf_ite (fun c48 => ?_) (fun c48 => ?_)
        · have C48 : (-6 : Int) = (0 : Int) := ti_eq c48
          exfalso; omega
        have C48 : ¬ (-6 : Int) = (0 : Int) := ti_ne c48
        rw [j_X4_wrongBit_20_e]
        refine sf_ret ?_
        refine sf_ite (fun c49 => ?_) (fun c49 => ?_)
        · have C49 : (0 : Int) ≤ (-6 : Int) := ti_le c49
          exfalso; omega
        have C49 : (-6 : Int) < (0 : Int) := ti_nle c49
        refine sf_bnd (s_X4_refuse hF Is1 (by decide) (by decide)) (fun r50 u51 p52 => ?_)
        obtain ⟨Iu51, Fu51_, Of15_u51_, Of34_u51_, Of1_u51_, Of30_u51_, Of18_u51_, p52_1, p52_2, p52_x0⟩ := p52
        have Fu51 : ∀ k, k < 101 → u51 k = τ k := fun k hk => (Fu51_ k hk).trans (Fs1 k hk)
        have Of15_u51 : u51 101 15 = τ 101 15 := Of15_u51_.trans Of15_s1
        have Of34_u51 : u51 101 34 = τ 101 34 := Of34_u51_.trans Of34_s1
        have Of1_u51 : u51 101 1 = τ 101 1 := Of1_u51_.trans Of1_s1
        have Of30_u51 : u51 101 30 = τ 101 30 := Of30_u51_.trans Of30_s1
        have Of18_u51 : u51 101 18 = τ 101 18 := Of18_u51_.trans Of18_s1
        replace p52_x0 : r50.toInt = (-6 : Int) := p52_x0
        exact sf_ret ⟨Iu51, Fu51, Of15_u51, Of34_u51, Of1_u51, Of30_u51, Of18_u51, ti_lo _, ti_hi _⟩
      have C20 : x3.toInt < (0 : Int) := ti_nle c20
      refine sf_ret ?_
      rw [j_X4_bestPane_32_e]
      refine sf_in ?_
      rw [f_X4_wrongBit_e]
      refine sf_ite (fun c53 => ?_) (fun c53 => ?_)
      · have C53 : (-4 : Int) = (0 : Int) := ti_eq c53
        exfalso; omega
      have C53 : ¬ (-4 : Int) = (0 : Int) := ti_ne c53
      rw [j_X4_wrongBit_20_e]
      refine sf_ret ?_
      refine sf_ite (fun c54 => ?_) (fun c54 => ?_)
      · have C54 : (0 : Int) ≤ (-4 : Int) := ti_le c54
        exfalso; omega
      have C54 : (-4 : Int) < (0 : Int) := ti_nle c54
      refine sf_bnd (s_X4_refuse hF Is1 (by decide) (by decide)) (fun r55 u56 p57 => ?_)
      obtain ⟨Iu56, Fu56_, Of15_u56_, Of34_u56_, Of1_u56_, Of30_u56_, Of18_u56_, p57_1, p57_2, p57_x0⟩ := p57
      have Fu56 : ∀ k, k < 101 → u56 k = τ k := fun k hk => (Fu56_ k hk).trans (Fs1 k hk)
      have Of15_u56 : u56 101 15 = τ 101 15 := Of15_u56_.trans Of15_s1
      have Of34_u56 : u56 101 34 = τ 101 34 := Of34_u56_.trans Of34_s1
      have Of1_u56 : u56 101 1 = τ 101 1 := Of1_u56_.trans Of1_s1
      have Of30_u56 : u56 101 30 = τ 101 30 := Of30_u56_.trans Of30_s1
      have Of18_u56 : u56 101 18 = τ 101 18 := Of18_u56_.trans Of18_s1
      replace p57_x0 : r55.toInt = (-4 : Int) := p57_x0
      exact sf_ret ⟨Iu56, Fu56, Of15_u56, Of34_u56, Of1_u56, Of30_u56, Of18_u56, ti_lo _, ti_hi _⟩
    obtain ⟨rfl, q58⟩ := p14
    refine sf_ite (fun c59 => ?_) (fun c59 => ?_)
    · have C59 : (0 : Int) = (0 : Int) := ti_eq c59
      rw [j_X4_bestPane_31_e]
      rw [j_X4_bestPane_32_e]
      refine sf_in ?_
      rw [f_X4_wrongBit_e]
      refine sf_ite (fun c60 => ?_) (fun c60 => ?_)
      · have C60 : (-1 : Int) = (0 : Int) := ti_eq c60
        exfalso; omega
      have C60 : ¬ (-1 : Int) = (0 : Int) := ti_ne c60
      rw [j_X4_wrongBit_20_e]
      refine sf_ret ?_
      refine sf_ite (fun c61 => ?_) (fun c61 => ?_)
      · have C61 : (0 : Int) ≤ (-1 : Int) := ti_le c61
        exfalso; omega
      have C61 : (-1 : Int) < (0 : Int) := ti_nle c61
      refine sf_bnd (s_X4_refuse hF Is1 (by decide) (by decide)) (fun r62 u63 p64 => ?_)
      obtain ⟨Iu63, Fu63_, Of15_u63_, Of34_u63_, Of1_u63_, Of30_u63_, Of18_u63_, p64_1, p64_2, p64_x0⟩ := p64
      have Fu63 : ∀ k, k < 101 → u63 k = τ k := fun k hk => (Fu63_ k hk).trans (Fs1 k hk)
      have Of15_u63 : u63 101 15 = τ 101 15 := Of15_u63_.trans Of15_s1
      have Of34_u63 : u63 101 34 = τ 101 34 := Of34_u63_.trans Of34_s1
      have Of1_u63 : u63 101 1 = τ 101 1 := Of1_u63_.trans Of1_s1
      have Of30_u63 : u63 101 30 = τ 101 30 := Of30_u63_.trans Of30_s1
      have Of18_u63 : u63 101 18 = τ 101 18 := Of18_u63_.trans Of18_s1
      replace p64_x0 : r62.toInt = (-1 : Int) := p64_x0
      exact sf_ret ⟨Iu63, Fu63, Of15_u63, Of34_u63, Of1_u63, Of30_u63, Of18_u63, ti_lo _, ti_hi _⟩
    have C59 : ¬ (0 : Int) = (0 : Int) := ti_ne c59
    exfalso; omega
  obtain rfl := p6
  refine sf_ite (fun c65 => ?_) (fun c65 => ?_)
  · have C65 : (0 : Int) = (0 : Int) := ti_eq c65
    rw [j_X4_bestPane_31_e]
    rw [j_X4_bestPane_32_e]
    refine sf_in ?_
    rw [f_X4_wrongBit_e]
    refine sf_ite (fun c66 => ?_) (fun c66 => ?_)
    · have C66 : (-1 : Int) = (0 : Int) := ti_eq c66
      exfalso; omega
    have C66 : ¬ (-1 : Int) = (0 : Int) := ti_ne c66
    rw [j_X4_wrongBit_20_e]
    refine sf_ret ?_
    refine sf_ite (fun c67 => ?_) (fun c67 => ?_)
    · have C67 : (0 : Int) ≤ (-1 : Int) := ti_le c67
      exfalso; omega
    have C67 : (-1 : Int) < (0 : Int) := ti_nle c67
    refine sf_bnd (s_X4_refuse hF Is1 (by decide) (by decide)) (fun r68 u69 p70 => ?_)
    obtain ⟨Iu69, Fu69_, Of15_u69_, Of34_u69_, Of1_u69_, Of30_u69_, Of18_u69_, p70_1, p70_2, p70_x0⟩ := p70
    have Fu69 : ∀ k, k < 101 → u69 k = τ k := fun k hk => (Fu69_ k hk).trans (Fs1 k hk)
    have Of15_u69 : u69 101 15 = τ 101 15 := Of15_u69_.trans Of15_s1
    have Of34_u69 : u69 101 34 = τ 101 34 := Of34_u69_.trans Of34_s1
    have Of1_u69 : u69 101 1 = τ 101 1 := Of1_u69_.trans Of1_s1
    have Of30_u69 : u69 101 30 = τ 101 30 := Of30_u69_.trans Of30_s1
    have Of18_u69 : u69 101 18 = τ 101 18 := Of18_u69_.trans Of18_s1
    replace p70_x0 : r68.toInt = (-1 : Int) := p70_x0
    exact sf_ret ⟨Iu69, Fu69, Of15_u69, Of34_u69, Of1_u69, Of30_u69, Of18_u69, ti_lo _, ti_hi _⟩
  have C65 : ¬ (0 : Int) = (0 : Int) := ti_ne c65
  exfalso; omega
