set_option maxHeartbeats 4000000 in
set_option maxRecDepth 100000 in
theorem s_X4_stands {F : Nat} (hF : 73786976294838206464 ≤ F) {x1 : Int32} {x2 : Int32} {x3 : Int32} {x4 : Int32} {τ : Mem} (hI : wiM τ) : sf (f_X4_stands F x1 x2 x3 x4 τ) (fun r s => wiM s ∧ (∀ k, k < 101 → s k = τ k) ∧ s 101 15 = τ 101 15 ∧ s 101 34 = τ 101 34 ∧ s 101 18 = τ 101 18 ∧ -2147483648 ≤ r.toInt ∧ r.toInt ≤ 2147483647) := by
  have Fτ : ∀ k, k < 101 → τ k = τ k := fun _ _ => rfl
  have Of15_τ : τ 101 15 = τ 101 15 := rfl
  have Of34_τ : τ 101 34 = τ 101 34 := rfl
  have Of1_τ : τ 101 1 = τ 101 1 := rfl
  have Of30_τ : τ 101 30 = τ 101 30 := rfl
  have Of18_τ : τ 101 18 = τ 101 18 := rfl
  rw [f_X4_stands_e]
  refine sf_lt (fun s1 hs1 => ?_)
  have Is1 : wiM s1 := by rw [hs1]; exact wm_fld hI (by decide) (by decide) (by decide) (by decide) (by decide) (by decide) (by decide)
  have Fs1 : ∀ k, k < 101 → s1 k = τ k := fun k hk => (show s1 k = τ k by rw [hs1, up2_k (by omega)]).trans (Fτ k hk)
  have Of15_s1 : s1 101 15 = τ 101 15 := (show s1 101 15 = τ 101 15 by rw [hs1, up2_i (by decide)]).trans Of15_τ
  have Of34_s1 : s1 101 34 = τ 101 34 := (show s1 101 34 = τ 101 34 by rw [hs1, up2_i (by decide)]).trans Of34_τ
  have Of1_s1 : s1 101 1 = τ 101 1 := (show s1 101 1 = τ 101 1 by rw [hs1, up2_i (by decide)]).trans Of1_τ
  have Of30_s1 : s1 101 30 = τ 101 30 := (show s1 101 30 = τ 101 30 by rw [hs1, up2_i (by decide)]).trans Of30_τ
  have Of18_s1 : s1 101 18 = τ 101 18 := (show s1 101 18 = τ 101 18 by rw [hs1, up2_i (by decide)]).trans Of18_τ
  have b2 := ti_lo x1
  have b3 := ti_hi x1
  refine sf_bnd (s_X4_isLooker hF Is1) (fun r4 u5 p6 => ?_)
  obtain ⟨e9, p6⟩ := p6
  have e9 := e9.symm
  subst e9
  rcases p6 with ⟨rfl, q7, q8⟩ | p6
  · refine sf_ite (fun c9 => ?_) (fun c9 => ?_)
    · have C9 : (1 : Int) = (0 : Int) := ti_eq c9
      exfalso; omega
    have C9 : ¬ (1 : Int) = (0 : Int) := ti_ne c9
    have b10 := ti_lo x2
    have b11 := ti_hi x2
    refine sf_bnd (s_X4_isHour hF Is1) (fun r12 u13 p14 => ?_)
    obtain ⟨e9, p14⟩ := p14
    have e9 := e9.symm
    subst e9
    rcases p14 with ⟨rfl, q15, q16⟩ | p14
    · refine sf_ite (fun c17 => ?_) (fun c17 => ?_)
      · have C17 : (1 : Int) = (0 : Int) := ti_eq c17
        exfalso; omega
      have C17 : ¬ (1 : Int) = (0 : Int) := ti_ne c17
      have b18 := ti_lo x3
      have b19 := ti_hi x3
      refine sf_bnd (s_X4_isHour hF Is1) (fun r20 u21 p22 => ?_)
      obtain ⟨e9, p22⟩ := p22
      have e9 := e9.symm
      subst e9
      rcases p22 with ⟨rfl, q23, q24⟩ | p22
      · refine sf_ite (fun c25 => ?_) (fun c25 => ?_)
        · have C25 : (1 : Int) = (0 : Int) := ti_eq c25
          exfalso; omega
        have C25 : ¬ (1 : Int) = (0 : Int) := ti_ne c25
        have b26 := ti_lo x4
        have b27 := ti_hi x4
        refine sf_ite (fun c28 => ?_) (fun c28 => ?_)
        · have C28 : x4.toInt = (9 : Int) := ti_eq c28
          rw [j_X4_stands_43_e]
          refine sf_ite (fun c29 => ?_) (fun c29 => ?_)
          · have C29 : x2.toInt ≤ x3.toInt := ti_le c29
            rw [j_X4_stands_58_e]
            refine sf_ite (fun c30 => ?_) (fun c30 => ?_)
            · have C30 : (0 : Int) ≤ (0 : Int) := ti_le c30
              refine sf_bnd (s_X4_keepTurn hF Is1) (fun r31 u32 p33 => ?_)
              obtain ⟨Iu32, Fu32_, Of15_u32_, Of34_u32_, Of18_u32_, -⟩ := p33
              have Fu32 : ∀ k, k < 101 → u32 k = τ k := fun k hk => (Fu32_ k hk).trans (Fs1 k hk)
              have Of15_u32 : u32 101 15 = τ 101 15 := Of15_u32_.trans Of15_s1
              have Of34_u32 : u32 101 34 = τ 101 34 := Of34_u32_.trans Of34_s1
              have Of18_u32 : u32 101 18 = τ 101 18 := Of18_u32_.trans Of18_s1
              refine sf_bnd (s_X4_stand hF Iu32 (by omega) (by omega) (by omega) (by omega) (by omega) (by omega) (by first | omega | decide)) (fun r34 u35 p36 => ?_)
              obtain ⟨Iu35, Fu35_, Of15_u35_, Of34_u35_, Of1_u35_, Of30_u35_, Of18_u35_, -⟩ := p36
              have Fu35 : ∀ k, k < 101 → u35 k = τ k := fun k hk => (Fu35_ k hk).trans (Fu32 k hk)
              have Of15_u35 : u35 101 15 = τ 101 15 := Of15_u35_.trans Of15_u32
              have Of34_u35 : u35 101 34 = τ 101 34 := Of34_u35_.trans Of34_u32
              have Of18_u35 : u35 101 18 = τ 101 18 := Of18_u35_.trans Of18_u32
              refine sf_bnd (s_X4_hoursOf hF Iu35 (by omega) (by omega)) (fun r37 u38 p39 => ?_)
              obtain ⟨e9, p39_1, p39_2⟩ := p39
              have e9 := e9.symm
              subst e9
              have b40 := ti_lo r37
              have b41 := ti_hi r37
              exact sf_ret ⟨Iu35, Fu35, Of15_u35, Of34_u35, Of18_u35, ti_lo _, ti_hi _⟩
            have C30 : (0 : Int) < (0 : Int) := ti_nle c30
            exfalso; omega
          have C29 : x3.toInt < x2.toInt := ti_nle c29
          rw [j_X4_stands_58_e]
          refine sf_ite (fun c42 => ?_) (fun c42 => ?_)
          · have C42 : (0 : Int) ≤ (-3 : Int) := ti_le c42
            exfalso; omega
          have C42 : (-3 : Int) < (0 : Int) := ti_nle c42
          refine sf_bnd (s_X4_refuse hF Is1 (by decide) (by decide)) (fun r43 u44 p45 => ?_)
          obtain ⟨Iu44, Fu44_, Of15_u44_, Of34_u44_, Of1_u44_, Of30_u44_, Of18_u44_, p45_1, p45_2, p45_x0⟩ := p45
          have Fu44 : ∀ k, k < 101 → u44 k = τ k := fun k hk => (Fu44_ k hk).trans (Fs1 k hk)
          have Of15_u44 : u44 101 15 = τ 101 15 := Of15_u44_.trans Of15_s1
          have Of34_u44 : u44 101 34 = τ 101 34 := Of34_u44_.trans Of34_s1
          have Of1_u44 : u44 101 1 = τ 101 1 := Of1_u44_.trans Of1_s1
          have Of30_u44 : u44 101 30 = τ 101 30 := Of30_u44_.trans Of30_s1
          have Of18_u44 : u44 101 18 = τ 101 18 := Of18_u44_.trans Of18_s1
          replace p45_x0 : r43.toInt = (-3 : Int) := p45_x0
          exact sf_ret ⟨Iu44, Fu44, Of15_u44, Of34_u44, Of18_u44, ti_lo _, ti_hi _⟩
        have C28 : ¬ x4.toInt = (9 : Int) := ti_ne c28
        refine sf_bnd (s_X4_isPane hF Is1) (fun r46 u47 p48 => ?_)
        obtain ⟨e9, p48⟩ := p48
        have e9 := e9.symm
        subst e9
        rcases p48 with ⟨rfl, q49, q50⟩ | p48
        · refine sf_ite (fun c51 => ?_) (fun c51 => ?_)
          · have C51 : (1 : Int) = (0 : Int) := ti_eq c51
            exfalso; omega
          have C51 : ¬ (1 : Int) = (0 : Int) := ti_ne c51
          rw [j_X4_stands_43_e]
          refine sf_ite (fun c52 => ?_) (fun c52 => ?_)
          · have C52 : x2.toInt ≤ x3.toInt := ti_le c52
            rw [j_X4_stands_58_e]
            refine sf_ite (fun c53 => ?_) (fun c53 => ?_)
            · have C53 : (0 : Int) ≤ (0 : Int) := ti_le c53
              refine sf_bnd (s_X4_keepTurn hF Is1) (fun r54 u55 p56 => ?_)
              obtain ⟨Iu55, Fu55_, Of15_u55_, Of34_u55_, Of18_u55_, -⟩ := p56
              have Fu55 : ∀ k, k < 101 → u55 k = τ k := fun k hk => (Fu55_ k hk).trans (Fs1 k hk)
              have Of15_u55 : u55 101 15 = τ 101 15 := Of15_u55_.trans Of15_s1
              have Of34_u55 : u55 101 34 = τ 101 34 := Of34_u55_.trans Of34_s1
              have Of18_u55 : u55 101 18 = τ 101 18 := Of18_u55_.trans Of18_s1
              refine sf_bnd (s_X4_stand hF Iu55 (by omega) (by omega) (by omega) (by omega) (by omega) (by omega) (by first | omega | decide)) (fun r57 u58 p59 => ?_)
              obtain ⟨Iu58, Fu58_, Of15_u58_, Of34_u58_, Of1_u58_, Of30_u58_, Of18_u58_, -⟩ := p59
              have Fu58 : ∀ k, k < 101 → u58 k = τ k := fun k hk => (Fu58_ k hk).trans (Fu55 k hk)
              have Of15_u58 : u58 101 15 = τ 101 15 := Of15_u58_.trans Of15_u55
              have Of34_u58 : u58 101 34 = τ 101 34 := Of34_u58_.trans Of34_u55
              have Of18_u58 : u58 101 18 = τ 101 18 := Of18_u58_.trans Of18_u55
              refine sf_bnd (s_X4_hoursOf hF Iu58 (by omega) (by omega)) (fun r60 u61 p62 => ?_)
              obtain ⟨e9, p62_1, p62_2⟩ := p62
              have e9 := e9.symm
              subst e9
              have b63 := ti_lo r60
              have b64 := ti_hi r60
              exact sf_ret ⟨Iu58, Fu58, Of15_u58, Of34_u58, Of18_u58, ti_lo _, ti_hi _⟩
            have C53 : (0 : Int) < (0 : Int) := ti_nle c53
            exfalso; omega
          have C52 : x3.toInt < x2.toInt := ti_nle c52
          rw [j_X4_stands_58_e]
          refine sf_ite (fun c65 => ?_) (fun c65 => ?_)
          · have C65 : (0 : Int) ≤ (-3 : Int) := ti_le c65
            exfalso; omega
          have C65 : (-3 : Int) < (0 : Int) := ti_nle c65
          refine sf_bnd (s_X4_refuse hF Is1 (by decide) (by decide)) (fun r66 u67 p68 => ?_)
          obtain ⟨Iu67, Fu67_, Of15_u67_, Of34_u67_, Of1_u67_, Of30_u67_, Of18_u67_, p68_1, p68_2, p68_x0⟩ := p68
          have Fu67 : ∀ k, k < 101 → u67 k = τ k := fun k hk => (Fu67_ k hk).trans (Fs1 k hk)
          have Of15_u67 : u67 101 15 = τ 101 15 := Of15_u67_.trans Of15_s1
          have Of34_u67 : u67 101 34 = τ 101 34 := Of34_u67_.trans Of34_s1
          have Of1_u67 : u67 101 1 = τ 101 1 := Of1_u67_.trans Of1_s1
          have Of30_u67 : u67 101 30 = τ 101 30 := Of30_u67_.trans Of30_s1
          have Of18_u67 : u67 101 18 = τ 101 18 := Of18_u67_.trans Of18_s1
          replace p68_x0 : r66.toInt = (-3 : Int) := p68_x0
          exact sf_ret ⟨Iu67, Fu67, Of15_u67, Of34_u67, Of18_u67, ti_lo _, ti_hi _⟩
        obtain rfl := p48
        refine sf_ite (fun c69 => ?_) (fun c69 => ?_)
        · have C69 : (0 : Int) = (0 : Int) := ti_eq c69
          rw [j_X4_stands_57_e]
          rw [j_X4_stands_58_e]
          refine sf_ite (fun c70 => ?_) (fun c70 => ?_)
          · have C70 : (0 : Int) ≤ (-1 : Int) := ti_le c70
            exfalso; omega
          have C70 : (-1 : Int) < (0 : Int) := ti_nle c70
          refine sf_bnd (s_X4_refuse hF Is1 (by decide) (by decide)) (fun r71 u72 p73 => ?_)
          obtain ⟨Iu72, Fu72_, Of15_u72_, Of34_u72_, Of1_u72_, Of30_u72_, Of18_u72_, p73_1, p73_2, p73_x0⟩ := p73
          have Fu72 : ∀ k, k < 101 → u72 k = τ k := fun k hk => (Fu72_ k hk).trans (Fs1 k hk)
          have Of15_u72 : u72 101 15 = τ 101 15 := Of15_u72_.trans Of15_s1
          have Of34_u72 : u72 101 34 = τ 101 34 := Of34_u72_.trans Of34_s1
          have Of1_u72 : u72 101 1 = τ 101 1 := Of1_u72_.trans Of1_s1
          have Of30_u72 : u72 101 30 = τ 101 30 := Of30_u72_.trans Of30_s1
          have Of18_u72 : u72 101 18 = τ 101 18 := Of18_u72_.trans Of18_s1
          replace p73_x0 : r71.toInt = (-1 : Int) := p73_x0
          exact sf_ret ⟨Iu72, Fu72, Of15_u72, Of34_u72, Of18_u72, ti_lo _, ti_hi _⟩
        have C69 : ¬ (0 : Int) = (0 : Int) := ti_ne c69
        exfalso; omega
      obtain ⟨rfl, q74⟩ := p22
      refine sf_ite (fun c75 => ?_) (fun c75 => ?_)
      · have C75 : (0 : Int) = (0 : Int) := ti_eq c75
        rw [j_X4_stands_57_e]
        rw [j_X4_stands_58_e]
        refine sf_ite (fun c76 => ?_) (fun c76 => ?_)
        · have C76 : (0 : Int) ≤ (-1 : Int) := ti_le c76
          exfalso; omega
        have C76 : (-1 : Int) < (0 : Int) := ti_nle c76
        refine sf_bnd (s_X4_refuse hF Is1 (by decide) (by decide)) (fun r77 u78 p79 => ?_)
        obtain ⟨Iu78, Fu78_, Of15_u78_, Of34_u78_, Of1_u78_, Of30_u78_, Of18_u78_, p79_1, p79_2, p79_x0⟩ := p79
        have Fu78 : ∀ k, k < 101 → u78 k = τ k := fun k hk => (Fu78_ k hk).trans (Fs1 k hk)
        have Of15_u78 : u78 101 15 = τ 101 15 := Of15_u78_.trans Of15_s1
        have Of34_u78 : u78 101 34 = τ 101 34 := Of34_u78_.trans Of34_s1
        have Of1_u78 : u78 101 1 = τ 101 1 := Of1_u78_.trans Of1_s1
        have Of30_u78 : u78 101 30 = τ 101 30 := Of30_u78_.trans Of30_s1
        have Of18_u78 : u78 101 18 = τ 101 18 := Of18_u78_.trans Of18_s1
        replace p79_x0 : r77.toInt = (-1 : Int) := p79_x0
        exact sf_ret ⟨Iu78, Fu78, Of15_u78, Of34_u78, Of18_u78, ti_lo _, ti_hi _⟩
      have C75 : ¬ (0 : Int) = (0 : Int) := ti_ne c75
      exfalso; omega
    obtain ⟨rfl, q80⟩ := p14
    refine sf_ite (fun c81 => ?_) (fun c81 => ?_)
    · have C81 : (0 : Int) = (0 : Int) := ti_eq c81
      rw [j_X4_stands_57_e]
      rw [j_X4_stands_58_e]
      refine sf_ite (fun c82 => ?_) (fun c82 => ?_)
      · have C82 : (0 : Int) ≤ (-1 : Int) := ti_le c82
        exfalso; omega
      have C82 : (-1 : Int) < (0 : Int) := ti_nle c82
      refine sf_bnd (s_X4_refuse hF Is1 (by decide) (by decide)) (fun r83 u84 p85 => ?_)
      obtain ⟨Iu84, Fu84_, Of15_u84_, Of34_u84_, Of1_u84_, Of30_u84_, Of18_u84_, p85_1, p85_2, p85_x0⟩ := p85
      have Fu84 : ∀ k, k < 101 → u84 k = τ k := fun k hk => (Fu84_ k hk).trans (Fs1 k hk)
      have Of15_u84 : u84 101 15 = τ 101 15 := Of15_u84_.trans Of15_s1
      have Of34_u84 : u84 101 34 = τ 101 34 := Of34_u84_.trans Of34_s1
      have Of1_u84 : u84 101 1 = τ 101 1 := Of1_u84_.trans Of1_s1
      have Of30_u84 : u84 101 30 = τ 101 30 := Of30_u84_.trans Of30_s1
      have Of18_u84 : u84 101 18 = τ 101 18 := Of18_u84_.trans Of18_s1
      replace p85_x0 : r83.toInt = (-1 : Int) := p85_x0
      exact sf_ret ⟨Iu84, Fu84, Of15_u84, Of34_u84, Of18_u84, ti_lo _, ti_hi _⟩
    have C81 : ¬ (0 : Int) = (0 : Int) := ti_ne c81
    exfalso; omega
  obtain rfl := p6
  refine sf_ite (fun c86 => ?_) (fun c86 => ?_)
  · have C86 : (0 : Int) = (0 : Int) := ti_eq c86
    rw [j_X4_stands_57_e]
    rw [j_X4_stands_58_e]
    refine sf_ite (fun c87 => ?_) (fun c87 => ?_)
    · have C87 : (0 : Int) ≤ (-1 : Int) := ti_le c87
      exfalso; omega
    have C87 : (-1 : Int) < (0 : Int) := ti_nle c87
    refine sf_bnd (s_X4_refuse hF Is1 (by decide) (by decide)) (fun r88 u89 p90 => ?_)
    obtain ⟨Iu89, Fu89_, Of15_u89_, Of34_u89_, Of1_u89_, Of30_u89_, Of18_u89_, p90_1, p90_2, p90_x0⟩ := p90
    have Fu89 : ∀ k, k < 101 → u89 k = τ k := fun k hk => (Fu89_ k hk).trans (Fs1 k hk)
    have Of15_u89 : u89 101 15 = τ 101 15 := Of15_u89_.trans Of15_s1
    have Of34_u89 : u89 101 34 = τ 101 34 := Of34_u89_.trans Of34_s1
    have Of1_u89 : u89 101 1 = τ 101 1 := Of1_u89_.trans Of1_s1
    have Of30_u89 : u89 101 30 = τ 101 30 := Of30_u89_.trans Of30_s1
    have Of18_u89 : u89 101 18 = τ 101 18 := Of18_u89_.trans Of18_s1
    replace p90_x0 : r88.toInt = (-1 : Int) := p90_x0
    exact sf_ret ⟨Iu89, Fu89, Of15_u89, Of34_u89, Of18_u89, ti_lo _, ti_hi _⟩
  have C86 : ¬ (0 : Int) = (0 : Int) := ti_ne c86
  exfalso; omega
set_option maxHeartbeats 4000000 in
set_option maxRecDepth 100000 in
theorem s_X4_roster {F : Nat} (hF : 73786976294838206464 ≤ F) {x1 : Int32} {x2 : Int32} {τ : Mem} (hI : wiM τ) : sf (f_X4_roster F x1 x2 τ) (fun r s => wiM s ∧ (∀ k, k < 101 → s k = τ k) ∧ s 101 15 = τ 101 15 ∧ s 101 34 = τ 101 34 ∧ s 101 1 = τ 101 1 ∧ s 101 30 = τ 101 30 ∧ s 101 18 = τ 101 18 ∧ -2147483648 ≤ r.toInt ∧ r.toInt ≤ 2147483647) := by
  have Fτ : ∀ k, k < 101 → τ k = τ k := fun _ _ => rfl
  have Of15_τ : τ 101 15 = τ 101 15 := rfl
  have Of34_τ : τ 101 34 = τ 101 34 := rfl
  have Of1_τ : τ 101 1 = τ 101 1 := rfl
  have Of30_τ : τ 101 30 = τ 101 30 := rfl
  have Of18_τ : τ 101 18 = τ 101 18 := rfl
  rw [f_X4_roster_e]
  refine sf_lt (fun s1 hs1 => ?_)
  have Is1 : wiM s1 := by rw [hs1]; exact wm_fld hI (by decide) (by decide) (by decide) (by decide) (by decide) (by decide) (by decide)
  have Fs1 : ∀ k, k < 101 → s1 k = τ k := fun k hk => (show s1 k = τ k by rw [hs1, up2_k (by omega)]).trans (Fτ k hk)
  have Of15_s1 : s1 101 15 = τ 101 15 := (show s1 101 15 = τ 101 15 by rw [hs1, up2_i (by decide)]).trans Of15_τ
  have Of34_s1 : s1 101 34 = τ 101 34 := (show s1 101 34 = τ 101 34 by rw [hs1, up2_i (by decide)]).trans Of34_τ
  have Of1_s1 : s1 101 1 = τ 101 1 := (show s1 101 1 = τ 101 1 by rw [hs1, up2_i (by decide)]).trans Of1_τ
  have Of30_s1 : s1 101 30 = τ 101 30 := (show s1 101 30 = τ 101 30 by rw [hs1, up2_i (by decide)]).trans Of30_τ
  have Of18_s1 : s1 101 18 = τ 101 18 := (show s1 101 18 = τ 101 18 by rw [hs1, up2_i (by decide)]).trans Of18_τ
  have b2 := ti_lo x1
  have b3 := ti_hi x1
  refine sf_bnd (s_X4_isLooker hF Is1) (fun r4 u5 p6 => ?_)
  obtain ⟨e9, p6⟩ := p6
  have e9 := e9.symm
  subst e9
  rcases p6 with ⟨rfl, q7, q8⟩ | p6
  · refine sf_ite (fun c9 => ?_) (fun c9 => ?_)
    · have C9 : (1 : Int) = (0 : Int) := ti_eq c9
      exfalso; omega
    have C9 : ¬ (1 : Int) = (0 : Int) := ti_ne c9
    have b10 := ti_lo x2
    have b11 := ti_hi x2
    refine sf_bnd (s_X4_isHour hF Is1) (fun r12 u13 p14 => ?_)
    obtain ⟨e9, p14⟩ := p14
    have e9 := e9.symm
    subst e9
    rcases p14 with ⟨rfl, q15, q16⟩ | p14
    · refine sf_ite (fun c17 => ?_) (fun c17 => ?_)
      · have C17 : (1 : Int) = (0 : Int) := ti_eq c17
        exfalso; omega
      have C17 : ¬ (1 : Int) = (0 : Int) := ti_ne c17
      have t18 : ((24 : Int32) * x1).toInt = (24 : Int) * x1.toInt := ti_mul (show -2147483648 ≤ (24 : Int) * x1.toInt by omega) (show (24 : Int) * x1.toInt ≤ 2147483647 by omega)
      have t19 : (((24 : Int32) * x1) + x2).toInt = ((24 : Int32) * x1).toInt + x2.toInt := ti_add (show -2147483648 ≤ ((24 : Int32) * x1).toInt + x2.toInt by omega) (show ((24 : Int32) * x1).toInt + x2.toInt ≤ 2147483647 by omega)
      refine sf_chk (ti_in (by omega) (by omega)) ?_
      have v20 : Int32.toNatClampNeg (((24 : Int32) * x1) + x2) = (((24 : Int32) * x1) + x2).toInt.toNat := rfl
      have m21 := wx_106 Is1 (Int32.toNatClampNeg (((24 : Int32) * x1) + x2))
      exact sf_ret ⟨Is1, Fs1, Of15_s1, Of34_s1, Of1_s1, Of30_s1, Of18_s1, ti_lo _, ti_hi _⟩
    obtain ⟨rfl, q22⟩ := p14
    refine sf_ite (fun c23 => ?_) (fun c23 => ?_)
    · have C23 : (0 : Int) = (0 : Int) := ti_eq c23
      rw [j_X4_roster_34_e]
      refine sf_bnd (s_X4_refuse hF Is1 (by decide) (by decide)) (fun r24 u25 p26 => ?_)
      obtain ⟨Iu25, Fu25_, Of15_u25_, Of34_u25_, Of1_u25_, Of30_u25_, Of18_u25_, p26_1, p26_2, p26_x0⟩ := p26
      have Fu25 : ∀ k, k < 101 → u25 k = τ k := fun k hk => (Fu25_ k hk).trans (Fs1 k hk)
      have Of15_u25 : u25 101 15 = τ 101 15 := Of15_u25_.trans Of15_s1
      have Of34_u25 : u25 101 34 = τ 101 34 := Of34_u25_.trans Of34_s1
      have Of1_u25 : u25 101 1 = τ 101 1 := Of1_u25_.trans Of1_s1
      have Of30_u25 : u25 101 30 = τ 101 30 := Of30_u25_.trans Of30_s1
      have Of18_u25 : u25 101 18 = τ 101 18 := Of18_u25_.trans Of18_s1
      replace p26_x0 : r24.toInt = (-1 : Int) := p26_x0
      exact sf_ret ⟨Iu25, Fu25, Of15_u25, Of34_u25, Of1_u25, Of30_u25, Of18_u25, ti_lo _, ti_hi _⟩
    have C23 : ¬ (0 : Int) = (0 : Int) := ti_ne c23
    exfalso; omega
  obtain rfl := p6
  refine sf_ite (fun c27 => ?_) (fun c27 => ?_)
  · have C27 : (0 : Int) = (0 : Int) := ti_eq c27
    rw [j_X4_roster_34_e]
    refine sf_bnd (s_X4_refuse hF Is1 (by decide) (by decide)) (fun r28 u29 p30 => ?_)
    obtain ⟨Iu29, Fu29_, Of15_u29_, Of34_u29_, Of1_u29_, Of30_u29_, Of18_u29_, p30_1, p30_2, p30_x0⟩ := p30
    have Fu29 : ∀ k, k < 101 → u29 k = τ k := fun k hk => (Fu29_ k hk).trans (Fs1 k hk)
    have Of15_u29 : u29 101 15 = τ 101 15 := Of15_u29_.trans Of15_s1
    have Of34_u29 : u29 101 34 = τ 101 34 := Of34_u29_.trans Of34_s1
    have Of1_u29 : u29 101 1 = τ 101 1 := Of1_u29_.trans Of1_s1
    have Of30_u29 : u29 101 30 = τ 101 30 := Of30_u29_.trans Of30_s1
    have Of18_u29 : u29 101 18 = τ 101 18 := Of18_u29_.trans Of18_s1
    replace p30_x0 : r28.toInt = (-1 : Int) := p30_x0
    exact sf_ret ⟨Iu29, Fu29, Of15_u29, Of34_u29, Of1_u29, Of30_u29, Of18_u29, ti_lo _, ti_hi _⟩
  have C27 : ¬ (0 : Int) = (0 : Int) := ti_ne c27
  exfalso; omega
set_option maxHeartbeats 4000000 in
set_option maxRecDepth 100000 in
theorem s_X4_wall {F : Nat} (hF : 73786976294838206464 ≤ F) {x1 : Int32} {x2 : Int32} {τ : Mem} (hI : wiM τ) : sf (f_X4_wall F x1 x2 τ) (fun r s => wiM s ∧ (∀ k, k < 101 → s k = τ k) ∧ s 101 15 = τ 101 15 ∧ s 101 34 = τ 101 34 ∧ s 101 18 = τ 101 18 ∧ -2147483648 ≤ r.toInt ∧ r.toInt ≤ 2147483647) := by
  have Fτ : ∀ k, k < 101 → τ k = τ k := fun _ _ => rfl
  have Of15_τ : τ 101 15 = τ 101 15 := rfl
  have Of34_τ : τ 101 34 = τ 101 34 := rfl
  have Of1_τ : τ 101 1 = τ 101 1 := rfl
  have Of30_τ : τ 101 30 = τ 101 30 := rfl
  have Of18_τ : τ 101 18 = τ 101 18 := rfl
  rw [f_X4_wall_e]
  refine sf_lt (fun s1 hs1 => ?_)
  have Is1 : wiM s1 := by rw [hs1]; exact wm_fld hI (by decide) (by decide) (by decide) (by decide) (by decide) (by decide) (by decide)
  have Fs1 : ∀ k, k < 101 → s1 k = τ k := fun k hk => (show s1 k = τ k by rw [hs1, up2_k (by omega)]).trans (Fτ k hk)
  have Of15_s1 : s1 101 15 = τ 101 15 := (show s1 101 15 = τ 101 15 by rw [hs1, up2_i (by decide)]).trans Of15_τ
  have Of34_s1 : s1 101 34 = τ 101 34 := (show s1 101 34 = τ 101 34 by rw [hs1, up2_i (by decide)]).trans Of34_τ
  have Of1_s1 : s1 101 1 = τ 101 1 := (show s1 101 1 = τ 101 1 by rw [hs1, up2_i (by decide)]).trans Of1_τ
  have Of30_s1 : s1 101 30 = τ 101 30 := (show s1 101 30 = τ 101 30 by rw [hs1, up2_i (by decide)]).trans Of30_τ
  have Of18_s1 : s1 101 18 = τ 101 18 := (show s1 101 18 = τ 101 18 by rw [hs1, up2_i (by decide)]).trans Of18_τ
  have b2 := ti_lo x1
  have b3 := ti_hi x1
  refine sf_bnd (s_X4_isPane hF Is1) (fun r4 u5 p6 => ?_)
  obtain ⟨e9, p6⟩ := p6
  have e9 := e9.symm
  subst e9
  rcases p6 with ⟨rfl, q7, q8⟩ | p6
  · refine sf_ite (fun c9 => ?_) (fun c9 => ?_)
    · have C9 : (1 : Int) = (0 : Int) := ti_eq c9
      exfalso; omega
    have C9 : ¬ (1 : Int) = (0 : Int) := ti_ne c9
    have b10 := ti_lo x2
    have b11 := ti_hi x2
    refine sf_bnd (s_X4_isView hF Is1) (fun r12 u13 p14 => ?_)
    obtain ⟨e9, p14⟩ := p14
    have e9 := e9.symm
    subst e9
    rcases p14 with ⟨rfl, q15, q16⟩ | p14
    · refine sf_ite (fun c17 => ?_) (fun c17 => ?_)
      · have C17 : (1 : Int) = (0 : Int) := ti_eq c17
        exfalso; omega
      have C17 : ¬ (1 : Int) = (0 : Int) := ti_ne c17
      refine sf_bnd (s_X4_keepTurn hF Is1) (fun r18 u19 p20 => ?_)
      obtain ⟨Iu19, Fu19_, Of15_u19_, Of34_u19_, Of18_u19_, -⟩ := p20
      have Fu19 : ∀ k, k < 101 → u19 k = τ k := fun k hk => (Fu19_ k hk).trans (Fs1 k hk)
      have Of15_u19 : u19 101 15 = τ 101 15 := Of15_u19_.trans Of15_s1
      have Of34_u19 : u19 101 34 = τ 101 34 := Of34_u19_.trans Of34_s1
      have Of18_u19 : u19 101 18 = τ 101 18 := Of18_u19_.trans Of18_s1
      refine sf_chk (ti_in (by omega) (by omega)) ?_
      have v21 : Int32.toNatClampNeg x1 = x1.toInt.toNat := rfl
      refine sf_lt (fun s22 hs22 => ?_)
      have Is22 : wiM s22 := by rw [hs22]; exact wm_oth Iu19 (by decide) (by decide) (by decide) (by decide)
      have Fs22 : ∀ k, k < 101 → s22 k = τ k := fun k hk => (show s22 k = u19 k by rw [hs22, up2_k (by omega)]).trans (Fu19 k hk)
      have Of15_s22 : s22 101 15 = τ 101 15 := (show s22 101 15 = u19 101 15 by rw [hs22, up2_k (by omega)]).trans Of15_u19
      have Of34_s22 : s22 101 34 = τ 101 34 := (show s22 101 34 = u19 101 34 by rw [hs22, up2_k (by omega)]).trans Of34_u19
      have Of18_s22 : s22 101 18 = τ 101 18 := (show s22 101 18 = u19 101 18 by rw [hs22, up2_k (by omega)]).trans Of18_u19
      have b23 := ti_lo (((s22 103 (Int32.toNatClampNeg x1)) >>> (x2 &&& 31)) &&& (1 : Int32))
      have b24 := ti_hi (((s22 103 (Int32.toNatClampNeg x1)) >>> (x2 &&& 31)) &&& (1 : Int32))
      exact sf_ret ⟨Is22, Fs22, Of15_s22, Of34_s22, Of18_s22, ti_lo _, ti_hi _⟩
    obtain ⟨rfl, q25⟩ := p14
    refine sf_ite (fun c26 => ?_) (fun c26 => ?_)
    · have C26 : (0 : Int) = (0 : Int) := ti_eq c26
      rw [j_X4_wall_20_e]
      refine sf_bnd (s_X4_refuse hF Is1 (by decide) (by decide)) (fun r27 u28 p29 => ?_)
      obtain ⟨Iu28, Fu28_, Of15_u28_, Of34_u28_, Of1_u28_, Of30_u28_, Of18_u28_, p29_1, p29_2, p29_x0⟩ := p29
      have Fu28 : ∀ k, k < 101 → u28 k = τ k := fun k hk => (Fu28_ k hk).trans (Fs1 k hk)
      have Of15_u28 : u28 101 15 = τ 101 15 := Of15_u28_.trans Of15_s1
      have Of34_u28 : u28 101 34 = τ 101 34 := Of34_u28_.trans Of34_s1
      have Of1_u28 : u28 101 1 = τ 101 1 := Of1_u28_.trans Of1_s1
      have Of30_u28 : u28 101 30 = τ 101 30 := Of30_u28_.trans Of30_s1
      have Of18_u28 : u28 101 18 = τ 101 18 := Of18_u28_.trans Of18_s1
      replace p29_x0 : r27.toInt = (-1 : Int) := p29_x0
      exact sf_ret ⟨Iu28, Fu28, Of15_u28, Of34_u28, Of18_u28, ti_lo _, ti_hi _⟩
    have C26 : ¬ (0 : Int) = (0 : Int) := ti_ne c26
    exfalso; omega
  obtain rfl := p6
  refine sf_ite (fun c30 => ?_) (fun c30 => ?_)
  · have C30 : (0 : Int) = (0 : Int) := ti_eq c30
    rw [j_X4_wall_20_e]
    refine sf_bnd (s_X4_refuse hF Is1 (by decide) (by decide)) (fun r31 u32 p33 => ?_)
    obtain ⟨Iu32, Fu32_, Of15_u32_, Of34_u32_, Of1_u32_, Of30_u32_, Of18_u32_, p33_1, p33_2, p33_x0⟩ := p33
    have Fu32 : ∀ k, k < 101 → u32 k = τ k := fun k hk => (Fu32_ k hk).trans (Fs1 k hk)
    have Of15_u32 : u32 101 15 = τ 101 15 := Of15_u32_.trans Of15_s1
    have Of34_u32 : u32 101 34 = τ 101 34 := Of34_u32_.trans Of34_s1
    have Of1_u32 : u32 101 1 = τ 101 1 := Of1_u32_.trans Of1_s1
    have Of30_u32 : u32 101 30 = τ 101 30 := Of30_u32_.trans Of30_s1
    have Of18_u32 : u32 101 18 = τ 101 18 := Of18_u32_.trans Of18_s1
    replace p33_x0 : r31.toInt = (-1 : Int) := p33_x0
    exact sf_ret ⟨Iu32, Fu32, Of15_u32, Of34_u32, Of18_u32, ti_lo _, ti_hi _⟩
  have C30 : ¬ (0 : Int) = (0 : Int) := ti_ne c30
  exfalso; omega
set_option maxHeartbeats 4000000 in
set_option maxRecDepth 100000 in
theorem s_X4_worth {F : Nat} (hF : 73786976294838206464 ≤ F) {x1 : Int32} {x2 : Int32} {τ : Mem} (hI : wiM τ) : sf (f_X4_worth F x1 x2 τ) (fun r s => wiM s ∧ (∀ k, k < 101 → s k = τ k) ∧ s 101 15 = τ 101 15 ∧ s 101 34 = τ 101 34 ∧ s 101 18 = τ 101 18 ∧ -2147483648 ≤ r.toInt ∧ r.toInt ≤ 2147483647) := by
  have Fτ : ∀ k, k < 101 → τ k = τ k := fun _ _ => rfl
  have Of15_τ : τ 101 15 = τ 101 15 := rfl
  have Of34_τ : τ 101 34 = τ 101 34 := rfl
  have Of1_τ : τ 101 1 = τ 101 1 := rfl
  have Of30_τ : τ 101 30 = τ 101 30 := rfl
  have Of18_τ : τ 101 18 = τ 101 18 := rfl
  rw [f_X4_worth_e]
  refine sf_lt (fun s1 hs1 => ?_)
  have Is1 : wiM s1 := by rw [hs1]; exact wm_fld hI (by decide) (by decide) (by decide) (by decide) (by decide) (by decide) (by decide)
  have Fs1 : ∀ k, k < 101 → s1 k = τ k := fun k hk => (show s1 k = τ k by rw [hs1, up2_k (by omega)]).trans (Fτ k hk)
  have Of15_s1 : s1 101 15 = τ 101 15 := (show s1 101 15 = τ 101 15 by rw [hs1, up2_i (by decide)]).trans Of15_τ
  have Of34_s1 : s1 101 34 = τ 101 34 := (show s1 101 34 = τ 101 34 by rw [hs1, up2_i (by decide)]).trans Of34_τ
  have Of1_s1 : s1 101 1 = τ 101 1 := (show s1 101 1 = τ 101 1 by rw [hs1, up2_i (by decide)]).trans Of1_τ
  have Of30_s1 : s1 101 30 = τ 101 30 := (show s1 101 30 = τ 101 30 by rw [hs1, up2_i (by decide)]).trans Of30_τ
  have Of18_s1 : s1 101 18 = τ 101 18 := (show s1 101 18 = τ 101 18 by rw [hs1, up2_i (by decide)]).trans Of18_τ
  have b2 := ti_lo x1
  have b3 := ti_hi x1
  refine sf_bnd (s_X4_isView hF Is1) (fun r4 u5 p6 => ?_)
  obtain ⟨e9, p6⟩ := p6
  have e9 := e9.symm
  subst e9
  rcases p6 with ⟨rfl, q7, q8⟩ | p6
  · refine sf_ite (fun c9 => ?_) (fun c9 => ?_)
    · have C9 : (1 : Int) = (0 : Int) := ti_eq c9
      exfalso; omega
    have C9 : ¬ (1 : Int) = (0 : Int) := ti_ne c9
    refine sf_in ?_
    rw [f_X4_wrongNumber_e]
    have b10 := ti_lo x2
    have b11 := ti_hi x2
    refine sf_ite (fun c12 => ?_) (fun c12 => ?_)
    · have C12 : (0 : Int) ≤ x2.toInt := ti_le c12
      refine sf_ite (fun c13 => ?_) (fun c13 => ?_)
      · have C13 : x2.toInt ≤ (9 : Int) := ti_le c13
        refine sf_ret ?_
        rw [j_X4_worth_23_e]
        refine sf_ite (fun c14 => ?_) (fun c14 => ?_)
        · have C14 : (0 : Int) ≤ (0 : Int) := ti_le c14
          refine sf_bnd (s_X4_keepTurn hF Is1) (fun r15 u16 p17 => ?_)
          obtain ⟨Iu16, Fu16_, Of15_u16_, Of34_u16_, Of18_u16_, -⟩ := p17
          have Fu16 : ∀ k, k < 101 → u16 k = τ k := fun k hk => (Fu16_ k hk).trans (Fs1 k hk)
          have Of15_u16 : u16 101 15 = τ 101 15 := Of15_u16_.trans Of15_s1
          have Of34_u16 : u16 101 34 = τ 101 34 := Of34_u16_.trans Of34_s1
          have Of18_u16 : u16 101 18 = τ 101 18 := Of18_u16_.trans Of18_s1
          refine sf_chk (ti_in (by omega) (by omega)) ?_
          have v18 : Int32.toNatClampNeg x1 = x1.toInt.toNat := rfl
          have b20 := ti_lo (u16 102 (Int32.toNatClampNeg x1))
          have b21 := ti_hi (u16 102 (Int32.toNatClampNeg x1))
          refine sf_lt (fun z19 hz19 => ?_)
          have hz19_ : z19.toInt = (u16 102 (Int32.toNatClampNeg x1)).toInt := (show z19.toInt = (u16 102 (Int32.toNatClampNeg x1)).toInt from congrArg Int32.toInt hz19)
          refine sf_lt (fun s22 hs22 => ?_)
          have Is22 : wiM s22 := by rw [hs22]; exact wm_oth Iu16 (by decide) (by decide) (by decide) (by decide)
          have Fs22 : ∀ k, k < 101 → s22 k = τ k := fun k hk => (show s22 k = u16 k by rw [hs22, up2_k (by omega)]).trans (Fu16 k hk)
          have Of15_s22 : s22 101 15 = τ 101 15 := (show s22 101 15 = u16 101 15 by rw [hs22, up2_k (by omega)]).trans Of15_u16
          have Of34_s22 : s22 101 34 = τ 101 34 := (show s22 101 34 = u16 101 34 by rw [hs22, up2_k (by omega)]).trans Of34_u16
          have Of18_s22 : s22 101 18 = τ 101 18 := (show s22 101 18 = u16 101 18 by rw [hs22, up2_k (by omega)]).trans Of18_u16
          have b23 := ti_lo z19
          have b24 := ti_hi z19
          exact sf_ret ⟨Is22, Fs22, Of15_s22, Of34_s22, Of18_s22, ti_lo _, ti_hi _⟩
        have C14 : (0 : Int) < (0 : Int) := ti_nle c14
        exfalso; omega
      have C13 : (9 : Int) < x2.toInt := ti_nle c13
      refine sf_ret ?_
      rw [j_X4_worth_23_e]
      refine sf_ite (fun c25 => ?_) (fun c25 => ?_)
      · have C25 : (0 : Int) ≤ (-6 : Int) := ti_le c25
        exfalso; omega
      have C25 : (-6 : Int) < (0 : Int) := ti_nle c25
      refine sf_bnd (s_X4_refuse hF Is1 (by decide) (by decide)) (fun r26 u27 p28 => ?_)
      obtain ⟨Iu27, Fu27_, Of15_u27_, Of34_u27_, Of1_u27_, Of30_u27_, Of18_u27_, p28_1, p28_2, p28_x0⟩ := p28
      have Fu27 : ∀ k, k < 101 → u27 k = τ k := fun k hk => (Fu27_ k hk).trans (Fs1 k hk)
      have Of15_u27 : u27 101 15 = τ 101 15 := Of15_u27_.trans Of15_s1
      have Of34_u27 : u27 101 34 = τ 101 34 := Of34_u27_.trans Of34_s1
      have Of1_u27 : u27 101 1 = τ 101 1 := Of1_u27_.trans Of1_s1
      have Of30_u27 : u27 101 30 = τ 101 30 := Of30_u27_.trans Of30_s1
      have Of18_u27 : u27 101 18 = τ 101 18 := Of18_u27_.trans Of18_s1
      replace p28_x0 : r26.toInt = (-6 : Int) := p28_x0
      exact sf_ret ⟨Iu27, Fu27, Of15_u27, Of34_u27, Of18_u27, ti_lo _, ti_hi _⟩
    have C12 : x2.toInt < (0 : Int) := ti_nle c12
    refine sf_ret ?_
    rw [j_X4_worth_23_e]
    refine sf_ite (fun c29 => ?_) (fun c29 => ?_)
    · have C29 : (0 : Int) ≤ (-4 : Int) := ti_le c29
      exfalso; omega
    have C29 : (-4 : Int) < (0 : Int) := ti_nle c29
    refine sf_bnd (s_X4_refuse hF Is1 (by decide) (by decide)) (fun r30 u31 p32 => ?_)
    obtain ⟨Iu31, Fu31_, Of15_u31_, Of34_u31_, Of1_u31_, Of30_u31_, Of18_u31_, p32_1, p32_2, p32_x0⟩ := p32
    have Fu31 : ∀ k, k < 101 → u31 k = τ k := fun k hk => (Fu31_ k hk).trans (Fs1 k hk)
    have Of15_u31 : u31 101 15 = τ 101 15 := Of15_u31_.trans Of15_s1
    have Of34_u31 : u31 101 34 = τ 101 34 := Of34_u31_.trans Of34_s1
    have Of1_u31 : u31 101 1 = τ 101 1 := Of1_u31_.trans Of1_s1
    have Of30_u31 : u31 101 30 = τ 101 30 := Of30_u31_.trans Of30_s1
    have Of18_u31 : u31 101 18 = τ 101 18 := Of18_u31_.trans Of18_s1
    replace p32_x0 : r30.toInt = (-4 : Int) := p32_x0
    exact sf_ret ⟨Iu31, Fu31, Of15_u31, Of34_u31, Of18_u31, ti_lo _, ti_hi _⟩
  obtain ⟨rfl, q33⟩ := p6
  refine sf_ite (fun c34 => ?_) (fun c34 => ?_)
  · have C34 : (0 : Int) = (0 : Int) := ti_eq c34
    rw [j_X4_worth_23_e]
    refine sf_ite (fun c35 => ?_) (fun c35 => ?_)
    · have C35 : (0 : Int) ≤ (-1 : Int) := ti_le c35
      exfalso; omega
    have C35 : (-1 : Int) < (0 : Int) := ti_nle c35
    refine sf_bnd (s_X4_refuse hF Is1 (by decide) (by decide)) (fun r36 u37 p38 => ?_)
    obtain ⟨Iu37, Fu37_, Of15_u37_, Of34_u37_, Of1_u37_, Of30_u37_, Of18_u37_, p38_1, p38_2, p38_x0⟩ := p38
    have Fu37 : ∀ k, k < 101 → u37 k = τ k := fun k hk => (Fu37_ k hk).trans (Fs1 k hk)
    have Of15_u37 : u37 101 15 = τ 101 15 := Of15_u37_.trans Of15_s1
    have Of34_u37 : u37 101 34 = τ 101 34 := Of34_u37_.trans Of34_s1
    have Of1_u37 : u37 101 1 = τ 101 1 := Of1_u37_.trans Of1_s1
    have Of30_u37 : u37 101 30 = τ 101 30 := Of30_u37_.trans Of30_s1
    have Of18_u37 : u37 101 18 = τ 101 18 := Of18_u37_.trans Of18_s1
    replace p38_x0 : r36.toInt = (-1 : Int) := p38_x0
    exact sf_ret ⟨Iu37, Fu37, Of15_u37, Of34_u37, Of18_u37, ti_lo _, ti_hi _⟩
  have C34 : ¬ (0 : Int) = (0 : Int) := ti_ne c34
  exfalso; omega
set_option maxHeartbeats 4000000 in
set_option maxRecDepth 100000 in
theorem s_X4_law {F : Nat} (hF : 73786976294838206464 ≤ F) {x1 : Int32} {τ : Mem} (hI : wiM τ) : sf (f_X4_law F x1 τ) (fun r s => wiM s ∧ (∀ k, k < 101 → s k = τ k) ∧ s 101 15 = τ 101 15 ∧ s 101 34 = τ 101 34 ∧ s 101 18 = τ 101 18 ∧ -2147483648 ≤ r.toInt ∧ r.toInt ≤ 2147483647) := by
  have Fτ : ∀ k, k < 101 → τ k = τ k := fun _ _ => rfl
  have Of15_τ : τ 101 15 = τ 101 15 := rfl
  have Of34_τ : τ 101 34 = τ 101 34 := rfl
  have Of1_τ : τ 101 1 = τ 101 1 := rfl
  have Of30_τ : τ 101 30 = τ 101 30 := rfl
  have Of18_τ : τ 101 18 = τ 101 18 := rfl
  rw [f_X4_law_e]
  refine sf_lt (fun s1 hs1 => ?_)
  have Is1 : wiM s1 := by rw [hs1]; exact wm_fld hI (by decide) (by decide) (by decide) (by decide) (by decide) (by decide) (by decide)
  have Fs1 : ∀ k, k < 101 → s1 k = τ k := fun k hk => (show s1 k = τ k by rw [hs1, up2_k (by omega)]).trans (Fτ k hk)
  have Of15_s1 : s1 101 15 = τ 101 15 := (show s1 101 15 = τ 101 15 by rw [hs1, up2_i (by decide)]).trans Of15_τ
  have Of34_s1 : s1 101 34 = τ 101 34 := (show s1 101 34 = τ 101 34 by rw [hs1, up2_i (by decide)]).trans Of34_τ
  have Of1_s1 : s1 101 1 = τ 101 1 := (show s1 101 1 = τ 101 1 by rw [hs1, up2_i (by decide)]).trans Of1_τ
  have Of30_s1 : s1 101 30 = τ 101 30 := (show s1 101 30 = τ 101 30 by rw [hs1, up2_i (by decide)]).trans Of30_τ
  have Of18_s1 : s1 101 18 = τ 101 18 := (show s1 101 18 = τ 101 18 by rw [hs1, up2_i (by decide)]).trans Of18_τ
  refine sf_in ?_
  rw [f_X4_in_e]
  have b2 := ti_lo x1
  have b3 := ti_hi x1
  have b4 := ti_lo (lg_cmp (Int32.toInt64 x1) (0 : Int64))
  have b5 := ti_hi (lg_cmp (Int32.toInt64 x1) (0 : Int64))
  refine sf_ite (fun c6 => ?_) (fun c6 => ?_)
  · have C6 : (lg_cmp (Int32.toInt64 x1) (0 : Int64)).toInt < (0 : Int) := ti_lt c6
    have L6 : x1.toInt < (0 : Int) := by have q := lg_ltl c6; (repeat (rw [Int32.toInt_toInt64] at q)); exact q
    rw [j_X4_in_17_e]
    refine sf_ret ?_
    refine sf_ite (fun c7 => ?_) (fun c7 => ?_)
    · have C7 : (0 : Int) = (0 : Int) := ti_eq c7
      refine sf_bnd (s_X4_refuse hF Is1 (by decide) (by decide)) (fun r8 u9 p10 => ?_)
      obtain ⟨Iu9, Fu9_, Of15_u9_, Of34_u9_, Of1_u9_, Of30_u9_, Of18_u9_, p10_1, p10_2, p10_x0⟩ := p10
      have Fu9 : ∀ k, k < 101 → u9 k = τ k := fun k hk => (Fu9_ k hk).trans (Fs1 k hk)
      have Of15_u9 : u9 101 15 = τ 101 15 := Of15_u9_.trans Of15_s1
      have Of34_u9 : u9 101 34 = τ 101 34 := Of34_u9_.trans Of34_s1
      have Of1_u9 : u9 101 1 = τ 101 1 := Of1_u9_.trans Of1_s1
      have Of30_u9 : u9 101 30 = τ 101 30 := Of30_u9_.trans Of30_s1
      have Of18_u9 : u9 101 18 = τ 101 18 := Of18_u9_.trans Of18_s1
      replace p10_x0 : r8.toInt = (-2 : Int) := p10_x0
      exact sf_ret ⟨Iu9, Fu9, Of15_u9, Of34_u9, Of18_u9, ti_lo _, ti_hi _⟩
    have C7 : ¬ (0 : Int) = (0 : Int) := ti_ne c7
    exfalso; omega
  have C6 : (0 : Int) ≤ (lg_cmp (Int32.toInt64 x1) (0 : Int64)).toInt := ti_nlt c6
  have L6 : (0 : Int) ≤ x1.toInt := by have q := lg_ltln c6; (repeat (rw [Int32.toInt_toInt64] at q)); exact q
  have b11 := ti_lo (lg_cmp (Int32.toInt64 x1) (2 : Int64))
  have b12 := ti_hi (lg_cmp (Int32.toInt64 x1) (2 : Int64))
  refine sf_ite (fun c13 => ?_) (fun c13 => ?_)
  · have C13 : (0 : Int) < (lg_cmp (Int32.toInt64 x1) (2 : Int64)).toInt := ti_lt c13
    have L13 : (2 : Int) < x1.toInt := by have q := lg_ltr c13; (repeat (rw [Int32.toInt_toInt64] at q)); exact q
    rw [j_X4_in_17_e]
    refine sf_ret ?_
    refine sf_ite (fun c14 => ?_) (fun c14 => ?_)
    · have C14 : (0 : Int) = (0 : Int) := ti_eq c14
      refine sf_bnd (s_X4_refuse hF Is1 (by decide) (by decide)) (fun r15 u16 p17 => ?_)
      obtain ⟨Iu16, Fu16_, Of15_u16_, Of34_u16_, Of1_u16_, Of30_u16_, Of18_u16_, p17_1, p17_2, p17_x0⟩ := p17
      have Fu16 : ∀ k, k < 101 → u16 k = τ k := fun k hk => (Fu16_ k hk).trans (Fs1 k hk)
      have Of15_u16 : u16 101 15 = τ 101 15 := Of15_u16_.trans Of15_s1
      have Of34_u16 : u16 101 34 = τ 101 34 := Of34_u16_.trans Of34_s1
      have Of1_u16 : u16 101 1 = τ 101 1 := Of1_u16_.trans Of1_s1
      have Of30_u16 : u16 101 30 = τ 101 30 := Of30_u16_.trans Of30_s1
      have Of18_u16 : u16 101 18 = τ 101 18 := Of18_u16_.trans Of18_s1
      replace p17_x0 : r15.toInt = (-2 : Int) := p17_x0
      exact sf_ret ⟨Iu16, Fu16, Of15_u16, Of34_u16, Of18_u16, ti_lo _, ti_hi _⟩
    have C14 : ¬ (0 : Int) = (0 : Int) := ti_ne c14
    exfalso; omega
  have C13 : (lg_cmp (Int32.toInt64 x1) (2 : Int64)).toInt ≤ (0 : Int) := ti_nlt c13
  have L13 : x1.toInt ≤ (2 : Int) := by have q := lg_ltrn c13; (repeat (rw [Int32.toInt_toInt64] at q)); exact q
  refine sf_ret ?_
  refine sf_ite (fun c18 => ?_) (fun c18 => ?_)
  · have C18 : (1 : Int) = (0 : Int) := ti_eq c18
    exfalso; omega
  have C18 : ¬ (1 : Int) = (0 : Int) := ti_ne c18
  refine sf_bnd (s_X4_keepTurn hF Is1) (fun r19 u20 p21 => ?_)
  obtain ⟨Iu20, Fu20_, Of15_u20_, Of34_u20_, Of18_u20_, -⟩ := p21
  have Fu20 : ∀ k, k < 101 → u20 k = τ k := fun k hk => (Fu20_ k hk).trans (Fs1 k hk)
  have Of15_u20 : u20 101 15 = τ 101 15 := Of15_u20_.trans Of15_s1
  have Of34_u20 : u20 101 34 = τ 101 34 := Of34_u20_.trans Of34_s1
  have Of18_u20 : u20 101 18 = τ 101 18 := Of18_u20_.trans Of18_s1
  refine sf_lt (fun s22 hs22 => ?_)
  have Is22 : wiM s22 := by rw [hs22]; exact wm_fld Iu20 (by decide) (by decide) (by decide) (by decide) (by decide) (by decide) (by decide)
  have Fs22 : ∀ k, k < 101 → s22 k = τ k := fun k hk => (show s22 k = u20 k by rw [hs22, up2_k (by omega)]).trans (Fu20 k hk)
  have Of15_s22 : s22 101 15 = τ 101 15 := (show s22 101 15 = u20 101 15 by rw [hs22, up2_i (by decide)]).trans Of15_u20
  have Of34_s22 : s22 101 34 = τ 101 34 := (show s22 101 34 = u20 101 34 by rw [hs22, up2_i (by decide)]).trans Of34_u20
  have Of18_s22 : s22 101 18 = τ 101 18 := (show s22 101 18 = u20 101 18 by rw [hs22, up2_i (by decide)]).trans Of18_u20
  have b23 := ti_lo (u20 101 8)
  have b24 := ti_hi (u20 101 8)
  exact sf_ret ⟨Is22, Fs22, Of15_s22, Of34_s22, Of18_s22, ti_lo _, ti_hi _⟩
set_option maxHeartbeats 4000000 in
set_option maxRecDepth 100000 in
theorem s_X4_days {F : Nat} (hF : 73786976294838206464 ≤ F) {x1 : Int32} {τ : Mem} (hI : wiM τ) : sf (f_X4_days F x1 τ) (fun r s => wiM s ∧ (∀ k, k < 101 → s k = τ k) ∧ s 101 15 = τ 101 15 ∧ s 101 34 = τ 101 34 ∧ s 101 1 = τ 101 1 ∧ s 101 18 = τ 101 18 ∧ -2147483648 ≤ r.toInt ∧ r.toInt ≤ 2147483647) := by
  have Fτ : ∀ k, k < 101 → τ k = τ k := fun _ _ => rfl
  have Of15_τ : τ 101 15 = τ 101 15 := rfl
  have Of34_τ : τ 101 34 = τ 101 34 := rfl
  have Of1_τ : τ 101 1 = τ 101 1 := rfl
  have Of30_τ : τ 101 30 = τ 101 30 := rfl
  have Of18_τ : τ 101 18 = τ 101 18 := rfl
  rw [f_X4_days_e]
  refine sf_lt (fun s1 hs1 => ?_)
  have Is1 : wiM s1 := by rw [hs1]; exact wm_fld hI (by decide) (by decide) (by decide) (by decide) (by decide) (by decide) (by decide)
  have Fs1 : ∀ k, k < 101 → s1 k = τ k := fun k hk => (show s1 k = τ k by rw [hs1, up2_k (by omega)]).trans (Fτ k hk)
  have Of15_s1 : s1 101 15 = τ 101 15 := (show s1 101 15 = τ 101 15 by rw [hs1, up2_i (by decide)]).trans Of15_τ
  have Of34_s1 : s1 101 34 = τ 101 34 := (show s1 101 34 = τ 101 34 by rw [hs1, up2_i (by decide)]).trans Of34_τ
  have Of1_s1 : s1 101 1 = τ 101 1 := (show s1 101 1 = τ 101 1 by rw [hs1, up2_i (by decide)]).trans Of1_τ
  have Of30_s1 : s1 101 30 = τ 101 30 := (show s1 101 30 = τ 101 30 by rw [hs1, up2_i (by decide)]).trans Of30_τ
  have Of18_s1 : s1 101 18 = τ 101 18 := (show s1 101 18 = τ 101 18 by rw [hs1, up2_i (by decide)]).trans Of18_τ
  refine sf_in ?_
  rw [f_X4_wrongNumber_e]
  have b2 := ti_lo x1
  have b3 := ti_hi x1
  refine sf_ite (fun c4 => ?_) (fun c4 => ?_)
  · have C4 : (1 : Int) ≤ x1.toInt := ti_le c4
    refine sf_ite (fun c5 => ?_) (fun c5 => ?_)
    · have C5 : x1.toInt ≤ (99 : Int) := ti_le c5
      refine sf_ret ?_
      refine sf_ite (fun c6 => ?_) (fun c6 => ?_)
      · have C6 : (0 : Int) = (0 : Int) := ti_eq c6
        have b7 := ti_lo (τ 101 9)
        have b8 := ti_hi (τ 101 9)
        have e9 : (s1 101 9).toInt = (τ 101 9).toInt := congrArg Int32.toInt (by rw [hs1, up2_i (by decide)])
        have b10 := ti_lo (s1 101 9)
        have b11 := ti_hi (s1 101 9)
        have b12 := ti_lo ((s1 101 9) + x1)
        have b13 := ti_hi ((s1 101 9) + x1)
        refine sf_ite (fun c14 => ?_) (fun c14 => ?_)
        · have C14 : ((s1 101 9) + x1).toInt ≤ (9999 : Int) := ti_le c14
          rw [j_X4_days_34_e]
          rw [j_X4_days_35_e]
          refine sf_ite (fun c15 => ?_) (fun c15 => ?_)
          · have C15 : (0 : Int) ≤ (0 : Int) := ti_le c15
            refine sf_bnd (s_X4_goDays hF Is1 (by omega) (by omega)) (fun r16 u17 p18 => ?_)
            obtain ⟨Iu17, Fu17_, Of15_u17_, Of34_u17_, Of1_u17_, Of30_u17_, Of18_u17_, -⟩ := p18
            have Fu17 : ∀ k, k < 101 → u17 k = τ k := fun k hk => (Fu17_ k hk).trans (Fs1 k hk)
            have Of15_u17 : u17 101 15 = τ 101 15 := Of15_u17_.trans Of15_s1
            have Of34_u17 : u17 101 34 = τ 101 34 := Of34_u17_.trans Of34_s1
            have Of1_u17 : u17 101 1 = τ 101 1 := Of1_u17_.trans Of1_s1
            have Of30_u17 : u17 101 30 = τ 101 30 := Of30_u17_.trans Of30_s1
            have Of18_u17 : u17 101 18 = τ 101 18 := Of18_u17_.trans Of18_s1
            refine sf_lt (fun s19 hs19 => ?_)
            have Is19 : wiM s19 := by rw [hs19]; exact wx_put_X4_30 Iu17 (by decide) (by decide)
            have Fs19 : ∀ k, k < 101 → s19 k = τ k := fun k hk => (show s19 k = u17 k by rw [hs19, up2_k (by omega)]).trans (Fu17 k hk)
            have Of15_s19 : s19 101 15 = τ 101 15 := (show s19 101 15 = u17 101 15 by rw [hs19, up2_i (by decide)]).trans Of15_u17
            have Of34_s19 : s19 101 34 = τ 101 34 := (show s19 101 34 = u17 101 34 by rw [hs19, up2_i (by decide)]).trans Of34_u17
            have Of1_s19 : s19 101 1 = τ 101 1 := (show s19 101 1 = u17 101 1 by rw [hs19, up2_i (by decide)]).trans Of1_u17
            have Of18_s19 : s19 101 18 = τ 101 18 := (show s19 101 18 = u17 101 18 by rw [hs19, up2_i (by decide)]).trans Of18_u17
            refine sf_bnd (s_X4_owned hF Is19) (fun r20 u21 p22 => ?_)
            obtain ⟨Iu21, Fu21_, Of15_u21_, Of34_u21_, Of1_u21_, Of30_u21_, Of18_u21_, p22_1, p22_2⟩ := p22
            have Fu21 : ∀ k, k < 101 → u21 k = τ k := fun k hk => (Fu21_ k hk).trans (Fs19 k hk)
            have Of15_u21 : u21 101 15 = τ 101 15 := Of15_u21_.trans Of15_s19
            have Of34_u21 : u21 101 34 = τ 101 34 := Of34_u21_.trans Of34_s19
            have Of1_u21 : u21 101 1 = τ 101 1 := Of1_u21_.trans Of1_s19
            have Of18_u21 : u21 101 18 = τ 101 18 := Of18_u21_.trans Of18_s19
            have b23 := ti_lo r20
            have b24 := ti_hi r20
            exact sf_ret ⟨Iu21, Fu21, Of15_u21, Of34_u21, Of1_u21, Of18_u21, ti_lo _, ti_hi _⟩
          have C15 : (0 : Int) < (0 : Int) := ti_nle c15
          exfalso; omega
        have C14 : (9999 : Int) < ((s1 101 9) + x1).toInt := ti_nle c14
        rw [j_X4_days_35_e]
        refine sf_ite (fun c25 => ?_) (fun c25 => ?_)
        · have C25 : (0 : Int) ≤ (-6 : Int) := ti_le c25
          exfalso; omega
        have C25 : (-6 : Int) < (0 : Int) := ti_nle c25
        refine sf_bnd (s_X4_refuse hF Is1 (by decide) (by decide)) (fun r26 u27 p28 => ?_)
        obtain ⟨Iu27, Fu27_, Of15_u27_, Of34_u27_, Of1_u27_, Of30_u27_, Of18_u27_, p28_1, p28_2, p28_x0⟩ := p28
        have Fu27 : ∀ k, k < 101 → u27 k = τ k := fun k hk => (Fu27_ k hk).trans (Fs1 k hk)
        have Of15_u27 : u27 101 15 = τ 101 15 := Of15_u27_.trans Of15_s1
        have Of34_u27 : u27 101 34 = τ 101 34 := Of34_u27_.trans Of34_s1
        have Of1_u27 : u27 101 1 = τ 101 1 := Of1_u27_.trans Of1_s1
        have Of30_u27 : u27 101 30 = τ 101 30 := Of30_u27_.trans Of30_s1
        have Of18_u27 : u27 101 18 = τ 101 18 := Of18_u27_.trans Of18_s1
        replace p28_x0 : r26.toInt = (-6 : Int) := p28_x0
        exact sf_ret ⟨Iu27, Fu27, Of15_u27, Of34_u27, Of1_u27, Of18_u27, ti_lo _, ti_hi _⟩
      have C6 : ¬ (0 : Int) = (0 : Int) := ti_ne c6
      exfalso; omega
    have C5 : (99 : Int) < x1.toInt := ti_nle c5
    refine sf_ret ?_
    refine sf_ite (fun c29 => ?_) (fun c29 => ?_)
    · have C29 : (-6 : Int) = (0 : Int) := ti_eq c29
      exfalso; omega
    have C29 : ¬ (-6 : Int) = (0 : Int) := ti_ne c29
    rw [j_X4_days_34_e]
    rw [j_X4_days_35_e]
    refine sf_ite (fun c30 => ?_) (fun c30 => ?_)
    · have C30 : (0 : Int) ≤ (-6 : Int) := ti_le c30
      exfalso; omega
    have C30 : (-6 : Int) < (0 : Int) := ti_nle c30
    refine sf_bnd (s_X4_refuse hF Is1 (by decide) (by decide)) (fun r31 u32 p33 => ?_)
    obtain ⟨Iu32, Fu32_, Of15_u32_, Of34_u32_, Of1_u32_, Of30_u32_, Of18_u32_, p33_1, p33_2, p33_x0⟩ := p33
    have Fu32 : ∀ k, k < 101 → u32 k = τ k := fun k hk => (Fu32_ k hk).trans (Fs1 k hk)
    have Of15_u32 : u32 101 15 = τ 101 15 := Of15_u32_.trans Of15_s1
    have Of34_u32 : u32 101 34 = τ 101 34 := Of34_u32_.trans Of34_s1
    have Of1_u32 : u32 101 1 = τ 101 1 := Of1_u32_.trans Of1_s1
    have Of30_u32 : u32 101 30 = τ 101 30 := Of30_u32_.trans Of30_s1
    have Of18_u32 : u32 101 18 = τ 101 18 := Of18_u32_.trans Of18_s1
    replace p33_x0 : r31.toInt = (-6 : Int) := p33_x0
    exact sf_ret ⟨Iu32, Fu32, Of15_u32, Of34_u32, Of1_u32, Of18_u32, ti_lo _, ti_hi _⟩
  have C4 : x1.toInt < (1 : Int) := ti_nle c4
  refine sf_ret ?_
  refine sf_ite (fun c34 => ?_) (fun c34 => ?_)
  · have C34 : (-4 : Int) = (0 : Int) := ti_eq c34
    exfalso; omega
  have C34 : ¬ (-4 : Int) = (0 : Int) := ti_ne c34
  rw [j_X4_days_34_e]
  rw [j_X4_days_35_e]
  refine sf_ite (fun c35 => ?_) (fun c35 => ?_)
  · have C35 : (0 : Int) ≤ (-4 : Int) := ti_le c35
    exfalso; omega
  have C35 : (-4 : Int) < (0 : Int) := ti_nle c35
  refine sf_bnd (s_X4_refuse hF Is1 (by decide) (by decide)) (fun r36 u37 p38 => ?_)
  obtain ⟨Iu37, Fu37_, Of15_u37_, Of34_u37_, Of1_u37_, Of30_u37_, Of18_u37_, p38_1, p38_2, p38_x0⟩ := p38
  have Fu37 : ∀ k, k < 101 → u37 k = τ k := fun k hk => (Fu37_ k hk).trans (Fs1 k hk)
  have Of15_u37 : u37 101 15 = τ 101 15 := Of15_u37_.trans Of15_s1
  have Of34_u37 : u37 101 34 = τ 101 34 := Of34_u37_.trans Of34_s1
  have Of1_u37 : u37 101 1 = τ 101 1 := Of1_u37_.trans Of1_s1
  have Of30_u37 : u37 101 30 = τ 101 30 := Of30_u37_.trans Of30_s1
  have Of18_u37 : u37 101 18 = τ 101 18 := Of18_u37_.trans Of18_s1
  replace p38_x0 : r36.toInt = (-4 : Int) := p38_x0
  exact sf_ret ⟨Iu37, Fu37, Of15_u37, Of34_u37, Of1_u37, Of18_u37, ti_lo _, ti_hi _⟩
set_option maxHeartbeats 4000000 in
set_option maxRecDepth 100000 in
theorem s_X4_counts {F : Nat} (hF : 73786976294838206464 ≤ F) {x1 : Int32} {x2 : Int32} {x3 : Int32} {τ : Mem} (hI : wiM τ) : sf (f_X4_counts F x1 x2 x3 τ) (fun r s => wiM s ∧ (∀ k, k < 101 → s k = τ k) ∧ s 101 15 = τ 101 15 ∧ s 101 34 = τ 101 34 ∧ s 101 1 = τ 101 1 ∧ s 101 30 = τ 101 30 ∧ s 101 18 = τ 101 18 ∧ -2147483648 ≤ r.toInt ∧ r.toInt ≤ 2147483647) := by
  have Fτ : ∀ k, k < 101 → τ k = τ k := fun _ _ => rfl
  have Of15_τ : τ 101 15 = τ 101 15 := rfl
  have Of34_τ : τ 101 34 = τ 101 34 := rfl
  have Of1_τ : τ 101 1 = τ 101 1 := rfl
  have Of30_τ : τ 101 30 = τ 101 30 := rfl
  have Of18_τ : τ 101 18 = τ 101 18 := rfl
  rw [f_X4_counts_e]
  refine sf_lt (fun s1 hs1 => ?_)
  have Is1 : wiM s1 := by rw [hs1]; exact wm_fld hI (by decide) (by decide) (by decide) (by decide) (by decide) (by decide) (by decide)
  have Fs1 : ∀ k, k < 101 → s1 k = τ k := fun k hk => (show s1 k = τ k by rw [hs1, up2_k (by omega)]).trans (Fτ k hk)
  have Of15_s1 : s1 101 15 = τ 101 15 := (show s1 101 15 = τ 101 15 by rw [hs1, up2_i (by decide)]).trans Of15_τ
  have Of34_s1 : s1 101 34 = τ 101 34 := (show s1 101 34 = τ 101 34 by rw [hs1, up2_i (by decide)]).trans Of34_τ
  have Of1_s1 : s1 101 1 = τ 101 1 := (show s1 101 1 = τ 101 1 by rw [hs1, up2_i (by decide)]).trans Of1_τ
  have Of30_s1 : s1 101 30 = τ 101 30 := (show s1 101 30 = τ 101 30 by rw [hs1, up2_i (by decide)]).trans Of30_τ
  have Of18_s1 : s1 101 18 = τ 101 18 := (show s1 101 18 = τ 101 18 by rw [hs1, up2_i (by decide)]).trans Of18_τ
  have b2 := ti_lo x1
  have b3 := ti_hi x1
  refine sf_bnd (s_X4_isLooker hF Is1) (fun r4 u5 p6 => ?_)
  obtain ⟨e9, p6⟩ := p6
  have e9 := e9.symm
  subst e9
  rcases p6 with ⟨rfl, q7, q8⟩ | p6
  · refine sf_ite (fun c9 => ?_) (fun c9 => ?_)
    · have C9 : (1 : Int) = (0 : Int) := ti_eq c9
      exfalso; omega
    have C9 : ¬ (1 : Int) = (0 : Int) := ti_ne c9
    have b10 := ti_lo x2
    have b11 := ti_hi x2
    refine sf_bnd (s_X4_isView hF Is1) (fun r12 u13 p14 => ?_)
    obtain ⟨e9, p14⟩ := p14
    have e9 := e9.symm
    subst e9
    rcases p14 with ⟨rfl, q15, q16⟩ | p14
    · refine sf_ite (fun c17 => ?_) (fun c17 => ?_)
      · have C17 : (1 : Int) = (0 : Int) := ti_eq c17
        exfalso; omega
      have C17 : ¬ (1 : Int) = (0 : Int) := ti_ne c17
      refine sf_in ?_
      rw [f_X4_wrongBit_e]
      refine sf_ite (fun c18 => ?_) (fun c18 => ?_)
      · have C18 : (0 : Int) = (0 : Int) := ti_eq c18
        refine sf_in ?_
        rw [f_X4_in_e]
        have b19 := ti_lo x3
        have b20 := ti_hi x3
        have b21 := ti_lo (lg_cmp (Int32.toInt64 x3) (0 : Int64))
        have b22 := ti_hi (lg_cmp (Int32.toInt64 x3) (0 : Int64))
        refine sf_ite (fun c23 => ?_) (fun c23 => ?_)
        · have C23 : (lg_cmp (Int32.toInt64 x3) (0 : Int64)).toInt < (0 : Int) := ti_lt c23
          have L23 : x3.toInt < (0 : Int) := by have q := lg_ltl c23; (repeat (rw [Int32.toInt_toInt64] at q)); exact q
          rw [j_X4_in_17_e]
          refine sf_ret ?_
          refine sf_ite (fun c24 => ?_) (fun c24 => ?_)
          · have C24 : (0 : Int) = (0 : Int) := ti_eq c24
            refine sf_ret ?_
            rw [j_X4_counts_30_e]
            refine sf_ite (fun c25 => ?_) (fun c25 => ?_)
            · have C25 : (0 : Int) ≤ (-2 : Int) := ti_le c25
              exfalso; omega
            have C25 : (-2 : Int) < (0 : Int) := ti_nle c25
            refine sf_bnd (s_X4_refuse hF Is1 (by decide) (by decide)) (fun r26 u27 p28 => ?_)
            obtain ⟨Iu27, Fu27_, Of15_u27_, Of34_u27_, Of1_u27_, Of30_u27_, Of18_u27_, p28_1, p28_2, p28_x0⟩ := p28
            have Fu27 : ∀ k, k < 101 → u27 k = τ k := fun k hk => (Fu27_ k hk).trans (Fs1 k hk)
            have Of15_u27 : u27 101 15 = τ 101 15 := Of15_u27_.trans Of15_s1
            have Of34_u27 : u27 101 34 = τ 101 34 := Of34_u27_.trans Of34_s1
            have Of1_u27 : u27 101 1 = τ 101 1 := Of1_u27_.trans Of1_s1
            have Of30_u27 : u27 101 30 = τ 101 30 := Of30_u27_.trans Of30_s1
            have Of18_u27 : u27 101 18 = τ 101 18 := Of18_u27_.trans Of18_s1
            replace p28_x0 : r26.toInt = (-2 : Int) := p28_x0
            exact sf_ret ⟨Iu27, Fu27, Of15_u27, Of34_u27, Of1_u27, Of30_u27, Of18_u27, ti_lo _, ti_hi _⟩
          have C24 : ¬ (0 : Int) = (0 : Int) := ti_ne c24
          exfalso; omega
        have C23 : (0 : Int) ≤ (lg_cmp (Int32.toInt64 x3) (0 : Int64)).toInt := ti_nlt c23
        have L23 : (0 : Int) ≤ x3.toInt := by have q := lg_ltln c23; (repeat (rw [Int32.toInt_toInt64] at q)); exact q
        have b29 := ti_lo (lg_cmp (Int32.toInt64 x3) (Int32.toInt64 (1 : Int32)))
        have b30 := ti_hi (lg_cmp (Int32.toInt64 x3) (Int32.toInt64 (1 : Int32)))
        refine sf_ite (fun c31 => ?_) (fun c31 => ?_)
        · have C31 : (0 : Int) < (lg_cmp (Int32.toInt64 x3) (Int32.toInt64 (1 : Int32))).toInt := ti_lt c31
          have L31 : (1 : Int) < x3.toInt := by have q := lg_ltr c31; (repeat (rw [Int32.toInt_toInt64] at q)); exact q
          rw [j_X4_in_17_e]
          refine sf_ret ?_
          refine sf_ite (fun c32 => ?_) (fun c32 => ?_)
          · have C32 : (0 : Int) = (0 : Int) := ti_eq c32
            refine sf_ret ?_
            rw [j_X4_counts_30_e]
            refine sf_ite (fun c33 => ?_) (fun c33 => ?_)
            · have C33 : (0 : Int) ≤ (-2 : Int) := ti_le c33
              exfalso; omega
            have C33 : (-2 : Int) < (0 : Int) := ti_nle c33
            refine sf_bnd (s_X4_refuse hF Is1 (by decide) (by decide)) (fun r34 u35 p36 => ?_)
            obtain ⟨Iu35, Fu35_, Of15_u35_, Of34_u35_, Of1_u35_, Of30_u35_, Of18_u35_, p36_1, p36_2, p36_x0⟩ := p36
            have Fu35 : ∀ k, k < 101 → u35 k = τ k := fun k hk => (Fu35_ k hk).trans (Fs1 k hk)
            have Of15_u35 : u35 101 15 = τ 101 15 := Of15_u35_.trans Of15_s1
            have Of34_u35 : u35 101 34 = τ 101 34 := Of34_u35_.trans Of34_s1
            have Of1_u35 : u35 101 1 = τ 101 1 := Of1_u35_.trans Of1_s1
            have Of30_u35 : u35 101 30 = τ 101 30 := Of30_u35_.trans Of30_s1
            have Of18_u35 : u35 101 18 = τ 101 18 := Of18_u35_.trans Of18_s1
            replace p36_x0 : r34.toInt = (-2 : Int) := p36_x0
            exact sf_ret ⟨Iu35, Fu35, Of15_u35, Of34_u35, Of1_u35, Of30_u35, Of18_u35, ti_lo _, ti_hi _⟩
          have C32 : ¬ (0 : Int) = (0 : Int) := ti_ne c32
          exfalso; omega
        have C31 : (lg_cmp (Int32.toInt64 x3) (Int32.toInt64 (1 : Int32))).toInt ≤ (0 : Int) := ti_nlt c31
        have L31 : x3.toInt ≤ (1 : Int) := by have q := lg_ltrn c31; (repeat (rw [Int32.toInt_toInt64] at q)); exact q
        refine sf_ret ?_
        refine sf_ite (fun c37 => ?_) (fun c37 => ?_)
        · have C37 : (1 : Int) = (0 : Int) := ti_eq c37
          exfalso; omega
        have C37 : ¬ (1 : Int) = (0 : Int) := ti_ne c37
        rw [j_X4_wrongBit_20_e]
        refine sf_ret ?_
        rw [j_X4_counts_30_e]
        refine sf_ite (fun c38 => ?_) (fun c38 => ?_)
        · have C38 : (0 : Int) ≤ (0 : Int) := ti_le c38
          refine sf_ite (fun c39 => ?_) (fun c39 => ?_)
          · have C39 : x3.toInt = (0 : Int) := ti_eq c39
            have t40 : ((8 : Int32) * x1).toInt = (8 : Int) * x1.toInt := ti_mul (show -2147483648 ≤ (8 : Int) * x1.toInt by omega) (show (8 : Int) * x1.toInt ≤ 2147483647 by omega)
            have t41 : (((8 : Int32) * x1) + x2).toInt = ((8 : Int32) * x1).toInt + x2.toInt := ti_add (show -2147483648 ≤ ((8 : Int32) * x1).toInt + x2.toInt by omega) (show ((8 : Int32) * x1).toInt + x2.toInt ≤ 2147483647 by omega)
            refine sf_chk (ti_in (by omega) (by omega)) ?_
            have v42 : Int32.toNatClampNeg (((8 : Int32) * x1) + x2) = (((8 : Int32) * x1) + x2).toInt.toNat := rfl
            have b43 := ti_lo (s1 107 (Int32.toNatClampNeg (((8 : Int32) * x1) + x2)))
            have b44 := ti_hi (s1 107 (Int32.toNatClampNeg (((8 : Int32) * x1) + x2)))
            exact sf_ret ⟨Is1, Fs1, Of15_s1, Of34_s1, Of1_s1, Of30_s1, Of18_s1, ti_lo _, ti_hi _⟩
          have C39 : ¬ x3.toInt = (0 : Int) := ti_ne c39
          refine sf_bnd (s_X4_bringsOf hF Is1 (by omega) (by omega) (by omega) (by omega)) (fun r45 u46 p47 => ?_)
          obtain ⟨e9, p47_1, p47_2⟩ := p47
          have e9 := e9.symm
          subst e9
          have b48 := ti_lo r45
          have b49 := ti_hi r45
          exact sf_ret ⟨Is1, Fs1, Of15_s1, Of34_s1, Of1_s1, Of30_s1, Of18_s1, ti_lo _, ti_hi _⟩
        have C38 : (0 : Int) < (0 : Int) := ti_nle c38
        exfalso; omega
      have C18 : ¬ (0 : Int) = (0 : Int) := ti_ne c18
      exfalso; omega
    obtain ⟨rfl, q50⟩ := p14
    refine sf_ite (fun c51 => ?_) (fun c51 => ?_)
    · have C51 : (0 : Int) = (0 : Int) := ti_eq c51
      rw [j_X4_counts_29_e]
      rw [j_X4_counts_30_e]
      refine sf_ite (fun c52 => ?_) (fun c52 => ?_)
      · have C52 : (0 : Int) ≤ (-1 : Int) := ti_le c52
        exfalso; omega
      have C52 : (-1 : Int) < (0 : Int) := ti_nle c52
      refine sf_bnd (s_X4_refuse hF Is1 (by decide) (by decide)) (fun r53 u54 p55 => ?_)
      obtain ⟨Iu54, Fu54_, Of15_u54_, Of34_u54_, Of1_u54_, Of30_u54_, Of18_u54_, p55_1, p55_2, p55_x0⟩ := p55
      have Fu54 : ∀ k, k < 101 → u54 k = τ k := fun k hk => (Fu54_ k hk).trans (Fs1 k hk)
      have Of15_u54 : u54 101 15 = τ 101 15 := Of15_u54_.trans Of15_s1
      have Of34_u54 : u54 101 34 = τ 101 34 := Of34_u54_.trans Of34_s1
      have Of1_u54 : u54 101 1 = τ 101 1 := Of1_u54_.trans Of1_s1
      have Of30_u54 : u54 101 30 = τ 101 30 := Of30_u54_.trans Of30_s1
      have Of18_u54 : u54 101 18 = τ 101 18 := Of18_u54_.trans Of18_s1
      replace p55_x0 : r53.toInt = (-1 : Int) := p55_x0
      exact sf_ret ⟨Iu54, Fu54, Of15_u54, Of34_u54, Of1_u54, Of30_u54, Of18_u54, ti_lo _, ti_hi _⟩
    have C51 : ¬ (0 : Int) = (0 : Int) := ti_ne c51
    exfalso; omega
  obtain rfl := p6
  refine sf_ite (fun c56 => ?_) (fun c56 => ?_)
  · have C56 : (0 : Int) = (0 : Int) := ti_eq c56
    rw [j_X4_counts_29_e]
    rw [j_X4_counts_30_e]
    refine sf_ite (fun c57 => ?_) (fun c57 => ?_)
    · have C57 : (0 : Int) ≤ (-1 : Int) := ti_le c57
      exfalso; omega
    have C57 : (-1 : Int) < (0 : Int) := ti_nle c57
    refine sf_bnd (s_X4_refuse hF Is1 (by decide) (by decide)) (fun r58 u59 p60 => ?_)
    obtain ⟨Iu59, Fu59_, Of15_u59_, Of34_u59_, Of1_u59_, Of30_u59_, Of18_u59_, p60_1, p60_2, p60_x0⟩ := p60
    have Fu59 : ∀ k, k < 101 → u59 k = τ k := fun k hk => (Fu59_ k hk).trans (Fs1 k hk)
    have Of15_u59 : u59 101 15 = τ 101 15 := Of15_u59_.trans Of15_s1
    have Of34_u59 : u59 101 34 = τ 101 34 := Of34_u59_.trans Of34_s1
    have Of1_u59 : u59 101 1 = τ 101 1 := Of1_u59_.trans Of1_s1
    have Of30_u59 : u59 101 30 = τ 101 30 := Of30_u59_.trans Of30_s1
    have Of18_u59 : u59 101 18 = τ 101 18 := Of18_u59_.trans Of18_s1
    replace p60_x0 : r58.toInt = (-1 : Int) := p60_x0
    exact sf_ret ⟨Iu59, Fu59, Of15_u59, Of34_u59, Of1_u59, Of30_u59, Of18_u59, ti_lo _, ti_hi _⟩
  have C56 : ¬ (0 : Int) = (0 : Int) := ti_ne c56
  exfalso; omega
set_option maxHeartbeats 4000000 in
set_option maxRecDepth 100000 in
theorem s_X4_owner {F : Nat} (hF : 73786976294838206464 ≤ F) {x1 : Int32} {x2 : Int32} {τ : Mem} (hI : wiM τ) : sf (f_X4_owner F x1 x2 τ) (fun r s => wiM s ∧ (∀ k, k < 101 → s k = τ k) ∧ s 101 15 = τ 101 15 ∧ s 101 34 = τ 101 34 ∧ s 101 1 = τ 101 1 ∧ s 101 30 = τ 101 30 ∧ s 101 18 = τ 101 18 ∧ -2147483648 ≤ r.toInt ∧ r.toInt ≤ 2147483647) := by
  have Fτ : ∀ k, k < 101 → τ k = τ k := fun _ _ => rfl
  have Of15_τ : τ 101 15 = τ 101 15 := rfl
  have Of34_τ : τ 101 34 = τ 101 34 := rfl
  have Of1_τ : τ 101 1 = τ 101 1 := rfl
  have Of30_τ : τ 101 30 = τ 101 30 := rfl
  have Of18_τ : τ 101 18 = τ 101 18 := rfl
  rw [f_X4_owner_e]
  refine sf_lt (fun s1 hs1 => ?_)
  have Is1 : wiM s1 := by rw [hs1]; exact wm_fld hI (by decide) (by decide) (by decide) (by decide) (by decide) (by decide) (by decide)
  have Fs1 : ∀ k, k < 101 → s1 k = τ k := fun k hk => (show s1 k = τ k by rw [hs1, up2_k (by omega)]).trans (Fτ k hk)
  have Of15_s1 : s1 101 15 = τ 101 15 := (show s1 101 15 = τ 101 15 by rw [hs1, up2_i (by decide)]).trans Of15_τ
  have Of34_s1 : s1 101 34 = τ 101 34 := (show s1 101 34 = τ 101 34 by rw [hs1, up2_i (by decide)]).trans Of34_τ
  have Of1_s1 : s1 101 1 = τ 101 1 := (show s1 101 1 = τ 101 1 by rw [hs1, up2_i (by decide)]).trans Of1_τ
  have Of30_s1 : s1 101 30 = τ 101 30 := (show s1 101 30 = τ 101 30 by rw [hs1, up2_i (by decide)]).trans Of30_τ
  have Of18_s1 : s1 101 18 = τ 101 18 := (show s1 101 18 = τ 101 18 by rw [hs1, up2_i (by decide)]).trans Of18_τ
  have b2 := ti_lo x1
  have b3 := ti_hi x1
  refine sf_bnd (s_X4_isView hF Is1) (fun r4 u5 p6 => ?_)
  obtain ⟨e9, p6⟩ := p6
  have e9 := e9.symm
  subst e9
  rcases p6 with ⟨rfl, q7, q8⟩ | p6
  · refine sf_ite (fun c9 => ?_) (fun c9 => ?_)
    · have C9 : (1 : Int) = (0 : Int) := ti_eq c9
      exfalso; omega
    have C9 : ¬ (1 : Int) = (0 : Int) := ti_ne c9
    refine sf_in ?_
    rw [f_X4_wrongNumber_e]
    have b10 := ti_lo x2
    have b11 := ti_hi x2
    refine sf_ite (fun c12 => ?_) (fun c12 => ?_)
    · have C12 : (0 : Int) ≤ x2.toInt := ti_le c12
      refine sf_ite (fun c13 => ?_) (fun c13 => ?_)
      · have C13 : x2.toInt ≤ (999 : Int) := ti_le c13
        refine sf_ret ?_
        rw [j_X4_owner_24_e]
        refine sf_ite (fun c14 => ?_) (fun c14 => ?_)
        · have C14 : (0 : Int) ≤ (0 : Int) := ti_le c14
          refine sf_bnd (s_X4_layBrings hF Is1) (fun r15 u16 p17 => ?_)
          obtain ⟨Iu16, Fu16_, Of15_u16_, Of34_u16_, Of1_u16_, Of30_u16_, Of18_u16_, -⟩ := p17
          have Fu16 : ∀ k, k < 101 → u16 k = τ k := fun k hk => (Fu16_ k hk).trans (Fs1 k hk)
          have Of15_u16 : u16 101 15 = τ 101 15 := Of15_u16_.trans Of15_s1
          have Of34_u16 : u16 101 34 = τ 101 34 := Of34_u16_.trans Of34_s1
          have Of1_u16 : u16 101 1 = τ 101 1 := Of1_u16_.trans Of1_s1
          have Of30_u16 : u16 101 30 = τ 101 30 := Of30_u16_.trans Of30_s1
          have Of18_u16 : u16 101 18 = τ 101 18 := Of18_u16_.trans Of18_s1
          refine sf_bnd (s_X4_ownerIn hF Iu16 (by omega) (by omega) (by omega) (by omega)) (fun r18 u19 p20 => ?_)
          obtain ⟨Iu19, Fu19_, Of15_u19_, Of34_u19_, Of1_u19_, Of30_u19_, Of18_u19_, p20_1, p20_2⟩ := p20
          have Fu19 : ∀ k, k < 101 → u19 k = τ k := fun k hk => (Fu19_ k hk).trans (Fu16 k hk)
          have Of15_u19 : u19 101 15 = τ 101 15 := Of15_u19_.trans Of15_u16
          have Of34_u19 : u19 101 34 = τ 101 34 := Of34_u19_.trans Of34_u16
          have Of1_u19 : u19 101 1 = τ 101 1 := Of1_u19_.trans Of1_u16
          have Of30_u19 : u19 101 30 = τ 101 30 := Of30_u19_.trans Of30_u16
          have Of18_u19 : u19 101 18 = τ 101 18 := Of18_u19_.trans Of18_u16
          exact sf_ret ⟨Iu19, Fu19, Of15_u19, Of34_u19, Of1_u19, Of30_u19, Of18_u19, ti_lo _, ti_hi _⟩
        have C14 : (0 : Int) < (0 : Int) := ti_nle c14
        exfalso; omega
      have C13 : (999 : Int) < x2.toInt := ti_nle c13
      refine sf_ret ?_
      rw [j_X4_owner_24_e]
      refine sf_ite (fun c21 => ?_) (fun c21 => ?_)
      · have C21 : (0 : Int) ≤ (-6 : Int) := ti_le c21
        exfalso; omega
      have C21 : (-6 : Int) < (0 : Int) := ti_nle c21
      refine sf_bnd (s_X4_refuse hF Is1 (by decide) (by decide)) (fun r22 u23 p24 => ?_)
      obtain ⟨Iu23, Fu23_, Of15_u23_, Of34_u23_, Of1_u23_, Of30_u23_, Of18_u23_, p24_1, p24_2, p24_x0⟩ := p24
      have Fu23 : ∀ k, k < 101 → u23 k = τ k := fun k hk => (Fu23_ k hk).trans (Fs1 k hk)
      have Of15_u23 : u23 101 15 = τ 101 15 := Of15_u23_.trans Of15_s1
      have Of34_u23 : u23 101 34 = τ 101 34 := Of34_u23_.trans Of34_s1
      have Of1_u23 : u23 101 1 = τ 101 1 := Of1_u23_.trans Of1_s1
      have Of30_u23 : u23 101 30 = τ 101 30 := Of30_u23_.trans Of30_s1
      have Of18_u23 : u23 101 18 = τ 101 18 := Of18_u23_.trans Of18_s1
      replace p24_x0 : r22.toInt = (-6 : Int) := p24_x0
      exact sf_ret ⟨Iu23, Fu23, Of15_u23, Of34_u23, Of1_u23, Of30_u23, Of18_u23, ti_lo _, ti_hi _⟩
    have C12 : x2.toInt < (0 : Int) := ti_nle c12
    refine sf_ret ?_
    rw [j_X4_owner_24_e]
    refine sf_ite (fun c25 => ?_) (fun c25 => ?_)
    · have C25 : (0 : Int) ≤ (-4 : Int) := ti_le c25
      exfalso; omega
    have C25 : (-4 : Int) < (0 : Int) := ti_nle c25
    refine sf_bnd (s_X4_refuse hF Is1 (by decide) (by decide)) (fun r26 u27 p28 => ?_)
    obtain ⟨Iu27, Fu27_, Of15_u27_, Of34_u27_, Of1_u27_, Of30_u27_, Of18_u27_, p28_1, p28_2, p28_x0⟩ := p28
    have Fu27 : ∀ k, k < 101 → u27 k = τ k := fun k hk => (Fu27_ k hk).trans (Fs1 k hk)
    have Of15_u27 : u27 101 15 = τ 101 15 := Of15_u27_.trans Of15_s1
    have Of34_u27 : u27 101 34 = τ 101 34 := Of34_u27_.trans Of34_s1
    have Of1_u27 : u27 101 1 = τ 101 1 := Of1_u27_.trans Of1_s1
    have Of30_u27 : u27 101 30 = τ 101 30 := Of30_u27_.trans Of30_s1
    have Of18_u27 : u27 101 18 = τ 101 18 := Of18_u27_.trans Of18_s1
    replace p28_x0 : r26.toInt = (-4 : Int) := p28_x0
    exact sf_ret ⟨Iu27, Fu27, Of15_u27, Of34_u27, Of1_u27, Of30_u27, Of18_u27, ti_lo _, ti_hi _⟩
  obtain ⟨rfl, q29⟩ := p6
  refine sf_ite (fun c30 => ?_) (fun c30 => ?_)
  · have C30 : (0 : Int) = (0 : Int) := ti_eq c30
    rw [j_X4_owner_24_e]
    refine sf_ite (fun c31 => ?_) (fun c31 => ?_)
    · have C31 : (0 : Int) ≤ (-1 : Int) := ti_le c31
      exfalso; omega
    have C31 : (-1 : Int) < (0 : Int) := ti_nle c31
    refine sf_bnd (s_X4_refuse hF Is1 (by decide) (by decide)) (fun r32 u33 p34 => ?_)
    obtain ⟨Iu33, Fu33_, Of15_u33_, Of34_u33_, Of1_u33_, Of30_u33_, Of18_u33_, p34_1, p34_2, p34_x0⟩ := p34
    have Fu33 : ∀ k, k < 101 → u33 k = τ k := fun k hk => (Fu33_ k hk).trans (Fs1 k hk)
    have Of15_u33 : u33 101 15 = τ 101 15 := Of15_u33_.trans Of15_s1
    have Of34_u33 : u33 101 34 = τ 101 34 := Of34_u33_.trans Of34_s1
    have Of1_u33 : u33 101 1 = τ 101 1 := Of1_u33_.trans Of1_s1
    have Of30_u33 : u33 101 30 = τ 101 30 := Of30_u33_.trans Of30_s1
    have Of18_u33 : u33 101 18 = τ 101 18 := Of18_u33_.trans Of18_s1
    replace p34_x0 : r32.toInt = (-1 : Int) := p34_x0
    exact sf_ret ⟨Iu33, Fu33, Of15_u33, Of34_u33, Of1_u33, Of30_u33, Of18_u33, ti_lo _, ti_hi _⟩
  have C30 : ¬ (0 : Int) = (0 : Int) := ti_ne c30
  exfalso; omega
