set_option maxHeartbeats 4000000 in
set_option maxRecDepth 100000 in
theorem s_X3_ownsWell {F : Nat} (hF : 100000 ≤ F) {x1 : Int32} {x2 : Int32} {x3 : Int32} {x4 : Int32} {τ : Mem} (hI : wiX τ) (x1_1 : 0 ≤ x1.toInt) (x1_2 : x1.toInt ≤ 4) (x2_1 : 0 ≤ x2.toInt) (x2_2 : x2.toInt ≤ 7) (x3_1 : 0 ≤ x3.toInt) (x3_2 : x3.toInt ≤ 8) (x4_1 : 0 ≤ x4.toInt) (x4_2 : x4.toInt ≤ 8) : sf (f_X3_ownsWell F x1 x2 x3 x4 τ) (fun r s => wiX s ∧ (∀ k, 101 ≤ k → s k = τ k) ∧ s 83 1 = τ 83 1 ∧ s 0 7 = τ 0 7 ∧ 0 ≤ r.toInt ∧ r.toInt ≤ 1) := by
  have Fτ : ∀ k, 101 ≤ k → τ k = τ k := fun _ _ => rfl
  have O83_τ : τ 83 1 = τ 83 1 := rfl
  have O0_τ : τ 0 7 = τ 0 7 := rfl
  rw [f_X3_ownsWell_e]
  refine sf_chk (ti_in (by omega) (by omega)) ?_
  have v1 : Int32.toNatClampNeg x1 = x1.toInt.toNat := rfl
  refine sf_bnd (s_X0_behind hF wt_h1 hI (by omega) (by omega) (by omega) (by omega) (by omega) (by omega)) (fun r2 u3 p4 => ?_)
  obtain ⟨e9, p4_1, p4_2⟩ := p4
  have e9 := e9.symm
  subst e9
  refine sf_chk (ti_in (by omega) (by omega)) ?_
  have v5 : Int32.toNatClampNeg x2 = x2.toInt.toNat := rfl
  refine sf_lt (fun s6 hs6 => ?_)
  have Is6 : wiX s6 := by rw [hs6]; exact wx_oth hI (fun q hq e => by have := wt_Hcs hq; omega) (fun e => by omega) (fun e => by omega) (fun e => by omega)
  have Fs6 : ∀ k, 101 ≤ k → s6 k = τ k := fun k hk => (show s6 k = τ k by rw [hs6, up2_k (by omega)]).trans (Fτ k hk)
  have O83_s6 : s6 83 1 = τ 83 1 := (show s6 83 1 = τ 83 1 by rw [hs6, up2_k (by omega)]).trans O83_τ
  have O0_s6 : s6 0 7 = τ 0 7 := (show s6 0 7 = τ 0 7 by rw [hs6, up2_k (by omega)]).trans O0_τ
  refine sf_lt (fun s7 hs7 => ?_)
  have Is7 : wiX s7 := by rw [hs7]; exact wx_oth Is6 (fun q hq e => by have := wt_Hcs hq; omega) (fun e => by omega) (fun e => by omega) (fun e => by omega)
  have Fs7 : ∀ k, 101 ≤ k → s7 k = τ k := fun k hk => (show s7 k = s6 k by rw [hs7, up2_k (by omega)]).trans (Fs6 k hk)
  have O83_s7 : s7 83 1 = τ 83 1 := (show s7 83 1 = s6 83 1 by rw [hs7, up2_k (by omega)]).trans O83_s6
  have O0_s7 : s7 0 7 = τ 0 7 := (show s7 0 7 = s6 0 7 by rw [hs7, up2_k (by omega)]).trans O0_s6
  refine sf_bnd (s_X0_holder hF wt_h24 Is7 (by omega) (by omega) (by omega) (by omega)) (fun r8 u9 p10 => ?_)
  obtain ⟨e9, p10_1, p10_2⟩ := p10
  have e9 := e9.symm
  subst e9
  refine sf_ite (fun c11 => ?_) (fun c11 => ?_)
  · have C11 : r8.toInt = x1.toInt := ti_eq c11
    exact sf_ret ⟨Is7, Fs7, O83_s7, O0_s7, by decide, by decide⟩
  have C11 : ¬ r8.toInt = x1.toInt := ti_ne c11
  exact sf_ret ⟨Is7, Fs7, O83_s7, O0_s7, by decide, by decide⟩
set_option maxHeartbeats 4000000 in
set_option maxRecDepth 100000 in
theorem sl_X3_ill_117 {F : Nat} (hF : 100000 ≤ F) {x1 : Int32} {x2 : Int32} {x3 : Int32} {x4 : Int32} {x5 : Int32} {τ : Mem} (x1_1 : 0 ≤ x1.toInt) (x1_2 : x1.toInt ≤ 4) (x2_1 : 0 ≤ x2.toInt) (x2_2 : x2.toInt ≤ 7) (x3_1 : 0 ≤ x3.toInt) (x3_2 : x3.toInt ≤ 8) (x4_1 : 2 ≤ x4.toInt) (x4_2 : x4.toInt ≤ 20) (x5_1 : 0 ≤ x5.toInt) (x5_2 : x5.toInt ≤ 1) : ∀ (N : Nat) (y7 : Int64) (y9 : Int64) (y11 : Int64) (x13 : Int32) (σ : Mem), wiX σ → (∀ k, 101 ≤ k → σ k = τ k) → σ 83 1 = τ 83 1 → σ 0 7 = τ 0 7 → 9 < x13.toInt + N → 0 ≤ x13.toInt → x13.toInt ≤ 9 → sf (lp_X3_ill_117 F x1 x2 x3 x4 x5 N y7 y9 y11 x13 σ) (fun r s => wiX s ∧ (∀ k, 101 ≤ k → s k = τ k) ∧ s 83 1 = τ 83 1 ∧ s 0 7 = τ 0 7 ∧ True) := by
  intro N
  induction N with
  | zero => intro y7 y9 y11 x13 σ hI Fσ O83_σ O0_σ hN x13_1 x13_2; exfalso; omega
  | succ N ih =>
    intro y7 y9 y11 x13 σ hI Fσ O83_σ O0_σ hN x13_1 x13_2
    rw [lp_X3_ill_117_s]
    refine sf_ite (fun c1 => ?_) (fun c1 => ?_)
    · have C1 : x3.toInt < x13.toInt := ti_lt c1
      refine sf_bnd (s_X3_fraction hF hI (by omega) (by omega)) (fun r2 u3 p4 => ?_)
      obtain ⟨e9, -⟩ := p4
      have e9 := e9.symm
      subst e9
      exact sf_ret ⟨hI, Fσ, O83_σ, O0_σ, trivial⟩
    have C1 : x13.toInt ≤ x3.toInt := ti_nlt c1
    refine sf_bnd (s_X3_ownsWell hF hI (by omega) (by omega) (by omega) (by omega) (by omega) (by omega) (by omega) (by omega)) (fun r5 u6 p7 => ?_)
    obtain ⟨Iu6, Fu6_, O83_u6_, O0_u6_, p7_1, p7_2⟩ := p7
    have Fu6 : ∀ k, 101 ≤ k → u6 k = τ k := fun k hk => (Fu6_ k hk).trans (Fσ k hk)
    have O83_u6 : u6 83 1 = τ 83 1 := O83_u6_.trans O83_σ
    have O0_u6 : u6 0 7 = τ 0 7 := O0_u6_.trans O0_σ
    have hb_r5 : r5 = 0 ∨ r5 = 1 := wi_bool p7_1 p7_2
    refine sf_ite (fun c8 => ?_) (fun c8 => ?_)
    · have C8 : r5.toInt = (0 : Int) := ti_eq c8
      rw [j_X3_ill_142_e]
      have t9 : (x13 + (1 : Int32)).toInt = x13.toInt + (1 : Int) := ti_add (show -2147483648 ≤ x13.toInt + (1 : Int) by omega) (show x13.toInt + (1 : Int) ≤ 2147483647 by omega)
      refine sf_nzl (ti_l64 (by omega)) ?_
      refine sf_lt (fun z10 hz10 => ?_)
      refine sf_ite (fun c11 => ?_) (fun c11 => ?_)
      · have C11 : x3.toInt ≤ x13.toInt := ti_le c11
        rw [j_X3_ill_181_e]
        exact ih _ _ _ _ _ Iu6 Fu6 O83_u6 O0_u6 (by omega) (by omega) (by omega)
      have C11 : x13.toInt < x3.toInt := ti_nle c11
      rw [j_X3_ill_181_e]
      exact ih _ _ _ _ _ Iu6 Fu6 O83_u6 O0_u6 (by omega) (by omega) (by omega)
    have C8 : ¬ r5.toInt = (0 : Int) := ti_ne c8
    rw [j_X3_ill_142_e]
    have t12 : (x13 + (1 : Int32)).toInt = x13.toInt + (1 : Int) := ti_add (show -2147483648 ≤ x13.toInt + (1 : Int) by omega) (show x13.toInt + (1 : Int) ≤ 2147483647 by omega)
    refine sf_nzl (ti_l64 (by omega)) ?_
    refine sf_lt (fun z13 hz13 => ?_)
    refine sf_ite (fun c14 => ?_) (fun c14 => ?_)
    · have C14 : x3.toInt ≤ x13.toInt := ti_le c14
      rw [j_X3_ill_181_e]
      exact ih _ _ _ _ _ Iu6 Fu6 O83_u6 O0_u6 (by omega) (by omega) (by omega)
    have C14 : x13.toInt < x3.toInt := ti_nle c14
    rw [j_X3_ill_181_e]
    exact ih _ _ _ _ _ Iu6 Fu6 O83_u6 O0_u6 (by omega) (by omega) (by omega)
set_option maxHeartbeats 4000000 in
set_option maxRecDepth 100000 in
theorem s_X3_ill {F : Nat} (hF : 100000 ≤ F) {x1 : Int32} {x2 : Int32} {x3 : Int32} {x4 : Int32} {x5 : Int32} {τ : Mem} (hI : wiX τ) : sf (f_X3_ill F x1 x2 x3 x4 x5 τ) (fun r s => wiX s ∧ (∀ k, 101 ≤ k → s k = τ k) ∧ s 83 1 = τ 83 1 ∧ s 0 7 = τ 0 7 ∧ True) := by
  have Fτ : ∀ k, 101 ≤ k → τ k = τ k := fun _ _ => rfl
  have O83_τ : τ 83 1 = τ 83 1 := rfl
  have O0_τ : τ 0 7 = τ 0 7 := rfl
  rw [f_X3_ill_e]
  have b1 := ti_lo x1
  have b2 := ti_hi x1
  refine sf_bnd (s_X3_noLooker hF hI) (fun r3 u4 p5 => ?_)
  obtain ⟨e9, p5⟩ := p5
  have e9 := e9.symm
  subst e9
  rcases p5 with ⟨rfl, q6, q7⟩ | p5
  · have b8 := ti_lo x2
    have b9 := ti_hi x2
    refine sf_bnd (s_X3_noView hF hI) (fun r10 u11 p12 => ?_)
    obtain ⟨e9, p12⟩ := p12
    have e9 := e9.symm
    subst e9
    rcases p12 with ⟨rfl, q13, q14⟩ | p12
    · refine sf_in ?_
      rw [f_X3_firstOf_e]
      refine sf_ite (fun c15 => ?_) (fun c15 => ?_)
      · have C15 : (0 : Int) = (0 : Int) := ti_eq c15
        refine sf_ret ?_
        refine sf_ite (fun c16 => ?_) (fun c16 => ?_)
        · have C16 : (0 : Int) = (0 : Int) := ti_eq c16
          have b17 := ti_lo x3
          have b18 := ti_hi x3
          refine sf_ite (fun c19 => ?_) (fun c19 => ?_)
          · have C19 : x3.toInt < (0 : Int) := ti_lt c19
            rw [j_X3_ill_29_e]
            rw [j_X3_ill_33_e]
            refine sf_ite (fun c20 => ?_) (fun c20 => ?_)
            · have C20 : (-4 : Int) = (0 : Int) := ti_eq c20
              exfalso; omega
            have C20 : ¬ (-4 : Int) = (0 : Int) := ti_ne c20
            rw [j_X3_ill_55_e]
            refine sf_in ?_
            rw [f_X3_notBelow_e]
            have b21 := ti_lo x5
            have b22 := ti_hi x5
            refine sf_ite (fun c23 => ?_) (fun c23 => ?_)
            · have C23 : x5.toInt < (0 : Int) := ti_lt c23
              rw [j_X3_notBelow_13_e]
              refine sf_ret ?_
              refine sf_in ?_
              rw [f_X3_firstOf_e]
              refine sf_ite (fun c24 => ?_) (fun c24 => ?_)
              · have C24 : (-4 : Int) = (0 : Int) := ti_eq c24
                exfalso; omega
              have C24 : ¬ (-4 : Int) = (0 : Int) := ti_ne c24
              refine sf_ret ?_
              refine sf_ite (fun c25 => ?_) (fun c25 => ?_)
              · have C25 : (-4 : Int) = (0 : Int) := ti_eq c25
                exfalso; omega
              have C25 : ¬ (-4 : Int) = (0 : Int) := ti_ne c25
              refine sf_bnd (s_X3_refuseLong hF hI (by decide) (by decide)) (fun r26 u27 p28 => ?_)
              obtain ⟨Iu27, Fu27_, O83_u27_, O0_u27_, -⟩ := p28
              have Fu27 : ∀ k, 101 ≤ k → u27 k = τ k := fun k hk => (Fu27_ k hk).trans (Fτ k hk)
              have O83_u27 : u27 83 1 = τ 83 1 := O83_u27_.trans O83_τ
              have O0_u27 : u27 0 7 = τ 0 7 := O0_u27_.trans O0_τ
              exact sf_ret ⟨Iu27, Fu27, O83_u27, O0_u27, trivial⟩
            have C23 : (0 : Int) ≤ x5.toInt := ti_nlt c23
            refine sf_ite (fun c29 => ?_) (fun c29 => ?_)
            · have C29 : (2 : Int) ≤ x5.toInt := ti_le c29
              rw [j_X3_notBelow_13_e]
              refine sf_ret ?_
              refine sf_in ?_
              rw [f_X3_firstOf_e]
              refine sf_ite (fun c30 => ?_) (fun c30 => ?_)
              · have C30 : (-4 : Int) = (0 : Int) := ti_eq c30
                exfalso; omega
              have C30 : ¬ (-4 : Int) = (0 : Int) := ti_ne c30
              refine sf_ret ?_
              refine sf_ite (fun c31 => ?_) (fun c31 => ?_)
              · have C31 : (-4 : Int) = (0 : Int) := ti_eq c31
                exfalso; omega
              have C31 : ¬ (-4 : Int) = (0 : Int) := ti_ne c31
              refine sf_bnd (s_X3_refuseLong hF hI (by decide) (by decide)) (fun r32 u33 p34 => ?_)
              obtain ⟨Iu33, Fu33_, O83_u33_, O0_u33_, -⟩ := p34
              have Fu33 : ∀ k, 101 ≤ k → u33 k = τ k := fun k hk => (Fu33_ k hk).trans (Fτ k hk)
              have O83_u33 : u33 83 1 = τ 83 1 := O83_u33_.trans O83_τ
              have O0_u33 : u33 0 7 = τ 0 7 := O0_u33_.trans O0_τ
              exact sf_ret ⟨Iu33, Fu33, O83_u33, O0_u33, trivial⟩
            have C29 : x5.toInt < (2 : Int) := ti_nle c29
            refine sf_ret ?_
            refine sf_in ?_
            rw [f_X3_firstOf_e]
            refine sf_ite (fun c35 => ?_) (fun c35 => ?_)
            · have C35 : (-4 : Int) = (0 : Int) := ti_eq c35
              exfalso; omega
            have C35 : ¬ (-4 : Int) = (0 : Int) := ti_ne c35
            refine sf_ret ?_
            refine sf_ite (fun c36 => ?_) (fun c36 => ?_)
            · have C36 : (-4 : Int) = (0 : Int) := ti_eq c36
              exfalso; omega
            have C36 : ¬ (-4 : Int) = (0 : Int) := ti_ne c36
            refine sf_bnd (s_X3_refuseLong hF hI (by decide) (by decide)) (fun r37 u38 p39 => ?_)
            obtain ⟨Iu38, Fu38_, O83_u38_, O0_u38_, -⟩ := p39
            have Fu38 : ∀ k, 101 ≤ k → u38 k = τ k := fun k hk => (Fu38_ k hk).trans (Fτ k hk)
            have O83_u38 : u38 83 1 = τ 83 1 := O83_u38_.trans O83_τ
            have O0_u38 : u38 0 7 = τ 0 7 := O0_u38_.trans O0_τ
            exact sf_ret ⟨Iu38, Fu38, O83_u38, O0_u38, trivial⟩
          have C19 : (0 : Int) ≤ x3.toInt := ti_nlt c19
          have b40 := ti_lo x4
          have b41 := ti_hi x4
          refine sf_ite (fun c42 => ?_) (fun c42 => ?_)
          · have C42 : (2 : Int) ≤ x4.toInt := ti_le c42
            rw [j_X3_ill_33_e]
            refine sf_ite (fun c43 => ?_) (fun c43 => ?_)
            · have C43 : (0 : Int) = (0 : Int) := ti_eq c43
              refine sf_ite (fun c44 => ?_) (fun c44 => ?_)
              · have C44 : (8 : Int) < x3.toInt := ti_lt c44
                rw [j_X3_ill_51_e]
                rw [j_X3_ill_55_e]
                refine sf_in ?_
                rw [f_X3_notBelow_e]
                have b45 := ti_lo x5
                have b46 := ti_hi x5
                refine sf_ite (fun c47 => ?_) (fun c47 => ?_)
                · have C47 : x5.toInt < (0 : Int) := ti_lt c47
                  rw [j_X3_notBelow_13_e]
                  refine sf_ret ?_
                  refine sf_in ?_
                  rw [f_X3_firstOf_e]
                  refine sf_ite (fun c48 => ?_) (fun c48 => ?_)
                  · have C48 : (-6 : Int) = (0 : Int) := ti_eq c48
                    exfalso; omega
                  have C48 : ¬ (-6 : Int) = (0 : Int) := ti_ne c48
                  refine sf_ret ?_
                  refine sf_ite (fun c49 => ?_) (fun c49 => ?_)
                  · have C49 : (-6 : Int) = (0 : Int) := ti_eq c49
                    exfalso; omega
                  have C49 : ¬ (-6 : Int) = (0 : Int) := ti_ne c49
                  refine sf_bnd (s_X3_refuseLong hF hI (by decide) (by decide)) (fun r50 u51 p52 => ?_)
                  obtain ⟨Iu51, Fu51_, O83_u51_, O0_u51_, -⟩ := p52
                  have Fu51 : ∀ k, 101 ≤ k → u51 k = τ k := fun k hk => (Fu51_ k hk).trans (Fτ k hk)
                  have O83_u51 : u51 83 1 = τ 83 1 := O83_u51_.trans O83_τ
                  have O0_u51 : u51 0 7 = τ 0 7 := O0_u51_.trans O0_τ
                  exact sf_ret ⟨Iu51, Fu51, O83_u51, O0_u51, trivial⟩
                have C47 : (0 : Int) ≤ x5.toInt := ti_nlt c47
                refine sf_ite (fun c53 => ?_) (fun c53 => ?_)
                · have C53 : (2 : Int) ≤ x5.toInt := ti_le c53
                  rw [j_X3_notBelow_13_e]
                  refine sf_ret ?_
                  refine sf_in ?_
                  rw [f_X3_firstOf_e]
                  refine sf_ite (fun c54 => ?_) (fun c54 => ?_)
                  · have C54 : (-6 : Int) = (0 : Int) := ti_eq c54
                    exfalso; omega
                  have C54 : ¬ (-6 : Int) = (0 : Int) := ti_ne c54
                  refine sf_ret ?_
                  refine sf_ite (fun c55 => ?_) (fun c55 => ?_)
                  · have C55 : (-6 : Int) = (0 : Int) := ti_eq c55
                    exfalso; omega
                  have C55 : ¬ (-6 : Int) = (0 : Int) := ti_ne c55
                  refine sf_bnd (s_X3_refuseLong hF hI (by decide) (by decide)) (fun r56 u57 p58 => ?_)
                  obtain ⟨Iu57, Fu57_, O83_u57_, O0_u57_, -⟩ := p58
                  have Fu57 : ∀ k, 101 ≤ k → u57 k = τ k := fun k hk => (Fu57_ k hk).trans (Fτ k hk)
                  have O83_u57 : u57 83 1 = τ 83 1 := O83_u57_.trans O83_τ
                  have O0_u57 : u57 0 7 = τ 0 7 := O0_u57_.trans O0_τ
                  exact sf_ret ⟨Iu57, Fu57, O83_u57, O0_u57, trivial⟩
                have C53 : x5.toInt < (2 : Int) := ti_nle c53
                refine sf_ret ?_
                refine sf_in ?_
                rw [f_X3_firstOf_e]
                refine sf_ite (fun c59 => ?_) (fun c59 => ?_)
                · have C59 : (-6 : Int) = (0 : Int) := ti_eq c59
                  exfalso; omega
                have C59 : ¬ (-6 : Int) = (0 : Int) := ti_ne c59
                refine sf_ret ?_
                refine sf_ite (fun c60 => ?_) (fun c60 => ?_)
                · have C60 : (-6 : Int) = (0 : Int) := ti_eq c60
                  exfalso; omega
                have C60 : ¬ (-6 : Int) = (0 : Int) := ti_ne c60
                refine sf_bnd (s_X3_refuseLong hF hI (by decide) (by decide)) (fun r61 u62 p63 => ?_)
                obtain ⟨Iu62, Fu62_, O83_u62_, O0_u62_, -⟩ := p63
                have Fu62 : ∀ k, 101 ≤ k → u62 k = τ k := fun k hk => (Fu62_ k hk).trans (Fτ k hk)
                have O83_u62 : u62 83 1 = τ 83 1 := O83_u62_.trans O83_τ
                have O0_u62 : u62 0 7 = τ 0 7 := O0_u62_.trans O0_τ
                exact sf_ret ⟨Iu62, Fu62, O83_u62, O0_u62, trivial⟩
              have C44 : x3.toInt ≤ (8 : Int) := ti_nlt c44
              refine sf_ite (fun c64 => ?_) (fun c64 => ?_)
              · have C64 : x4.toInt ≤ (20 : Int) := ti_le c64
                rw [j_X3_ill_55_e]
                refine sf_in ?_
                rw [f_X3_notBelow_e]
                have b65 := ti_lo x5
                have b66 := ti_hi x5
                refine sf_ite (fun c67 => ?_) (fun c67 => ?_)
                · have C67 : x5.toInt < (0 : Int) := ti_lt c67
                  rw [j_X3_notBelow_13_e]
                  refine sf_ret ?_
                  refine sf_in ?_
                  rw [f_X3_firstOf_e]
                  refine sf_ite (fun c68 => ?_) (fun c68 => ?_)
                  · have C68 : (0 : Int) = (0 : Int) := ti_eq c68
                    refine sf_ret ?_
                    refine sf_ite (fun c69 => ?_) (fun c69 => ?_)
                    · have C69 : (-2 : Int) = (0 : Int) := ti_eq c69
                      exfalso; omega
                    have C69 : ¬ (-2 : Int) = (0 : Int) := ti_ne c69
                    refine sf_bnd (s_X3_refuseLong hF hI (by decide) (by decide)) (fun r70 u71 p72 => ?_)
                    obtain ⟨Iu71, Fu71_, O83_u71_, O0_u71_, -⟩ := p72
                    have Fu71 : ∀ k, 101 ≤ k → u71 k = τ k := fun k hk => (Fu71_ k hk).trans (Fτ k hk)
                    have O83_u71 : u71 83 1 = τ 83 1 := O83_u71_.trans O83_τ
                    have O0_u71 : u71 0 7 = τ 0 7 := O0_u71_.trans O0_τ
                    exact sf_ret ⟨Iu71, Fu71, O83_u71, O0_u71, trivial⟩
                  have C68 : ¬ (0 : Int) = (0 : Int) := ti_ne c68
                  exfalso; omega
                have C67 : (0 : Int) ≤ x5.toInt := ti_nlt c67
                refine sf_ite (fun c73 => ?_) (fun c73 => ?_)
                · have C73 : (2 : Int) ≤ x5.toInt := ti_le c73
                  rw [j_X3_notBelow_13_e]
                  refine sf_ret ?_
                  refine sf_in ?_
                  rw [f_X3_firstOf_e]
                  refine sf_ite (fun c74 => ?_) (fun c74 => ?_)
                  · have C74 : (0 : Int) = (0 : Int) := ti_eq c74
                    refine sf_ret ?_
                    refine sf_ite (fun c75 => ?_) (fun c75 => ?_)
                    · have C75 : (-2 : Int) = (0 : Int) := ti_eq c75
                      exfalso; omega
                    have C75 : ¬ (-2 : Int) = (0 : Int) := ti_ne c75
                    refine sf_bnd (s_X3_refuseLong hF hI (by decide) (by decide)) (fun r76 u77 p78 => ?_)
                    obtain ⟨Iu77, Fu77_, O83_u77_, O0_u77_, -⟩ := p78
                    have Fu77 : ∀ k, 101 ≤ k → u77 k = τ k := fun k hk => (Fu77_ k hk).trans (Fτ k hk)
                    have O83_u77 : u77 83 1 = τ 83 1 := O83_u77_.trans O83_τ
                    have O0_u77 : u77 0 7 = τ 0 7 := O0_u77_.trans O0_τ
                    exact sf_ret ⟨Iu77, Fu77, O83_u77, O0_u77, trivial⟩
                  have C74 : ¬ (0 : Int) = (0 : Int) := ti_ne c74
                  exfalso; omega
                have C73 : x5.toInt < (2 : Int) := ti_nle c73
                refine sf_ret ?_
                refine sf_in ?_
                rw [f_X3_firstOf_e]
                refine sf_ite (fun c79 => ?_) (fun c79 => ?_)
                · have C79 : (0 : Int) = (0 : Int) := ti_eq c79
                  refine sf_ret ?_
                  refine sf_ite (fun c80 => ?_) (fun c80 => ?_)
                  · have C80 : (0 : Int) = (0 : Int) := ti_eq c80
                    refine sf_bnd (s_X0_reckon hF wt_h1 hI) (fun r81 u82 p83 => ?_)
                    obtain ⟨Iu82, Fu82_, O83_u82_, O0_u82_, -⟩ := p83
                    have Fu82 : ∀ k, 101 ≤ k → u82 k = τ k := fun k hk => (Fu82_ k hk).trans (Fτ k hk)
                    have O83_u82 : u82 83 1 = τ 83 1 := O83_u82_.trans O83_τ
                    have O0_u82 : u82 0 7 = τ 0 7 := O0_u82_.trans O0_τ
                    refine sf_bnd (s_X0_takeFrom hF wt_h24 wt_h1 Iu82) (fun r84 u85 p86 => ?_)
                    obtain ⟨Iu85, Fu85_, O83_u85_, O0_u85_, -⟩ := p86
                    have Fu85 : ∀ k, 101 ≤ k → u85 k = τ k := fun k hk => (Fu85_ k hk).trans (Fu82 k hk)
                    have O83_u85 : u85 83 1 = τ 83 1 := O83_u85_.trans O83_u82
                    have O0_u85 : u85 0 7 = τ 0 7 := O0_u85_.trans O0_u82
                    refine sf_bnd (s_X0_reckon hF wt_h24 Iu85) (fun r87 u88 p89 => ?_)
                    obtain ⟨Iu88, Fu88_, O83_u88_, O0_u88_, -⟩ := p89
                    have Fu88 : ∀ k, 101 ≤ k → u88 k = τ k := fun k hk => (Fu88_ k hk).trans (Fu85 k hk)
                    have O83_u88 : u88 83 1 = τ 83 1 := O83_u88_.trans O83_u85
                    have O0_u88 : u88 0 7 = τ 0 7 := O0_u88_.trans O0_u85
                    have l_0 : (0 : Int32).toInt = 0 := rfl
                    exact sl_X3_ill_117 hF (by omega) (by omega) (by omega) (by omega) (by omega) (by omega) (by omega) (by omega) (by omega) (by omega) _ _ _ _ _ _ Iu88 Fu88 O83_u88 O0_u88 (by omega) (by decide) (by decide)
                  have C80 : ¬ (0 : Int) = (0 : Int) := ti_ne c80
                  exfalso; omega
                have C79 : ¬ (0 : Int) = (0 : Int) := ti_ne c79
                exfalso; omega
              have C64 : (20 : Int) < x4.toInt := ti_nle c64
              rw [j_X3_ill_51_e]
              rw [j_X3_ill_55_e]
              refine sf_in ?_
              rw [f_X3_notBelow_e]
              have b90 := ti_lo x5
              have b91 := ti_hi x5
              refine sf_ite (fun c92 => ?_) (fun c92 => ?_)
              · have C92 : x5.toInt < (0 : Int) := ti_lt c92
                rw [j_X3_notBelow_13_e]
                refine sf_ret ?_
                refine sf_in ?_
                rw [f_X3_firstOf_e]
                refine sf_ite (fun c93 => ?_) (fun c93 => ?_)
                · have C93 : (-6 : Int) = (0 : Int) := ti_eq c93
                  exfalso; omega
                have C93 : ¬ (-6 : Int) = (0 : Int) := ti_ne c93
                refine sf_ret ?_
                refine sf_ite (fun c94 => ?_) (fun c94 => ?_)
                · have C94 : (-6 : Int) = (0 : Int) := ti_eq c94
                  exfalso; omega
                have C94 : ¬ (-6 : Int) = (0 : Int) := ti_ne c94
                refine sf_bnd (s_X3_refuseLong hF hI (by decide) (by decide)) (fun r95 u96 p97 => ?_)
                obtain ⟨Iu96, Fu96_, O83_u96_, O0_u96_, -⟩ := p97
                have Fu96 : ∀ k, 101 ≤ k → u96 k = τ k := fun k hk => (Fu96_ k hk).trans (Fτ k hk)
                have O83_u96 : u96 83 1 = τ 83 1 := O83_u96_.trans O83_τ
                have O0_u96 : u96 0 7 = τ 0 7 := O0_u96_.trans O0_τ
                exact sf_ret ⟨Iu96, Fu96, O83_u96, O0_u96, trivial⟩
              have C92 : (0 : Int) ≤ x5.toInt := ti_nlt c92
              refine sf_ite (fun c98 => ?_) (fun c98 => ?_)
              · have C98 : (2 : Int) ≤ x5.toInt := ti_le c98
                rw [j_X3_notBelow_13_e]
                refine sf_ret ?_
                refine sf_in ?_
                rw [f_X3_firstOf_e]
                refine sf_ite (fun c99 => ?_) (fun c99 => ?_)
                · have C99 : (-6 : Int) = (0 : Int) := ti_eq c99
                  exfalso; omega
                have C99 : ¬ (-6 : Int) = (0 : Int) := ti_ne c99
                refine sf_ret ?_
                refine sf_ite (fun c100 => ?_) (fun c100 => ?_)
                · have C100 : (-6 : Int) = (0 : Int) := ti_eq c100
                  exfalso; omega
                have C100 : ¬ (-6 : Int) = (0 : Int) := ti_ne c100
                refine sf_bnd (s_X3_refuseLong hF hI (by decide) (by decide)) (fun r101 u102 p103 => ?_)
                obtain ⟨Iu102, Fu102_, O83_u102_, O0_u102_, -⟩ := p103
                have Fu102 : ∀ k, 101 ≤ k → u102 k = τ k := fun k hk => (Fu102_ k hk).trans (Fτ k hk)
                have O83_u102 : u102 83 1 = τ 83 1 := O83_u102_.trans O83_τ
                have O0_u102 : u102 0 7 = τ 0 7 := O0_u102_.trans O0_τ
                exact sf_ret ⟨Iu102, Fu102, O83_u102, O0_u102, trivial⟩
              have C98 : x5.toInt < (2 : Int) := ti_nle c98
              refine sf_ret ?_
              refine sf_in ?_
              rw [f_X3_firstOf_e]
              refine sf_ite (fun c104 => ?_) (fun c104 => ?_)
              · have C104 : (-6 : Int) = (0 : Int) := ti_eq c104
                exfalso; omega
              have C104 : ¬ (-6 : Int) = (0 : Int) := ti_ne c104
              refine sf_ret ?_
              refine sf_ite (fun c105 => ?_) (fun c105 => ?_)
              · have C105 : (-6 : Int) = (0 : Int) := ti_eq c105
                exfalso; omega
              have C105 : ¬ (-6 : Int) = (0 : Int) := ti_ne c105
              refine sf_bnd (s_X3_refuseLong hF hI (by decide) (by decide)) (fun r106 u107 p108 => ?_)
              obtain ⟨Iu107, Fu107_, O83_u107_, O0_u107_, -⟩ := p108
              have Fu107 : ∀ k, 101 ≤ k → u107 k = τ k := fun k hk => (Fu107_ k hk).trans (Fτ k hk)
              have O83_u107 : u107 83 1 = τ 83 1 := O83_u107_.trans O83_τ
              have O0_u107 : u107 0 7 = τ 0 7 := O0_u107_.trans O0_τ
              exact sf_ret ⟨Iu107, Fu107, O83_u107, O0_u107, trivial⟩
            have C43 : ¬ (0 : Int) = (0 : Int) := ti_ne c43
            exfalso; omega
          have C42 : x4.toInt < (2 : Int) := ti_nle c42
          rw [j_X3_ill_29_e]
          rw [j_X3_ill_33_e]
          refine sf_ite (fun c109 => ?_) (fun c109 => ?_)
          · have C109 : (-4 : Int) = (0 : Int) := ti_eq c109
            exfalso; omega
          have C109 : ¬ (-4 : Int) = (0 : Int) := ti_ne c109
          rw [j_X3_ill_55_e]
          refine sf_in ?_
          rw [f_X3_notBelow_e]
          have b110 := ti_lo x5
          have b111 := ti_hi x5
          refine sf_ite (fun c112 => ?_) (fun c112 => ?_)
          · have C112 : x5.toInt < (0 : Int) := ti_lt c112
            rw [j_X3_notBelow_13_e]
            refine sf_ret ?_
            refine sf_in ?_
            rw [f_X3_firstOf_e]
            refine sf_ite (fun c113 => ?_) (fun c113 => ?_)
            · have C113 : (-4 : Int) = (0 : Int) := ti_eq c113
              exfalso; omega
            have C113 : ¬ (-4 : Int) = (0 : Int) := ti_ne c113
            refine sf_ret ?_
            refine sf_ite (fun c114 => ?_) (fun c114 => ?_)
            · have C114 : (-4 : Int) = (0 : Int) := ti_eq c114
              exfalso; omega
            have C114 : ¬ (-4 : Int) = (0 : Int) := ti_ne c114
            refine sf_bnd (s_X3_refuseLong hF hI (by decide) (by decide)) (fun r115 u116 p117 => ?_)
            obtain ⟨Iu116, Fu116_, O83_u116_, O0_u116_, -⟩ := p117
            have Fu116 : ∀ k, 101 ≤ k → u116 k = τ k := fun k hk => (Fu116_ k hk).trans (Fτ k hk)
            have O83_u116 : u116 83 1 = τ 83 1 := O83_u116_.trans O83_τ
            have O0_u116 : u116 0 7 = τ 0 7 := O0_u116_.trans O0_τ
            exact sf_ret ⟨Iu116, Fu116, O83_u116, O0_u116, trivial⟩
          have C112 : (0 : Int) ≤ x5.toInt := ti_nlt c112
          refine sf_ite (fun c118 => ?_) (fun c118 => ?_)
          · have C118 : (2 : Int) ≤ x5.toInt := ti_le c118
            rw [j_X3_notBelow_13_e]
            refine sf_ret ?_
            refine sf_in ?_
            rw [f_X3_firstOf_e]
            refine sf_ite (fun c119 => ?_) (fun c119 => ?_)
            · have C119 : (-4 : Int) = (0 : Int) := ti_eq c119
              exfalso; omega
            have C119 : ¬ (-4 : Int) = (0 : Int) := ti_ne c119
            refine sf_ret ?_
            refine sf_ite (fun c120 => ?_) (fun c120 => ?_)
            · have C120 : (-4 : Int) = (0 : Int) := ti_eq c120
              exfalso; omega
            have C120 : ¬ (-4 : Int) = (0 : Int) := ti_ne c120
            refine sf_bnd (s_X3_refuseLong hF hI (by decide) (by decide)) (fun r121 u122 p123 => ?_)
            obtain ⟨Iu122, Fu122_, O83_u122_, O0_u122_, -⟩ := p123
            have Fu122 : ∀ k, 101 ≤ k → u122 k = τ k := fun k hk => (Fu122_ k hk).trans (Fτ k hk)
            have O83_u122 : u122 83 1 = τ 83 1 := O83_u122_.trans O83_τ
            have O0_u122 : u122 0 7 = τ 0 7 := O0_u122_.trans O0_τ
            exact sf_ret ⟨Iu122, Fu122, O83_u122, O0_u122, trivial⟩
          have C118 : x5.toInt < (2 : Int) := ti_nle c118
          refine sf_ret ?_
          refine sf_in ?_
          rw [f_X3_firstOf_e]
          refine sf_ite (fun c124 => ?_) (fun c124 => ?_)
          · have C124 : (-4 : Int) = (0 : Int) := ti_eq c124
            exfalso; omega
          have C124 : ¬ (-4 : Int) = (0 : Int) := ti_ne c124
          refine sf_ret ?_
          refine sf_ite (fun c125 => ?_) (fun c125 => ?_)
          · have C125 : (-4 : Int) = (0 : Int) := ti_eq c125
            exfalso; omega
          have C125 : ¬ (-4 : Int) = (0 : Int) := ti_ne c125
          refine sf_bnd (s_X3_refuseLong hF hI (by decide) (by decide)) (fun r126 u127 p128 => ?_)
          obtain ⟨Iu127, Fu127_, O83_u127_, O0_u127_, -⟩ := p128
          have Fu127 : ∀ k, 101 ≤ k → u127 k = τ k := fun k hk => (Fu127_ k hk).trans (Fτ k hk)
          have O83_u127 : u127 83 1 = τ 83 1 := O83_u127_.trans O83_τ
          have O0_u127 : u127 0 7 = τ 0 7 := O0_u127_.trans O0_τ
          exact sf_ret ⟨Iu127, Fu127, O83_u127, O0_u127, trivial⟩
        have C16 : ¬ (0 : Int) = (0 : Int) := ti_ne c16
        exfalso; omega
      have C15 : ¬ (0 : Int) = (0 : Int) := ti_ne c15
      exfalso; omega
    obtain ⟨rfl, q129⟩ := p12
    refine sf_in ?_
    rw [f_X3_firstOf_e]
    refine sf_ite (fun c130 => ?_) (fun c130 => ?_)
    · have C130 : (0 : Int) = (0 : Int) := ti_eq c130
      refine sf_ret ?_
      refine sf_ite (fun c131 => ?_) (fun c131 => ?_)
      · have C131 : (-1 : Int) = (0 : Int) := ti_eq c131
        exfalso; omega
      have C131 : ¬ (-1 : Int) = (0 : Int) := ti_ne c131
      rw [j_X3_ill_33_e]
      refine sf_ite (fun c132 => ?_) (fun c132 => ?_)
      · have C132 : (-1 : Int) = (0 : Int) := ti_eq c132
        exfalso; omega
      have C132 : ¬ (-1 : Int) = (0 : Int) := ti_ne c132
      rw [j_X3_ill_55_e]
      refine sf_in ?_
      rw [f_X3_notBelow_e]
      have b133 := ti_lo x5
      have b134 := ti_hi x5
      refine sf_ite (fun c135 => ?_) (fun c135 => ?_)
      · have C135 : x5.toInt < (0 : Int) := ti_lt c135
        rw [j_X3_notBelow_13_e]
        refine sf_ret ?_
        refine sf_in ?_
        rw [f_X3_firstOf_e]
        refine sf_ite (fun c136 => ?_) (fun c136 => ?_)
        · have C136 : (-1 : Int) = (0 : Int) := ti_eq c136
          exfalso; omega
        have C136 : ¬ (-1 : Int) = (0 : Int) := ti_ne c136
        refine sf_ret ?_
        refine sf_ite (fun c137 => ?_) (fun c137 => ?_)
        · have C137 : (-1 : Int) = (0 : Int) := ti_eq c137
          exfalso; omega
        have C137 : ¬ (-1 : Int) = (0 : Int) := ti_ne c137
        refine sf_bnd (s_X3_refuseLong hF hI (by decide) (by decide)) (fun r138 u139 p140 => ?_)
        obtain ⟨Iu139, Fu139_, O83_u139_, O0_u139_, -⟩ := p140
        have Fu139 : ∀ k, 101 ≤ k → u139 k = τ k := fun k hk => (Fu139_ k hk).trans (Fτ k hk)
        have O83_u139 : u139 83 1 = τ 83 1 := O83_u139_.trans O83_τ
        have O0_u139 : u139 0 7 = τ 0 7 := O0_u139_.trans O0_τ
        exact sf_ret ⟨Iu139, Fu139, O83_u139, O0_u139, trivial⟩
      have C135 : (0 : Int) ≤ x5.toInt := ti_nlt c135
      refine sf_ite (fun c141 => ?_) (fun c141 => ?_)
      · have C141 : (2 : Int) ≤ x5.toInt := ti_le c141
        rw [j_X3_notBelow_13_e]
        refine sf_ret ?_
        refine sf_in ?_
        rw [f_X3_firstOf_e]
        refine sf_ite (fun c142 => ?_) (fun c142 => ?_)
        · have C142 : (-1 : Int) = (0 : Int) := ti_eq c142
          exfalso; omega
        have C142 : ¬ (-1 : Int) = (0 : Int) := ti_ne c142
        refine sf_ret ?_
        refine sf_ite (fun c143 => ?_) (fun c143 => ?_)
        · have C143 : (-1 : Int) = (0 : Int) := ti_eq c143
          exfalso; omega
        have C143 : ¬ (-1 : Int) = (0 : Int) := ti_ne c143
        refine sf_bnd (s_X3_refuseLong hF hI (by decide) (by decide)) (fun r144 u145 p146 => ?_)
        obtain ⟨Iu145, Fu145_, O83_u145_, O0_u145_, -⟩ := p146
        have Fu145 : ∀ k, 101 ≤ k → u145 k = τ k := fun k hk => (Fu145_ k hk).trans (Fτ k hk)
        have O83_u145 : u145 83 1 = τ 83 1 := O83_u145_.trans O83_τ
        have O0_u145 : u145 0 7 = τ 0 7 := O0_u145_.trans O0_τ
        exact sf_ret ⟨Iu145, Fu145, O83_u145, O0_u145, trivial⟩
      have C141 : x5.toInt < (2 : Int) := ti_nle c141
      refine sf_ret ?_
      refine sf_in ?_
      rw [f_X3_firstOf_e]
      refine sf_ite (fun c147 => ?_) (fun c147 => ?_)
      · have C147 : (-1 : Int) = (0 : Int) := ti_eq c147
        exfalso; omega
      have C147 : ¬ (-1 : Int) = (0 : Int) := ti_ne c147
      refine sf_ret ?_
      refine sf_ite (fun c148 => ?_) (fun c148 => ?_)
      · have C148 : (-1 : Int) = (0 : Int) := ti_eq c148
        exfalso; omega
      have C148 : ¬ (-1 : Int) = (0 : Int) := ti_ne c148
      refine sf_bnd (s_X3_refuseLong hF hI (by decide) (by decide)) (fun r149 u150 p151 => ?_)
      obtain ⟨Iu150, Fu150_, O83_u150_, O0_u150_, -⟩ := p151
      have Fu150 : ∀ k, 101 ≤ k → u150 k = τ k := fun k hk => (Fu150_ k hk).trans (Fτ k hk)
      have O83_u150 : u150 83 1 = τ 83 1 := O83_u150_.trans O83_τ
      have O0_u150 : u150 0 7 = τ 0 7 := O0_u150_.trans O0_τ
      exact sf_ret ⟨Iu150, Fu150, O83_u150, O0_u150, trivial⟩
    have C130 : ¬ (0 : Int) = (0 : Int) := ti_ne c130
    exfalso; omega
  obtain rfl := p5
  have b152 := ti_lo x2
  have b153 := ti_hi x2
  refine sf_bnd (s_X3_noView hF hI) (fun r154 u155 p156 => ?_)
  obtain ⟨e9, p156⟩ := p156
  have e9 := e9.symm
  subst e9
  rcases p156 with ⟨rfl, q157, q158⟩ | p156
  · refine sf_in ?_
    rw [f_X3_firstOf_e]
    refine sf_ite (fun c159 => ?_) (fun c159 => ?_)
    · have C159 : (-1 : Int) = (0 : Int) := ti_eq c159
      exfalso; omega
    have C159 : ¬ (-1 : Int) = (0 : Int) := ti_ne c159
    refine sf_ret ?_
    refine sf_ite (fun c160 => ?_) (fun c160 => ?_)
    · have C160 : (-1 : Int) = (0 : Int) := ti_eq c160
      exfalso; omega
    have C160 : ¬ (-1 : Int) = (0 : Int) := ti_ne c160
    rw [j_X3_ill_33_e]
    refine sf_ite (fun c161 => ?_) (fun c161 => ?_)
    · have C161 : (-1 : Int) = (0 : Int) := ti_eq c161
      exfalso; omega
    have C161 : ¬ (-1 : Int) = (0 : Int) := ti_ne c161
    rw [j_X3_ill_55_e]
    refine sf_in ?_
    rw [f_X3_notBelow_e]
    have b162 := ti_lo x5
    have b163 := ti_hi x5
    refine sf_ite (fun c164 => ?_) (fun c164 => ?_)
    · have C164 : x5.toInt < (0 : Int) := ti_lt c164
      rw [j_X3_notBelow_13_e]
      refine sf_ret ?_
      refine sf_in ?_
      rw [f_X3_firstOf_e]
      refine sf_ite (fun c165 => ?_) (fun c165 => ?_)
      · have C165 : (-1 : Int) = (0 : Int) := ti_eq c165
        exfalso; omega
      have C165 : ¬ (-1 : Int) = (0 : Int) := ti_ne c165
      refine sf_ret ?_
      refine sf_ite (fun c166 => ?_) (fun c166 => ?_)
      · have C166 : (-1 : Int) = (0 : Int) := ti_eq c166
        exfalso; omega
      have C166 : ¬ (-1 : Int) = (0 : Int) := ti_ne c166
      refine sf_bnd (s_X3_refuseLong hF hI (by decide) (by decide)) (fun r167 u168 p169 => ?_)
      obtain ⟨Iu168, Fu168_, O83_u168_, O0_u168_, -⟩ := p169
      have Fu168 : ∀ k, 101 ≤ k → u168 k = τ k := fun k hk => (Fu168_ k hk).trans (Fτ k hk)
      have O83_u168 : u168 83 1 = τ 83 1 := O83_u168_.trans O83_τ
      have O0_u168 : u168 0 7 = τ 0 7 := O0_u168_.trans O0_τ
      exact sf_ret ⟨Iu168, Fu168, O83_u168, O0_u168, trivial⟩
    have C164 : (0 : Int) ≤ x5.toInt := ti_nlt c164
    refine sf_ite (fun c170 => ?_) (fun c170 => ?_)
    · have C170 : (2 : Int) ≤ x5.toInt := ti_le c170
      rw [j_X3_notBelow_13_e]
      refine sf_ret ?_
      refine sf_in ?_
      rw [f_X3_firstOf_e]
      refine sf_ite (fun c171 => ?_) (fun c171 => ?_)
      · have C171 : (-1 : Int) = (0 : Int) := ti_eq c171
        exfalso; omega
      have C171 : ¬ (-1 : Int) = (0 : Int) := ti_ne c171
      refine sf_ret ?_
      refine sf_ite (fun c172 => ?_) (fun c172 => ?_)
      · have C172 : (-1 : Int) = (0 : Int) := ti_eq c172
        exfalso; omega
      have C172 : ¬ (-1 : Int) = (0 : Int) := ti_ne c172
      refine sf_bnd (s_X3_refuseLong hF hI (by decide) (by decide)) (fun r173 u174 p175 => ?_)
      obtain ⟨Iu174, Fu174_, O83_u174_, O0_u174_, -⟩ := p175
      have Fu174 : ∀ k, 101 ≤ k → u174 k = τ k := fun k hk => (Fu174_ k hk).trans (Fτ k hk)
      have O83_u174 : u174 83 1 = τ 83 1 := O83_u174_.trans O83_τ
      have O0_u174 : u174 0 7 = τ 0 7 := O0_u174_.trans O0_τ
      exact sf_ret ⟨Iu174, Fu174, O83_u174, O0_u174, trivial⟩
    have C170 : x5.toInt < (2 : Int) := ti_nle c170
    refine sf_ret ?_
    refine sf_in ?_
    rw [f_X3_firstOf_e]
    refine sf_ite (fun c176 => ?_) (fun c176 => ?_)
    · have C176 : (-1 : Int) = (0 : Int) := ti_eq c176
      exfalso; omega
    have C176 : ¬ (-1 : Int) = (0 : Int) := ti_ne c176
    refine sf_ret ?_
    refine sf_ite (fun c177 => ?_) (fun c177 => ?_)
    · have C177 : (-1 : Int) = (0 : Int) := ti_eq c177
      exfalso; omega
    have C177 : ¬ (-1 : Int) = (0 : Int) := ti_ne c177
    refine sf_bnd (s_X3_refuseLong hF hI (by decide) (by decide)) (fun r178 u179 p180 => ?_)
    obtain ⟨Iu179, Fu179_, O83_u179_, O0_u179_, -⟩ := p180
    have Fu179 : ∀ k, 101 ≤ k → u179 k = τ k := fun k hk => (Fu179_ k hk).trans (Fτ k hk)
    have O83_u179 : u179 83 1 = τ 83 1 := O83_u179_.trans O83_τ
    have O0_u179 : u179 0 7 = τ 0 7 := O0_u179_.trans O0_τ
    exact sf_ret ⟨Iu179, Fu179, O83_u179, O0_u179, trivial⟩
  obtain ⟨rfl, q181⟩ := p156
  refine sf_in ?_
  rw [f_X3_firstOf_e]
  refine sf_ite (fun c182 => ?_) (fun c182 => ?_)
  · have C182 : (-1 : Int) = (0 : Int) := ti_eq c182
    exfalso; omega
  have C182 : ¬ (-1 : Int) = (0 : Int) := ti_ne c182
  refine sf_ret ?_
  refine sf_ite (fun c183 => ?_) (fun c183 => ?_)
  · have C183 : (-1 : Int) = (0 : Int) := ti_eq c183
    exfalso; omega
  have C183 : ¬ (-1 : Int) = (0 : Int) := ti_ne c183
  rw [j_X3_ill_33_e]
  refine sf_ite (fun c184 => ?_) (fun c184 => ?_)
  · have C184 : (-1 : Int) = (0 : Int) := ti_eq c184
    exfalso; omega
  have C184 : ¬ (-1 : Int) = (0 : Int) := ti_ne c184
  rw [j_X3_ill_55_e]
  refine sf_in ?_
  rw [f_X3_notBelow_e]
  have b185 := ti_lo x5
  have b186 := ti_hi x5
  refine sf_ite (fun c187 => ?_) (fun c187 => ?_)
  · have C187 : x5.toInt < (0 : Int) := ti_lt c187
    rw [j_X3_notBelow_13_e]
    refine sf_ret ?_
    refine sf_in ?_
    rw [f_X3_firstOf_e]
    refine sf_ite (fun c188 => ?_) (fun c188 => ?_)
    · have C188 : (-1 : Int) = (0 : Int) := ti_eq c188
      exfalso; omega
    have C188 : ¬ (-1 : Int) = (0 : Int) := ti_ne c188
    refine sf_ret ?_
    refine sf_ite (fun c189 => ?_) (fun c189 => ?_)
    · have C189 : (-1 : Int) = (0 : Int) := ti_eq c189
      exfalso; omega
    have C189 : ¬ (-1 : Int) = (0 : Int) := ti_ne c189
    refine sf_bnd (s_X3_refuseLong hF hI (by decide) (by decide)) (fun r190 u191 p192 => ?_)
    obtain ⟨Iu191, Fu191_, O83_u191_, O0_u191_, -⟩ := p192
    have Fu191 : ∀ k, 101 ≤ k → u191 k = τ k := fun k hk => (Fu191_ k hk).trans (Fτ k hk)
    have O83_u191 : u191 83 1 = τ 83 1 := O83_u191_.trans O83_τ
    have O0_u191 : u191 0 7 = τ 0 7 := O0_u191_.trans O0_τ
    exact sf_ret ⟨Iu191, Fu191, O83_u191, O0_u191, trivial⟩
  have C187 : (0 : Int) ≤ x5.toInt := ti_nlt c187
  refine sf_ite (fun c193 => ?_) (fun c193 => ?_)
  · have C193 : (2 : Int) ≤ x5.toInt := ti_le c193
    rw [j_X3_notBelow_13_e]
    refine sf_ret ?_
    refine sf_in ?_
    rw [f_X3_firstOf_e]
    refine sf_ite (fun c194 => ?_) (fun c194 => ?_)
    · have C194 : (-1 : Int) = (0 : Int) := ti_eq c194
      exfalso; omega
    have C194 : ¬ (-1 : Int) = (0 : Int) := ti_ne c194
    refine sf_ret ?_
    refine sf_ite (fun c195 => ?_) (fun c195 => ?_)
    · have C195 : (-1 : Int) = (0 : Int) := ti_eq c195
      exfalso; omega
    have C195 : ¬ (-1 : Int) = (0 : Int) := ti_ne c195
    refine sf_bnd (s_X3_refuseLong hF hI (by decide) (by decide)) (fun r196 u197 p198 => ?_)
    obtain ⟨Iu197, Fu197_, O83_u197_, O0_u197_, -⟩ := p198
    have Fu197 : ∀ k, 101 ≤ k → u197 k = τ k := fun k hk => (Fu197_ k hk).trans (Fτ k hk)
    have O83_u197 : u197 83 1 = τ 83 1 := O83_u197_.trans O83_τ
    have O0_u197 : u197 0 7 = τ 0 7 := O0_u197_.trans O0_τ
    exact sf_ret ⟨Iu197, Fu197, O83_u197, O0_u197, trivial⟩
  have C193 : x5.toInt < (2 : Int) := ti_nle c193
  refine sf_ret ?_
  refine sf_in ?_
  rw [f_X3_firstOf_e]
  refine sf_ite (fun c199 => ?_) (fun c199 => ?_)
  · have C199 : (-1 : Int) = (0 : Int) := ti_eq c199
    exfalso; omega
  have C199 : ¬ (-1 : Int) = (0 : Int) := ti_ne c199
  refine sf_ret ?_
  refine sf_ite (fun c200 => ?_) (fun c200 => ?_)
  · have C200 : (-1 : Int) = (0 : Int) := ti_eq c200
    exfalso; omega
  have C200 : ¬ (-1 : Int) = (0 : Int) := ti_ne c200
  refine sf_bnd (s_X3_refuseLong hF hI (by decide) (by decide)) (fun r201 u202 p203 => ?_)
  obtain ⟨Iu202, Fu202_, O83_u202_, O0_u202_, -⟩ := p203
  have Fu202 : ∀ k, 101 ≤ k → u202 k = τ k := fun k hk => (Fu202_ k hk).trans (Fτ k hk)
  have O83_u202 : u202 83 1 = τ 83 1 := O83_u202_.trans O83_τ
  have O0_u202 : u202 0 7 = τ 0 7 := O0_u202_.trans O0_τ
  exact sf_ret ⟨Iu202, Fu202, O83_u202, O0_u202, trivial⟩
set_option maxHeartbeats 4000000 in
set_option maxRecDepth 100000 in
theorem sl_X3_busy_24 {F : Nat} (hF : 100000 ≤ F) {x1 : Int32} {τ : Mem} (x1_1 : 0 ≤ x1.toInt) (x1_2 : x1.toInt ≤ 1) : ∀ (N : Nat) (x3 : Int32) (x4 : Int32) (x5 : Int32) (σ : Mem), wiX σ → (∀ k, 101 ≤ k → σ k = τ k) → σ 83 1 = τ 83 1 → σ 0 7 = τ 0 7 → 24 < x5.toInt + N → 0 ≤ x3.toInt → x3.toInt ≤ 23 → 0 ≤ x4.toInt → x4.toInt ≤ 2147483647 → 0 ≤ x5.toInt → x5.toInt ≤ 24 → sf (lp_X3_busy_24 F x1 N x3 x4 x5 σ) (fun r s => wiX s ∧ (∀ k, 101 ≤ k → s k = τ k) ∧ s 83 1 = τ 83 1 ∧ s 0 7 = τ 0 7 ∧ -2147483648 ≤ r.toInt ∧ r.toInt ≤ 2147483647) := by
  intro N
  induction N with
  | zero => intro x3 x4 x5 σ hI Fσ O83_σ O0_σ hN x3_1 x3_2 x4_1 x4_2 x5_1 x5_2; exfalso; omega
  | succ N ih =>
    intro x3 x4 x5 σ hI Fσ O83_σ O0_σ hN x3_1 x3_2 x4_1 x4_2 x5_1 x5_2
    rw [lp_X3_busy_24_s]
    refine sf_ite (fun c1 => ?_) (fun c1 => ?_)
    · have C1 : (24 : Int) ≤ x5.toInt := ti_le c1
      refine sf_ite (fun c2 => ?_) (fun c2 => ?_)
      · have C2 : x1.toInt = (0 : Int) := ti_eq c2
        exact sf_ret ⟨hI, Fσ, O83_σ, O0_σ, ti_lo _, ti_hi _⟩
      have C2 : ¬ x1.toInt = (0 : Int) := ti_ne c2
      have b3 := ti_lo x4
      have b4 := ti_hi x4
      exact sf_ret ⟨hI, Fσ, O83_σ, O0_σ, ti_lo _, ti_hi _⟩
    have C1 : x5.toInt < (24 : Int) := ti_nle c1
    refine sf_bnd (s_X0_standingIn hF wt_h1 hI (by omega) (by omega)) (fun r5 u6 p7 => ?_)
    obtain ⟨e9, p7_1, p7_2⟩ := p7
    have e9 := e9.symm
    subst e9
    have b8 := ti_lo r5
    have b9 := ti_hi r5
    have b10 := ti_lo x4
    have b11 := ti_hi x4
    refine sf_ite (fun c12 => ?_) (fun c12 => ?_)
    · have C12 : r5.toInt ≤ x4.toInt := ti_le c12
      rw [j_X3_busy_56_e]
      have t13 : (x5 + (1 : Int32)).toInt = x5.toInt + (1 : Int) := ti_add (show -2147483648 ≤ x5.toInt + (1 : Int) by omega) (show x5.toInt + (1 : Int) ≤ 2147483647 by omega)
      exact ih _ _ _ _ hI Fσ O83_σ O0_σ (by omega) (by omega) (by omega) (by omega) (by omega) (by omega) (by omega)
    have C12 : x4.toInt < r5.toInt := ti_nle c12
    rw [j_X3_busy_56_e]
    have t14 : (x5 + (1 : Int32)).toInt = x5.toInt + (1 : Int) := ti_add (show -2147483648 ≤ x5.toInt + (1 : Int) by omega) (show x5.toInt + (1 : Int) ≤ 2147483647 by omega)
    exact ih _ _ _ _ hI Fσ O83_σ O0_σ (by omega) (by omega) (by omega) (by omega) (by omega) (by omega) (by omega)
set_option maxHeartbeats 4000000 in
set_option maxRecDepth 100000 in
theorem s_X3_busy {F : Nat} (hF : 100000 ≤ F) {x1 : Int32} {τ : Mem} (hI : wiX τ) : sf (f_X3_busy F x1 τ) (fun r s => wiX s ∧ (∀ k, 101 ≤ k → s k = τ k) ∧ s 83 1 = τ 83 1 ∧ s 0 7 = τ 0 7 ∧ -2147483648 ≤ r.toInt ∧ r.toInt ≤ 2147483647) := by
  have Fτ : ∀ k, 101 ≤ k → τ k = τ k := fun _ _ => rfl
  have O83_τ : τ 83 1 = τ 83 1 := rfl
  have O0_τ : τ 0 7 = τ 0 7 := rfl
  rw [f_X3_busy_e]
  refine sf_in ?_
  rw [f_X3_notBelow_e]
  have b1 := ti_lo x1
  have b2 := ti_hi x1
  refine sf_ite (fun c3 => ?_) (fun c3 => ?_)
  · have C3 : x1.toInt < (0 : Int) := ti_lt c3
    rw [j_X3_notBelow_13_e]
    refine sf_ret ?_
    refine sf_ite (fun c4 => ?_) (fun c4 => ?_)
    · have C4 : (-2 : Int) = (0 : Int) := ti_eq c4
      exfalso; omega
    have C4 : ¬ (-2 : Int) = (0 : Int) := ti_ne c4
    refine sf_bnd (s_X3_refuse hF hI (by decide) (by decide)) (fun r5 u6 p7 => ?_)
    obtain ⟨Iu6, Fu6_, O83_u6_, O0_u6_, p7_1, p7_2, p7_x0⟩ := p7
    have Fu6 : ∀ k, 101 ≤ k → u6 k = τ k := fun k hk => (Fu6_ k hk).trans (Fτ k hk)
    have O83_u6 : u6 83 1 = τ 83 1 := O83_u6_.trans O83_τ
    have O0_u6 : u6 0 7 = τ 0 7 := O0_u6_.trans O0_τ
    replace p7_x0 : r5.toInt = (-2 : Int) := p7_x0
    exact sf_ret ⟨Iu6, Fu6, O83_u6, O0_u6, ti_lo _, ti_hi _⟩
  have C3 : (0 : Int) ≤ x1.toInt := ti_nlt c3
  refine sf_ite (fun c8 => ?_) (fun c8 => ?_)
  · have C8 : (2 : Int) ≤ x1.toInt := ti_le c8
    rw [j_X3_notBelow_13_e]
    refine sf_ret ?_
    refine sf_ite (fun c9 => ?_) (fun c9 => ?_)
    · have C9 : (-2 : Int) = (0 : Int) := ti_eq c9
      exfalso; omega
    have C9 : ¬ (-2 : Int) = (0 : Int) := ti_ne c9
    refine sf_bnd (s_X3_refuse hF hI (by decide) (by decide)) (fun r10 u11 p12 => ?_)
    obtain ⟨Iu11, Fu11_, O83_u11_, O0_u11_, p12_1, p12_2, p12_x0⟩ := p12
    have Fu11 : ∀ k, 101 ≤ k → u11 k = τ k := fun k hk => (Fu11_ k hk).trans (Fτ k hk)
    have O83_u11 : u11 83 1 = τ 83 1 := O83_u11_.trans O83_τ
    have O0_u11 : u11 0 7 = τ 0 7 := O0_u11_.trans O0_τ
    replace p12_x0 : r10.toInt = (-2 : Int) := p12_x0
    exact sf_ret ⟨Iu11, Fu11, O83_u11, O0_u11, ti_lo _, ti_hi _⟩
  have C8 : x1.toInt < (2 : Int) := ti_nle c8
  refine sf_ret ?_
  refine sf_ite (fun c13 => ?_) (fun c13 => ?_)
  · have C13 : (0 : Int) = (0 : Int) := ti_eq c13
    have l_0 : (0 : Int32).toInt = 0 := rfl
    exact sl_X3_busy_24 hF (by omega) (by omega) _ _ _ _ _ hI Fτ O83_τ O0_τ (by omega) (by decide) (by decide) (by decide) (by decide) (by decide) (by decide)
  have C13 : ¬ (0 : Int) = (0 : Int) := ti_ne c13
  exfalso; omega
set_option maxHeartbeats 4000000 in
set_option maxRecDepth 100000 in
theorem sl_X3_together_23 {F : Nat} (hF : 100000 ≤ F) {x1 : Int32} {x2 : Int32} {τ : Mem} (x1_1 : 0 ≤ x1.toInt) (x1_2 : x1.toInt ≤ 4) (x2_1 : 0 ≤ x2.toInt) (x2_2 : x2.toInt ≤ 4) : ∀ (N : Nat) (x4 : Int32) (x5 : Int32) (σ : Mem), wiX σ → (∀ k, 101 ≤ k → σ k = τ k) → σ 83 1 = τ 83 1 → σ 0 7 = τ 0 7 → 24 < x5.toInt + N → 0 ≤ x5.toInt → x5.toInt ≤ 24 → sf (lp_X3_together_23 F x1 x2 N x4 x5 σ) (fun r s => wiX s ∧ (∀ k, 101 ≤ k → s k = τ k) ∧ s 83 1 = τ 83 1 ∧ s 0 7 = τ 0 7 ∧ -2147483648 ≤ r.toInt ∧ r.toInt ≤ 2147483647) := by
  intro N
  induction N with
  | zero => intro x4 x5 σ hI Fσ O83_σ O0_σ hN x5_1 x5_2; exfalso; omega
  | succ N ih =>
    intro x4 x5 σ hI Fσ O83_σ O0_σ hN x5_1 x5_2
    rw [lp_X3_together_23_s]
    refine sf_ite (fun c1 => ?_) (fun c1 => ?_)
    · have C1 : (24 : Int) ≤ x5.toInt := ti_le c1
      have b2 := ti_lo x4
      have b3 := ti_hi x4
      exact sf_ret ⟨hI, Fσ, O83_σ, O0_σ, ti_lo _, ti_hi _⟩
    have C1 : x5.toInt < (24 : Int) := ti_nle c1
    refine sf_chk (ti_in (by omega) (by omega)) ?_
    have v4 : Int32.toNatClampNeg x1 = x1.toInt.toNat := rfl
    refine sf_chk (ti_in (by omega) (by omega)) ?_
    have v5 : Int32.toNatClampNeg x5 = x5.toInt.toNat := rfl
    have b7 := ti_lo (σ ((1 + 5) + (Int32.toNatClampNeg x1)) (Int32.toNatClampNeg x5))
    have b8 := ti_hi (σ ((1 + 5) + (Int32.toNatClampNeg x1)) (Int32.toNatClampNeg x5))
    refine sf_lt (fun z6 hz6 => ?_)
    have hz6_ : z6.toInt = (σ ((1 + 5) + (Int32.toNatClampNeg x1)) (Int32.toNatClampNeg x5)).toInt := (show z6.toInt = (σ ((1 + 5) + (Int32.toNatClampNeg x1)) (Int32.toNatClampNeg x5)).toInt from congrArg Int32.toInt hz6)
    have b9 := ti_lo z6
    have b10 := ti_hi z6
    refine sf_ite (fun c11 => ?_) (fun c11 => ?_)
    · have C11 : z6.toInt = (9 : Int) := ti_eq c11
      rw [j_X3_together_77_e]
      have b12 := ti_lo x4
      have b13 := ti_hi x4
      have t14 : (x5 + (1 : Int32)).toInt = x5.toInt + (1 : Int) := ti_add (show -2147483648 ≤ x5.toInt + (1 : Int) by omega) (show x5.toInt + (1 : Int) ≤ 2147483647 by omega)
      exact ih _ _ _ hI Fσ O83_σ O0_σ (by omega) (by omega) (by omega)
    have C11 : ¬ z6.toInt = (9 : Int) := ti_ne c11
    refine sf_chk (ti_in (by omega) (by omega)) ?_
    have v15 : Int32.toNatClampNeg x2 = x2.toInt.toNat := rfl
    have b16 := ti_lo (σ ((1 + 5) + (Int32.toNatClampNeg x2)) (Int32.toNatClampNeg x5))
    have b17 := ti_hi (σ ((1 + 5) + (Int32.toNatClampNeg x2)) (Int32.toNatClampNeg x5))
    refine sf_ite (fun c18 => ?_) (fun c18 => ?_)
    · have C18 : (σ ((1 + 5) + (Int32.toNatClampNeg x2)) (Int32.toNatClampNeg x5)).toInt = z6.toInt := ti_eq c18
      have b20 := ti_lo (x4 ||| ((1 : Int32) <<< (x5 &&& 31)))
      have b21 := ti_hi (x4 ||| ((1 : Int32) <<< (x5 &&& 31)))
      refine sf_lt (fun z19 hz19 => ?_)
      have hz19_ : z19.toInt = (x4 ||| ((1 : Int32) <<< (x5 &&& 31))).toInt := (show z19.toInt = (x4 ||| ((1 : Int32) <<< (x5 &&& 31))).toInt from congrArg Int32.toInt hz19)
      rw [j_X3_together_77_e]
      have b22 := ti_lo z19
      have b23 := ti_hi z19
      have t24 : (x5 + (1 : Int32)).toInt = x5.toInt + (1 : Int) := ti_add (show -2147483648 ≤ x5.toInt + (1 : Int) by omega) (show x5.toInt + (1 : Int) ≤ 2147483647 by omega)
      exact ih _ _ _ hI Fσ O83_σ O0_σ (by omega) (by omega) (by omega)
    have C18 : ¬ (σ ((1 + 5) + (Int32.toNatClampNeg x2)) (Int32.toNatClampNeg x5)).toInt = z6.toInt := ti_ne c18
    rw [j_X3_together_77_e]
    have b25 := ti_lo x4
    have b26 := ti_hi x4
    have t27 : (x5 + (1 : Int32)).toInt = x5.toInt + (1 : Int) := ti_add (show -2147483648 ≤ x5.toInt + (1 : Int) by omega) (show x5.toInt + (1 : Int) ≤ 2147483647 by omega)
    exact ih _ _ _ hI Fσ O83_σ O0_σ (by omega) (by omega) (by omega)
set_option maxHeartbeats 4000000 in
set_option maxRecDepth 100000 in
theorem s_X3_together {F : Nat} (hF : 100000 ≤ F) {x1 : Int32} {x2 : Int32} {τ : Mem} (hI : wiX τ) : sf (f_X3_together F x1 x2 τ) (fun r s => wiX s ∧ (∀ k, 101 ≤ k → s k = τ k) ∧ s 83 1 = τ 83 1 ∧ s 0 7 = τ 0 7 ∧ -2147483648 ≤ r.toInt ∧ r.toInt ≤ 2147483647) := by
  have Fτ : ∀ k, 101 ≤ k → τ k = τ k := fun _ _ => rfl
  have O83_τ : τ 83 1 = τ 83 1 := rfl
  have O0_τ : τ 0 7 = τ 0 7 := rfl
  rw [f_X3_together_e]
  have b1 := ti_lo x1
  have b2 := ti_hi x1
  have b3 := ti_lo x2
  have b4 := ti_hi x2
  refine sf_bnd (s_X3_noPair hF hI) (fun r5 u6 p7 => ?_)
  obtain ⟨e9, p7⟩ := p7
  have e9 := e9.symm
  subst e9
  rcases p7 with ⟨rfl, q8, q9, q10, q11⟩ | p7
  · refine sf_ite (fun c12 => ?_) (fun c12 => ?_)
    · have C12 : (0 : Int) = (0 : Int) := ti_eq c12
      have l_0 : (0 : Int32).toInt = 0 := rfl
      exact sl_X3_together_23 hF (by omega) (by omega) (by omega) (by omega) _ _ _ _ hI Fτ O83_τ O0_τ (by omega) (by decide) (by decide)
    have C12 : ¬ (0 : Int) = (0 : Int) := ti_ne c12
    exfalso; omega
  obtain rfl := p7
  refine sf_ite (fun c13 => ?_) (fun c13 => ?_)
  · have C13 : (-1 : Int) = (0 : Int) := ti_eq c13
    exfalso; omega
  have C13 : ¬ (-1 : Int) = (0 : Int) := ti_ne c13
  refine sf_bnd (s_X3_refuse hF hI (by decide) (by decide)) (fun r14 u15 p16 => ?_)
  obtain ⟨Iu15, Fu15_, O83_u15_, O0_u15_, p16_1, p16_2, p16_x0⟩ := p16
  have Fu15 : ∀ k, 101 ≤ k → u15 k = τ k := fun k hk => (Fu15_ k hk).trans (Fτ k hk)
  have O83_u15 : u15 83 1 = τ 83 1 := O83_u15_.trans O83_τ
  have O0_u15 : u15 0 7 = τ 0 7 := O0_u15_.trans O0_τ
  replace p16_x0 : r14.toInt = (-1 : Int) := p16_x0
  exact sf_ret ⟨Iu15, Fu15, O83_u15, O0_u15, ti_lo _, ti_hi _⟩
set_option maxHeartbeats 4000000 in
set_option maxRecDepth 100000 in
theorem s_X3_wealthSwapped {F : Nat} (hF : 100000 ≤ F) {x1 : Int32} {x2 : Int32} {x3 : Int32} {τ : Mem} (hI : wiX τ) (x1_1 : 0 ≤ x1.toInt) (x1_2 : x1.toInt ≤ 4) (x2_1 : 1 ≤ x2.toInt) (x2_2 : x2.toInt ≤ 4) (x3_1 : 0 ≤ x3.toInt) (x3_2 : x3.toInt ≤ 999) : sf (f_X3_wealthSwapped F x1 x2 x3 τ) (fun r s => wiX s ∧ (∀ k, 101 ≤ k → s k = τ k) ∧ s 83 1 = τ 83 1 ∧ s 0 7 = τ 0 7 ∧ -2147483648 ≤ r.toInt ∧ r.toInt ≤ 2147483647) := by
  have Fτ : ∀ k, 101 ≤ k → τ k = τ k := fun _ _ => rfl
  have O83_τ : τ 83 1 = τ 83 1 := rfl
  have O0_τ : τ 0 7 = τ 0 7 := rfl
  rw [f_X3_wealthSwapped_e]
  refine sf_bnd (s_X0_tradeRosters hF wt_h24 hI (by omega) (by omega) (by omega) (by omega)) (fun r1 u2 p3 => ?_)
  obtain ⟨Iu2, Fu2_, O83_u2_, O0_u2_, -⟩ := p3
  have Fu2 : ∀ k, 101 ≤ k → u2 k = τ k := fun k hk => (Fu2_ k hk).trans (Fτ k hk)
  have O83_u2 : u2 83 1 = τ 83 1 := O83_u2_.trans O83_τ
  have O0_u2 : u2 0 7 = τ 0 7 := O0_u2_.trans O0_τ
  refine sf_bnd (s_X0_reckon hF wt_h24 Iu2) (fun r4 u5 p6 => ?_)
  obtain ⟨Iu5, Fu5_, O83_u5_, O0_u5_, -⟩ := p6
  have Fu5 : ∀ k, 101 ≤ k → u5 k = τ k := fun k hk => (Fu5_ k hk).trans (Fu2 k hk)
  have O83_u5 : u5 83 1 = τ 83 1 := O83_u5_.trans O83_u2
  have O0_u5 : u5 0 7 = τ 0 7 := O0_u5_.trans O0_u2
  refine sf_bnd (s_X0_wealth hF wt_h24 Iu5 (by omega) (by omega)) (fun r7 u8 p9 => ?_)
  obtain ⟨e9, p9_1, p9_2⟩ := p9
  have e9 := e9.symm
  subst e9
  refine sf_bnd (s_X0_wealth hF wt_h24 Iu5 (by omega) (by omega)) (fun r10 u11 p12 => ?_)
  obtain ⟨e9, p12_1, p12_2⟩ := p12
  have e9 := e9.symm
  subst e9
  refine sf_bnd (s_X0_tradeRosters hF wt_h24 Iu5 (by omega) (by omega) (by omega) (by omega)) (fun r13 u14 p15 => ?_)
  obtain ⟨Iu14, Fu14_, O83_u14_, O0_u14_, -⟩ := p15
  have Fu14 : ∀ k, 101 ≤ k → u14 k = τ k := fun k hk => (Fu14_ k hk).trans (Fu5 k hk)
  have O83_u14 : u14 83 1 = τ 83 1 := O83_u14_.trans O83_u5
  have O0_u14 : u14 0 7 = τ 0 7 := O0_u14_.trans O0_u5
  have b16 := ti_lo r7
  have b17 := ti_hi r7
  have b18 := ti_lo r10
  have b19 := ti_hi r10
  have b20 := ti_lo (r7 + r10)
  have b21 := ti_hi (r7 + r10)
  exact sf_ret ⟨Iu14, Fu14, O83_u14, O0_u14, ti_lo _, ti_hi _⟩
set_option maxHeartbeats 4000000 in
set_option maxRecDepth 100000 in
theorem sl_X3_swap_64 {F : Nat} (hF : 100000 ≤ F) {x1 : Int32} {x5 : Int32} {k46 : Int32 → Int32 → Int32 → Mem → Option (Int32 × Mem)} {τ : Mem} (x1_1 : 0 ≤ x1.toInt) (x1_2 : x1.toInt ≤ 999) (x5_1 : 0 ≤ x5.toInt) (x5_2 : x5.toInt ≤ 4) {N46 : Nat} (hM46 : 5 < x5.toInt + (N46 + 1)) (hk46 : ∀ (x3 : Int32) (x4 : Int32) (x5 : Int32) (σ : Mem), wiX σ → (∀ k, 101 ≤ k → σ k = τ k) → σ 83 1 = τ 83 1 → σ 0 7 = τ 0 7 → 5 < x5.toInt + N46 → -9 ≤ x3.toInt → x3.toInt ≤ 48 → -1 ≤ x4.toInt → x4.toInt ≤ 2147483647 → 0 ≤ x5.toInt → x5.toInt ≤ 5 → sf (k46 x3 x4 x5 σ) (fun r s => wiX s ∧ (∀ k, 101 ≤ k → s k = τ k) ∧ s 83 1 = τ 83 1 ∧ s 0 7 = τ 0 7 ∧ -2147483648 ≤ r.toInt ∧ r.toInt ≤ 2147483647)) : ∀ (N : Nat) (x3 : Int32) (x4 : Int32) (x6 : Int32) (σ : Mem), wiX σ → (∀ k, 101 ≤ k → σ k = τ k) → σ 83 1 = τ 83 1 → σ 0 7 = τ 0 7 → 5 < x6.toInt + N → -9 ≤ x3.toInt → x3.toInt ≤ 48 → -1 ≤ x4.toInt → x4.toInt ≤ 2147483647 → 1 ≤ x6.toInt → x6.toInt ≤ 5 → sf (lp_X3_swap_64 F k46 x1 x5 N x3 x4 x6 σ) (fun r s => wiX s ∧ (∀ k, 101 ≤ k → s k = τ k) ∧ s 83 1 = τ 83 1 ∧ s 0 7 = τ 0 7 ∧ -2147483648 ≤ r.toInt ∧ r.toInt ≤ 2147483647) := by
  intro N
  induction N with
  | zero => intro x3 x4 x6 σ hI Fσ O83_σ O0_σ hN x3_1 x3_2 x4_1 x4_2 x6_1 x6_2; exfalso; omega
  | succ N ih =>
    intro x3 x4 x6 σ hI Fσ O83_σ O0_σ hN x3_1 x3_2 x4_1 x4_2 x6_1 x6_2
    rw [lp_X3_swap_64_s]
    have m1 := wx_X0_2 hI wt_h1
    refine sf_ite (fun c2 => ?_) (fun c2 => ?_)
    · have C2 : (σ 1 2).toInt ≤ x6.toInt := ti_le c2
      have b3 := ti_lo x4
      have b4 := ti_hi x4
      have t5 : (x5 + (1 : Int32)).toInt = x5.toInt + (1 : Int) := ti_add (show -2147483648 ≤ x5.toInt + (1 : Int) by omega) (show x5.toInt + (1 : Int) ≤ 2147483647 by omega)
      exact hk46 _ _ _ _ hI Fσ O83_σ O0_σ (by omega) (by omega) (by omega) (by omega) (by omega) (by omega) (by omega)
    have C2 : x6.toInt < (σ 1 2).toInt := ti_nle c2
    refine sf_bnd (s_X3_wealthSwapped hF hI (by omega) (by omega) (by omega) (by omega) (by omega) (by omega)) (fun r6 u7 p8 => ?_)
    obtain ⟨Iu7, Fu7_, O83_u7_, O0_u7_, p8_1, p8_2⟩ := p8
    have Fu7 : ∀ k, 101 ≤ k → u7 k = τ k := fun k hk => (Fu7_ k hk).trans (Fσ k hk)
    have O83_u7 : u7 83 1 = τ 83 1 := O83_u7_.trans O83_σ
    have O0_u7 : u7 0 7 = τ 0 7 := O0_u7_.trans O0_σ
    refine sf_bnd (s_X0_wealth hF wt_h1 Iu7 (by omega) (by omega)) (fun r9 u10 p11 => ?_)
    obtain ⟨e9, p11_1, p11_2⟩ := p11
    have e9 := e9.symm
    subst e9
    refine sf_bnd (s_X0_wealth hF wt_h1 Iu7 (by omega) (by omega)) (fun r12 u13 p14 => ?_)
    obtain ⟨e9, p14_1, p14_2⟩ := p14
    have e9 := e9.symm
    subst e9
    have b15 := ti_lo r6
    have b16 := ti_hi r6
    have b17 := ti_lo r9
    have b18 := ti_hi r9
    have b19 := ti_lo r12
    have b20 := ti_hi r12
    have b21 := ti_lo (r9 + r12)
    have b22 := ti_hi (r9 + r12)
    refine sf_ite (fun c23 => ?_) (fun c23 => ?_)
    · have C23 : r6.toInt ≤ (r9 + r12).toInt := ti_le c23
      rw [j_X3_swap_137_e]
      have b24 := ti_lo x4
      have b25 := ti_hi x4
      have t26 : (x6 + (1 : Int32)).toInt = x6.toInt + (1 : Int) := ti_add (show -2147483648 ≤ x6.toInt + (1 : Int) by omega) (show x6.toInt + (1 : Int) ≤ 2147483647 by omega)
      exact ih _ _ _ _ Iu7 Fu7 O83_u7 O0_u7 (by omega) (by omega) (by omega) (by omega) (by omega) (by omega) (by omega)
    have C23 : (r9 + r12).toInt < r6.toInt := ti_nle c23
    have b27 := ti_lo x4
    have b28 := ti_hi x4
    refine sf_ite (fun c29 => ?_) (fun c29 => ?_)
    · have C29 : r6.toInt ≤ x4.toInt := ti_le c29
      rw [j_X3_swap_137_e]
      have t30 : (x6 + (1 : Int32)).toInt = x6.toInt + (1 : Int) := ti_add (show -2147483648 ≤ x6.toInt + (1 : Int) by omega) (show x6.toInt + (1 : Int) ≤ 2147483647 by omega)
      exact ih _ _ _ _ Iu7 Fu7 O83_u7 O0_u7 (by omega) (by omega) (by omega) (by omega) (by omega) (by omega) (by omega)
    have C29 : x4.toInt < r6.toInt := ti_nle c29
    have t32 : ((10 : Int32) * x5).toInt = (10 : Int) * x5.toInt := ti_mul (show -2147483648 ≤ (10 : Int) * x5.toInt by omega) (show (10 : Int) * x5.toInt ≤ 2147483647 by omega)
    have t33 : (((10 : Int32) * x5) + x6).toInt = ((10 : Int32) * x5).toInt + x6.toInt := ti_add (show -2147483648 ≤ ((10 : Int32) * x5).toInt + x6.toInt by omega) (show ((10 : Int32) * x5).toInt + x6.toInt ≤ 2147483647 by omega)
    refine sf_lt (fun z31 hz31 => ?_)
    have hz31_ : z31.toInt = (((10 : Int32) * x5) + x6).toInt := (show z31.toInt = (((10 : Int32) * x5) + x6).toInt from congrArg Int32.toInt hz31)
    rw [j_X3_swap_137_e]
    have t34 : (x6 + (1 : Int32)).toInt = x6.toInt + (1 : Int) := ti_add (show -2147483648 ≤ x6.toInt + (1 : Int) by omega) (show x6.toInt + (1 : Int) ≤ 2147483647 by omega)
    exact ih _ _ _ _ Iu7 Fu7 O83_u7 O0_u7 (by omega) (by omega) (by omega) (by omega) (by omega) (by omega) (by omega)
set_option maxHeartbeats 4000000 in
set_option maxRecDepth 100000 in
theorem sl_X3_swap_46 {F : Nat} (hF : 100000 ≤ F) {x1 : Int32} {τ : Mem} (x1_1 : 0 ≤ x1.toInt) (x1_2 : x1.toInt ≤ 999) : ∀ (N : Nat) (x3 : Int32) (x4 : Int32) (x5 : Int32) (σ : Mem), wiX σ → (∀ k, 101 ≤ k → σ k = τ k) → σ 83 1 = τ 83 1 → σ 0 7 = τ 0 7 → 5 < x5.toInt + N → -9 ≤ x3.toInt → x3.toInt ≤ 48 → -1 ≤ x4.toInt → x4.toInt ≤ 2147483647 → 0 ≤ x5.toInt → x5.toInt ≤ 5 → sf (lp_X3_swap_46 F x1 N x3 x4 x5 σ) (fun r s => wiX s ∧ (∀ k, 101 ≤ k → s k = τ k) ∧ s 83 1 = τ 83 1 ∧ s 0 7 = τ 0 7 ∧ -2147483648 ≤ r.toInt ∧ r.toInt ≤ 2147483647) := by
  intro N
  induction N with
  | zero => intro x3 x4 x5 σ hI Fσ O83_σ O0_σ hN x3_1 x3_2 x4_1 x4_2 x5_1 x5_2; exfalso; omega
  | succ N ih =>
    intro x3 x4 x5 σ hI Fσ O83_σ O0_σ hN x3_1 x3_2 x4_1 x4_2 x5_1 x5_2
    rw [lp_X3_swap_46_s]
    have m1 := wx_X0_2 hI wt_h1
    refine sf_ite (fun c2 => ?_) (fun c2 => ?_)
    · have C2 : (σ 1 2).toInt ≤ x5.toInt := ti_le c2
      exact sf_ret ⟨hI, Fσ, O83_σ, O0_σ, ti_lo _, ti_hi _⟩
    have C2 : x5.toInt < (σ 1 2).toInt := ti_nle c2
    have b3 := ti_lo x4
    have b4 := ti_hi x4
    have t5 : (x5 + (1 : Int32)).toInt = x5.toInt + (1 : Int) := ti_add (show -2147483648 ≤ x5.toInt + (1 : Int) by omega) (show x5.toInt + (1 : Int) ≤ 2147483647 by omega)
    exact sl_X3_swap_64 hF (by omega) (by omega) (by omega) (by omega) (by omega) ih _ _ _ _ _ hI Fσ O83_σ O0_σ (by omega) (by omega) (by omega) (by omega) (by omega) (by omega) (by omega)
set_option maxHeartbeats 4000000 in
set_option maxRecDepth 100000 in
theorem s_X3_swap {F : Nat} (hF : 100000 ≤ F) {x1 : Int32} {τ : Mem} (hI : wiX τ) : sf (f_X3_swap F x1 τ) (fun r s => wiX s ∧ (∀ k, 101 ≤ k → s k = τ k) ∧ s 83 1 = τ 83 1 ∧ s 0 7 = τ 0 7 ∧ -2147483648 ≤ r.toInt ∧ r.toInt ≤ 2147483647) := by
  have Fτ : ∀ k, 101 ≤ k → τ k = τ k := fun _ _ => rfl
  have O83_τ : τ 83 1 = τ 83 1 := rfl
  have O0_τ : τ 0 7 = τ 0 7 := rfl
  rw [f_X3_swap_e]
  refine sf_in ?_
  rw [f_X3_outside_e]
  have b1 := ti_lo x1
  have b2 := ti_hi x1
  refine sf_ite (fun c3 => ?_) (fun c3 => ?_)
  · have C3 : (0 : Int) ≤ x1.toInt := ti_le c3
    refine sf_ite (fun c4 => ?_) (fun c4 => ?_)
    · have C4 : x1.toInt ≤ (999 : Int) := ti_le c4
      refine sf_ret ?_
      refine sf_ite (fun c5 => ?_) (fun c5 => ?_)
      · have C5 : (0 : Int) = (0 : Int) := ti_eq c5
        refine sf_bnd (s_X0_reckon hF wt_h1 hI) (fun r6 u7 p8 => ?_)
        obtain ⟨Iu7, Fu7_, O83_u7_, O0_u7_, -⟩ := p8
        have Fu7 : ∀ k, 101 ≤ k → u7 k = τ k := fun k hk => (Fu7_ k hk).trans (Fτ k hk)
        have O83_u7 : u7 83 1 = τ 83 1 := O83_u7_.trans O83_τ
        have O0_u7 : u7 0 7 = τ 0 7 := O0_u7_.trans O0_τ
        refine sf_bnd (s_X0_takeFrom hF wt_h24 wt_h1 Iu7) (fun r9 u10 p11 => ?_)
        obtain ⟨Iu10, Fu10_, O83_u10_, O0_u10_, -⟩ := p11
        have Fu10 : ∀ k, 101 ≤ k → u10 k = τ k := fun k hk => (Fu10_ k hk).trans (Fu7 k hk)
        have O83_u10 : u10 83 1 = τ 83 1 := O83_u10_.trans O83_u7
        have O0_u10 : u10 0 7 = τ 0 7 := O0_u10_.trans O0_u7
        have l_0 : (0 : Int32).toInt = 0 := rfl
        exact sl_X3_swap_46 hF (by omega) (by omega) _ _ _ _ _ Iu10 Fu10 O83_u10 O0_u10 (by omega) (by decide) (by decide) (by decide) (by decide) (by decide) (by decide)
      have C5 : ¬ (0 : Int) = (0 : Int) := ti_ne c5
      exfalso; omega
    have C4 : (999 : Int) < x1.toInt := ti_nle c4
    refine sf_ret ?_
    refine sf_ite (fun c12 => ?_) (fun c12 => ?_)
    · have C12 : (-6 : Int) = (0 : Int) := ti_eq c12
      exfalso; omega
    have C12 : ¬ (-6 : Int) = (0 : Int) := ti_ne c12
    refine sf_bnd (s_X3_refuse hF hI (by decide) (by decide)) (fun r13 u14 p15 => ?_)
    obtain ⟨Iu14, Fu14_, O83_u14_, O0_u14_, p15_1, p15_2, p15_x0⟩ := p15
    have Fu14 : ∀ k, 101 ≤ k → u14 k = τ k := fun k hk => (Fu14_ k hk).trans (Fτ k hk)
    have O83_u14 : u14 83 1 = τ 83 1 := O83_u14_.trans O83_τ
    have O0_u14 : u14 0 7 = τ 0 7 := O0_u14_.trans O0_τ
    replace p15_x0 : r13.toInt = (-6 : Int) := p15_x0
    exact sf_ret ⟨Iu14, Fu14, O83_u14, O0_u14, ti_lo _, ti_hi _⟩
  have C3 : x1.toInt < (0 : Int) := ti_nle c3
  refine sf_ret ?_
  refine sf_ite (fun c16 => ?_) (fun c16 => ?_)
  · have C16 : (-4 : Int) = (0 : Int) := ti_eq c16
    exfalso; omega
  have C16 : ¬ (-4 : Int) = (0 : Int) := ti_ne c16
  refine sf_bnd (s_X3_refuse hF hI (by decide) (by decide)) (fun r17 u18 p19 => ?_)
  obtain ⟨Iu18, Fu18_, O83_u18_, O0_u18_, p19_1, p19_2, p19_x0⟩ := p19
  have Fu18 : ∀ k, 101 ≤ k → u18 k = τ k := fun k hk => (Fu18_ k hk).trans (Fτ k hk)
  have O83_u18 : u18 83 1 = τ 83 1 := O83_u18_.trans O83_τ
  have O0_u18 : u18 0 7 = τ 0 7 := O0_u18_.trans O0_τ
  replace p19_x0 : r17.toInt = (-4 : Int) := p19_x0
  exact sf_ret ⟨Iu18, Fu18, O83_u18, O0_u18, ti_lo _, ti_hi _⟩
