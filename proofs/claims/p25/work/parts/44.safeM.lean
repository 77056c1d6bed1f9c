set_option maxHeartbeats 4000000 in
set_option maxRecDepth 100000 in
theorem s_X4_isLetter {F : Nat} (hF : 73786976294838206464 ≤ F) {x0 : Int32} {τ : Mem} (hI : wiM τ) : sf (f_X4_isLetter F x0 τ) (fun r s => s = τ ∧ 0 ≤ r.toInt ∧ r.toInt ≤ 1 ∧ (r.toInt = 1 → 100 ≤ x0.toInt)) := by
  rw [f_X4_isLetter_e]
  have b1 := ti_lo x0
  have b2 := ti_hi x0
  refine sf_ite (fun c3 => ?_) (fun c3 => ?_)
  · have C3 : x0.toInt = (112 : Int) := ti_eq c3
    rw [j_X4_isLetter_42_e]
    exact sf_ret ⟨rfl, by decide, by decide, (show (1 : Int) = 1 → 100 ≤ x0.toInt from by omega)⟩
  have C3 : ¬ x0.toInt = (112 : Int) := ti_ne c3
  refine sf_ite (fun c4 => ?_) (fun c4 => ?_)
  · have C4 : x0.toInt = (108 : Int) := ti_eq c4
    rw [j_X4_isLetter_42_e]
    exact sf_ret ⟨rfl, by decide, by decide, (show (1 : Int) = 1 → 100 ≤ x0.toInt from by omega)⟩
  have C4 : ¬ x0.toInt = (108 : Int) := ti_ne c4
  refine sf_ite (fun c5 => ?_) (fun c5 => ?_)
  · have C5 : x0.toInt = (115 : Int) := ti_eq c5
    rw [j_X4_isLetter_42_e]
    exact sf_ret ⟨rfl, by decide, by decide, (show (1 : Int) = 1 → 100 ≤ x0.toInt from by omega)⟩
  have C5 : ¬ x0.toInt = (115 : Int) := ti_ne c5
  refine sf_ite (fun c6 => ?_) (fun c6 => ?_)
  · have C6 : x0.toInt = (118 : Int) := ti_eq c6
    rw [j_X4_isLetter_42_e]
    exact sf_ret ⟨rfl, by decide, by decide, (show (1 : Int) = 1 → 100 ≤ x0.toInt from by omega)⟩
  have C6 : ¬ x0.toInt = (118 : Int) := ti_ne c6
  refine sf_ite (fun c7 => ?_) (fun c7 => ?_)
  · have C7 : x0.toInt = (119 : Int) := ti_eq c7
    rw [j_X4_isLetter_42_e]
    exact sf_ret ⟨rfl, by decide, by decide, (show (1 : Int) = 1 → 100 ≤ x0.toInt from by omega)⟩
  have C7 : ¬ x0.toInt = (119 : Int) := ti_ne c7
  refine sf_ite (fun c8 => ?_) (fun c8 => ?_)
  · have C8 : x0.toInt = (117 : Int) := ti_eq c8
    rw [j_X4_isLetter_42_e]
    exact sf_ret ⟨rfl, by decide, by decide, (show (1 : Int) = 1 → 100 ≤ x0.toInt from by omega)⟩
  have C8 : ¬ x0.toInt = (117 : Int) := ti_ne c8
  refine sf_ite (fun c9 => ?_) (fun c9 => ?_)
  · have C9 : x0.toInt = (100 : Int) := ti_eq c9
    rw [j_X4_isLetter_42_e]
    exact sf_ret ⟨rfl, by decide, by decide, (show (1 : Int) = 1 → 100 ≤ x0.toInt from by omega)⟩
  have C9 : ¬ x0.toInt = (100 : Int) := ti_ne c9
  exact sf_ret ⟨rfl, by decide, by decide, (show (0 : Int) = 1 → 100 ≤ x0.toInt from by omega)⟩
set_option maxHeartbeats 4000000 in
set_option maxRecDepth 100000 in
theorem s_X4_readNumbers {F : Nat} (hF : 73786976294838206464 ≤ F) {x1 : Int32} {x2 : Int32} {τ : Mem} (hI : wiM τ) (x2_1 : 0 ≤ x2.toInt) (x2_2 : x2.toInt ≤ 124) : sf (f_X4_readNumbers F x1 x2 τ) (fun _ s => wiM s ∧ (∀ k, k < 101 → s k = τ k) ∧ s 101 15 = τ 101 15 ∧ s 101 34 = τ 101 34 ∧ s 101 1 = τ 101 1 ∧ s 101 30 = τ 101 30 ∧ s 101 18 = τ 101 18 ∧ True ∧ ((s 101 17).toInt = 0 → (τ 101 16).toInt + 1 ≤ (s 101 16).toInt) ∧ ((τ 101 16).toInt ≤ (s 101 16).toInt)) := by
  have Fτ : ∀ k, k < 101 → τ k = τ k := fun _ _ => rfl
  have Of15_τ : τ 101 15 = τ 101 15 := rfl
  have Of34_τ : τ 101 34 = τ 101 34 := rfl
  have Of1_τ : τ 101 1 = τ 101 1 := rfl
  have Of30_τ : τ 101 30 = τ 101 30 := rfl
  have Of18_τ : τ 101 18 = τ 101 18 := rfl
  rw [f_X4_readNumbers_e]
  have b1 := ti_lo x1
  have b2 := ti_hi x1
  refine sf_ite (fun c3 => ?_) (fun c3 => ?_)
  · have C3 : x1.toInt = (100 : Int) := ti_eq c3
    have b4 := ti_lo (τ 101 17)
    have b5 := ti_hi (τ 101 17)
    have m6 := wx_X4_16 hI
    refine sf_bnd (s_X4_readDigits hF hI (by decide) (by decide)) (fun r7 u8 p9 => ?_)
    obtain ⟨Iu8, Fu8_, Of15_u8_, Of34_u8_, Of1_u8_, Of30_u8_, Of18_u8_, p9_1, p9_2, p9_x0, p9_x1⟩ := p9
    have Fu8 : ∀ k, k < 101 → u8 k = τ k := fun k hk => (Fu8_ k hk).trans (Fτ k hk)
    have Of15_u8 : u8 101 15 = τ 101 15 := Of15_u8_.trans Of15_τ
    have Of34_u8 : u8 101 34 = τ 101 34 := Of34_u8_.trans Of34_τ
    have Of1_u8 : u8 101 1 = τ 101 1 := Of1_u8_.trans Of1_τ
    have Of30_u8 : u8 101 30 = τ 101 30 := Of30_u8_.trans Of30_τ
    have Of18_u8 : u8 101 18 = τ 101 18 := Of18_u8_.trans Of18_τ
    replace p9_x0 : (u8 101 17).toInt = 0 → (τ 101 16).toInt + (2 : Int) ≤ (u8 101 16).toInt := p9_x0
    replace p9_x1 : (τ 101 16).toInt ≤ (u8 101 16).toInt := p9_x1
    have b10 := ti_lo (u8 101 17)
    have b11 := ti_hi (u8 101 17)
    have m12 := wx_X4_16 Iu8
    refine sf_chk (ti_in (by omega) (by omega)) ?_
    have v13 : Int32.toNatClampNeg x2 = x2.toInt.toNat := rfl
    refine sf_lt (fun s14 hs14 => ?_)
    have Is14 : wiM s14 := by rw [hs14]; exact wx_put_114 Iu8 (by omega) (by omega)
    have Fs14 : ∀ k, k < 101 → s14 k = τ k := fun k hk => (show s14 k = u8 k by rw [hs14, up2_k (by omega)]).trans (Fu8 k hk)
    have Of15_s14 : s14 101 15 = τ 101 15 := (show s14 101 15 = u8 101 15 by rw [hs14, up2_k (by omega)]).trans Of15_u8
    have Of34_s14 : s14 101 34 = τ 101 34 := (show s14 101 34 = u8 101 34 by rw [hs14, up2_k (by omega)]).trans Of34_u8
    have Of1_s14 : s14 101 1 = τ 101 1 := (show s14 101 1 = u8 101 1 by rw [hs14, up2_k (by omega)]).trans Of1_u8
    have Of30_s14 : s14 101 30 = τ 101 30 := (show s14 101 30 = u8 101 30 by rw [hs14, up2_k (by omega)]).trans Of30_u8
    have Of18_s14 : s14 101 18 = τ 101 18 := (show s14 101 18 = u8 101 18 by rw [hs14, up2_k (by omega)]).trans Of18_u8
    have e15 : (s14 101 17).toInt = (u8 101 17).toInt := congrArg Int32.toInt (by rw [hs14, up2_k (by omega)])
    have b16 := ti_lo (s14 101 17)
    have b17 := ti_hi (s14 101 17)
    have m18 := wx_X4_16 Is14
    have e19 : (s14 101 16).toInt = (u8 101 16).toInt := congrArg Int32.toInt (by rw [hs14, up2_k (by omega)])
    exact sf_ret ⟨Is14, Fs14, Of15_s14, Of34_s14, Of1_s14, Of30_s14, Of18_s14, trivial, (show (s14 101 17).toInt = 0 → (τ 101 16).toInt + 1 ≤ (s14 101 16).toInt from by omega), (show (τ 101 16).toInt ≤ (s14 101 16).toInt from by omega)⟩
  have C3 : ¬ x1.toInt = (100 : Int) := ti_ne c3
  refine sf_ite (fun c20 => ?_) (fun c20 => ?_)
  · have C20 : x1.toInt = (112 : Int) := ti_eq c20
    have b21 := ti_lo (τ 101 17)
    have b22 := ti_hi (τ 101 17)
    have m23 := wx_X4_16 hI
    refine sf_bnd (s_X4_readDigits hF hI (by decide) (by decide)) (fun r24 u25 p26 => ?_)
    obtain ⟨Iu25, Fu25_, Of15_u25_, Of34_u25_, Of1_u25_, Of30_u25_, Of18_u25_, p26_1, p26_2, p26_x0, p26_x1⟩ := p26
    have Fu25 : ∀ k, k < 101 → u25 k = τ k := fun k hk => (Fu25_ k hk).trans (Fτ k hk)
    have Of15_u25 : u25 101 15 = τ 101 15 := Of15_u25_.trans Of15_τ
    have Of34_u25 : u25 101 34 = τ 101 34 := Of34_u25_.trans Of34_τ
    have Of1_u25 : u25 101 1 = τ 101 1 := Of1_u25_.trans Of1_τ
    have Of30_u25 : u25 101 30 = τ 101 30 := Of30_u25_.trans Of30_τ
    have Of18_u25 : u25 101 18 = τ 101 18 := Of18_u25_.trans Of18_τ
    replace p26_x0 : (u25 101 17).toInt = 0 → (τ 101 16).toInt + (3 : Int) ≤ (u25 101 16).toInt := p26_x0
    replace p26_x1 : (τ 101 16).toInt ≤ (u25 101 16).toInt := p26_x1
    have b27 := ti_lo (u25 101 17)
    have b28 := ti_hi (u25 101 17)
    have m29 := wx_X4_16 Iu25
    refine sf_chk (ti_in (by omega) (by omega)) ?_
    have v30 : Int32.toNatClampNeg x2 = x2.toInt.toNat := rfl
    refine sf_lt (fun s31 hs31 => ?_)
    have Is31 : wiM s31 := by rw [hs31]; exact wx_put_114 Iu25 (by omega) (by omega)
    have Fs31 : ∀ k, k < 101 → s31 k = τ k := fun k hk => (show s31 k = u25 k by rw [hs31, up2_k (by omega)]).trans (Fu25 k hk)
    have Of15_s31 : s31 101 15 = τ 101 15 := (show s31 101 15 = u25 101 15 by rw [hs31, up2_k (by omega)]).trans Of15_u25
    have Of34_s31 : s31 101 34 = τ 101 34 := (show s31 101 34 = u25 101 34 by rw [hs31, up2_k (by omega)]).trans Of34_u25
    have Of1_s31 : s31 101 1 = τ 101 1 := (show s31 101 1 = u25 101 1 by rw [hs31, up2_k (by omega)]).trans Of1_u25
    have Of30_s31 : s31 101 30 = τ 101 30 := (show s31 101 30 = u25 101 30 by rw [hs31, up2_k (by omega)]).trans Of30_u25
    have Of18_s31 : s31 101 18 = τ 101 18 := (show s31 101 18 = u25 101 18 by rw [hs31, up2_k (by omega)]).trans Of18_u25
    have e32 : (s31 101 17).toInt = (u25 101 17).toInt := congrArg Int32.toInt (by rw [hs31, up2_k (by omega)])
    have b33 := ti_lo (s31 101 17)
    have b34 := ti_hi (s31 101 17)
    have m35 := wx_X4_16 Is31
    have e36 : (s31 101 16).toInt = (u25 101 16).toInt := congrArg Int32.toInt (by rw [hs31, up2_k (by omega)])
    exact sf_ret ⟨Is31, Fs31, Of15_s31, Of34_s31, Of1_s31, Of30_s31, Of18_s31, trivial, (show (s31 101 17).toInt = 0 → (τ 101 16).toInt + 1 ≤ (s31 101 16).toInt from by omega), (show (τ 101 16).toInt ≤ (s31 101 16).toInt from by omega)⟩
  have C20 : ¬ x1.toInt = (112 : Int) := ti_ne c20
  refine sf_ite (fun c37 => ?_) (fun c37 => ?_)
  · have C37 : x1.toInt = (115 : Int) := ti_eq c37
    have b38 := ti_lo (τ 101 17)
    have b39 := ti_hi (τ 101 17)
    have m40 := wx_X4_16 hI
    refine sf_bnd (s_X4_readDigits hF hI (by decide) (by decide)) (fun r41 u42 p43 => ?_)
    obtain ⟨Iu42, Fu42_, Of15_u42_, Of34_u42_, Of1_u42_, Of30_u42_, Of18_u42_, p43_1, p43_2, p43_x0, p43_x1⟩ := p43
    have Fu42 : ∀ k, k < 101 → u42 k = τ k := fun k hk => (Fu42_ k hk).trans (Fτ k hk)
    have Of15_u42 : u42 101 15 = τ 101 15 := Of15_u42_.trans Of15_τ
    have Of34_u42 : u42 101 34 = τ 101 34 := Of34_u42_.trans Of34_τ
    have Of1_u42 : u42 101 1 = τ 101 1 := Of1_u42_.trans Of1_τ
    have Of30_u42 : u42 101 30 = τ 101 30 := Of30_u42_.trans Of30_τ
    have Of18_u42 : u42 101 18 = τ 101 18 := Of18_u42_.trans Of18_τ
    replace p43_x0 : (u42 101 17).toInt = 0 → (τ 101 16).toInt + (1 : Int) ≤ (u42 101 16).toInt := p43_x0
    replace p43_x1 : (τ 101 16).toInt ≤ (u42 101 16).toInt := p43_x1
    have b44 := ti_lo (u42 101 17)
    have b45 := ti_hi (u42 101 17)
    have m46 := wx_X4_16 Iu42
    refine sf_chk (ti_in (by omega) (by omega)) ?_
    have v47 : Int32.toNatClampNeg x2 = x2.toInt.toNat := rfl
    refine sf_lt (fun s48 hs48 => ?_)
    have Is48 : wiM s48 := by rw [hs48]; exact wx_put_114 Iu42 (by omega) (by omega)
    have Fs48 : ∀ k, k < 101 → s48 k = τ k := fun k hk => (show s48 k = u42 k by rw [hs48, up2_k (by omega)]).trans (Fu42 k hk)
    have Of15_s48 : s48 101 15 = τ 101 15 := (show s48 101 15 = u42 101 15 by rw [hs48, up2_k (by omega)]).trans Of15_u42
    have Of34_s48 : s48 101 34 = τ 101 34 := (show s48 101 34 = u42 101 34 by rw [hs48, up2_k (by omega)]).trans Of34_u42
    have Of1_s48 : s48 101 1 = τ 101 1 := (show s48 101 1 = u42 101 1 by rw [hs48, up2_k (by omega)]).trans Of1_u42
    have Of30_s48 : s48 101 30 = τ 101 30 := (show s48 101 30 = u42 101 30 by rw [hs48, up2_k (by omega)]).trans Of30_u42
    have Of18_s48 : s48 101 18 = τ 101 18 := (show s48 101 18 = u42 101 18 by rw [hs48, up2_k (by omega)]).trans Of18_u42
    have e49 : (s48 101 17).toInt = (u42 101 17).toInt := congrArg Int32.toInt (by rw [hs48, up2_k (by omega)])
    have b50 := ti_lo (s48 101 17)
    have b51 := ti_hi (s48 101 17)
    have m52 := wx_X4_16 Is48
    have e53 : (s48 101 16).toInt = (u42 101 16).toInt := congrArg Int32.toInt (by rw [hs48, up2_k (by omega)])
    refine sf_bnd (s_X4_readDigits hF Is48 (by decide) (by decide)) (fun r54 u55 p56 => ?_)
    obtain ⟨Iu55, Fu55_, Of15_u55_, Of34_u55_, Of1_u55_, Of30_u55_, Of18_u55_, p56_1, p56_2, p56_x0, p56_x1⟩ := p56
    have Fu55 : ∀ k, k < 101 → u55 k = τ k := fun k hk => (Fu55_ k hk).trans (Fs48 k hk)
    have Of15_u55 : u55 101 15 = τ 101 15 := Of15_u55_.trans Of15_s48
    have Of34_u55 : u55 101 34 = τ 101 34 := Of34_u55_.trans Of34_s48
    have Of1_u55 : u55 101 1 = τ 101 1 := Of1_u55_.trans Of1_s48
    have Of30_u55 : u55 101 30 = τ 101 30 := Of30_u55_.trans Of30_s48
    have Of18_u55 : u55 101 18 = τ 101 18 := Of18_u55_.trans Of18_s48
    replace p56_x0 : (u55 101 17).toInt = 0 → (s48 101 16).toInt + (2 : Int) ≤ (u55 101 16).toInt := p56_x0
    replace p56_x1 : (s48 101 16).toInt ≤ (u55 101 16).toInt := p56_x1
    have b57 := ti_lo (u55 101 17)
    have b58 := ti_hi (u55 101 17)
    have m59 := wx_X4_16 Iu55
    have t60 : (x2 + (1 : Int32)).toInt = x2.toInt + (1 : Int) := ti_add (show -2147483648 ≤ x2.toInt + (1 : Int) by omega) (show x2.toInt + (1 : Int) ≤ 2147483647 by omega)
    refine sf_chk (ti_in (by omega) (by omega)) ?_
    have v61 : Int32.toNatClampNeg (x2 + (1 : Int32)) = (x2 + (1 : Int32)).toInt.toNat := rfl
    refine sf_lt (fun s62 hs62 => ?_)
    have Is62 : wiM s62 := by rw [hs62]; exact wx_put_114 Iu55 (by omega) (by omega)
    have Fs62 : ∀ k, k < 101 → s62 k = τ k := fun k hk => (show s62 k = u55 k by rw [hs62, up2_k (by omega)]).trans (Fu55 k hk)
    have Of15_s62 : s62 101 15 = τ 101 15 := (show s62 101 15 = u55 101 15 by rw [hs62, up2_k (by omega)]).trans Of15_u55
    have Of34_s62 : s62 101 34 = τ 101 34 := (show s62 101 34 = u55 101 34 by rw [hs62, up2_k (by omega)]).trans Of34_u55
    have Of1_s62 : s62 101 1 = τ 101 1 := (show s62 101 1 = u55 101 1 by rw [hs62, up2_k (by omega)]).trans Of1_u55
    have Of30_s62 : s62 101 30 = τ 101 30 := (show s62 101 30 = u55 101 30 by rw [hs62, up2_k (by omega)]).trans Of30_u55
    have Of18_s62 : s62 101 18 = τ 101 18 := (show s62 101 18 = u55 101 18 by rw [hs62, up2_k (by omega)]).trans Of18_u55
    have e63 : (s62 101 17).toInt = (u55 101 17).toInt := congrArg Int32.toInt (by rw [hs62, up2_k (by omega)])
    have b64 := ti_lo (s62 101 17)
    have b65 := ti_hi (s62 101 17)
    have m66 := wx_X4_16 Is62
    have e67 : (s62 101 16).toInt = (u55 101 16).toInt := congrArg Int32.toInt (by rw [hs62, up2_k (by omega)])
    refine sf_bnd (s_X4_readDigits hF Is62 (by decide) (by decide)) (fun r68 u69 p70 => ?_)
    obtain ⟨Iu69, Fu69_, Of15_u69_, Of34_u69_, Of1_u69_, Of30_u69_, Of18_u69_, p70_1, p70_2, p70_x0, p70_x1⟩ := p70
    have Fu69 : ∀ k, k < 101 → u69 k = τ k := fun k hk => (Fu69_ k hk).trans (Fs62 k hk)
    have Of15_u69 : u69 101 15 = τ 101 15 := Of15_u69_.trans Of15_s62
    have Of34_u69 : u69 101 34 = τ 101 34 := Of34_u69_.trans Of34_s62
    have Of1_u69 : u69 101 1 = τ 101 1 := Of1_u69_.trans Of1_s62
    have Of30_u69 : u69 101 30 = τ 101 30 := Of30_u69_.trans Of30_s62
    have Of18_u69 : u69 101 18 = τ 101 18 := Of18_u69_.trans Of18_s62
    replace p70_x0 : (u69 101 17).toInt = 0 → (s62 101 16).toInt + (2 : Int) ≤ (u69 101 16).toInt := p70_x0
    replace p70_x1 : (s62 101 16).toInt ≤ (u69 101 16).toInt := p70_x1
    have b71 := ti_lo (u69 101 17)
    have b72 := ti_hi (u69 101 17)
    have m73 := wx_X4_16 Iu69
    have t74 : (x2 + (2 : Int32)).toInt = x2.toInt + (2 : Int) := ti_add (show -2147483648 ≤ x2.toInt + (2 : Int) by omega) (show x2.toInt + (2 : Int) ≤ 2147483647 by omega)
    refine sf_chk (ti_in (by omega) (by omega)) ?_
    have v75 : Int32.toNatClampNeg (x2 + (2 : Int32)) = (x2 + (2 : Int32)).toInt.toNat := rfl
    refine sf_lt (fun s76 hs76 => ?_)
    have Is76 : wiM s76 := by rw [hs76]; exact wx_put_114 Iu69 (by omega) (by omega)
    have Fs76 : ∀ k, k < 101 → s76 k = τ k := fun k hk => (show s76 k = u69 k by rw [hs76, up2_k (by omega)]).trans (Fu69 k hk)
    have Of15_s76 : s76 101 15 = τ 101 15 := (show s76 101 15 = u69 101 15 by rw [hs76, up2_k (by omega)]).trans Of15_u69
    have Of34_s76 : s76 101 34 = τ 101 34 := (show s76 101 34 = u69 101 34 by rw [hs76, up2_k (by omega)]).trans Of34_u69
    have Of1_s76 : s76 101 1 = τ 101 1 := (show s76 101 1 = u69 101 1 by rw [hs76, up2_k (by omega)]).trans Of1_u69
    have Of30_s76 : s76 101 30 = τ 101 30 := (show s76 101 30 = u69 101 30 by rw [hs76, up2_k (by omega)]).trans Of30_u69
    have Of18_s76 : s76 101 18 = τ 101 18 := (show s76 101 18 = u69 101 18 by rw [hs76, up2_k (by omega)]).trans Of18_u69
    have e77 : (s76 101 17).toInt = (u69 101 17).toInt := congrArg Int32.toInt (by rw [hs76, up2_k (by omega)])
    have b78 := ti_lo (s76 101 17)
    have b79 := ti_hi (s76 101 17)
    have m80 := wx_X4_16 Is76
    have e81 : (s76 101 16).toInt = (u69 101 16).toInt := congrArg Int32.toInt (by rw [hs76, up2_k (by omega)])
    refine sf_bnd (s_X4_readDigits hF Is76 (by decide) (by decide)) (fun r82 u83 p84 => ?_)
    obtain ⟨Iu83, Fu83_, Of15_u83_, Of34_u83_, Of1_u83_, Of30_u83_, Of18_u83_, p84_1, p84_2, p84_x0, p84_x1⟩ := p84
    have Fu83 : ∀ k, k < 101 → u83 k = τ k := fun k hk => (Fu83_ k hk).trans (Fs76 k hk)
    have Of15_u83 : u83 101 15 = τ 101 15 := Of15_u83_.trans Of15_s76
    have Of34_u83 : u83 101 34 = τ 101 34 := Of34_u83_.trans Of34_s76
    have Of1_u83 : u83 101 1 = τ 101 1 := Of1_u83_.trans Of1_s76
    have Of30_u83 : u83 101 30 = τ 101 30 := Of30_u83_.trans Of30_s76
    have Of18_u83 : u83 101 18 = τ 101 18 := Of18_u83_.trans Of18_s76
    replace p84_x0 : (u83 101 17).toInt = 0 → (s76 101 16).toInt + (1 : Int) ≤ (u83 101 16).toInt := p84_x0
    replace p84_x1 : (s76 101 16).toInt ≤ (u83 101 16).toInt := p84_x1
    have b85 := ti_lo (u83 101 17)
    have b86 := ti_hi (u83 101 17)
    have m87 := wx_X4_16 Iu83
    have t88 : (x2 + (3 : Int32)).toInt = x2.toInt + (3 : Int) := ti_add (show -2147483648 ≤ x2.toInt + (3 : Int) by omega) (show x2.toInt + (3 : Int) ≤ 2147483647 by omega)
    refine sf_chk (ti_in (by omega) (by omega)) ?_
    have v89 : Int32.toNatClampNeg (x2 + (3 : Int32)) = (x2 + (3 : Int32)).toInt.toNat := rfl
    refine sf_lt (fun s90 hs90 => ?_)
    have Is90 : wiM s90 := by rw [hs90]; exact wx_put_114 Iu83 (by omega) (by omega)
    have Fs90 : ∀ k, k < 101 → s90 k = τ k := fun k hk => (show s90 k = u83 k by rw [hs90, up2_k (by omega)]).trans (Fu83 k hk)
    have Of15_s90 : s90 101 15 = τ 101 15 := (show s90 101 15 = u83 101 15 by rw [hs90, up2_k (by omega)]).trans Of15_u83
    have Of34_s90 : s90 101 34 = τ 101 34 := (show s90 101 34 = u83 101 34 by rw [hs90, up2_k (by omega)]).trans Of34_u83
    have Of1_s90 : s90 101 1 = τ 101 1 := (show s90 101 1 = u83 101 1 by rw [hs90, up2_k (by omega)]).trans Of1_u83
    have Of30_s90 : s90 101 30 = τ 101 30 := (show s90 101 30 = u83 101 30 by rw [hs90, up2_k (by omega)]).trans Of30_u83
    have Of18_s90 : s90 101 18 = τ 101 18 := (show s90 101 18 = u83 101 18 by rw [hs90, up2_k (by omega)]).trans Of18_u83
    have e91 : (s90 101 17).toInt = (u83 101 17).toInt := congrArg Int32.toInt (by rw [hs90, up2_k (by omega)])
    have b92 := ti_lo (s90 101 17)
    have b93 := ti_hi (s90 101 17)
    have m94 := wx_X4_16 Is90
    have e95 : (s90 101 16).toInt = (u83 101 16).toInt := congrArg Int32.toInt (by rw [hs90, up2_k (by omega)])
    exact sf_ret ⟨Is90, Fs90, Of15_s90, Of34_s90, Of1_s90, Of30_s90, Of18_s90, trivial, (show (s90 101 17).toInt = 0 → (τ 101 16).toInt + 1 ≤ (s90 101 16).toInt from by omega), (show (τ 101 16).toInt ≤ (s90 101 16).toInt from by omega)⟩
  have C37 : ¬ x1.toInt = (115 : Int) := ti_ne c37
  refine sf_ite (fun c96 => ?_) (fun c96 => ?_)
  · have C96 : x1.toInt = (117 : Int) := ti_eq c96
    have b97 := ti_lo (τ 101 17)
    have b98 := ti_hi (τ 101 17)
    have m99 := wx_X4_16 hI
    refine sf_bnd (s_X4_readDigits hF hI (by decide) (by decide)) (fun r100 u101 p102 => ?_)
    obtain ⟨Iu101, Fu101_, Of15_u101_, Of34_u101_, Of1_u101_, Of30_u101_, Of18_u101_, p102_1, p102_2, p102_x0, p102_x1⟩ := p102
    have Fu101 : ∀ k, k < 101 → u101 k = τ k := fun k hk => (Fu101_ k hk).trans (Fτ k hk)
    have Of15_u101 : u101 101 15 = τ 101 15 := Of15_u101_.trans Of15_τ
    have Of34_u101 : u101 101 34 = τ 101 34 := Of34_u101_.trans Of34_τ
    have Of1_u101 : u101 101 1 = τ 101 1 := Of1_u101_.trans Of1_τ
    have Of30_u101 : u101 101 30 = τ 101 30 := Of30_u101_.trans Of30_τ
    have Of18_u101 : u101 101 18 = τ 101 18 := Of18_u101_.trans Of18_τ
    replace p102_x0 : (u101 101 17).toInt = 0 → (τ 101 16).toInt + (1 : Int) ≤ (u101 101 16).toInt := p102_x0
    replace p102_x1 : (τ 101 16).toInt ≤ (u101 101 16).toInt := p102_x1
    have b103 := ti_lo (u101 101 17)
    have b104 := ti_hi (u101 101 17)
    have m105 := wx_X4_16 Iu101
    refine sf_chk (ti_in (by omega) (by omega)) ?_
    have v106 : Int32.toNatClampNeg x2 = x2.toInt.toNat := rfl
    refine sf_lt (fun s107 hs107 => ?_)
    have Is107 : wiM s107 := by rw [hs107]; exact wx_put_114 Iu101 (by omega) (by omega)
    have Fs107 : ∀ k, k < 101 → s107 k = τ k := fun k hk => (show s107 k = u101 k by rw [hs107, up2_k (by omega)]).trans (Fu101 k hk)
    have Of15_s107 : s107 101 15 = τ 101 15 := (show s107 101 15 = u101 101 15 by rw [hs107, up2_k (by omega)]).trans Of15_u101
    have Of34_s107 : s107 101 34 = τ 101 34 := (show s107 101 34 = u101 101 34 by rw [hs107, up2_k (by omega)]).trans Of34_u101
    have Of1_s107 : s107 101 1 = τ 101 1 := (show s107 101 1 = u101 101 1 by rw [hs107, up2_k (by omega)]).trans Of1_u101
    have Of30_s107 : s107 101 30 = τ 101 30 := (show s107 101 30 = u101 101 30 by rw [hs107, up2_k (by omega)]).trans Of30_u101
    have Of18_s107 : s107 101 18 = τ 101 18 := (show s107 101 18 = u101 101 18 by rw [hs107, up2_k (by omega)]).trans Of18_u101
    have e108 : (s107 101 17).toInt = (u101 101 17).toInt := congrArg Int32.toInt (by rw [hs107, up2_k (by omega)])
    have b109 := ti_lo (s107 101 17)
    have b110 := ti_hi (s107 101 17)
    have m111 := wx_X4_16 Is107
    have e112 : (s107 101 16).toInt = (u101 101 16).toInt := congrArg Int32.toInt (by rw [hs107, up2_k (by omega)])
    exact sf_ret ⟨Is107, Fs107, Of15_s107, Of34_s107, Of1_s107, Of30_s107, Of18_s107, trivial, (show (s107 101 17).toInt = 0 → (τ 101 16).toInt + 1 ≤ (s107 101 16).toInt from by omega), (show (τ 101 16).toInt ≤ (s107 101 16).toInt from by omega)⟩
  have C96 : ¬ x1.toInt = (117 : Int) := ti_ne c96
  have b113 := ti_lo (τ 101 17)
  have b114 := ti_hi (τ 101 17)
  have m115 := wx_X4_16 hI
  refine sf_bnd (s_X4_readDigits hF hI (by decide) (by decide)) (fun r116 u117 p118 => ?_)
  obtain ⟨Iu117, Fu117_, Of15_u117_, Of34_u117_, Of1_u117_, Of30_u117_, Of18_u117_, p118_1, p118_2, p118_x0, p118_x1⟩ := p118
  have Fu117 : ∀ k, k < 101 → u117 k = τ k := fun k hk => (Fu117_ k hk).trans (Fτ k hk)
  have Of15_u117 : u117 101 15 = τ 101 15 := Of15_u117_.trans Of15_τ
  have Of34_u117 : u117 101 34 = τ 101 34 := Of34_u117_.trans Of34_τ
  have Of1_u117 : u117 101 1 = τ 101 1 := Of1_u117_.trans Of1_τ
  have Of30_u117 : u117 101 30 = τ 101 30 := Of30_u117_.trans Of30_τ
  have Of18_u117 : u117 101 18 = τ 101 18 := Of18_u117_.trans Of18_τ
  replace p118_x0 : (u117 101 17).toInt = 0 → (τ 101 16).toInt + (1 : Int) ≤ (u117 101 16).toInt := p118_x0
  replace p118_x1 : (τ 101 16).toInt ≤ (u117 101 16).toInt := p118_x1
  have b119 := ti_lo (u117 101 17)
  have b120 := ti_hi (u117 101 17)
  have m121 := wx_X4_16 Iu117
  refine sf_chk (ti_in (by omega) (by omega)) ?_
  have v122 : Int32.toNatClampNeg x2 = x2.toInt.toNat := rfl
  refine sf_lt (fun s123 hs123 => ?_)
  have Is123 : wiM s123 := by rw [hs123]; exact wx_put_114 Iu117 (by omega) (by omega)
  have Fs123 : ∀ k, k < 101 → s123 k = τ k := fun k hk => (show s123 k = u117 k by rw [hs123, up2_k (by omega)]).trans (Fu117 k hk)
  have Of15_s123 : s123 101 15 = τ 101 15 := (show s123 101 15 = u117 101 15 by rw [hs123, up2_k (by omega)]).trans Of15_u117
  have Of34_s123 : s123 101 34 = τ 101 34 := (show s123 101 34 = u117 101 34 by rw [hs123, up2_k (by omega)]).trans Of34_u117
  have Of1_s123 : s123 101 1 = τ 101 1 := (show s123 101 1 = u117 101 1 by rw [hs123, up2_k (by omega)]).trans Of1_u117
  have Of30_s123 : s123 101 30 = τ 101 30 := (show s123 101 30 = u117 101 30 by rw [hs123, up2_k (by omega)]).trans Of30_u117
  have Of18_s123 : s123 101 18 = τ 101 18 := (show s123 101 18 = u117 101 18 by rw [hs123, up2_k (by omega)]).trans Of18_u117
  have e124 : (s123 101 17).toInt = (u117 101 17).toInt := congrArg Int32.toInt (by rw [hs123, up2_k (by omega)])
  have b125 := ti_lo (s123 101 17)
  have b126 := ti_hi (s123 101 17)
  have m127 := wx_X4_16 Is123
  have e128 : (s123 101 16).toInt = (u117 101 16).toInt := congrArg Int32.toInt (by rw [hs123, up2_k (by omega)])
  refine sf_bnd (s_X4_readDigits hF Is123 (by decide) (by decide)) (fun r129 u130 p131 => ?_)
  obtain ⟨Iu130, Fu130_, Of15_u130_, Of34_u130_, Of1_u130_, Of30_u130_, Of18_u130_, p131_1, p131_2, p131_x0, p131_x1⟩ := p131
  have Fu130 : ∀ k, k < 101 → u130 k = τ k := fun k hk => (Fu130_ k hk).trans (Fs123 k hk)
  have Of15_u130 : u130 101 15 = τ 101 15 := Of15_u130_.trans Of15_s123
  have Of34_u130 : u130 101 34 = τ 101 34 := Of34_u130_.trans Of34_s123
  have Of1_u130 : u130 101 1 = τ 101 1 := Of1_u130_.trans Of1_s123
  have Of30_u130 : u130 101 30 = τ 101 30 := Of30_u130_.trans Of30_s123
  have Of18_u130 : u130 101 18 = τ 101 18 := Of18_u130_.trans Of18_s123
  replace p131_x0 : (u130 101 17).toInt = 0 → (s123 101 16).toInt + (1 : Int) ≤ (u130 101 16).toInt := p131_x0
  replace p131_x1 : (s123 101 16).toInt ≤ (u130 101 16).toInt := p131_x1
  have b132 := ti_lo (u130 101 17)
  have b133 := ti_hi (u130 101 17)
  have m134 := wx_X4_16 Iu130
  have t135 : (x2 + (1 : Int32)).toInt = x2.toInt + (1 : Int) := ti_add (show -2147483648 ≤ x2.toInt + (1 : Int) by omega) (show x2.toInt + (1 : Int) ≤ 2147483647 by omega)
  refine sf_chk (ti_in (by omega) (by omega)) ?_
  have v136 : Int32.toNatClampNeg (x2 + (1 : Int32)) = (x2 + (1 : Int32)).toInt.toNat := rfl
  refine sf_lt (fun s137 hs137 => ?_)
  have Is137 : wiM s137 := by rw [hs137]; exact wx_put_114 Iu130 (by omega) (by omega)
  have Fs137 : ∀ k, k < 101 → s137 k = τ k := fun k hk => (show s137 k = u130 k by rw [hs137, up2_k (by omega)]).trans (Fu130 k hk)
  have Of15_s137 : s137 101 15 = τ 101 15 := (show s137 101 15 = u130 101 15 by rw [hs137, up2_k (by omega)]).trans Of15_u130
  have Of34_s137 : s137 101 34 = τ 101 34 := (show s137 101 34 = u130 101 34 by rw [hs137, up2_k (by omega)]).trans Of34_u130
  have Of1_s137 : s137 101 1 = τ 101 1 := (show s137 101 1 = u130 101 1 by rw [hs137, up2_k (by omega)]).trans Of1_u130
  have Of30_s137 : s137 101 30 = τ 101 30 := (show s137 101 30 = u130 101 30 by rw [hs137, up2_k (by omega)]).trans Of30_u130
  have Of18_s137 : s137 101 18 = τ 101 18 := (show s137 101 18 = u130 101 18 by rw [hs137, up2_k (by omega)]).trans Of18_u130
  have e138 : (s137 101 17).toInt = (u130 101 17).toInt := congrArg Int32.toInt (by rw [hs137, up2_k (by omega)])
  have b139 := ti_lo (s137 101 17)
  have b140 := ti_hi (s137 101 17)
  have m141 := wx_X4_16 Is137
  have e142 : (s137 101 16).toInt = (u130 101 16).toInt := congrArg Int32.toInt (by rw [hs137, up2_k (by omega)])
  exact sf_ret ⟨Is137, Fs137, Of15_s137, Of34_s137, Of1_s137, Of30_s137, Of18_s137, trivial, (show (s137 101 17).toInt = 0 → (τ 101 16).toInt + 1 ≤ (s137 101 16).toInt from by omega), (show (τ 101 16).toInt ≤ (s137 101 16).toInt from by omega)⟩
set_option maxHeartbeats 4000000 in
set_option maxRecDepth 100000 in
theorem s_X4_readStatement {F : Nat} (hF : 73786976294838206464 ≤ F) {τ : Mem} (hI : wiM τ) (xp0 : (τ 101 18).toInt ≤ 31) : sf (f_X4_readStatement F τ) (fun _ s => wiM s ∧ (∀ k, k < 101 → s k = τ k) ∧ s 101 15 = τ 101 15 ∧ s 101 34 = τ 101 34 ∧ s 101 1 = τ 101 1 ∧ s 101 30 = τ 101 30 ∧ True ∧ ((s 101 18).toInt = (τ 101 18).toInt + 1) ∧ ((s 101 17).toInt = 0 → (τ 101 16).toInt + 3 ≤ (s 101 16).toInt)) := by
  have Fτ : ∀ k, k < 101 → τ k = τ k := fun _ _ => rfl
  have Of15_τ : τ 101 15 = τ 101 15 := rfl
  have Of34_τ : τ 101 34 = τ 101 34 := rfl
  have Of1_τ : τ 101 1 = τ 101 1 := rfl
  have Of30_τ : τ 101 30 = τ 101 30 := rfl
  have Of18_τ : τ 101 18 = τ 101 18 := rfl
  rw [f_X4_readStatement_e]
  have m1 := wx_X4_15 hI
  have m2 := wx_X4_16 hI
  refine sf_bnd (s_X4_here hF hI) (fun r3 u4 p5 => ?_)
  obtain ⟨e9, p5_1, p5_2, p5_x0⟩ := p5
  have e9 := e9.symm
  subst e9
  replace p5_x0 : ((τ 101 15).toInt ≤ (τ 101 16).toInt ∧ r3.toInt = -1) ∨ ((τ 101 16).toInt < (τ 101 15).toInt ∧ r3.toInt = (τ 111 (Int32.toNatClampNeg (τ 101 16))).toInt) := p5_x0
  have m6 := wx_X4_18 hI
  refine sf_chk (ti_in (by omega) (by omega)) ?_
  have v7 : Int32.toNatClampNeg (τ 101 18) = (τ 101 18).toInt.toNat := rfl
  refine sf_lt (fun s8 hs8 => ?_)
  have Is8 : wiM s8 := by rw [hs8]; exact wm_oth hI (by decide) (by decide) (by decide) (by decide)
  have Fs8 : ∀ k, k < 101 → s8 k = τ k := fun k hk => (show s8 k = τ k by rw [hs8, up2_k (by omega)]).trans (Fτ k hk)
  have Of15_s8 : s8 101 15 = τ 101 15 := (show s8 101 15 = τ 101 15 by rw [hs8, up2_k (by omega)]).trans Of15_τ
  have Of34_s8 : s8 101 34 = τ 101 34 := (show s8 101 34 = τ 101 34 by rw [hs8, up2_k (by omega)]).trans Of34_τ
  have Of1_s8 : s8 101 1 = τ 101 1 := (show s8 101 1 = τ 101 1 by rw [hs8, up2_k (by omega)]).trans Of1_τ
  have Of30_s8 : s8 101 30 = τ 101 30 := (show s8 101 30 = τ 101 30 by rw [hs8, up2_k (by omega)]).trans Of30_τ
  have Of18_s8 : s8 101 18 = τ 101 18 := (show s8 101 18 = τ 101 18 by rw [hs8, up2_k (by omega)]).trans Of18_τ
  refine sf_lt (fun s9 hs9 => ?_)
  have Is9 : wiM s9 := by rw [hs9]; exact wm_oth Is8 (by decide) (by decide) (by decide) (by decide)
  have Fs9 : ∀ k, k < 101 → s9 k = τ k := fun k hk => (show s9 k = s8 k by rw [hs9, up2_k (by omega)]).trans (Fs8 k hk)
  have Of15_s9 : s9 101 15 = τ 101 15 := (show s9 101 15 = s8 101 15 by rw [hs9, up2_k (by omega)]).trans Of15_s8
  have Of34_s9 : s9 101 34 = τ 101 34 := (show s9 101 34 = s8 101 34 by rw [hs9, up2_k (by omega)]).trans Of34_s8
  have Of1_s9 : s9 101 1 = τ 101 1 := (show s9 101 1 = s8 101 1 by rw [hs9, up2_k (by omega)]).trans Of1_s8
  have Of30_s9 : s9 101 30 = τ 101 30 := (show s9 101 30 = s8 101 30 by rw [hs9, up2_k (by omega)]).trans Of30_s8
  have Of18_s9 : s9 101 18 = τ 101 18 := (show s9 101 18 = s8 101 18 by rw [hs9, up2_k (by omega)]).trans Of18_s8
  have b10 := ti_lo (τ 101 17)
  have b11 := ti_hi (τ 101 17)
  have e12 : (s8 101 17).toInt = (τ 101 17).toInt := congrArg Int32.toInt (by rw [hs8, up2_k (by omega)])
  have b13 := ti_lo (s8 101 17)
  have b14 := ti_hi (s8 101 17)
  have e15 : (s9 101 17).toInt = (s8 101 17).toInt := congrArg Int32.toInt (by rw [hs9, up2_k (by omega)])
  have b16 := ti_lo (s9 101 17)
  have b17 := ti_hi (s9 101 17)
  refine sf_ite (fun c18 => ?_) (fun c18 => ?_)
  · have C18 : (s9 101 17).toInt = (0 : Int) := ti_eq c18
    have b19 := ti_lo r3
    have b20 := ti_hi r3
    refine sf_bnd (s_X4_isLetter hF Is9) (fun r21 u22 p23 => ?_)
    obtain ⟨e9, p23_1, p23_2, p23_x0⟩ := p23
    have e9 := e9.symm
    subst e9
    replace p23_x0 : r21.toInt = 1 → 100 ≤ r3.toInt := p23_x0
    have hb_r21 : r21 = 0 ∨ r21 = 1 := wi_bool p23_1 p23_2
    refine sf_ite (fun c24 => ?_) (fun c24 => ?_)
    · have C24 : r21.toInt = (0 : Int) := ti_eq c24
      rw [j_X4_readStatement_42_e]
      rw [j_X4_readStatement_47_e]
      refine sf_bz (by decide) ?_
      refine sf_lt (fun s25 hs25 => ?_)
      have Is25 : wiM s25 := by rw [hs25]; exact wm_fld Is9 (by decide) (by decide) (by decide) (by decide) (by decide) (by decide) (by decide)
      have Fs25 : ∀ k, k < 101 → s25 k = τ k := fun k hk => (show s25 k = s9 k by rw [hs25, up2_k (by omega)]).trans (Fs9 k hk)
      have Of15_s25 : s25 101 15 = τ 101 15 := (show s25 101 15 = s9 101 15 by rw [hs25, up2_i (by decide)]).trans Of15_s9
      have Of34_s25 : s25 101 34 = τ 101 34 := (show s25 101 34 = s9 101 34 by rw [hs25, up2_i (by decide)]).trans Of34_s9
      have Of1_s25 : s25 101 1 = τ 101 1 := (show s25 101 1 = s9 101 1 by rw [hs25, up2_i (by decide)]).trans Of1_s9
      have Of30_s25 : s25 101 30 = τ 101 30 := (show s25 101 30 = s9 101 30 by rw [hs25, up2_i (by decide)]).trans Of30_s9
      have Of18_s25 : s25 101 18 = τ 101 18 := (show s25 101 18 = s9 101 18 by rw [hs25, up2_i (by decide)]).trans Of18_s9
      have e26 : (s25 101 17).toInt = (1 : Int) := (show (s25 101 17).toInt = (1 : Int32).toInt from congrArg Int32.toInt (by rw [hs25, up2_s]))
      refine sf_ite (fun c27 => ?_) (fun c27 => ?_)
      · have C27 : (s25 101 17).toInt = (0 : Int) := ti_eq c27
        exfalso; omega
      have C27 : ¬ (s25 101 17).toInt = (0 : Int) := ti_ne c27
      rw [j_X4_readStatement_67_e]
      refine sf_lt (fun s28 hs28 => ?_)
      have m29 := wx_X4_16 Is25
      have m30 := wx_X4_16 Is9
      have m31 := wx_X4_16 Is8
      have e32 : (s8 101 16).toInt = (τ 101 16).toInt := congrArg Int32.toInt (by rw [hs8, up2_k (by omega)])
      have e33 : (s9 101 16).toInt = (s8 101 16).toInt := congrArg Int32.toInt (by rw [hs9, up2_k (by omega)])
      have e34 : (s25 101 16).toInt = (s9 101 16).toInt := congrArg Int32.toInt (by rw [hs25, up2_i (by decide)])
      have t35 : ((s25 101 16) + (0 : Int32)).toInt = (s25 101 16).toInt + (0 : Int) := ti_add (show -2147483648 ≤ (s25 101 16).toInt + (0 : Int) by omega) (show (s25 101 16).toInt + (0 : Int) ≤ 2147483647 by omega)
      have Is28 : wiM s28 := by rw [hs28]; exact wx_put_X4_16 Is25 (by omega) (by omega)
      have Fs28 : ∀ k, k < 101 → s28 k = τ k := fun k hk => (show s28 k = s25 k by rw [hs28, up2_k (by omega)]).trans (Fs25 k hk)
      have Of15_s28 : s28 101 15 = τ 101 15 := (show s28 101 15 = s25 101 15 by rw [hs28, up2_i (by decide)]).trans Of15_s25
      have Of34_s28 : s28 101 34 = τ 101 34 := (show s28 101 34 = s25 101 34 by rw [hs28, up2_i (by decide)]).trans Of34_s25
      have Of1_s28 : s28 101 1 = τ 101 1 := (show s28 101 1 = s25 101 1 by rw [hs28, up2_i (by decide)]).trans Of1_s25
      have Of30_s28 : s28 101 30 = τ 101 30 := (show s28 101 30 = s25 101 30 by rw [hs28, up2_i (by decide)]).trans Of30_s25
      have Of18_s28 : s28 101 18 = τ 101 18 := (show s28 101 18 = s25 101 18 by rw [hs28, up2_i (by decide)]).trans Of18_s25
      have e36 : (s28 101 17).toInt = (s25 101 17).toInt := congrArg Int32.toInt (by rw [hs28, up2_i (by decide)])
      refine sf_ite (fun c37 => ?_) (fun c37 => ?_)
      · have C37 : (s28 101 17).toInt = (0 : Int) := ti_eq c37
        exfalso; omega
      have C37 : ¬ (s28 101 17).toInt = (0 : Int) := ti_ne c37
      rw [j_X4_readStatement_86_e]
      refine sf_ite (fun c38 => ?_) (fun c38 => ?_)
      · have C38 : (s28 101 17).toInt = (0 : Int) := ti_eq c38
        exfalso; omega
      have C38 : ¬ (s28 101 17).toInt = (0 : Int) := ti_ne c38
      rw [j_X4_readStatement_103_e]
      rw [j_X4_readStatement_108_e]
      refine sf_bz (by decide) ?_
      refine sf_lt (fun s39 hs39 => ?_)
      have Is39 : wiM s39 := by rw [hs39]; exact wm_fld Is28 (by decide) (by decide) (by decide) (by decide) (by decide) (by decide) (by decide)
      have Fs39 : ∀ k, k < 101 → s39 k = τ k := fun k hk => (show s39 k = s28 k by rw [hs39, up2_k (by omega)]).trans (Fs28 k hk)
      have Of15_s39 : s39 101 15 = τ 101 15 := (show s39 101 15 = s28 101 15 by rw [hs39, up2_i (by decide)]).trans Of15_s28
      have Of34_s39 : s39 101 34 = τ 101 34 := (show s39 101 34 = s28 101 34 by rw [hs39, up2_i (by decide)]).trans Of34_s28
      have Of1_s39 : s39 101 1 = τ 101 1 := (show s39 101 1 = s28 101 1 by rw [hs39, up2_i (by decide)]).trans Of1_s28
      have Of30_s39 : s39 101 30 = τ 101 30 := (show s39 101 30 = s28 101 30 by rw [hs39, up2_i (by decide)]).trans Of30_s28
      have Of18_s39 : s39 101 18 = τ 101 18 := (show s39 101 18 = s28 101 18 by rw [hs39, up2_i (by decide)]).trans Of18_s28
      have e40 : (s39 101 17).toInt = (1 : Int) := (show (s39 101 17).toInt = (1 : Int32).toInt from congrArg Int32.toInt (by rw [hs39, up2_s]))
      refine sf_ite (fun c41 => ?_) (fun c41 => ?_)
      · have C41 : (s39 101 17).toInt = (0 : Int) := ti_eq c41
        exfalso; omega
      have C41 : ¬ (s39 101 17).toInt = (0 : Int) := ti_ne c41
      rw [j_X4_readStatement_128_e]
      refine sf_lt (fun s42 hs42 => ?_)
      have m43 := wx_X4_16 Is39
      have m44 := wx_X4_16 Is28
      have e45 : (s28 101 16).toInt = ((s25 101 16) + (0 : Int32)).toInt := (show (s28 101 16).toInt = ((s25 101 16) + (0 : Int32)).toInt from congrArg Int32.toInt (by rw [hs28, up2_s]))
      have e46 : (s39 101 16).toInt = (s28 101 16).toInt := congrArg Int32.toInt (by rw [hs39, up2_i (by decide)])
      have t47 : ((s39 101 16) + (0 : Int32)).toInt = (s39 101 16).toInt + (0 : Int) := ti_add (show -2147483648 ≤ (s39 101 16).toInt + (0 : Int) by omega) (show (s39 101 16).toInt + (0 : Int) ≤ 2147483647 by omega)
      have Is42 : wiM s42 := by rw [hs42]; exact wx_put_X4_16 Is39 (by omega) (by omega)
      have Fs42 : ∀ k, k < 101 → s42 k = τ k := fun k hk => (show s42 k = s39 k by rw [hs42, up2_k (by omega)]).trans (Fs39 k hk)
      have Of15_s42 : s42 101 15 = τ 101 15 := (show s42 101 15 = s39 101 15 by rw [hs42, up2_i (by decide)]).trans Of15_s39
      have Of34_s42 : s42 101 34 = τ 101 34 := (show s42 101 34 = s39 101 34 by rw [hs42, up2_i (by decide)]).trans Of34_s39
      have Of1_s42 : s42 101 1 = τ 101 1 := (show s42 101 1 = s39 101 1 by rw [hs42, up2_i (by decide)]).trans Of1_s39
      have Of30_s42 : s42 101 30 = τ 101 30 := (show s42 101 30 = s39 101 30 by rw [hs42, up2_i (by decide)]).trans Of30_s39
      have Of18_s42 : s42 101 18 = τ 101 18 := (show s42 101 18 = s39 101 18 by rw [hs42, up2_i (by decide)]).trans Of18_s39
      refine sf_lt (fun s48 hs48 => ?_)
      have m49 := wx_X4_18 Is42
      have m50 := wx_X4_18 Is39
      have m51 := wx_X4_18 Is28
      have m52 := wx_X4_18 Is25
      have m53 := wx_X4_18 Is9
      have m54 := wx_X4_18 Is8
      have e55 : (s8 101 18).toInt = (τ 101 18).toInt := congrArg Int32.toInt (by rw [hs8, up2_k (by omega)])
      have e56 : (s9 101 18).toInt = (s8 101 18).toInt := congrArg Int32.toInt (by rw [hs9, up2_k (by omega)])
      have e57 : (s25 101 18).toInt = (s9 101 18).toInt := congrArg Int32.toInt (by rw [hs25, up2_i (by decide)])
      have e58 : (s28 101 18).toInt = (s25 101 18).toInt := congrArg Int32.toInt (by rw [hs28, up2_i (by decide)])
      have e59 : (s39 101 18).toInt = (s28 101 18).toInt := congrArg Int32.toInt (by rw [hs39, up2_i (by decide)])
      have e60 : (s42 101 18).toInt = (s39 101 18).toInt := congrArg Int32.toInt (by rw [hs42, up2_i (by decide)])
      have t61 : ((s42 101 18) + (1 : Int32)).toInt = (s42 101 18).toInt + (1 : Int) := ti_add (show -2147483648 ≤ (s42 101 18).toInt + (1 : Int) by omega) (show (s42 101 18).toInt + (1 : Int) ≤ 2147483647 by omega)
      have Is48 : wiM s48 := by rw [hs48]; exact wx_put_X4_18 Is42 (by omega) (by omega)
      have Fs48 : ∀ k, k < 101 → s48 k = τ k := fun k hk => (show s48 k = s42 k by rw [hs48, up2_k (by omega)]).trans (Fs42 k hk)
      have Of15_s48 : s48 101 15 = τ 101 15 := (show s48 101 15 = s42 101 15 by rw [hs48, up2_i (by decide)]).trans Of15_s42
      have Of34_s48 : s48 101 34 = τ 101 34 := (show s48 101 34 = s42 101 34 by rw [hs48, up2_i (by decide)]).trans Of34_s42
      have Of1_s48 : s48 101 1 = τ 101 1 := (show s48 101 1 = s42 101 1 by rw [hs48, up2_i (by decide)]).trans Of1_s42
      have Of30_s48 : s48 101 30 = τ 101 30 := (show s48 101 30 = s42 101 30 by rw [hs48, up2_i (by decide)]).trans Of30_s42
      have m62 := wx_X4_18 Is48
      have e63 : (s48 101 18).toInt = ((s42 101 18) + (1 : Int32)).toInt := (show (s48 101 18).toInt = ((s42 101 18) + (1 : Int32)).toInt from congrArg Int32.toInt (by rw [hs48, up2_s]))
      have e64 : (s42 101 17).toInt = (s39 101 17).toInt := congrArg Int32.toInt (by rw [hs42, up2_i (by decide)])
      have e65 : (s48 101 17).toInt = (s42 101 17).toInt := congrArg Int32.toInt (by rw [hs48, up2_i (by decide)])
      have m66 := wx_X4_16 Is48
      have m67 := wx_X4_16 Is42
      have e68 : (s42 101 16).toInt = ((s39 101 16) + (0 : Int32)).toInt := (show (s42 101 16).toInt = ((s39 101 16) + (0 : Int32)).toInt from congrArg Int32.toInt (by rw [hs42, up2_s]))
      have e69 : (s48 101 16).toInt = (s42 101 16).toInt := congrArg Int32.toInt (by rw [hs48, up2_i (by decide)])
      exact sf_ret ⟨Is48, Fs48, Of15_s48, Of34_s48, Of1_s48, Of30_s48, trivial, (show (s48 101 18).toInt = (τ 101 18).toInt + 1 from by omega), (show (s48 101 17).toInt = 0 → (τ 101 16).toInt + 3 ≤ (s48 101 16).toInt from by omega)⟩
    have C24 : ¬ r21.toInt = (0 : Int) := ti_ne c24
    rw [j_X4_readStatement_47_e]
    refine sf_bz (by decide) ?_
    refine sf_lt (fun s70 hs70 => ?_)
    have Is70 : wiM s70 := by rw [hs70]; exact wm_fld Is9 (by decide) (by decide) (by decide) (by decide) (by decide) (by decide) (by decide)
    have Fs70 : ∀ k, k < 101 → s70 k = τ k := fun k hk => (show s70 k = s9 k by rw [hs70, up2_k (by omega)]).trans (Fs9 k hk)
    have Of15_s70 : s70 101 15 = τ 101 15 := (show s70 101 15 = s9 101 15 by rw [hs70, up2_i (by decide)]).trans Of15_s9
    have Of34_s70 : s70 101 34 = τ 101 34 := (show s70 101 34 = s9 101 34 by rw [hs70, up2_i (by decide)]).trans Of34_s9
    have Of1_s70 : s70 101 1 = τ 101 1 := (show s70 101 1 = s9 101 1 by rw [hs70, up2_i (by decide)]).trans Of1_s9
    have Of30_s70 : s70 101 30 = τ 101 30 := (show s70 101 30 = s9 101 30 by rw [hs70, up2_i (by decide)]).trans Of30_s9
    have Of18_s70 : s70 101 18 = τ 101 18 := (show s70 101 18 = s9 101 18 by rw [hs70, up2_i (by decide)]).trans Of18_s9
    have e71 : (s70 101 17).toInt = (0 : Int) := (show (s70 101 17).toInt = (0 : Int32).toInt from congrArg Int32.toInt (by rw [hs70, up2_s]))
    refine sf_ite (fun c72 => ?_) (fun c72 => ?_)
    · have C72 : (s70 101 17).toInt = (0 : Int) := ti_eq c72
      rw [j_X4_readStatement_67_e]
      refine sf_lt (fun s73 hs73 => ?_)
      have m74 := wx_X4_16 Is70
      have m75 := wx_X4_16 Is9
      have m76 := wx_X4_16 Is8
      have e77 : (s8 101 16).toInt = (τ 101 16).toInt := congrArg Int32.toInt (by rw [hs8, up2_k (by omega)])
      have e78 : (s9 101 16).toInt = (s8 101 16).toInt := congrArg Int32.toInt (by rw [hs9, up2_k (by omega)])
      have e79 : (s70 101 16).toInt = (s9 101 16).toInt := congrArg Int32.toInt (by rw [hs70, up2_i (by decide)])
      have t80 : ((s70 101 16) + (1 : Int32)).toInt = (s70 101 16).toInt + (1 : Int) := ti_add (show -2147483648 ≤ (s70 101 16).toInt + (1 : Int) by omega) (show (s70 101 16).toInt + (1 : Int) ≤ 2147483647 by omega)
      have Is73 : wiM s73 := by rw [hs73]; exact wx_put_X4_16 Is70 (by omega) (by omega)
      have Fs73 : ∀ k, k < 101 → s73 k = τ k := fun k hk => (show s73 k = s70 k by rw [hs73, up2_k (by omega)]).trans (Fs70 k hk)
      have Of15_s73 : s73 101 15 = τ 101 15 := (show s73 101 15 = s70 101 15 by rw [hs73, up2_i (by decide)]).trans Of15_s70
      have Of34_s73 : s73 101 34 = τ 101 34 := (show s73 101 34 = s70 101 34 by rw [hs73, up2_i (by decide)]).trans Of34_s70
      have Of1_s73 : s73 101 1 = τ 101 1 := (show s73 101 1 = s70 101 1 by rw [hs73, up2_i (by decide)]).trans Of1_s70
      have Of30_s73 : s73 101 30 = τ 101 30 := (show s73 101 30 = s70 101 30 by rw [hs73, up2_i (by decide)]).trans Of30_s70
      have Of18_s73 : s73 101 18 = τ 101 18 := (show s73 101 18 = s70 101 18 by rw [hs73, up2_i (by decide)]).trans Of18_s70
      have e81 : (s73 101 17).toInt = (s70 101 17).toInt := congrArg Int32.toInt (by rw [hs73, up2_i (by decide)])
      refine sf_ite (fun c82 => ?_) (fun c82 => ?_)
      · have C82 : (s73 101 17).toInt = (0 : Int) := ti_eq c82
        have t83 : ((4 : Int32) * (τ 101 18)).toInt = (4 : Int) * (τ 101 18).toInt := ti_mul (show -2147483648 ≤ (4 : Int) * (τ 101 18).toInt by omega) (show (4 : Int) * (τ 101 18).toInt ≤ 2147483647 by omega)
        have m84 := wx_X4_16 Is73
        have e85 : (s73 101 16).toInt = ((s70 101 16) + (1 : Int32)).toInt := (show (s73 101 16).toInt = ((s70 101 16) + (1 : Int32)).toInt from congrArg Int32.toInt (by rw [hs73, up2_s]))
        refine sf_bnd (s_X4_readNumbers hF Is73 (by omega) (by omega)) (fun r86 u87 p88 => ?_)
        obtain ⟨Iu87, Fu87_, Of15_u87_, Of34_u87_, Of1_u87_, Of30_u87_, Of18_u87_, -, p88_x0, p88_x1⟩ := p88
        have Fu87 : ∀ k, k < 101 → u87 k = τ k := fun k hk => (Fu87_ k hk).trans (Fs73 k hk)
        have Of15_u87 : u87 101 15 = τ 101 15 := Of15_u87_.trans Of15_s73
        have Of34_u87 : u87 101 34 = τ 101 34 := Of34_u87_.trans Of34_s73
        have Of1_u87 : u87 101 1 = τ 101 1 := Of1_u87_.trans Of1_s73
        have Of30_u87 : u87 101 30 = τ 101 30 := Of30_u87_.trans Of30_s73
        have Of18_u87 : u87 101 18 = τ 101 18 := Of18_u87_.trans Of18_s73
        replace p88_x0 : (u87 101 17).toInt = 0 → (s73 101 16).toInt + 1 ≤ (u87 101 16).toInt := p88_x0
        replace p88_x1 : (s73 101 16).toInt ≤ (u87 101 16).toInt := p88_x1
        have b89 := ti_lo (u87 101 17)
        have b90 := ti_hi (u87 101 17)
        have m91 := wx_X4_16 Iu87
        rw [j_X4_readStatement_86_e]
        refine sf_ite (fun c92 => ?_) (fun c92 => ?_)
        · have C92 : (u87 101 17).toInt = (0 : Int) := ti_eq c92
          have m93 := wx_X4_15 Iu87
          have m94 := wx_X4_15 Is73
          have m95 := wx_X4_15 Is70
          have m96 := wx_X4_15 Is9
          have m97 := wx_X4_15 Is8
          have e98 : (s8 101 15).toInt = (τ 101 15).toInt := congrArg Int32.toInt (by rw [hs8, up2_k (by omega)])
          have e99 : (s9 101 15).toInt = (s8 101 15).toInt := congrArg Int32.toInt (by rw [hs9, up2_k (by omega)])
          have e100 : (s70 101 15).toInt = (s9 101 15).toInt := congrArg Int32.toInt (by rw [hs70, up2_i (by decide)])
          have e101 : (s73 101 15).toInt = (s70 101 15).toInt := congrArg Int32.toInt (by rw [hs73, up2_i (by decide)])
          have e102 : (u87 101 15).toInt = (s73 101 15).toInt := congrArg Int32.toInt Of15_u87_
          refine sf_bnd (s_X4_here hF Iu87) (fun r103 u104 p105 => ?_)
          obtain ⟨e9, p105_1, p105_2, p105_x0⟩ := p105
          have e9 := e9.symm
          subst e9
          replace p105_x0 : ((u87 101 15).toInt ≤ (u87 101 16).toInt ∧ r103.toInt = -1) ∨ ((u87 101 16).toInt < (u87 101 15).toInt ∧ r103.toInt = (u87 111 (Int32.toNatClampNeg (u87 101 16))).toInt) := p105_x0
          have b106 := ti_lo r103
          have b107 := ti_hi r103
          refine sf_ite (fun c108 => ?_) (fun c108 => ?_)
          · have C108 : r103.toInt = (59 : Int) := ti_eq c108
            rw [j_X4_readStatement_108_e]
            refine sf_bz (by decide) ?_
            refine sf_lt (fun s109 hs109 => ?_)
            have Is109 : wiM s109 := by rw [hs109]; exact wm_fld Iu87 (by decide) (by decide) (by decide) (by decide) (by decide) (by decide) (by decide)
            have Fs109 : ∀ k, k < 101 → s109 k = τ k := fun k hk => (show s109 k = u87 k by rw [hs109, up2_k (by omega)]).trans (Fu87 k hk)
            have Of15_s109 : s109 101 15 = τ 101 15 := (show s109 101 15 = u87 101 15 by rw [hs109, up2_i (by decide)]).trans Of15_u87
            have Of34_s109 : s109 101 34 = τ 101 34 := (show s109 101 34 = u87 101 34 by rw [hs109, up2_i (by decide)]).trans Of34_u87
            have Of1_s109 : s109 101 1 = τ 101 1 := (show s109 101 1 = u87 101 1 by rw [hs109, up2_i (by decide)]).trans Of1_u87
            have Of30_s109 : s109 101 30 = τ 101 30 := (show s109 101 30 = u87 101 30 by rw [hs109, up2_i (by decide)]).trans Of30_u87
            have Of18_s109 : s109 101 18 = τ 101 18 := (show s109 101 18 = u87 101 18 by rw [hs109, up2_i (by decide)]).trans Of18_u87
            have e110 : (s109 101 17).toInt = (0 : Int) := (show (s109 101 17).toInt = (0 : Int32).toInt from congrArg Int32.toInt (by rw [hs109, up2_s]))
            refine sf_ite (fun c111 => ?_) (fun c111 => ?_)
            · have C111 : (s109 101 17).toInt = (0 : Int) := ti_eq c111
              rw [j_X4_readStatement_128_e]
              refine sf_lt (fun s112 hs112 => ?_)
              have m113 := wx_X4_16 Is109
              have e114 : (s109 101 16).toInt = (u87 101 16).toInt := congrArg Int32.toInt (by rw [hs109, up2_i (by decide)])
              have t115 : ((s109 101 16) + (1 : Int32)).toInt = (s109 101 16).toInt + (1 : Int) := ti_add (show -2147483648 ≤ (s109 101 16).toInt + (1 : Int) by omega) (show (s109 101 16).toInt + (1 : Int) ≤ 2147483647 by omega)
              have Is112 : wiM s112 := by rw [hs112]; exact wx_put_X4_16 Is109 (by omega) (by omega)
              have Fs112 : ∀ k, k < 101 → s112 k = τ k := fun k hk => (show s112 k = s109 k by rw [hs112, up2_k (by omega)]).trans (Fs109 k hk)
              have Of15_s112 : s112 101 15 = τ 101 15 := (show s112 101 15 = s109 101 15 by rw [hs112, up2_i (by decide)]).trans Of15_s109
              have Of34_s112 : s112 101 34 = τ 101 34 := (show s112 101 34 = s109 101 34 by rw [hs112, up2_i (by decide)]).trans Of34_s109
              have Of1_s112 : s112 101 1 = τ 101 1 := (show s112 101 1 = s109 101 1 by rw [hs112, up2_i (by decide)]).trans Of1_s109
              have Of30_s112 : s112 101 30 = τ 101 30 := (show s112 101 30 = s109 101 30 by rw [hs112, up2_i (by decide)]).trans Of30_s109
              have Of18_s112 : s112 101 18 = τ 101 18 := (show s112 101 18 = s109 101 18 by rw [hs112, up2_i (by decide)]).trans Of18_s109
              refine sf_lt (fun s116 hs116 => ?_)
              have m117 := wx_X4_18 Is112
              have m118 := wx_X4_18 Is109
              have m119 := wx_X4_18 Iu87
              have m120 := wx_X4_18 Is73
              have m121 := wx_X4_18 Is70
              have m122 := wx_X4_18 Is9
              have m123 := wx_X4_18 Is8
              have e124 : (s8 101 18).toInt = (τ 101 18).toInt := congrArg Int32.toInt (by rw [hs8, up2_k (by omega)])
              have e125 : (s9 101 18).toInt = (s8 101 18).toInt := congrArg Int32.toInt (by rw [hs9, up2_k (by omega)])
              have e126 : (s70 101 18).toInt = (s9 101 18).toInt := congrArg Int32.toInt (by rw [hs70, up2_i (by decide)])
              have e127 : (s73 101 18).toInt = (s70 101 18).toInt := congrArg Int32.toInt (by rw [hs73, up2_i (by decide)])
              have e128 : (u87 101 18).toInt = (s73 101 18).toInt := congrArg Int32.toInt Of18_u87_
              have e129 : (s109 101 18).toInt = (u87 101 18).toInt := congrArg Int32.toInt (by rw [hs109, up2_i (by decide)])
              have e130 : (s112 101 18).toInt = (s109 101 18).toInt := congrArg Int32.toInt (by rw [hs112, up2_i (by decide)])
              have t131 : ((s112 101 18) + (1 : Int32)).toInt = (s112 101 18).toInt + (1 : Int) := ti_add (show -2147483648 ≤ (s112 101 18).toInt + (1 : Int) by omega) (show (s112 101 18).toInt + (1 : Int) ≤ 2147483647 by omega)
              have Is116 : wiM s116 := by rw [hs116]; exact wx_put_X4_18 Is112 (by omega) (by omega)
              have Fs116 : ∀ k, k < 101 → s116 k = τ k := fun k hk => (show s116 k = s112 k by rw [hs116, up2_k (by omega)]).trans (Fs112 k hk)
              have Of15_s116 : s116 101 15 = τ 101 15 := (show s116 101 15 = s112 101 15 by rw [hs116, up2_i (by decide)]).trans Of15_s112
              have Of34_s116 : s116 101 34 = τ 101 34 := (show s116 101 34 = s112 101 34 by rw [hs116, up2_i (by decide)]).trans Of34_s112
              have Of1_s116 : s116 101 1 = τ 101 1 := (show s116 101 1 = s112 101 1 by rw [hs116, up2_i (by decide)]).trans Of1_s112
              have Of30_s116 : s116 101 30 = τ 101 30 := (show s116 101 30 = s112 101 30 by rw [hs116, up2_i (by decide)]).trans Of30_s112
              have m132 := wx_X4_18 Is116
              have e133 : (s116 101 18).toInt = ((s112 101 18) + (1 : Int32)).toInt := (show (s116 101 18).toInt = ((s112 101 18) + (1 : Int32)).toInt from congrArg Int32.toInt (by rw [hs116, up2_s]))
              have e134 : (s112 101 17).toInt = (s109 101 17).toInt := congrArg Int32.toInt (by rw [hs112, up2_i (by decide)])
              have e135 : (s116 101 17).toInt = (s112 101 17).toInt := congrArg Int32.toInt (by rw [hs116, up2_i (by decide)])
              have m136 := wx_X4_16 Is116
              have m137 := wx_X4_16 Is112
              have e138 : (s112 101 16).toInt = ((s109 101 16) + (1 : Int32)).toInt := (show (s112 101 16).toInt = ((s109 101 16) + (1 : Int32)).toInt from congrArg Int32.toInt (by rw [hs112, up2_s]))
              have e139 : (s116 101 16).toInt = (s112 101 16).toInt := congrArg Int32.toInt (by rw [hs116, up2_i (by decide)])
              exact sf_ret ⟨Is116, Fs116, Of15_s116, Of34_s116, Of1_s116, Of30_s116, trivial, (show (s116 101 18).toInt = (τ 101 18).toInt + 1 from by omega), (show (s116 101 17).toInt = 0 → (τ 101 16).toInt + 3 ≤ (s116 101 16).toInt from by omega)⟩
            have C111 : ¬ (s109 101 17).toInt = (0 : Int) := ti_ne c111
            exfalso; omega
          have C108 : ¬ r103.toInt = (59 : Int) := ti_ne c108
          rw [j_X4_readStatement_103_e]
          rw [j_X4_readStatement_108_e]
          refine sf_bz (by decide) ?_
          refine sf_lt (fun s140 hs140 => ?_)
          have Is140 : wiM s140 := by rw [hs140]; exact wm_fld Iu87 (by decide) (by decide) (by decide) (by decide) (by decide) (by decide) (by decide)
          have Fs140 : ∀ k, k < 101 → s140 k = τ k := fun k hk => (show s140 k = u87 k by rw [hs140, up2_k (by omega)]).trans (Fu87 k hk)
          have Of15_s140 : s140 101 15 = τ 101 15 := (show s140 101 15 = u87 101 15 by rw [hs140, up2_i (by decide)]).trans Of15_u87
          have Of34_s140 : s140 101 34 = τ 101 34 := (show s140 101 34 = u87 101 34 by rw [hs140, up2_i (by decide)]).trans Of34_u87
          have Of1_s140 : s140 101 1 = τ 101 1 := (show s140 101 1 = u87 101 1 by rw [hs140, up2_i (by decide)]).trans Of1_u87
          have Of30_s140 : s140 101 30 = τ 101 30 := (show s140 101 30 = u87 101 30 by rw [hs140, up2_i (by decide)]).trans Of30_u87
          have Of18_s140 : s140 101 18 = τ 101 18 := (show s140 101 18 = u87 101 18 by rw [hs140, up2_i (by decide)]).trans Of18_u87
          have e141 : (s140 101 17).toInt = (1 : Int) := (show (s140 101 17).toInt = (1 : Int32).toInt from congrArg Int32.toInt (by rw [hs140, up2_s]))
          refine sf_ite (fun c142 => ?_) (fun c142 => ?_)
          · have C142 : (s140 101 17).toInt = (0 : Int) := ti_eq c142
            exfalso; omega
          have C142 : ¬ (s140 101 17).toInt = (0 : Int) := ti_ne c142
          rw [j_X4_readStatement_128_e]
          refine sf_lt (fun s143 hs143 => ?_)
          have m144 := wx_X4_16 Is140
          have e145 : (s140 101 16).toInt = (u87 101 16).toInt := congrArg Int32.toInt (by rw [hs140, up2_i (by decide)])
          have t146 : ((s140 101 16) + (0 : Int32)).toInt = (s140 101 16).toInt + (0 : Int) := ti_add (show -2147483648 ≤ (s140 101 16).toInt + (0 : Int) by omega) (show (s140 101 16).toInt + (0 : Int) ≤ 2147483647 by omega)
          have Is143 : wiM s143 := by rw [hs143]; exact wx_put_X4_16 Is140 (by omega) (by omega)
          have Fs143 : ∀ k, k < 101 → s143 k = τ k := fun k hk => (show s143 k = s140 k by rw [hs143, up2_k (by omega)]).trans (Fs140 k hk)
          have Of15_s143 : s143 101 15 = τ 101 15 := (show s143 101 15 = s140 101 15 by rw [hs143, up2_i (by decide)]).trans Of15_s140
          have Of34_s143 : s143 101 34 = τ 101 34 := (show s143 101 34 = s140 101 34 by rw [hs143, up2_i (by decide)]).trans Of34_s140
          have Of1_s143 : s143 101 1 = τ 101 1 := (show s143 101 1 = s140 101 1 by rw [hs143, up2_i (by decide)]).trans Of1_s140
          have Of30_s143 : s143 101 30 = τ 101 30 := (show s143 101 30 = s140 101 30 by rw [hs143, up2_i (by decide)]).trans Of30_s140
          have Of18_s143 : s143 101 18 = τ 101 18 := (show s143 101 18 = s140 101 18 by rw [hs143, up2_i (by decide)]).trans Of18_s140
          refine sf_lt (fun s147 hs147 => ?_)
          have m148 := wx_X4_18 Is143
          have m149 := wx_X4_18 Is140
          have m150 := wx_X4_18 Iu87
          have m151 := wx_X4_18 Is73
          have m152 := wx_X4_18 Is70
          have m153 := wx_X4_18 Is9
          have m154 := wx_X4_18 Is8
          have e155 : (s8 101 18).toInt = (τ 101 18).toInt := congrArg Int32.toInt (by rw [hs8, up2_k (by omega)])
          have e156 : (s9 101 18).toInt = (s8 101 18).toInt := congrArg Int32.toInt (by rw [hs9, up2_k (by omega)])
          have e157 : (s70 101 18).toInt = (s9 101 18).toInt := congrArg Int32.toInt (by rw [hs70, up2_i (by decide)])
          have e158 : (s73 101 18).toInt = (s70 101 18).toInt := congrArg Int32.toInt (by rw [hs73, up2_i (by decide)])
          have e159 : (u87 101 18).toInt = (s73 101 18).toInt := congrArg Int32.toInt Of18_u87_
          have e160 : (s140 101 18).toInt = (u87 101 18).toInt := congrArg Int32.toInt (by rw [hs140, up2_i (by decide)])
          have e161 : (s143 101 18).toInt = (s140 101 18).toInt := congrArg Int32.toInt (by rw [hs143, up2_i (by decide)])
          have t162 : ((s143 101 18) + (1 : Int32)).toInt = (s143 101 18).toInt + (1 : Int) := ti_add (show -2147483648 ≤ (s143 101 18).toInt + (1 : Int) by omega) (show (s143 101 18).toInt + (1 : Int) ≤ 2147483647 by omega)
          have Is147 : wiM s147 := by rw [hs147]; exact wx_put_X4_18 Is143 (by omega) (by omega)
          have Fs147 : ∀ k, k < 101 → s147 k = τ k := fun k hk => (show s147 k = s143 k by rw [hs147, up2_k (by omega)]).trans (Fs143 k hk)
          have Of15_s147 : s147 101 15 = τ 101 15 := (show s147 101 15 = s143 101 15 by rw [hs147, up2_i (by decide)]).trans Of15_s143
          have Of34_s147 : s147 101 34 = τ 101 34 := (show s147 101 34 = s143 101 34 by rw [hs147, up2_i (by decide)]).trans Of34_s143
          have Of1_s147 : s147 101 1 = τ 101 1 := (show s147 101 1 = s143 101 1 by rw [hs147, up2_i (by decide)]).trans Of1_s143
          have Of30_s147 : s147 101 30 = τ 101 30 := (show s147 101 30 = s143 101 30 by rw [hs147, up2_i (by decide)]).trans Of30_s143
          have m163 := wx_X4_18 Is147
          have e164 : (s147 101 18).toInt = ((s143 101 18) + (1 : Int32)).toInt := (show (s147 101 18).toInt = ((s143 101 18) + (1 : Int32)).toInt from congrArg Int32.toInt (by rw [hs147, up2_s]))
          have e165 : (s143 101 17).toInt = (s140 101 17).toInt := congrArg Int32.toInt (by rw [hs143, up2_i (by decide)])
          have e166 : (s147 101 17).toInt = (s143 101 17).toInt := congrArg Int32.toInt (by rw [hs147, up2_i (by decide)])
          have m167 := wx_X4_16 Is147
          have m168 := wx_X4_16 Is143
          have e169 : (s143 101 16).toInt = ((s140 101 16) + (0 : Int32)).toInt := (show (s143 101 16).toInt = ((s140 101 16) + (0 : Int32)).toInt from congrArg Int32.toInt (by rw [hs143, up2_s]))
          have e170 : (s147 101 16).toInt = (s143 101 16).toInt := congrArg Int32.toInt (by rw [hs147, up2_i (by decide)])
          exact sf_ret ⟨Is147, Fs147, Of15_s147, Of34_s147, Of1_s147, Of30_s147, trivial, (show (s147 101 18).toInt = (τ 101 18).toInt + 1 from by omega), (show (s147 101 17).toInt = 0 → (τ 101 16).toInt + 3 ≤ (s147 101 16).toInt from by omega)⟩
        have C92 : ¬ (u87 101 17).toInt = (0 : Int) := ti_ne c92
        rw [j_X4_readStatement_103_e]
        rw [j_X4_readStatement_108_e]
        refine sf_bz (by decide) ?_
        refine sf_lt (fun s171 hs171 => ?_)
        have Is171 : wiM s171 := by rw [hs171]; exact wm_fld Iu87 (by decide) (by decide) (by decide) (by decide) (by decide) (by decide) (by decide)
        have Fs171 : ∀ k, k < 101 → s171 k = τ k := fun k hk => (show s171 k = u87 k by rw [hs171, up2_k (by omega)]).trans (Fu87 k hk)
        have Of15_s171 : s171 101 15 = τ 101 15 := (show s171 101 15 = u87 101 15 by rw [hs171, up2_i (by decide)]).trans Of15_u87
        have Of34_s171 : s171 101 34 = τ 101 34 := (show s171 101 34 = u87 101 34 by rw [hs171, up2_i (by decide)]).trans Of34_u87
        have Of1_s171 : s171 101 1 = τ 101 1 := (show s171 101 1 = u87 101 1 by rw [hs171, up2_i (by decide)]).trans Of1_u87
        have Of30_s171 : s171 101 30 = τ 101 30 := (show s171 101 30 = u87 101 30 by rw [hs171, up2_i (by decide)]).trans Of30_u87
        have Of18_s171 : s171 101 18 = τ 101 18 := (show s171 101 18 = u87 101 18 by rw [hs171, up2_i (by decide)]).trans Of18_u87
        have e172 : (s171 101 17).toInt = (1 : Int) := (show (s171 101 17).toInt = (1 : Int32).toInt from congrArg Int32.toInt (by rw [hs171, up2_s]))
        refine sf_ite (fun c173 => ?_) (fun c173 => ?_)
        · have C173 : (s171 101 17).toInt = (0 : Int) := ti_eq c173
          exfalso; omega
        have C173 : ¬ (s171 101 17).toInt = (0 : Int) := ti_ne c173
        rw [j_X4_readStatement_128_e]
        refine sf_lt (fun s174 hs174 => ?_)
        have m175 := wx_X4_16 Is171
        have e176 : (s171 101 16).toInt = (u87 101 16).toInt := congrArg Int32.toInt (by rw [hs171, up2_i (by decide)])
        have t177 : ((s171 101 16) + (0 : Int32)).toInt = (s171 101 16).toInt + (0 : Int) := ti_add (show -2147483648 ≤ (s171 101 16).toInt + (0 : Int) by omega) (show (s171 101 16).toInt + (0 : Int) ≤ 2147483647 by omega)
        have Is174 : wiM s174 := by rw [hs174]; exact wx_put_X4_16 Is171 (by omega) (by omega)
        have Fs174 : ∀ k, k < 101 → s174 k = τ k := fun k hk => (show s174 k = s171 k by rw [hs174, up2_k (by omega)]).trans (Fs171 k hk)
        have Of15_s174 : s174 101 15 = τ 101 15 := (show s174 101 15 = s171 101 15 by rw [hs174, up2_i (by decide)]).trans Of15_s171
        have Of34_s174 : s174 101 34 = τ 101 34 := (show s174 101 34 = s171 101 34 by rw [hs174, up2_i (by decide)]).trans Of34_s171
        have Of1_s174 : s174 101 1 = τ 101 1 := (show s174 101 1 = s171 101 1 by rw [hs174, up2_i (by decide)]).trans Of1_s171
        have Of30_s174 : s174 101 30 = τ 101 30 := (show s174 101 30 = s171 101 30 by rw [hs174, up2_i (by decide)]).trans Of30_s171
        have Of18_s174 : s174 101 18 = τ 101 18 := (show s174 101 18 = s171 101 18 by rw [hs174, up2_i (by decide)]).trans Of18_s171
        refine sf_lt (fun s178 hs178 => ?_)
        have m179 := wx_X4_18 Is174
        have m180 := wx_X4_18 Is171
        have m181 := wx_X4_18 Iu87
        have m182 := wx_X4_18 Is73
        have m183 := wx_X4_18 Is70
        have m184 := wx_X4_18 Is9
        have m185 := wx_X4_18 Is8
        have e186 : (s8 101 18).toInt = (τ 101 18).toInt := congrArg Int32.toInt (by rw [hs8, up2_k (by omega)])
        have e187 : (s9 101 18).toInt = (s8 101 18).toInt := congrArg Int32.toInt (by rw [hs9, up2_k (by omega)])
        have e188 : (s70 101 18).toInt = (s9 101 18).toInt := congrArg Int32.toInt (by rw [hs70, up2_i (by decide)])
        have e189 : (s73 101 18).toInt = (s70 101 18).toInt := congrArg Int32.toInt (by rw [hs73, up2_i (by decide)])
        have e190 : (u87 101 18).toInt = (s73 101 18).toInt := congrArg Int32.toInt Of18_u87_
        have e191 : (s171 101 18).toInt = (u87 101 18).toInt := congrArg Int32.toInt (by rw [hs171, up2_i (by decide)])
        have e192 : (s174 101 18).toInt = (s171 101 18).toInt := congrArg Int32.toInt (by rw [hs174, up2_i (by decide)])
        have t193 : ((s174 101 18) + (1 : Int32)).toInt = (s174 101 18).toInt + (1 : Int) := ti_add (show -2147483648 ≤ (s174 101 18).toInt + (1 : Int) by omega) (show (s174 101 18).toInt + (1 : Int) ≤ 2147483647 by omega)
        have Is178 : wiM s178 := by rw [hs178]; exact wx_put_X4_18 Is174 (by omega) (by omega)
        have Fs178 : ∀ k, k < 101 → s178 k = τ k := fun k hk => (show s178 k = s174 k by rw [hs178, up2_k (by omega)]).trans (Fs174 k hk)
        have Of15_s178 : s178 101 15 = τ 101 15 := (show s178 101 15 = s174 101 15 by rw [hs178, up2_i (by decide)]).trans Of15_s174
        have Of34_s178 : s178 101 34 = τ 101 34 := (show s178 101 34 = s174 101 34 by rw [hs178, up2_i (by decide)]).trans Of34_s174
        have Of1_s178 : s178 101 1 = τ 101 1 := (show s178 101 1 = s174 101 1 by rw [hs178, up2_i (by decide)]).trans Of1_s174
        have Of30_s178 : s178 101 30 = τ 101 30 := (show s178 101 30 = s174 101 30 by rw [hs178, up2_i (by decide)]).trans Of30_s174
        have m194 := wx_X4_18 Is178
        have e195 : (s178 101 18).toInt = ((s174 101 18) + (1 : Int32)).toInt := (show (s178 101 18).toInt = ((s174 101 18) + (1 : Int32)).toInt from congrArg Int32.toInt (by rw [hs178, up2_s]))
        have e196 : (s174 101 17).toInt = (s171 101 17).toInt := congrArg Int32.toInt (by rw [hs174, up2_i (by decide)])
        have e197 : (s178 101 17).toInt = (s174 101 17).toInt := congrArg Int32.toInt (by rw [hs178, up2_i (by decide)])
        have m198 := wx_X4_16 Is178
        have m199 := wx_X4_16 Is174
        have e200 : (s174 101 16).toInt = ((s171 101 16) + (0 : Int32)).toInt := (show (s174 101 16).toInt = ((s171 101 16) + (0 : Int32)).toInt from congrArg Int32.toInt (by rw [hs174, up2_s]))
        have e201 : (s178 101 16).toInt = (s174 101 16).toInt := congrArg Int32.toInt (by rw [hs178, up2_i (by decide)])
        exact sf_ret ⟨Is178, Fs178, Of15_s178, Of34_s178, Of1_s178, Of30_s178, trivial, (show (s178 101 18).toInt = (τ 101 18).toInt + 1 from by omega), (show (s178 101 17).toInt = 0 → (τ 101 16).toInt + 3 ≤ (s178 101 16).toInt from by omega)⟩
      have C82 : ¬ (s73 101 17).toInt = (0 : Int) := ti_ne c82
      exfalso; omega
    have C72 : ¬ (s70 101 17).toInt = (0 : Int) := ti_ne c72
    exfalso; omega
  have C18 : ¬ (s9 101 17).toInt = (0 : Int) := ti_ne c18
  rw [j_X4_readStatement_42_e]
  rw [j_X4_readStatement_47_e]
  refine sf_bz (by decide) ?_
  refine sf_lt (fun s202 hs202 => ?_)
  have Is202 : wiM s202 := by rw [hs202]; exact wm_fld Is9 (by decide) (by decide) (by decide) (by decide) (by decide) (by decide) (by decide)
  have Fs202 : ∀ k, k < 101 → s202 k = τ k := fun k hk => (show s202 k = s9 k by rw [hs202, up2_k (by omega)]).trans (Fs9 k hk)
  have Of15_s202 : s202 101 15 = τ 101 15 := (show s202 101 15 = s9 101 15 by rw [hs202, up2_i (by decide)]).trans Of15_s9
  have Of34_s202 : s202 101 34 = τ 101 34 := (show s202 101 34 = s9 101 34 by rw [hs202, up2_i (by decide)]).trans Of34_s9
  have Of1_s202 : s202 101 1 = τ 101 1 := (show s202 101 1 = s9 101 1 by rw [hs202, up2_i (by decide)]).trans Of1_s9
  have Of30_s202 : s202 101 30 = τ 101 30 := (show s202 101 30 = s9 101 30 by rw [hs202, up2_i (by decide)]).trans Of30_s9
  have Of18_s202 : s202 101 18 = τ 101 18 := (show s202 101 18 = s9 101 18 by rw [hs202, up2_i (by decide)]).trans Of18_s9
  have e203 : (s202 101 17).toInt = (1 : Int) := (show (s202 101 17).toInt = (1 : Int32).toInt from congrArg Int32.toInt (by rw [hs202, up2_s]))
  refine sf_ite (fun c204 => ?_) (fun c204 => ?_)
  · have C204 : (s202 101 17).toInt = (0 : Int) := ti_eq c204
    exfalso; omega
  have C204 : ¬ (s202 101 17).toInt = (0 : Int) := ti_ne c204
  rw [j_X4_readStatement_67_e]
  refine sf_lt (fun s205 hs205 => ?_)
  have m206 := wx_X4_16 Is202
  have m207 := wx_X4_16 Is9
  have m208 := wx_X4_16 Is8
  have e209 : (s8 101 16).toInt = (τ 101 16).toInt := congrArg Int32.toInt (by rw [hs8, up2_k (by omega)])
  have e210 : (s9 101 16).toInt = (s8 101 16).toInt := congrArg Int32.toInt (by rw [hs9, up2_k (by omega)])
  have e211 : (s202 101 16).toInt = (s9 101 16).toInt := congrArg Int32.toInt (by rw [hs202, up2_i (by decide)])
  have t212 : ((s202 101 16) + (0 : Int32)).toInt = (s202 101 16).toInt + (0 : Int) := ti_add (show -2147483648 ≤ (s202 101 16).toInt + (0 : Int) by omega) (show (s202 101 16).toInt + (0 : Int) ≤ 2147483647 by omega)
  have Is205 : wiM s205 := by rw [hs205]; exact wx_put_X4_16 Is202 (by omega) (by omega)
  have Fs205 : ∀ k, k < 101 → s205 k = τ k := fun k hk => (show s205 k = s202 k by rw [hs205, up2_k (by omega)]).trans (Fs202 k hk)
  have Of15_s205 : s205 101 15 = τ 101 15 := (show s205 101 15 = s202 101 15 by rw [hs205, up2_i (by decide)]).trans Of15_s202
  have Of34_s205 : s205 101 34 = τ 101 34 := (show s205 101 34 = s202 101 34 by rw [hs205, up2_i (by decide)]).trans Of34_s202
  have Of1_s205 : s205 101 1 = τ 101 1 := (show s205 101 1 = s202 101 1 by rw [hs205, up2_i (by decide)]).trans Of1_s202
  have Of30_s205 : s205 101 30 = τ 101 30 := (show s205 101 30 = s202 101 30 by rw [hs205, up2_i (by decide)]).trans Of30_s202
  have Of18_s205 : s205 101 18 = τ 101 18 := (show s205 101 18 = s202 101 18 by rw [hs205, up2_i (by decide)]).trans Of18_s202
  have e213 : (s205 101 17).toInt = (s202 101 17).toInt := congrArg Int32.toInt (by rw [hs205, up2_i (by decide)])
  refine sf_ite (fun c214 => ?_) (fun c214 => ?_)
  · have C214 : (s205 101 17).toInt = (0 : Int) := ti_eq c214
    exfalso; omega
  have C214 : ¬ (s205 101 17).toInt = (0 : Int) := ti_ne c214
  rw [j_X4_readStatement_86_e]
  refine sf_ite (fun c215 => ?_) (fun c215 => ?_)
  · have C215 : (s205 101 17).toInt = (0 : Int) := ti_eq c215
    exfalso; omega
  have C215 : ¬ (s205 101 17).toInt = (0 : Int) := ti_ne c215
  rw [j_X4_readStatement_103_e]
  rw [j_X4_readStatement_108_e]
  refine sf_bz (by decide) ?_
  refine sf_lt (fun s216 hs216 => ?_)
  have Is216 : wiM s216 := by rw [hs216]; exact wm_fld Is205 (by decide) (by decide) (by decide) (by decide) (by decide) (by decide) (by decide)
  have Fs216 : ∀ k, k < 101 → s216 k = τ k := fun k hk => (show s216 k = s205 k by rw [hs216, up2_k (by omega)]).trans (Fs205 k hk)
  have Of15_s216 : s216 101 15 = τ 101 15 := (show s216 101 15 = s205 101 15 by rw [hs216, up2_i (by decide)]).trans Of15_s205
  have Of34_s216 : s216 101 34 = τ 101 34 := (show s216 101 34 = s205 101 34 by rw [hs216, up2_i (by decide)]).trans Of34_s205
  have Of1_s216 : s216 101 1 = τ 101 1 := (show s216 101 1 = s205 101 1 by rw [hs216, up2_i (by decide)]).trans Of1_s205
  have Of30_s216 : s216 101 30 = τ 101 30 := (show s216 101 30 = s205 101 30 by rw [hs216, up2_i (by decide)]).trans Of30_s205
  have Of18_s216 : s216 101 18 = τ 101 18 := (show s216 101 18 = s205 101 18 by rw [hs216, up2_i (by decide)]).trans Of18_s205
  have e217 : (s216 101 17).toInt = (1 : Int) := (show (s216 101 17).toInt = (1 : Int32).toInt from congrArg Int32.toInt (by rw [hs216, up2_s]))
  refine sf_ite (fun c218 => ?_) (fun c218 => ?_)
  · have C218 : (s216 101 17).toInt = (0 : Int) := ti_eq c218
    exfalso; omega
  have C218 : ¬ (s216 101 17).toInt = (0 : Int) := ti_ne c218
  rw [j_X4_readStatement_128_e]
  refine sf_lt (fun s219 hs219 => ?_)
  have m220 := wx_X4_16 Is216
  have m221 := wx_X4_16 Is205
  have e222 : (s205 101 16).toInt = ((s202 101 16) + (0 : Int32)).toInt := (show (s205 101 16).toInt = ((s202 101 16) + (0 : Int32)).toInt from congrArg Int32.toInt (by rw [hs205, up2_s]))
  have e223 : (s216 101 16).toInt = (s205 101 16).toInt := congrArg Int32.toInt (by rw [hs216, up2_i (by decide)])
  have t224 : ((s216 101 16) + (0 : Int32)).toInt = (s216 101 16).toInt + (0 : Int) := ti_add (show -2147483648 ≤ (s216 101 16).toInt + (0 : Int) by omega) (show (s216 101 16).toInt + (0 : Int) ≤ 2147483647 by omega)
  have Is219 : wiM s219 := by rw [hs219]; exact wx_put_X4_16 Is216 (by omega) (by omega)
  have Fs219 : ∀ k, k < 101 → s219 k = τ k := fun k hk => (show s219 k = s216 k by rw [hs219, up2_k (by omega)]).trans (Fs216 k hk)
  have Of15_s219 : s219 101 15 = τ 101 15 := (show s219 101 15 = s216 101 15 by rw [hs219, up2_i (by decide)]).trans Of15_s216
  have Of34_s219 : s219 101 34 = τ 101 34 := (show s219 101 34 = s216 101 34 by rw [hs219, up2_i (by decide)]).trans Of34_s216
  have Of1_s219 : s219 101 1 = τ 101 1 := (show s219 101 1 = s216 101 1 by rw [hs219, up2_i (by decide)]).trans Of1_s216
  have Of30_s219 : s219 101 30 = τ 101 30 := (show s219 101 30 = s216 101 30 by rw [hs219, up2_i (by decide)]).trans Of30_s216
  have Of18_s219 : s219 101 18 = τ 101 18 := (show s219 101 18 = s216 101 18 by rw [hs219, up2_i (by decide)]).trans Of18_s216
  refine sf_lt (fun s225 hs225 => ?_)
  have m226 := wx_X4_18 Is219
  have m227 := wx_X4_18 Is216
  have m228 := wx_X4_18 Is205
  have m229 := wx_X4_18 Is202
  have m230 := wx_X4_18 Is9
  have m231 := wx_X4_18 Is8
  have e232 : (s8 101 18).toInt = (τ 101 18).toInt := congrArg Int32.toInt (by rw [hs8, up2_k (by omega)])
  have e233 : (s9 101 18).toInt = (s8 101 18).toInt := congrArg Int32.toInt (by rw [hs9, up2_k (by omega)])
  have e234 : (s202 101 18).toInt = (s9 101 18).toInt := congrArg Int32.toInt (by rw [hs202, up2_i (by decide)])
  have e235 : (s205 101 18).toInt = (s202 101 18).toInt := congrArg Int32.toInt (by rw [hs205, up2_i (by decide)])
  have e236 : (s216 101 18).toInt = (s205 101 18).toInt := congrArg Int32.toInt (by rw [hs216, up2_i (by decide)])
  have e237 : (s219 101 18).toInt = (s216 101 18).toInt := congrArg Int32.toInt (by rw [hs219, up2_i (by decide)])
  have t238 : ((s219 101 18) + (1 : Int32)).toInt = (s219 101 18).toInt + (1 : Int) := ti_add (show -2147483648 ≤ (s219 101 18).toInt + (1 : Int) by omega) (show (s219 101 18).toInt + (1 : Int) ≤ 2147483647 by omega)
  have Is225 : wiM s225 := by rw [hs225]; exact wx_put_X4_18 Is219 (by omega) (by omega)
  have Fs225 : ∀ k, k < 101 → s225 k = τ k := fun k hk => (show s225 k = s219 k by rw [hs225, up2_k (by omega)]).trans (Fs219 k hk)
  have Of15_s225 : s225 101 15 = τ 101 15 := (show s225 101 15 = s219 101 15 by rw [hs225, up2_i (by decide)]).trans Of15_s219
  have Of34_s225 : s225 101 34 = τ 101 34 := (show s225 101 34 = s219 101 34 by rw [hs225, up2_i (by decide)]).trans Of34_s219
  have Of1_s225 : s225 101 1 = τ 101 1 := (show s225 101 1 = s219 101 1 by rw [hs225, up2_i (by decide)]).trans Of1_s219
  have Of30_s225 : s225 101 30 = τ 101 30 := (show s225 101 30 = s219 101 30 by rw [hs225, up2_i (by decide)]).trans Of30_s219
  have m239 := wx_X4_18 Is225
  have e240 : (s225 101 18).toInt = ((s219 101 18) + (1 : Int32)).toInt := (show (s225 101 18).toInt = ((s219 101 18) + (1 : Int32)).toInt from congrArg Int32.toInt (by rw [hs225, up2_s]))
  have e241 : (s219 101 17).toInt = (s216 101 17).toInt := congrArg Int32.toInt (by rw [hs219, up2_i (by decide)])
  have e242 : (s225 101 17).toInt = (s219 101 17).toInt := congrArg Int32.toInt (by rw [hs225, up2_i (by decide)])
  have m243 := wx_X4_16 Is225
  have m244 := wx_X4_16 Is219
  have e245 : (s219 101 16).toInt = ((s216 101 16) + (0 : Int32)).toInt := (show (s219 101 16).toInt = ((s216 101 16) + (0 : Int32)).toInt from congrArg Int32.toInt (by rw [hs219, up2_s]))
  have e246 : (s225 101 16).toInt = (s219 101 16).toInt := congrArg Int32.toInt (by rw [hs225, up2_i (by decide)])
  exact sf_ret ⟨Is225, Fs225, Of15_s225, Of34_s225, Of1_s225, Of30_s225, trivial, (show (s225 101 18).toInt = (τ 101 18).toInt + 1 from by omega), (show (s225 101 17).toInt = 0 → (τ 101 16).toInt + 3 ≤ (s225 101 16).toInt from by omega)⟩
set_option maxHeartbeats 4000000 in
set_option maxRecDepth 100000 in
theorem sl_X4_lookerComes_52 {F : Nat} (hF : 73786976294838206464 ≤ F) {τ : Mem} : ∀ (N : Nat) (x3 : Int32) (σ : Mem), wiM σ → (∀ k, k < 101 → σ k = τ k) → σ 101 15 = τ 101 15 → σ 101 34 = τ 101 34 → σ 101 1 = τ 101 1 → σ 101 30 = τ 101 30 → σ 101 18 = τ 101 18 → 8 < x3.toInt + N → 0 ≤ x3.toInt → x3.toInt ≤ 8 → 0 ≤ (σ 101 3).toInt → (σ 101 3).toInt ≤ 4 → sf (lp_X4_lookerComes_52 F N x3 σ) (fun _ s => wiM s ∧ (∀ k, k < 101 → s k = τ k) ∧ s 101 15 = τ 101 15 ∧ s 101 34 = τ 101 34 ∧ s 101 1 = τ 101 1 ∧ s 101 30 = τ 101 30 ∧ s 101 18 = τ 101 18 ∧ True) := by
  intro N
  induction N with
  | zero => intro x3 σ hI Fσ Of15_σ Of34_σ Of1_σ Of30_σ Of18_σ hN x3_1 x3_2 mf0_1 mf0_2; exfalso; omega
  | succ N ih =>
    intro x3 σ hI Fσ Of15_σ Of34_σ Of1_σ Of30_σ Of18_σ hN x3_1 x3_2 mf0_1 mf0_2
    rw [lp_X4_lookerComes_52_s]
    refine sf_ite (fun c1 => ?_) (fun c1 => ?_)
    · have C1 : (8 : Int) ≤ x3.toInt := ti_le c1
      refine sf_lt (fun s2 hs2 => ?_)
      have m3 := wx_X4_3 hI
      have t4 : ((σ 101 3) + (1 : Int32)).toInt = (σ 101 3).toInt + (1 : Int) := ti_add (show -2147483648 ≤ (σ 101 3).toInt + (1 : Int) by omega) (show (σ 101 3).toInt + (1 : Int) ≤ 2147483647 by omega)
      have Is2 : wiM s2 := by rw [hs2]; exact wx_put_X4_3 hI (by omega) (by omega)
      have Fs2 : ∀ k, k < 101 → s2 k = τ k := fun k hk => (show s2 k = σ k by rw [hs2, up2_k (by omega)]).trans (Fσ k hk)
      have Of15_s2 : s2 101 15 = τ 101 15 := (show s2 101 15 = σ 101 15 by rw [hs2, up2_i (by decide)]).trans Of15_σ
      have Of34_s2 : s2 101 34 = τ 101 34 := (show s2 101 34 = σ 101 34 by rw [hs2, up2_i (by decide)]).trans Of34_σ
      have Of1_s2 : s2 101 1 = τ 101 1 := (show s2 101 1 = σ 101 1 by rw [hs2, up2_i (by decide)]).trans Of1_σ
      have Of30_s2 : s2 101 30 = τ 101 30 := (show s2 101 30 = σ 101 30 by rw [hs2, up2_i (by decide)]).trans Of30_σ
      have Of18_s2 : s2 101 18 = τ 101 18 := (show s2 101 18 = σ 101 18 by rw [hs2, up2_i (by decide)]).trans Of18_σ
      exact sf_ret ⟨Is2, Fs2, Of15_s2, Of34_s2, Of1_s2, Of30_s2, Of18_s2, trivial⟩
    have C1 : x3.toInt < (8 : Int) := ti_nle c1
    have m5 := wx_X4_3 hI
    have t6 : ((8 : Int32) * (σ 101 3)).toInt = (8 : Int) * (σ 101 3).toInt := ti_mul (show -2147483648 ≤ (8 : Int) * (σ 101 3).toInt by omega) (show (8 : Int) * (σ 101 3).toInt ≤ 2147483647 by omega)
    have t7 : (((8 : Int32) * (σ 101 3)) + x3).toInt = ((8 : Int32) * (σ 101 3)).toInt + x3.toInt := ti_add (show -2147483648 ≤ ((8 : Int32) * (σ 101 3)).toInt + x3.toInt by omega) (show ((8 : Int32) * (σ 101 3)).toInt + x3.toInt ≤ 2147483647 by omega)
    refine sf_chk (ti_in (by omega) (by omega)) ?_
    have v8 : Int32.toNatClampNeg (((8 : Int32) * (σ 101 3)) + x3) = (((8 : Int32) * (σ 101 3)) + x3).toInt.toNat := rfl
    refine sf_lt (fun s9 hs9 => ?_)
    have Is9 : wiM s9 := by rw [hs9]; exact wm_oth hI (by decide) (by decide) (by decide) (by decide)
    have Fs9 : ∀ k, k < 101 → s9 k = τ k := fun k hk => (show s9 k = σ k by rw [hs9, up2_k (by omega)]).trans (Fσ k hk)
    have Of15_s9 : s9 101 15 = τ 101 15 := (show s9 101 15 = σ 101 15 by rw [hs9, up2_k (by omega)]).trans Of15_σ
    have Of34_s9 : s9 101 34 = τ 101 34 := (show s9 101 34 = σ 101 34 by rw [hs9, up2_k (by omega)]).trans Of34_σ
    have Of1_s9 : s9 101 1 = τ 101 1 := (show s9 101 1 = σ 101 1 by rw [hs9, up2_k (by omega)]).trans Of1_σ
    have Of30_s9 : s9 101 30 = τ 101 30 := (show s9 101 30 = σ 101 30 by rw [hs9, up2_k (by omega)]).trans Of30_σ
    have Of18_s9 : s9 101 18 = τ 101 18 := (show s9 101 18 = σ 101 18 by rw [hs9, up2_k (by omega)]).trans Of18_σ
    have t10 : (x3 + (1 : Int32)).toInt = x3.toInt + (1 : Int) := ti_add (show -2147483648 ≤ x3.toInt + (1 : Int) by omega) (show x3.toInt + (1 : Int) ≤ 2147483647 by omega)
    have m11 := wx_X4_3 Is9
    have e12 : (s9 101 3).toInt = (σ 101 3).toInt := congrArg Int32.toInt (by rw [hs9, up2_k (by omega)])
    exact ih _ _ Is9 Fs9 Of15_s9 Of34_s9 Of1_s9 Of30_s9 Of18_s9 (by omega) (by omega) (by omega) (by omega) (by omega)
set_option maxHeartbeats 4000000 in
set_option maxRecDepth 100000 in
theorem sl_X4_lookerComes_22 {F : Nat} (hF : 73786976294838206464 ≤ F) {τ : Mem} : ∀ (N : Nat) (x3 : Int32) (σ : Mem), wiM σ → (∀ k, k < 101 → σ k = τ k) → σ 101 15 = τ 101 15 → σ 101 34 = τ 101 34 → σ 101 1 = τ 101 1 → σ 101 30 = τ 101 30 → σ 101 18 = τ 101 18 → 24 < x3.toInt + N → 0 ≤ x3.toInt → x3.toInt ≤ 24 → 0 ≤ (σ 101 3).toInt → (σ 101 3).toInt ≤ 4 → sf (lp_X4_lookerComes_22 F N x3 σ) (fun _ s => wiM s ∧ (∀ k, k < 101 → s k = τ k) ∧ s 101 15 = τ 101 15 ∧ s 101 34 = τ 101 34 ∧ s 101 1 = τ 101 1 ∧ s 101 30 = τ 101 30 ∧ s 101 18 = τ 101 18 ∧ True) := by
  intro N
  induction N with
  | zero => intro x3 σ hI Fσ Of15_σ Of34_σ Of1_σ Of30_σ Of18_σ hN x3_1 x3_2 mf0_1 mf0_2; exfalso; omega
  | succ N ih =>
    intro x3 σ hI Fσ Of15_σ Of34_σ Of1_σ Of30_σ Of18_σ hN x3_1 x3_2 mf0_1 mf0_2
    rw [lp_X4_lookerComes_22_s]
    refine sf_ite (fun c1 => ?_) (fun c1 => ?_)
    · have C1 : (24 : Int) ≤ x3.toInt := ti_le c1
      have m2 := wx_X4_3 hI
      have l_0 : (0 : Int32).toInt = 0 := rfl
      exact sl_X4_lookerComes_52 hF _ _ _ hI Fσ Of15_σ Of34_σ Of1_σ Of30_σ Of18_σ (by omega) (by decide) (by decide) (by omega) (by omega)
    have C1 : x3.toInt < (24 : Int) := ti_nle c1
    have m3 := wx_X4_3 hI
    have t4 : ((24 : Int32) * (σ 101 3)).toInt = (24 : Int) * (σ 101 3).toInt := ti_mul (show -2147483648 ≤ (24 : Int) * (σ 101 3).toInt by omega) (show (24 : Int) * (σ 101 3).toInt ≤ 2147483647 by omega)
    have t5 : (((24 : Int32) * (σ 101 3)) + x3).toInt = ((24 : Int32) * (σ 101 3)).toInt + x3.toInt := ti_add (show -2147483648 ≤ ((24 : Int32) * (σ 101 3)).toInt + x3.toInt by omega) (show ((24 : Int32) * (σ 101 3)).toInt + x3.toInt ≤ 2147483647 by omega)
    refine sf_chk (ti_in (by omega) (by omega)) ?_
    have v6 : Int32.toNatClampNeg (((24 : Int32) * (σ 101 3)) + x3) = (((24 : Int32) * (σ 101 3)) + x3).toInt.toNat := rfl
    refine sf_lt (fun s7 hs7 => ?_)
    have Is7 : wiM s7 := by rw [hs7]; exact wx_put_106 hI (by decide) (by decide)
    have Fs7 : ∀ k, k < 101 → s7 k = τ k := fun k hk => (show s7 k = σ k by rw [hs7, up2_k (by omega)]).trans (Fσ k hk)
    have Of15_s7 : s7 101 15 = τ 101 15 := (show s7 101 15 = σ 101 15 by rw [hs7, up2_k (by omega)]).trans Of15_σ
    have Of34_s7 : s7 101 34 = τ 101 34 := (show s7 101 34 = σ 101 34 by rw [hs7, up2_k (by omega)]).trans Of34_σ
    have Of1_s7 : s7 101 1 = τ 101 1 := (show s7 101 1 = σ 101 1 by rw [hs7, up2_k (by omega)]).trans Of1_σ
    have Of30_s7 : s7 101 30 = τ 101 30 := (show s7 101 30 = σ 101 30 by rw [hs7, up2_k (by omega)]).trans Of30_σ
    have Of18_s7 : s7 101 18 = τ 101 18 := (show s7 101 18 = σ 101 18 by rw [hs7, up2_k (by omega)]).trans Of18_σ
    have t8 : (x3 + (1 : Int32)).toInt = x3.toInt + (1 : Int) := ti_add (show -2147483648 ≤ x3.toInt + (1 : Int) by omega) (show x3.toInt + (1 : Int) ≤ 2147483647 by omega)
    have m9 := wx_X4_3 Is7
    have e10 : (s7 101 3).toInt = (σ 101 3).toInt := congrArg Int32.toInt (by rw [hs7, up2_k (by omega)])
    exact ih _ _ Is7 Fs7 Of15_s7 Of34_s7 Of1_s7 Of30_s7 Of18_s7 (by omega) (by omega) (by omega) (by omega) (by omega)
set_option maxHeartbeats 4000000 in
set_option maxRecDepth 100000 in
theorem s_X4_lookerComes {F : Nat} (hF : 73786976294838206464 ≤ F) {x1 : Int32} {x2 : Int32} {τ : Mem} (hI : wiM τ) (x1_1 : 0 ≤ x1.toInt) (x1_2 : x1.toInt ≤ 5) (x2_1 : 0 ≤ x2.toInt) (x2_2 : x2.toInt ≤ 999) (xp0 : (τ 101 3).toInt ≤ 4) : sf (f_X4_lookerComes F x1 x2 τ) (fun _ s => wiM s ∧ (∀ k, k < 101 → s k = τ k) ∧ s 101 15 = τ 101 15 ∧ s 101 34 = τ 101 34 ∧ s 101 1 = τ 101 1 ∧ s 101 30 = τ 101 30 ∧ s 101 18 = τ 101 18 ∧ True) := by
  have Fτ : ∀ k, k < 101 → τ k = τ k := fun _ _ => rfl
  have Of15_τ : τ 101 15 = τ 101 15 := rfl
  have Of34_τ : τ 101 34 = τ 101 34 := rfl
  have Of1_τ : τ 101 1 = τ 101 1 := rfl
  have Of30_τ : τ 101 30 = τ 101 30 := rfl
  have Of18_τ : τ 101 18 = τ 101 18 := rfl
  rw [f_X4_lookerComes_e]
  have m1 := wx_X4_3 hI
  refine sf_chk (ti_in (by omega) (by omega)) ?_
  have v2 : Int32.toNatClampNeg (τ 101 3) = (τ 101 3).toInt.toNat := rfl
  refine sf_lt (fun s3 hs3 => ?_)
  have Is3 : wiM s3 := by rw [hs3]; exact wm_oth hI (by decide) (by decide) (by decide) (by decide)
  have Fs3 : ∀ k, k < 101 → s3 k = τ k := fun k hk => (show s3 k = τ k by rw [hs3, up2_k (by omega)]).trans (Fτ k hk)
  have Of15_s3 : s3 101 15 = τ 101 15 := (show s3 101 15 = τ 101 15 by rw [hs3, up2_k (by omega)]).trans Of15_τ
  have Of34_s3 : s3 101 34 = τ 101 34 := (show s3 101 34 = τ 101 34 by rw [hs3, up2_k (by omega)]).trans Of34_τ
  have Of1_s3 : s3 101 1 = τ 101 1 := (show s3 101 1 = τ 101 1 by rw [hs3, up2_k (by omega)]).trans Of1_τ
  have Of30_s3 : s3 101 30 = τ 101 30 := (show s3 101 30 = τ 101 30 by rw [hs3, up2_k (by omega)]).trans Of30_τ
  have Of18_s3 : s3 101 18 = τ 101 18 := (show s3 101 18 = τ 101 18 by rw [hs3, up2_k (by omega)]).trans Of18_τ
  have m4 := wx_X4_3 Is3
  have e5 : (s3 101 3).toInt = (τ 101 3).toInt := congrArg Int32.toInt (by rw [hs3, up2_k (by omega)])
  refine sf_chk (ti_in (by omega) (by omega)) ?_
  have v6 : Int32.toNatClampNeg (s3 101 3) = (s3 101 3).toInt.toNat := rfl
  refine sf_lt (fun s7 hs7 => ?_)
  have Is7 : wiM s7 := by rw [hs7]; exact wm_oth Is3 (by decide) (by decide) (by decide) (by decide)
  have Fs7 : ∀ k, k < 101 → s7 k = τ k := fun k hk => (show s7 k = s3 k by rw [hs7, up2_k (by omega)]).trans (Fs3 k hk)
  have Of15_s7 : s7 101 15 = τ 101 15 := (show s7 101 15 = s3 101 15 by rw [hs7, up2_k (by omega)]).trans Of15_s3
  have Of34_s7 : s7 101 34 = τ 101 34 := (show s7 101 34 = s3 101 34 by rw [hs7, up2_k (by omega)]).trans Of34_s3
  have Of1_s7 : s7 101 1 = τ 101 1 := (show s7 101 1 = s3 101 1 by rw [hs7, up2_k (by omega)]).trans Of1_s3
  have Of30_s7 : s7 101 30 = τ 101 30 := (show s7 101 30 = s3 101 30 by rw [hs7, up2_k (by omega)]).trans Of30_s3
  have Of18_s7 : s7 101 18 = τ 101 18 := (show s7 101 18 = s3 101 18 by rw [hs7, up2_k (by omega)]).trans Of18_s3
  have m8 := wx_X4_3 Is7
  have e9 : (s7 101 3).toInt = (s3 101 3).toInt := congrArg Int32.toInt (by rw [hs7, up2_k (by omega)])
  have l_0 : (0 : Int32).toInt = 0 := rfl
  exact sl_X4_lookerComes_22 hF _ _ _ Is7 Fs7 Of15_s7 Of34_s7 Of1_s7 Of30_s7 Of18_s7 (by omega) (by decide) (by decide) (by omega) (by omega)
set_option maxHeartbeats 4000000 in
set_option maxRecDepth 100000 in
theorem sl_X4_stand_3 {F : Nat} (hF : 73786976294838206464 ≤ F) {x1 : Int32} {x3 : Int32} {x4 : Int32} {τ : Mem} (x1_1 : 0 ≤ x1.toInt) (x1_2 : x1.toInt ≤ 4) (x3_1 : 0 ≤ x3.toInt) (x3_2 : x3.toInt ≤ 23) : ∀ (N : Nat) (x5 : Int32) (σ : Mem), wiM σ → (∀ k, k < 101 → σ k = τ k) → σ 101 15 = τ 101 15 → σ 101 34 = τ 101 34 → σ 101 1 = τ 101 1 → σ 101 30 = τ 101 30 → σ 101 18 = τ 101 18 → 1000 < x5.toInt + N → 0 ≤ x5.toInt → x5.toInt ≤ 1000 → (x4.toInt = 9 ∨ (0 ≤ x4.toInt ∧ x4.toInt ≤ 5)) → sf (lp_X4_stand_3 F x1 x3 x4 N x5 σ) (fun _ s => wiM s ∧ (∀ k, k < 101 → s k = τ k) ∧ s 101 15 = τ 101 15 ∧ s 101 34 = τ 101 34 ∧ s 101 1 = τ 101 1 ∧ s 101 30 = τ 101 30 ∧ s 101 18 = τ 101 18 ∧ True) := by
  intro N
  induction N with
  | zero => intro x5 σ hI Fσ Of15_σ Of34_σ Of1_σ Of30_σ Of18_σ hN x5_1 x5_2 xl0; exfalso; omega
  | succ N ih =>
    intro x5 σ hI Fσ Of15_σ Of34_σ Of1_σ Of30_σ Of18_σ hN x5_1 x5_2 xl0
    rw [lp_X4_stand_3_s]
    refine sf_ite (fun c1 => ?_) (fun c1 => ?_)
    · have C1 : x3.toInt < x5.toInt := ti_lt c1
      exact sf_ret ⟨hI, Fσ, Of15_σ, Of34_σ, Of1_σ, Of30_σ, Of18_σ, trivial⟩
    have C1 : x5.toInt ≤ x3.toInt := ti_nlt c1
    have b2 := ti_lo x4
    have b3 := ti_hi x4
    refine sf_ite (fun c4 => ?_) (fun c4 => ?_)
    · have C4 : x4.toInt = (9 : Int) := ti_eq c4
      rw [j_X4_stand_34_e]
      have t5 : ((24 : Int32) * x1).toInt = (24 : Int) * x1.toInt := ti_mul (show -2147483648 ≤ (24 : Int) * x1.toInt by omega) (show (24 : Int) * x1.toInt ≤ 2147483647 by omega)
      have t6 : (((24 : Int32) * x1) + x5).toInt = ((24 : Int32) * x1).toInt + x5.toInt := ti_add (show -2147483648 ≤ ((24 : Int32) * x1).toInt + x5.toInt by omega) (show ((24 : Int32) * x1).toInt + x5.toInt ≤ 2147483647 by omega)
      refine sf_chk (ti_in (by omega) (by omega)) ?_
      have v7 : Int32.toNatClampNeg (((24 : Int32) * x1) + x5) = (((24 : Int32) * x1) + x5).toInt.toNat := rfl
      refine sf_lt (fun s8 hs8 => ?_)
      have Is8 : wiM s8 := by rw [hs8]; exact wx_put_106 hI (by decide) (by decide)
      have Fs8 : ∀ k, k < 101 → s8 k = τ k := fun k hk => (show s8 k = σ k by rw [hs8, up2_k (by omega)]).trans (Fσ k hk)
      have Of15_s8 : s8 101 15 = τ 101 15 := (show s8 101 15 = σ 101 15 by rw [hs8, up2_k (by omega)]).trans Of15_σ
      have Of34_s8 : s8 101 34 = τ 101 34 := (show s8 101 34 = σ 101 34 by rw [hs8, up2_k (by omega)]).trans Of34_σ
      have Of1_s8 : s8 101 1 = τ 101 1 := (show s8 101 1 = σ 101 1 by rw [hs8, up2_k (by omega)]).trans Of1_σ
      have Of30_s8 : s8 101 30 = τ 101 30 := (show s8 101 30 = σ 101 30 by rw [hs8, up2_k (by omega)]).trans Of30_σ
      have Of18_s8 : s8 101 18 = τ 101 18 := (show s8 101 18 = σ 101 18 by rw [hs8, up2_k (by omega)]).trans Of18_σ
      have t9 : (x5 + (1 : Int32)).toInt = x5.toInt + (1 : Int) := ti_add (show -2147483648 ≤ x5.toInt + (1 : Int) by omega) (show x5.toInt + (1 : Int) ≤ 2147483647 by omega)
      exact ih _ _ Is8 Fs8 Of15_s8 Of34_s8 Of1_s8 Of30_s8 Of18_s8 (by omega) (by omega) (by omega) (show x4.toInt = 9 ∨ (0 ≤ x4.toInt ∧ x4.toInt ≤ 5) from by omega)
    have C4 : ¬ x4.toInt = (9 : Int) := ti_ne c4
    rw [j_X4_stand_34_e]
    have t10 : ((24 : Int32) * x1).toInt = (24 : Int) * x1.toInt := ti_mul (show -2147483648 ≤ (24 : Int) * x1.toInt by omega) (show (24 : Int) * x1.toInt ≤ 2147483647 by omega)
    have t11 : (((24 : Int32) * x1) + x5).toInt = ((24 : Int32) * x1).toInt + x5.toInt := ti_add (show -2147483648 ≤ ((24 : Int32) * x1).toInt + x5.toInt by omega) (show ((24 : Int32) * x1).toInt + x5.toInt ≤ 2147483647 by omega)
    refine sf_chk (ti_in (by omega) (by omega)) ?_
    have v12 : Int32.toNatClampNeg (((24 : Int32) * x1) + x5) = (((24 : Int32) * x1) + x5).toInt.toNat := rfl
    refine sf_lt (fun s13 hs13 => ?_)
    have Is13 : wiM s13 := by rw [hs13]; exact wx_put_106 hI (by omega) (by omega)
    have Fs13 : ∀ k, k < 101 → s13 k = τ k := fun k hk => (show s13 k = σ k by rw [hs13, up2_k (by omega)]).trans (Fσ k hk)
    have Of15_s13 : s13 101 15 = τ 101 15 := (show s13 101 15 = σ 101 15 by rw [hs13, up2_k (by omega)]).trans Of15_σ
    have Of34_s13 : s13 101 34 = τ 101 34 := (show s13 101 34 = σ 101 34 by rw [hs13, up2_k (by omega)]).trans Of34_σ
    have Of1_s13 : s13 101 1 = τ 101 1 := (show s13 101 1 = σ 101 1 by rw [hs13, up2_k (by omega)]).trans Of1_σ
    have Of30_s13 : s13 101 30 = τ 101 30 := (show s13 101 30 = σ 101 30 by rw [hs13, up2_k (by omega)]).trans Of30_σ
    have Of18_s13 : s13 101 18 = τ 101 18 := (show s13 101 18 = σ 101 18 by rw [hs13, up2_k (by omega)]).trans Of18_σ
    have t14 : (x5 + (1 : Int32)).toInt = x5.toInt + (1 : Int) := ti_add (show -2147483648 ≤ x5.toInt + (1 : Int) by omega) (show x5.toInt + (1 : Int) ≤ 2147483647 by omega)
    exact ih _ _ Is13 Fs13 Of15_s13 Of34_s13 Of1_s13 Of30_s13 Of18_s13 (by omega) (by omega) (by omega) (show x4.toInt = 9 ∨ (0 ≤ x4.toInt ∧ x4.toInt ≤ 5) from by omega)
set_option maxHeartbeats 4000000 in
set_option maxRecDepth 100000 in
theorem s_X4_stand {F : Nat} (hF : 73786976294838206464 ≤ F) {x1 : Int32} {x2 : Int32} {x3 : Int32} {x4 : Int32} {τ : Mem} (hI : wiM τ) (x1_1 : 0 ≤ x1.toInt) (x1_2 : x1.toInt ≤ 4) (x2_1 : 0 ≤ x2.toInt) (x2_2 : x2.toInt ≤ 999) (x3_1 : 0 ≤ x3.toInt) (x3_2 : x3.toInt ≤ 23) (xp0 : x4.toInt = 9 ∨ (0 ≤ x4.toInt ∧ x4.toInt ≤ 5)) : sf (f_X4_stand F x1 x2 x3 x4 τ) (fun _ s => wiM s ∧ (∀ k, k < 101 → s k = τ k) ∧ s 101 15 = τ 101 15 ∧ s 101 34 = τ 101 34 ∧ s 101 1 = τ 101 1 ∧ s 101 30 = τ 101 30 ∧ s 101 18 = τ 101 18 ∧ True) := by
  have Fτ : ∀ k, k < 101 → τ k = τ k := fun _ _ => rfl
  have Of15_τ : τ 101 15 = τ 101 15 := rfl
  have Of34_τ : τ 101 34 = τ 101 34 := rfl
  have Of1_τ : τ 101 1 = τ 101 1 := rfl
  have Of30_τ : τ 101 30 = τ 101 30 := rfl
  have Of18_τ : τ 101 18 = τ 101 18 := rfl
  rw [f_X4_stand_e]
  have b1 := ti_lo x4
  have b2 := ti_hi x4
  exact sl_X4_stand_3 hF (by omega) (by omega) (by omega) (by omega) _ _ _ hI Fτ Of15_τ Of34_τ Of1_τ Of30_τ Of18_τ (by omega) (by omega) (by omega) (show x4.toInt = 9 ∨ (0 ≤ x4.toInt ∧ x4.toInt ≤ 5) from by omega)
set_option maxHeartbeats 4000000 in
set_option maxRecDepth 100000 in
theorem s_X4_comesTold {F : Nat} (hF : 73786976294838206464 ≤ F) {x1 : Int32} {τ : Mem} (hI : wiM τ) (x1_1 : 0 ≤ x1.toInt) (x1_2 : x1.toInt ≤ 47) : sf (f_X4_comesTold F x1 τ) (fun r s => wiM s ∧ (∀ k, k < 101 → s k = τ k) ∧ s 101 15 = τ 101 15 ∧ s 101 34 = τ 101 34 ∧ s 101 30 = τ 101 30 ∧ s 101 18 = τ 101 18 ∧ 0 ≤ r.toInt ∧ r.toInt ≤ 1) := by
  have Fτ : ∀ k, k < 101 → τ k = τ k := fun _ _ => rfl
  have Of15_τ : τ 101 15 = τ 101 15 := rfl
  have Of34_τ : τ 101 34 = τ 101 34 := rfl
  have Of1_τ : τ 101 1 = τ 101 1 := rfl
  have Of30_τ : τ 101 30 = τ 101 30 := rfl
  have Of18_τ : τ 101 18 = τ 101 18 := rfl
  rw [f_X4_comesTold_e]
  have t1 : ((4 : Int32) * x1).toInt = (4 : Int) * x1.toInt := ti_mul (show -2147483648 ≤ (4 : Int) * x1.toInt by omega) (show (4 : Int) * x1.toInt ≤ 2147483647 by omega)
  refine sf_chk (ti_in (by omega) (by omega)) ?_
  have v2 : Int32.toNatClampNeg ((4 : Int32) * x1) = ((4 : Int32) * x1).toInt.toNat := rfl
  have m4 := wx_114 hI (Int32.toNatClampNeg ((4 : Int32) * x1))
  refine sf_lt (fun z3 hz3 => ?_)
  have hz3_ : z3.toInt = (τ 114 (Int32.toNatClampNeg ((4 : Int32) * x1))).toInt := (show z3.toInt = (τ 114 (Int32.toNatClampNeg ((4 : Int32) * x1))).toInt from congrArg Int32.toInt hz3)
  have t5 : (((4 : Int32) * x1) + (1 : Int32)).toInt = ((4 : Int32) * x1).toInt + (1 : Int) := ti_add (show -2147483648 ≤ ((4 : Int32) * x1).toInt + (1 : Int) by omega) (show ((4 : Int32) * x1).toInt + (1 : Int) ≤ 2147483647 by omega)
  refine sf_chk (ti_in (by omega) (by omega)) ?_
  have v6 : Int32.toNatClampNeg (((4 : Int32) * x1) + (1 : Int32)) = (((4 : Int32) * x1) + (1 : Int32)).toInt.toNat := rfl
  have m8 := wx_114 hI (Int32.toNatClampNeg (((4 : Int32) * x1) + (1 : Int32)))
  refine sf_lt (fun z7 hz7 => ?_)
  have hz7_ : z7.toInt = (τ 114 (Int32.toNatClampNeg (((4 : Int32) * x1) + (1 : Int32)))).toInt := (show z7.toInt = (τ 114 (Int32.toNatClampNeg (((4 : Int32) * x1) + (1 : Int32)))).toInt from congrArg Int32.toInt hz7)
  have t9 : (((4 : Int32) * x1) + (2 : Int32)).toInt = ((4 : Int32) * x1).toInt + (2 : Int) := ti_add (show -2147483648 ≤ ((4 : Int32) * x1).toInt + (2 : Int) by omega) (show ((4 : Int32) * x1).toInt + (2 : Int) ≤ 2147483647 by omega)
  refine sf_chk (ti_in (by omega) (by omega)) ?_
  have v10 : Int32.toNatClampNeg (((4 : Int32) * x1) + (2 : Int32)) = (((4 : Int32) * x1) + (2 : Int32)).toInt.toNat := rfl
  have m12 := wx_114 hI (Int32.toNatClampNeg (((4 : Int32) * x1) + (2 : Int32)))
  refine sf_lt (fun z11 hz11 => ?_)
  have hz11_ : z11.toInt = (τ 114 (Int32.toNatClampNeg (((4 : Int32) * x1) + (2 : Int32)))).toInt := (show z11.toInt = (τ 114 (Int32.toNatClampNeg (((4 : Int32) * x1) + (2 : Int32)))).toInt from congrArg Int32.toInt hz11)
  have t13 : (((4 : Int32) * x1) + (3 : Int32)).toInt = ((4 : Int32) * x1).toInt + (3 : Int) := ti_add (show -2147483648 ≤ ((4 : Int32) * x1).toInt + (3 : Int) by omega) (show ((4 : Int32) * x1).toInt + (3 : Int) ≤ 2147483647 by omega)
  refine sf_chk (ti_in (by omega) (by omega)) ?_
  have v14 : Int32.toNatClampNeg (((4 : Int32) * x1) + (3 : Int32)) = (((4 : Int32) * x1) + (3 : Int32)).toInt.toNat := rfl
  have m16 := wx_114 hI (Int32.toNatClampNeg (((4 : Int32) * x1) + (3 : Int32)))
  refine sf_lt (fun z15 hz15 => ?_)
  have hz15_ : z15.toInt = (τ 114 (Int32.toNatClampNeg (((4 : Int32) * x1) + (3 : Int32)))).toInt := (show z15.toInt = (τ 114 (Int32.toNatClampNeg (((4 : Int32) * x1) + (3 : Int32)))).toInt from congrArg Int32.toInt hz15)
  refine sf_chk (ti_in (by omega) (by omega)) ?_
  have v17 : Int32.toNatClampNeg x1 = x1.toInt.toNat := rfl
  have b18 := ti_lo (τ 113 (Int32.toNatClampNeg x1))
  have b19 := ti_hi (τ 113 (Int32.toNatClampNeg x1))
  refine sf_ite (fun c20 => ?_) (fun c20 => ?_)
  · have C20 : (τ 113 (Int32.toNatClampNeg x1)).toInt = (108 : Int) := ti_eq c20
    refine sf_ite (fun c21 => ?_) (fun c21 => ?_)
    · have C21 : (6 : Int) ≤ z3.toInt := ti_le c21
      rw [j_X4_comesTold_185_e]
      rw [j_X4_comesTold_186_e]
      refine sf_ite (fun c22 => ?_) (fun c22 => ?_)
      · have C22 : (0 : Int) = (0 : Int) := ti_eq c22
        rw [j_X4_comesTold_199_e]
        refine sf_bz (by decide) ?_
        exact sf_ret ⟨hI, Fτ, Of15_τ, Of34_τ, Of30_τ, Of18_τ, by decide, by decide⟩
      have C22 : ¬ (0 : Int) = (0 : Int) := ti_ne c22
      exfalso; omega
    have C21 : z3.toInt < (6 : Int) := ti_nle c21
    have m23 := wx_X4_3 hI
    refine sf_ite (fun c24 => ?_) (fun c24 => ?_)
    · have C24 : (5 : Int) ≤ (τ 101 3).toInt := ti_le c24
      rw [j_X4_comesTold_185_e]
      rw [j_X4_comesTold_186_e]
      refine sf_ite (fun c25 => ?_) (fun c25 => ?_)
      · have C25 : (0 : Int) = (0 : Int) := ti_eq c25
        rw [j_X4_comesTold_199_e]
        refine sf_bz (by decide) ?_
        exact sf_ret ⟨hI, Fτ, Of15_τ, Of34_τ, Of30_τ, Of18_τ, by decide, by decide⟩
      have C25 : ¬ (0 : Int) = (0 : Int) := ti_ne c25
      exfalso; omega
    have C24 : (τ 101 3).toInt < (5 : Int) := ti_nle c24
    rw [j_X4_comesTold_186_e]
    refine sf_ite (fun c26 => ?_) (fun c26 => ?_)
    · have C26 : (1 : Int) = (0 : Int) := ti_eq c26
      exfalso; omega
    have C26 : ¬ (1 : Int) = (0 : Int) := ti_ne c26
    refine sf_bnd (s_X4_lookerComes hF hI (by omega) (by omega) (by omega) (by omega) (by first | omega | decide)) (fun r27 u28 p29 => ?_)
    obtain ⟨Iu28, Fu28_, Of15_u28_, Of34_u28_, Of1_u28_, Of30_u28_, Of18_u28_, -⟩ := p29
    have Fu28 : ∀ k, k < 101 → u28 k = τ k := fun k hk => (Fu28_ k hk).trans (Fτ k hk)
    have Of15_u28 : u28 101 15 = τ 101 15 := Of15_u28_.trans Of15_τ
    have Of34_u28 : u28 101 34 = τ 101 34 := Of34_u28_.trans Of34_τ
    have Of1_u28 : u28 101 1 = τ 101 1 := Of1_u28_.trans Of1_τ
    have Of30_u28 : u28 101 30 = τ 101 30 := Of30_u28_.trans Of30_τ
    have Of18_u28 : u28 101 18 = τ 101 18 := Of18_u28_.trans Of18_τ
    rw [j_X4_comesTold_199_e]
    refine sf_bz (by decide) ?_
    exact sf_ret ⟨Iu28, Fu28, Of15_u28, Of34_u28, Of30_u28, Of18_u28, by decide, by decide⟩
  have C20 : ¬ (τ 113 (Int32.toNatClampNeg x1)).toInt = (108 : Int) := ti_ne c20
  refine sf_ite (fun c30 => ?_) (fun c30 => ?_)
  · have C30 : (τ 113 (Int32.toNatClampNeg x1)).toInt = (112 : Int) := ti_eq c30
    refine sf_ite (fun c31 => ?_) (fun c31 => ?_)
    · have C31 : (255 : Int) < z3.toInt := ti_lt c31
      rw [j_X4_comesTold_136_e]
      rw [j_X4_comesTold_137_e]
      refine sf_ite (fun c32 => ?_) (fun c32 => ?_)
      · have C32 : (0 : Int) = (0 : Int) := ti_eq c32
        rw [j_X4_comesTold_164_e]
        refine sf_bz (by decide) ?_
        exact sf_ret ⟨hI, Fτ, Of15_τ, Of34_τ, Of30_τ, Of18_τ, by decide, by decide⟩
      have C32 : ¬ (0 : Int) = (0 : Int) := ti_ne c32
      exfalso; omega
    have C31 : z3.toInt ≤ (255 : Int) := ti_nlt c31
    have m33 := wx_X4_1 hI
    refine sf_ite (fun c34 => ?_) (fun c34 => ?_)
    · have C34 : (6 : Int) ≤ (τ 101 1).toInt := ti_le c34
      rw [j_X4_comesTold_136_e]
      rw [j_X4_comesTold_137_e]
      refine sf_ite (fun c35 => ?_) (fun c35 => ?_)
      · have C35 : (0 : Int) = (0 : Int) := ti_eq c35
        rw [j_X4_comesTold_164_e]
        refine sf_bz (by decide) ?_
        exact sf_ret ⟨hI, Fτ, Of15_τ, Of34_τ, Of30_τ, Of18_τ, by decide, by decide⟩
      have C35 : ¬ (0 : Int) = (0 : Int) := ti_ne c35
      exfalso; omega
    have C34 : (τ 101 1).toInt < (6 : Int) := ti_nle c34
    rw [j_X4_comesTold_137_e]
    refine sf_ite (fun c36 => ?_) (fun c36 => ?_)
    · have C36 : (1 : Int) = (0 : Int) := ti_eq c36
      exfalso; omega
    have C36 : ¬ (1 : Int) = (0 : Int) := ti_ne c36
    refine sf_chk (ti_in (by omega) (by omega)) ?_
    have v37 : Int32.toNatClampNeg (τ 101 1) = (τ 101 1).toInt.toNat := rfl
    refine sf_lt (fun s38 hs38 => ?_)
    have Is38 : wiM s38 := by rw [hs38]; exact wm_oth hI (by decide) (by decide) (by decide) (by decide)
    have Fs38 : ∀ k, k < 101 → s38 k = τ k := fun k hk => (show s38 k = τ k by rw [hs38, up2_k (by omega)]).trans (Fτ k hk)
    have Of15_s38 : s38 101 15 = τ 101 15 := (show s38 101 15 = τ 101 15 by rw [hs38, up2_k (by omega)]).trans Of15_τ
    have Of34_s38 : s38 101 34 = τ 101 34 := (show s38 101 34 = τ 101 34 by rw [hs38, up2_k (by omega)]).trans Of34_τ
    have Of1_s38 : s38 101 1 = τ 101 1 := (show s38 101 1 = τ 101 1 by rw [hs38, up2_k (by omega)]).trans Of1_τ
    have Of30_s38 : s38 101 30 = τ 101 30 := (show s38 101 30 = τ 101 30 by rw [hs38, up2_k (by omega)]).trans Of30_τ
    have Of18_s38 : s38 101 18 = τ 101 18 := (show s38 101 18 = τ 101 18 by rw [hs38, up2_k (by omega)]).trans Of18_τ
    refine sf_lt (fun s39 hs39 => ?_)
    have m40 := wx_X4_1 Is38
    have e41 : (s38 101 1).toInt = (τ 101 1).toInt := congrArg Int32.toInt (by rw [hs38, up2_k (by omega)])
    have t42 : ((s38 101 1) + (1 : Int32)).toInt = (s38 101 1).toInt + (1 : Int) := ti_add (show -2147483648 ≤ (s38 101 1).toInt + (1 : Int) by omega) (show (s38 101 1).toInt + (1 : Int) ≤ 2147483647 by omega)
    have Is39 : wiM s39 := by rw [hs39]; exact wx_put_X4_1 Is38 (by omega) (by omega)
    have Fs39 : ∀ k, k < 101 → s39 k = τ k := fun k hk => (show s39 k = s38 k by rw [hs39, up2_k (by omega)]).trans (Fs38 k hk)
    have Of15_s39 : s39 101 15 = τ 101 15 := (show s39 101 15 = s38 101 15 by rw [hs39, up2_i (by decide)]).trans Of15_s38
    have Of34_s39 : s39 101 34 = τ 101 34 := (show s39 101 34 = s38 101 34 by rw [hs39, up2_i (by decide)]).trans Of34_s38
    have Of30_s39 : s39 101 30 = τ 101 30 := (show s39 101 30 = s38 101 30 by rw [hs39, up2_i (by decide)]).trans Of30_s38
    have Of18_s39 : s39 101 18 = τ 101 18 := (show s39 101 18 = s38 101 18 by rw [hs39, up2_i (by decide)]).trans Of18_s38
    rw [j_X4_comesTold_164_e]
    refine sf_bz (by decide) ?_
    exact sf_ret ⟨Is39, Fs39, Of15_s39, Of34_s39, Of30_s39, Of18_s39, by decide, by decide⟩
  have C30 : ¬ (τ 113 (Int32.toNatClampNeg x1)).toInt = (112 : Int) := ti_ne c30
  refine sf_ite (fun c43 => ?_) (fun c43 => ?_)
  · have C43 : (τ 113 (Int32.toNatClampNeg x1)).toInt = (115 : Int) := ti_eq c43
    refine sf_bnd (s_X4_isLooker hF hI) (fun r44 u45 p46 => ?_)
    obtain ⟨e9, p46⟩ := p46
    have e9 := e9.symm
    subst e9
    rcases p46 with ⟨rfl, q47, q48⟩ | p46
    · refine sf_ite (fun c49 => ?_) (fun c49 => ?_)
      · have C49 : (1 : Int) = (0 : Int) := ti_eq c49
        exfalso; omega
      have C49 : ¬ (1 : Int) = (0 : Int) := ti_ne c49
      refine sf_ite (fun c50 => ?_) (fun c50 => ?_)
      · have C50 : z11.toInt < z7.toInt := ti_lt c50
        rw [j_X4_comesTold_243_e]
        rw [j_X4_comesTold_244_e]
        refine sf_ite (fun c51 => ?_) (fun c51 => ?_)
        · have C51 : (0 : Int) = (0 : Int) := ti_eq c51
          rw [j_X4_comesTold_261_e]
          refine sf_bz (by decide) ?_
          exact sf_ret ⟨hI, Fτ, Of15_τ, Of34_τ, Of30_τ, Of18_τ, by decide, by decide⟩
        have C51 : ¬ (0 : Int) = (0 : Int) := ti_ne c51
        exfalso; omega
      have C50 : z7.toInt ≤ z11.toInt := ti_nlt c50
      refine sf_ite (fun c52 => ?_) (fun c52 => ?_)
      · have C52 : (24 : Int) ≤ z11.toInt := ti_le c52
        rw [j_X4_comesTold_243_e]
        rw [j_X4_comesTold_244_e]
        refine sf_ite (fun c53 => ?_) (fun c53 => ?_)
        · have C53 : (0 : Int) = (0 : Int) := ti_eq c53
          rw [j_X4_comesTold_261_e]
          refine sf_bz (by decide) ?_
          exact sf_ret ⟨hI, Fτ, Of15_τ, Of34_τ, Of30_τ, Of18_τ, by decide, by decide⟩
        have C53 : ¬ (0 : Int) = (0 : Int) := ti_ne c53
        exfalso; omega
      have C52 : z11.toInt < (24 : Int) := ti_nle c52
      refine sf_ite (fun c54 => ?_) (fun c54 => ?_)
      · have C54 : z15.toInt = (9 : Int) := ti_eq c54
        rw [j_X4_comesTold_239_e]
        rw [j_X4_comesTold_244_e]
        refine sf_ite (fun c55 => ?_) (fun c55 => ?_)
        · have C55 : (1 : Int) = (0 : Int) := ti_eq c55
          exfalso; omega
        have C55 : ¬ (1 : Int) = (0 : Int) := ti_ne c55
        refine sf_bnd (s_X4_stand hF hI (by omega) (by omega) (by omega) (by omega) (by omega) (by omega) (by first | omega | decide)) (fun r56 u57 p58 => ?_)
        obtain ⟨Iu57, Fu57_, Of15_u57_, Of34_u57_, Of1_u57_, Of30_u57_, Of18_u57_, -⟩ := p58
        have Fu57 : ∀ k, k < 101 → u57 k = τ k := fun k hk => (Fu57_ k hk).trans (Fτ k hk)
        have Of15_u57 : u57 101 15 = τ 101 15 := Of15_u57_.trans Of15_τ
        have Of34_u57 : u57 101 34 = τ 101 34 := Of34_u57_.trans Of34_τ
        have Of1_u57 : u57 101 1 = τ 101 1 := Of1_u57_.trans Of1_τ
        have Of30_u57 : u57 101 30 = τ 101 30 := Of30_u57_.trans Of30_τ
        have Of18_u57 : u57 101 18 = τ 101 18 := Of18_u57_.trans Of18_τ
        rw [j_X4_comesTold_261_e]
        refine sf_bz (by decide) ?_
        exact sf_ret ⟨Iu57, Fu57, Of15_u57, Of34_u57, Of30_u57, Of18_u57, by decide, by decide⟩
      have C54 : ¬ z15.toInt = (9 : Int) := ti_ne c54
      refine sf_bnd (s_X4_isPane hF hI) (fun r59 u60 p61 => ?_)
      obtain ⟨e9, p61⟩ := p61
      have e9 := e9.symm
      subst e9
      rcases p61 with ⟨rfl, q62, q63⟩ | p61
      · refine sf_ite (fun c64 => ?_) (fun c64 => ?_)
        · have C64 : (1 : Int) = (0 : Int) := ti_eq c64
          exfalso; omega
        have C64 : ¬ (1 : Int) = (0 : Int) := ti_ne c64
        rw [j_X4_comesTold_239_e]
        rw [j_X4_comesTold_244_e]
        refine sf_ite (fun c65 => ?_) (fun c65 => ?_)
        · have C65 : (1 : Int) = (0 : Int) := ti_eq c65
          exfalso; omega
        have C65 : ¬ (1 : Int) = (0 : Int) := ti_ne c65
        refine sf_bnd (s_X4_stand hF hI (by omega) (by omega) (by omega) (by omega) (by omega) (by omega) (by first | omega | decide)) (fun r66 u67 p68 => ?_)
        obtain ⟨Iu67, Fu67_, Of15_u67_, Of34_u67_, Of1_u67_, Of30_u67_, Of18_u67_, -⟩ := p68
        have Fu67 : ∀ k, k < 101 → u67 k = τ k := fun k hk => (Fu67_ k hk).trans (Fτ k hk)
        have Of15_u67 : u67 101 15 = τ 101 15 := Of15_u67_.trans Of15_τ
        have Of34_u67 : u67 101 34 = τ 101 34 := Of34_u67_.trans Of34_τ
        have Of1_u67 : u67 101 1 = τ 101 1 := Of1_u67_.trans Of1_τ
        have Of30_u67 : u67 101 30 = τ 101 30 := Of30_u67_.trans Of30_τ
        have Of18_u67 : u67 101 18 = τ 101 18 := Of18_u67_.trans Of18_τ
        rw [j_X4_comesTold_261_e]
        refine sf_bz (by decide) ?_
        exact sf_ret ⟨Iu67, Fu67, Of15_u67, Of34_u67, Of30_u67, Of18_u67, by decide, by decide⟩
      obtain rfl := p61
      refine sf_ite (fun c69 => ?_) (fun c69 => ?_)
      · have C69 : (0 : Int) = (0 : Int) := ti_eq c69
        rw [j_X4_comesTold_243_e]
        rw [j_X4_comesTold_244_e]
        refine sf_ite (fun c70 => ?_) (fun c70 => ?_)
        · have C70 : (0 : Int) = (0 : Int) := ti_eq c70
          rw [j_X4_comesTold_261_e]
          refine sf_bz (by decide) ?_
          exact sf_ret ⟨hI, Fτ, Of15_τ, Of34_τ, Of30_τ, Of18_τ, by decide, by decide⟩
        have C70 : ¬ (0 : Int) = (0 : Int) := ti_ne c70
        exfalso; omega
      have C69 : ¬ (0 : Int) = (0 : Int) := ti_ne c69
      exfalso; omega
    obtain rfl := p46
    refine sf_ite (fun c71 => ?_) (fun c71 => ?_)
    · have C71 : (0 : Int) = (0 : Int) := ti_eq c71
      rw [j_X4_comesTold_243_e]
      rw [j_X4_comesTold_244_e]
      refine sf_ite (fun c72 => ?_) (fun c72 => ?_)
      · have C72 : (0 : Int) = (0 : Int) := ti_eq c72
        rw [j_X4_comesTold_261_e]
        refine sf_bz (by decide) ?_
        exact sf_ret ⟨hI, Fτ, Of15_τ, Of34_τ, Of30_τ, Of18_τ, by decide, by decide⟩
      have C72 : ¬ (0 : Int) = (0 : Int) := ti_ne c72
      exfalso; omega
    have C71 : ¬ (0 : Int) = (0 : Int) := ti_ne c71
    exfalso; omega
  have C43 : ¬ (τ 113 (Int32.toNatClampNeg x1)).toInt = (115 : Int) := ti_ne c43
  refine sf_ite (fun c73 => ?_) (fun c73 => ?_)
  · have C73 : (τ 113 (Int32.toNatClampNeg x1)).toInt = (117 : Int) := ti_eq c73
    refine sf_lt (fun s74 hs74 => ?_)
    have Is74 : wiM s74 := by rw [hs74]; exact wm_fld hI (by decide) (by decide) (by decide) (by decide) (by decide) (by decide) (by decide)
    have Fs74 : ∀ k, k < 101 → s74 k = τ k := fun k hk => (show s74 k = τ k by rw [hs74, up2_k (by omega)]).trans (Fτ k hk)
    have Of15_s74 : s74 101 15 = τ 101 15 := (show s74 101 15 = τ 101 15 by rw [hs74, up2_i (by decide)]).trans Of15_τ
    have Of34_s74 : s74 101 34 = τ 101 34 := (show s74 101 34 = τ 101 34 by rw [hs74, up2_i (by decide)]).trans Of34_τ
    have Of1_s74 : s74 101 1 = τ 101 1 := (show s74 101 1 = τ 101 1 by rw [hs74, up2_i (by decide)]).trans Of1_τ
    have Of30_s74 : s74 101 30 = τ 101 30 := (show s74 101 30 = τ 101 30 by rw [hs74, up2_i (by decide)]).trans Of30_τ
    have Of18_s74 : s74 101 18 = τ 101 18 := (show s74 101 18 = τ 101 18 by rw [hs74, up2_i (by decide)]).trans Of18_τ
    refine sf_ite (fun c75 => ?_) (fun c75 => ?_)
    · have C75 : (3 : Int) ≤ z3.toInt := ti_le c75
      exact sf_ret ⟨Is74, Fs74, Of15_s74, Of34_s74, Of30_s74, Of18_s74, by decide, by decide⟩
    have C75 : z3.toInt < (3 : Int) := ti_nle c75
    exact sf_ret ⟨Is74, Fs74, Of15_s74, Of34_s74, Of30_s74, Of18_s74, by decide, by decide⟩
  have C73 : ¬ (τ 113 (Int32.toNatClampNeg x1)).toInt = (117 : Int) := ti_ne c73
  refine sf_ite (fun c76 => ?_) (fun c76 => ?_)
  · have C76 : (τ 113 (Int32.toNatClampNeg x1)).toInt = (118 : Int) := ti_eq c76
    refine sf_ite (fun c77 => ?_) (fun c77 => ?_)
    · have C77 : (8 : Int) ≤ z3.toInt := ti_le c77
      rw [j_X4_comesTold_275_e]
      refine sf_ite (fun c78 => ?_) (fun c78 => ?_)
      · have C78 : (0 : Int) = (0 : Int) := ti_eq c78
        rw [j_X4_comesTold_289_e]
        refine sf_bz (by decide) ?_
        exact sf_ret ⟨hI, Fτ, Of15_τ, Of34_τ, Of30_τ, Of18_τ, by decide, by decide⟩
      have C78 : ¬ (0 : Int) = (0 : Int) := ti_ne c78
      exfalso; omega
    have C77 : z3.toInt < (8 : Int) := ti_nle c77
    rw [j_X4_comesTold_275_e]
    refine sf_ite (fun c79 => ?_) (fun c79 => ?_)
    · have C79 : (1 : Int) = (0 : Int) := ti_eq c79
      exfalso; omega
    have C79 : ¬ (1 : Int) = (0 : Int) := ti_ne c79
    refine sf_chk (ti_in (by omega) (by omega)) ?_
    have v80 : Int32.toNatClampNeg z3 = z3.toInt.toNat := rfl
    refine sf_lt (fun s81 hs81 => ?_)
    have Is81 : wiM s81 := by rw [hs81]; exact wm_oth hI (by decide) (by decide) (by decide) (by decide)
    have Fs81 : ∀ k, k < 101 → s81 k = τ k := fun k hk => (show s81 k = τ k by rw [hs81, up2_k (by omega)]).trans (Fτ k hk)
    have Of15_s81 : s81 101 15 = τ 101 15 := (show s81 101 15 = τ 101 15 by rw [hs81, up2_k (by omega)]).trans Of15_τ
    have Of34_s81 : s81 101 34 = τ 101 34 := (show s81 101 34 = τ 101 34 by rw [hs81, up2_k (by omega)]).trans Of34_τ
    have Of1_s81 : s81 101 1 = τ 101 1 := (show s81 101 1 = τ 101 1 by rw [hs81, up2_k (by omega)]).trans Of1_τ
    have Of30_s81 : s81 101 30 = τ 101 30 := (show s81 101 30 = τ 101 30 by rw [hs81, up2_k (by omega)]).trans Of30_τ
    have Of18_s81 : s81 101 18 = τ 101 18 := (show s81 101 18 = τ 101 18 by rw [hs81, up2_k (by omega)]).trans Of18_τ
    rw [j_X4_comesTold_289_e]
    refine sf_bz (by decide) ?_
    exact sf_ret ⟨Is81, Fs81, Of15_s81, Of34_s81, Of30_s81, Of18_s81, by decide, by decide⟩
  have C76 : ¬ (τ 113 (Int32.toNatClampNeg x1)).toInt = (118 : Int) := ti_ne c76
  refine sf_ite (fun c82 => ?_) (fun c82 => ?_)
  · have C82 : (τ 113 (Int32.toNatClampNeg x1)).toInt = (119 : Int) := ti_eq c82
    refine sf_bnd (s_X4_isPane hF hI) (fun r83 u84 p85 => ?_)
    obtain ⟨e9, p85⟩ := p85
    have e9 := e9.symm
    subst e9
    rcases p85 with ⟨rfl, q86, q87⟩ | p85
    · refine sf_ite (fun c88 => ?_) (fun c88 => ?_)
      · have C88 : (1 : Int) = (0 : Int) := ti_eq c88
        exfalso; omega
      have C88 : ¬ (1 : Int) = (0 : Int) := ti_ne c88
      refine sf_ite (fun c89 => ?_) (fun c89 => ?_)
      · have C89 : (8 : Int) ≤ z7.toInt := ti_le c89
        rw [j_X4_comesTold_310_e]
        rw [j_X4_comesTold_311_e]
        refine sf_ite (fun c90 => ?_) (fun c90 => ?_)
        · have C90 : (0 : Int) = (0 : Int) := ti_eq c90
          rw [j_X4_comesTold_330_e]
          refine sf_bz (by decide) ?_
          exact sf_ret ⟨hI, Fτ, Of15_τ, Of34_τ, Of30_τ, Of18_τ, by decide, by decide⟩
        have C90 : ¬ (0 : Int) = (0 : Int) := ti_ne c90
        exfalso; omega
      have C89 : z7.toInt < (8 : Int) := ti_nle c89
      rw [j_X4_comesTold_311_e]
      refine sf_ite (fun c91 => ?_) (fun c91 => ?_)
      · have C91 : (1 : Int) = (0 : Int) := ti_eq c91
        exfalso; omega
      have C91 : ¬ (1 : Int) = (0 : Int) := ti_ne c91
      refine sf_chk (ti_in (by omega) (by omega)) ?_
      have v92 : Int32.toNatClampNeg z3 = z3.toInt.toNat := rfl
      refine sf_lt (fun s93 hs93 => ?_)
      have Is93 : wiM s93 := by rw [hs93]; exact wm_oth hI (by decide) (by decide) (by decide) (by decide)
      have Fs93 : ∀ k, k < 101 → s93 k = τ k := fun k hk => (show s93 k = τ k by rw [hs93, up2_k (by omega)]).trans (Fτ k hk)
      have Of15_s93 : s93 101 15 = τ 101 15 := (show s93 101 15 = τ 101 15 by rw [hs93, up2_k (by omega)]).trans Of15_τ
      have Of34_s93 : s93 101 34 = τ 101 34 := (show s93 101 34 = τ 101 34 by rw [hs93, up2_k (by omega)]).trans Of34_τ
      have Of1_s93 : s93 101 1 = τ 101 1 := (show s93 101 1 = τ 101 1 by rw [hs93, up2_k (by omega)]).trans Of1_τ
      have Of30_s93 : s93 101 30 = τ 101 30 := (show s93 101 30 = τ 101 30 by rw [hs93, up2_k (by omega)]).trans Of30_τ
      have Of18_s93 : s93 101 18 = τ 101 18 := (show s93 101 18 = τ 101 18 by rw [hs93, up2_k (by omega)]).trans Of18_τ
      rw [j_X4_comesTold_330_e]
      refine sf_bz (by decide) ?_
      exact sf_ret ⟨Is93, Fs93, Of15_s93, Of34_s93, Of30_s93, Of18_s93, by decide, by decide⟩
    obtain rfl := p85
    refine sf_ite (fun c94 => ?_) (fun c94 => ?_)
    · have C94 : (0 : Int) = (0 : Int) := ti_eq c94
      rw [j_X4_comesTold_310_e]
      rw [j_X4_comesTold_311_e]
      refine sf_ite (fun c95 => ?_) (fun c95 => ?_)
      · have C95 : (0 : Int) = (0 : Int) := ti_eq c95
        rw [j_X4_comesTold_330_e]
        refine sf_bz (by decide) ?_
        exact sf_ret ⟨hI, Fτ, Of15_τ, Of34_τ, Of30_τ, Of18_τ, by decide, by decide⟩
      have C95 : ¬ (0 : Int) = (0 : Int) := ti_ne c95
      exfalso; omega
    have C94 : ¬ (0 : Int) = (0 : Int) := ti_ne c94
    exfalso; omega
  have C82 : ¬ (τ 113 (Int32.toNatClampNeg x1)).toInt = (119 : Int) := ti_ne c82
  refine sf_in ?_
  rw [f_X4_in_e]
  have b96 := ti_lo (lg_cmp (Int32.toInt64 z3) (1 : Int64))
  have b97 := ti_hi (lg_cmp (Int32.toInt64 z3) (1 : Int64))
  refine sf_ite (fun c98 => ?_) (fun c98 => ?_)
  · have C98 : (lg_cmp (Int32.toInt64 z3) (1 : Int64)).toInt < (0 : Int) := ti_lt c98
    have L98 : z3.toInt < (1 : Int) := by have q := lg_ltl c98; (repeat (rw [Int32.toInt_toInt64] at q)); exact q
    rw [j_X4_in_17_e]
    refine sf_ret ?_
    refine sf_ite (fun c99 => ?_) (fun c99 => ?_)
    · have C99 : (0 : Int) = (0 : Int) := ti_eq c99
      rw [j_X4_comesTold_377_e]
      rw [j_X4_comesTold_378_e]
      refine sf_ite (fun c100 => ?_) (fun c100 => ?_)
      · have C100 : (0 : Int) = (0 : Int) := ti_eq c100
        rw [j_X4_comesTold_390_e]
        refine sf_bz (by decide) ?_
        exact sf_ret ⟨hI, Fτ, Of15_τ, Of34_τ, Of30_τ, Of18_τ, by decide, by decide⟩
      have C100 : ¬ (0 : Int) = (0 : Int) := ti_ne c100
      exfalso; omega
    have C99 : ¬ (0 : Int) = (0 : Int) := ti_ne c99
    exfalso; omega
  have C98 : (0 : Int) ≤ (lg_cmp (Int32.toInt64 z3) (1 : Int64)).toInt := ti_nlt c98
  have L98 : (1 : Int) ≤ z3.toInt := by have q := lg_ltln c98; (repeat (rw [Int32.toInt_toInt64] at q)); exact q
  have b101 := ti_lo (lg_cmp (Int32.toInt64 z3) (60 : Int64))
  have b102 := ti_hi (lg_cmp (Int32.toInt64 z3) (60 : Int64))
  refine sf_ite (fun c103 => ?_) (fun c103 => ?_)
  · have C103 : (0 : Int) < (lg_cmp (Int32.toInt64 z3) (60 : Int64)).toInt := ti_lt c103
    have L103 : (60 : Int) < z3.toInt := by have q := lg_ltr c103; (repeat (rw [Int32.toInt_toInt64] at q)); exact q
    rw [j_X4_in_17_e]
    refine sf_ret ?_
    refine sf_ite (fun c104 => ?_) (fun c104 => ?_)
    · have C104 : (0 : Int) = (0 : Int) := ti_eq c104
      rw [j_X4_comesTold_377_e]
      rw [j_X4_comesTold_378_e]
      refine sf_ite (fun c105 => ?_) (fun c105 => ?_)
      · have C105 : (0 : Int) = (0 : Int) := ti_eq c105
        rw [j_X4_comesTold_390_e]
        refine sf_bz (by decide) ?_
        exact sf_ret ⟨hI, Fτ, Of15_τ, Of34_τ, Of30_τ, Of18_τ, by decide, by decide⟩
      have C105 : ¬ (0 : Int) = (0 : Int) := ti_ne c105
      exfalso; omega
    have C104 : ¬ (0 : Int) = (0 : Int) := ti_ne c104
    exfalso; omega
  have C103 : (lg_cmp (Int32.toInt64 z3) (60 : Int64)).toInt ≤ (0 : Int) := ti_nlt c103
  have L103 : z3.toInt ≤ (60 : Int) := by have q := lg_ltrn c103; (repeat (rw [Int32.toInt_toInt64] at q)); exact q
  refine sf_ret ?_
  refine sf_ite (fun c106 => ?_) (fun c106 => ?_)
  · have C106 : (1 : Int) = (0 : Int) := ti_eq c106
    exfalso; omega
  have C106 : ¬ (1 : Int) = (0 : Int) := ti_ne c106
  have b107 := ti_lo (τ 101 9)
  have b108 := ti_hi (τ 101 9)
  have b109 := ti_lo ((τ 101 9) + z3)
  have b110 := ti_hi ((τ 101 9) + z3)
  refine sf_ite (fun c111 => ?_) (fun c111 => ?_)
  · have C111 : (9999 : Int) < ((τ 101 9) + z3).toInt := ti_lt c111
    rw [j_X4_comesTold_377_e]
    rw [j_X4_comesTold_378_e]
    refine sf_ite (fun c112 => ?_) (fun c112 => ?_)
    · have C112 : (0 : Int) = (0 : Int) := ti_eq c112
      rw [j_X4_comesTold_390_e]
      refine sf_bz (by decide) ?_
      exact sf_ret ⟨hI, Fτ, Of15_τ, Of34_τ, Of30_τ, Of18_τ, by decide, by decide⟩
    have C112 : ¬ (0 : Int) = (0 : Int) := ti_ne c112
    exfalso; omega
  have C111 : ((τ 101 9) + z3).toInt ≤ (9999 : Int) := ti_nlt c111
  rw [j_X4_comesTold_378_e]
  refine sf_ite (fun c113 => ?_) (fun c113 => ?_)
  · have C113 : (1 : Int) = (0 : Int) := ti_eq c113
    exfalso; omega
  have C113 : ¬ (1 : Int) = (0 : Int) := ti_ne c113
  refine sf_bnd (s_X4_goDays hF hI (by omega) (by omega)) (fun r114 u115 p116 => ?_)
  obtain ⟨Iu115, Fu115_, Of15_u115_, Of34_u115_, Of1_u115_, Of30_u115_, Of18_u115_, -⟩ := p116
  have Fu115 : ∀ k, k < 101 → u115 k = τ k := fun k hk => (Fu115_ k hk).trans (Fτ k hk)
  have Of15_u115 : u115 101 15 = τ 101 15 := Of15_u115_.trans Of15_τ
  have Of34_u115 : u115 101 34 = τ 101 34 := Of34_u115_.trans Of34_τ
  have Of1_u115 : u115 101 1 = τ 101 1 := Of1_u115_.trans Of1_τ
  have Of30_u115 : u115 101 30 = τ 101 30 := Of30_u115_.trans Of30_τ
  have Of18_u115 : u115 101 18 = τ 101 18 := Of18_u115_.trans Of18_τ
  rw [j_X4_comesTold_390_e]
  refine sf_bz (by decide) ?_
  exact sf_ret ⟨Iu115, Fu115, Of15_u115, Of34_u115, Of30_u115, Of18_u115, by decide, by decide⟩
set_option maxHeartbeats 4000000 in
set_option maxRecDepth 100000 in
theorem s_X4_carryAll {F : Nat} (hF : 73786976294838206464 ≤ F) {a : Nat} {x2 : Int32} {τ : Mem} (ha : wiK a) (hI : wiM τ) (x2_1 : 0 ≤ x2.toInt) (x2_2 : x2.toInt ≤ 1) : sf (f_X4_carryAll F a x2 τ) (fun _ s => wiM s ∧ (∀ k, k < 101 → s k = τ k) ∧ s 101 15 = τ 101 15 ∧ s 101 34 = τ 101 34 ∧ s 101 30 = τ 101 30 ∧ s 101 18 = τ 101 18 ∧ True ∧ (¬ x2.toInt = 0 → ((s 101 1).toInt = (τ 101 1).toInt ∧ (s 101 3).toInt = (τ 101 3).toInt))) := by
  have hk := ha
  unfold wiK at hk
  refine sf_mono (wt_carryAll (by omega) (wi_bool x2_1 x2_2) ha) (fun _ s hC => ⟨wt_Car_wiM ha hI hC, fun k h => wt_Car_reg hC (by omega) (Or.inl h), wt_Car_fld ha hC (by omega) (by omega), wt_Car_fld ha hC (by omega) (by omega), wt_Car_fld ha hC (by omega) (by omega), wt_Car_fld ha hC (by omega) (by omega), trivial, fun h => ?_⟩)
  have hx : ¬ x2 = 0 := fun q => h (by rw [q]; rfl)
  exact ⟨congrArg Int32.toInt (wt_Car_took ha hx hC (fun q => by have := q.2; omega) (by omega)), congrArg Int32.toInt (wt_Car_took ha hx hC (fun q => by have := q.2; omega) (by omega))⟩
set_option maxHeartbeats 4000000 in
set_option maxRecDepth 100000 in
theorem s_X4_think {F : Nat} (hF : 73786976294838206464 ≤ F) {τ : Mem} (hI : wiM τ) : sf (f_X4_think F τ) (fun _ s => wiM s ∧ (∀ k, k < 101 → s k = τ k) ∧ s 101 15 = τ 101 15 ∧ s 101 34 = τ 101 34 ∧ s 101 30 = τ 101 30 ∧ s 101 18 = τ 101 18 ∧ True ∧ ((s 101 1).toInt = (τ 101 1).toInt ∧ (s 101 3).toInt = (τ 101 3).toInt)) := by
  have Fτ : ∀ k, k < 101 → τ k = τ k := fun _ _ => rfl
  have Of15_τ : τ 101 15 = τ 101 15 := rfl
  have Of34_τ : τ 101 34 = τ 101 34 := rfl
  have Of1_τ : τ 101 1 = τ 101 1 := rfl
  have Of30_τ : τ 101 30 = τ 101 30 := rfl
  have Of18_τ : τ 101 18 = τ 101 18 := rfl
  rw [f_X4_think_e]
  have m1 := wx_X4_1 hI
  have m2 := wx_X4_3 hI
  refine sf_bnd (s_X4_carryAll hF (by unfold wiK; omega) hI (by decide) (by decide)) (fun r3 u4 p5 => ?_)
  obtain ⟨Iu4, Fu4_, Of15_u4_, Of34_u4_, Of30_u4_, Of18_u4_, -, p5_x0⟩ := p5
  have Fu4 : ∀ k, k < 101 → u4 k = τ k := fun k hk => (Fu4_ k hk).trans (Fτ k hk)
  have Of15_u4 : u4 101 15 = τ 101 15 := Of15_u4_.trans Of15_τ
  have Of34_u4 : u4 101 34 = τ 101 34 := Of34_u4_.trans Of34_τ
  have Of30_u4 : u4 101 30 = τ 101 30 := Of30_u4_.trans Of30_τ
  have Of18_u4 : u4 101 18 = τ 101 18 := Of18_u4_.trans Of18_τ
  replace p5_x0 : ¬ (1 : Int) = 0 → ((u4 101 1).toInt = (τ 101 1).toInt ∧ (u4 101 3).toInt = (τ 101 3).toInt) := p5_x0
  have m6 := wx_X4_1 Iu4
  have m7 := wx_X4_3 Iu4
  exact sf_ret ⟨Iu4, Fu4, Of15_u4, Of34_u4, Of30_u4, Of18_u4, trivial, (show (u4 101 1).toInt = (τ 101 1).toInt ∧ (u4 101 3).toInt = (τ 101 3).toInt from by omega)⟩
set_option maxHeartbeats 4000000 in
set_option maxRecDepth 100000 in
theorem s_X4_again {F : Nat} (hF : 73786976294838206464 ≤ F) {τ : Mem} (hI : wiM τ) : sf (f_X4_again F τ) (fun _ s => wiM s ∧ (∀ k, k < 101 → s k = τ k) ∧ s 101 15 = τ 101 15 ∧ s 101 34 = τ 101 34 ∧ s 101 30 = τ 101 30 ∧ s 101 18 = τ 101 18 ∧ True) := by
  have Fτ : ∀ k, k < 101 → τ k = τ k := fun _ _ => rfl
  have Of15_τ : τ 101 15 = τ 101 15 := rfl
  have Of34_τ : τ 101 34 = τ 101 34 := rfl
  have Of1_τ : τ 101 1 = τ 101 1 := rfl
  have Of30_τ : τ 101 30 = τ 101 30 := rfl
  have Of18_τ : τ 101 18 = τ 101 18 := rfl
  rw [f_X4_again_e]
  have m1 := wx_X4_1 hI
  have m2 := wx_X4_3 hI
  refine sf_bnd (s_X4_carryAll hF (by unfold wiK; omega) hI (by decide) (by decide)) (fun r3 u4 p5 => ?_)
  obtain ⟨Iu4, Fu4_, Of15_u4_, Of34_u4_, Of30_u4_, Of18_u4_, -, p5_x0⟩ := p5
  have Fu4 : ∀ k, k < 101 → u4 k = τ k := fun k hk => (Fu4_ k hk).trans (Fτ k hk)
  have Of15_u4 : u4 101 15 = τ 101 15 := Of15_u4_.trans Of15_τ
  have Of34_u4 : u4 101 34 = τ 101 34 := Of34_u4_.trans Of34_τ
  have Of30_u4 : u4 101 30 = τ 101 30 := Of30_u4_.trans Of30_τ
  have Of18_u4 : u4 101 18 = τ 101 18 := Of18_u4_.trans Of18_τ
  replace p5_x0 : ¬ (0 : Int) = 0 → ((u4 101 1).toInt = (τ 101 1).toInt ∧ (u4 101 3).toInt = (τ 101 3).toInt) := p5_x0
  have m6 := wx_X4_1 Iu4
  have m7 := wx_X4_3 Iu4
  exact sf_ret ⟨Iu4, Fu4, Of15_u4, Of34_u4, Of30_u4, Of18_u4, trivial⟩
