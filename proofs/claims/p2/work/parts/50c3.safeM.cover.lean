set_option maxHeartbeats 4000000 in
set_option maxRecDepth 100000 in
theorem s_X4_cover {F : Nat} (hF : 73786976294838206464 ≤ F) {τ : Mem} (hI : wiM τ) : sf (f_X4_cover F τ) (fun r s => wiM s ∧ (∀ k, k < 101 → s k = τ k) ∧ s 101 15 = τ 101 15 ∧ s 101 34 = τ 101 34 ∧ s 101 1 = τ 101 1 ∧ s 101 30 = τ 101 30 ∧ s 101 18 = τ 101 18 ∧ 0 ≤ r.toInt ∧ r.toInt ≤ 63) := by
  have Fτ : ∀ k, k < 101 → τ k = τ k := fun _ _ => rfl
  have Of15_τ : τ 101 15 = τ 101 15 := rfl
  have Of34_τ : τ 101 34 = τ 101 34 := rfl
  have Of1_τ : τ 101 1 = τ 101 1 := rfl
  have Of30_τ : τ 101 30 = τ 101 30 := rfl
  have Of18_τ : τ 101 18 = τ 101 18 := rfl
  rw [f_X4_cover_e]
  refine sf_lt (fun s1 hs1 => ?_)
  have Is1 : wiM s1 := by rw [hs1]; exact wm_fld hI (by decide) (by decide) (by decide) (by decide) (by decide) (by decide) (by decide)
  have Fs1 : ∀ k, k < 101 → s1 k = τ k := fun k hk => (show s1 k = τ k by rw [hs1, up2_k (by omega)]).trans (Fτ k hk)
  have Of15_s1 : s1 101 15 = τ 101 15 := (show s1 101 15 = τ 101 15 by rw [hs1, up2_i (by decide)]).trans Of15_τ
  have Of34_s1 : s1 101 34 = τ 101 34 := (show s1 101 34 = τ 101 34 by rw [hs1, up2_i (by decide)]).trans Of34_τ
  have Of1_s1 : s1 101 1 = τ 101 1 := (show s1 101 1 = τ 101 1 by rw [hs1, up2_i (by decide)]).trans Of1_τ
  have Of30_s1 : s1 101 30 = τ 101 30 := (show s1 101 30 = τ 101 30 by rw [hs1, up2_i (by decide)]).trans Of30_τ
  have Of18_s1 : s1 101 18 = τ 101 18 := (show s1 101 18 = τ 101 18 by rw [hs1, up2_i (by decide)]).trans Of18_τ
  refine sf_bnd (s_X4_allShown hF Is1) (fun r2 u3 p4 => ?_)
  obtain ⟨e9, p4_1, p4_2⟩ := p4
  have e9 := e9.symm
  subst e9
  have m6 := wx_X4_1 Is1
  have m7 := wx_X4_1 hI
  have e8 : (s1 101 1).toInt = (τ 101 1).toInt := congrArg Int32.toInt (by rw [hs1, up2_i (by decide)])
  obtain ⟨w9_1, w9_2⟩ := wi_shl (s1 101 1) (by omega) (by omega)
  have t10 : (((1 : Int32) <<< ((s1 101 1) &&& 31)) - (1 : Int32)).toInt = ((1 : Int32) <<< ((s1 101 1) &&& 31)).toInt - (1 : Int) := ti_sub (show -2147483648 ≤ ((1 : Int32) <<< ((s1 101 1) &&& 31)).toInt - (1 : Int) by omega) (show ((1 : Int32) <<< ((s1 101 1) &&& 31)).toInt - (1 : Int) ≤ 2147483647 by omega)
  refine sf_lt (fun z5 hz5 => ?_)
  have hz5_ : z5.toInt = (((1 : Int32) <<< ((s1 101 1) &&& 31)) - (1 : Int32)).toInt := (show z5.toInt = (((1 : Int32) <<< ((s1 101 1) &&& 31)) - (1 : Int32)).toInt from congrArg Int32.toInt hz5)
  have b11 := ti_lo r2
  have b12 := ti_hi r2
  exact sl_X4_cover_21 hF _ _ _ _ Is1 Fs1 Of15_s1 Of34_s1 Of1_s1 Of30_s1 Of18_s1 (by omega) (by omega) (by omega) (by omega) (by omega)
