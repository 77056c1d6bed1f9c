set_option maxRecDepth 16384
set_option maxHeartbeats 4000000 in
set_option maxRecDepth 100000 in
theorem s_X4_refuse {F : Nat} (hF : 73786976294838206464 ≤ F) {x1 : Int32} {τ : Mem} (hI : wiM τ) (x1_1 : -6 ≤ x1.toInt) (x1_2 : x1.toInt ≤ -1) : sf (f_X4_refuse F x1 τ) (fun r s => wiM s ∧ (∀ k, k < 101 → s k = τ k) ∧ s 101 15 = τ 101 15 ∧ s 101 34 = τ 101 34 ∧ s 101 1 = τ 101 1 ∧ s 101 30 = τ 101 30 ∧ s 101 18 = τ 101 18 ∧ -6 ≤ r.toInt ∧ r.toInt ≤ -1 ∧ (r.toInt = x1.toInt)) := by
  have Fτ : ∀ k, k < 101 → τ k = τ k := fun _ _ => rfl
  have Of15_τ : τ 101 15 = τ 101 15 := rfl
  have Of34_τ : τ 101 34 = τ 101 34 := rfl
  have Of1_τ : τ 101 1 = τ 101 1 := rfl
  have Of30_τ : τ 101 30 = τ 101 30 := rfl
  have Of18_τ : τ 101 18 = τ 101 18 := rfl
  rw [f_X4_refuse_e]
  have t1 : (-x1).toInt = -x1.toInt := ti_neg (by omega)
  refine sf_chk (ti_in (by omega) (by omega)) ?_
  have v2 : Int32.toNatClampNeg (-x1) = (-x1).toInt.toNat := rfl
  refine sf_lt (fun s3 hs3 => ?_)
  have Is3 : wiM s3 := by rw [hs3]; exact wm_oth hI (by decide) (by decide) (by decide) (by decide)
  have Fs3 : ∀ k, k < 101 → s3 k = τ k := fun k hk => (show s3 k = τ k by rw [hs3, up2_k (by omega)]).trans (Fτ k hk)
  have Of15_s3 : s3 101 15 = τ 101 15 := (show s3 101 15 = τ 101 15 by rw [hs3, up2_k (by omega)]).trans Of15_τ
  have Of34_s3 : s3 101 34 = τ 101 34 := (show s3 101 34 = τ 101 34 by rw [hs3, up2_k (by omega)]).trans Of34_τ
  have Of1_s3 : s3 101 1 = τ 101 1 := (show s3 101 1 = τ 101 1 by rw [hs3, up2_k (by omega)]).trans Of1_τ
  have Of30_s3 : s3 101 30 = τ 101 30 := (show s3 101 30 = τ 101 30 by rw [hs3, up2_k (by omega)]).trans Of30_τ
  have Of18_s3 : s3 101 18 = τ 101 18 := (show s3 101 18 = τ 101 18 by rw [hs3, up2_k (by omega)]).trans Of18_τ
  exact sf_ret ⟨Is3, Fs3, Of15_s3, Of34_s3, Of1_s3, Of30_s3, Of18_s3, by omega, by omega, (show x1.toInt = x1.toInt from by omega)⟩
set_option maxHeartbeats 4000000 in
set_option maxRecDepth 100000 in
theorem s_X4_isLooker {F : Nat} (hF : 73786976294838206464 ≤ F) {x1 : Int32} {τ : Mem} (hI : wiM τ) : sf (f_X4_isLooker F x1 τ) (fun r s => s = τ ∧ ((r = 1 ∧ 0 ≤ x1.toInt ∧ x1.toInt ≤ 4) ∨ r = 0)) := by
  rw [f_X4_isLooker_e]
  refine sf_in ?_
  rw [f_X4_in_e]
  have b1 := ti_lo x1
  have b2 := ti_hi x1
  have b3 := ti_lo (lg_cmp (Int32.toInt64 x1) (0 : Int64))
  have b4 := ti_hi (lg_cmp (Int32.toInt64 x1) (0 : Int64))
  refine sf_ite (fun c5 => ?_) (fun c5 => ?_)
  · have C5 : (lg_cmp (Int32.toInt64 x1) (0 : Int64)).toInt < (0 : Int) := ti_lt c5
    have L5 : x1.toInt < (0 : Int) := by have q := lg_ltl c5; (repeat (rw [Int32.toInt_toInt64] at q)); exact q
    rw [j_X4_in_17_e]
    refine sf_ret ?_
    refine sf_bz (by decide) ?_
    exact sf_ret ⟨rfl, Or.inr (rfl)⟩
  have C5 : (0 : Int) ≤ (lg_cmp (Int32.toInt64 x1) (0 : Int64)).toInt := ti_nlt c5
  have L5 : (0 : Int) ≤ x1.toInt := by have q := lg_ltln c5; (repeat (rw [Int32.toInt_toInt64] at q)); exact q
  have m6 := wx_X4_3 hI
  have t7 : ((τ 101 3) - (1 : Int32)).toInt = (τ 101 3).toInt - (1 : Int) := ti_sub (show -2147483648 ≤ (τ 101 3).toInt - (1 : Int) by omega) (show (τ 101 3).toInt - (1 : Int) ≤ 2147483647 by omega)
  have b8 := ti_lo (lg_cmp (Int32.toInt64 x1) (Int32.toInt64 ((τ 101 3) - (1 : Int32))))
  have b9 := ti_hi (lg_cmp (Int32.toInt64 x1) (Int32.toInt64 ((τ 101 3) - (1 : Int32))))
  refine sf_ite (fun c10 => ?_) (fun c10 => ?_)
  · have C10 : (0 : Int) < (lg_cmp (Int32.toInt64 x1) (Int32.toInt64 ((τ 101 3) - (1 : Int32)))).toInt := ti_lt c10
    have L10 : ((τ 101 3) - (1 : Int32)).toInt < x1.toInt := by have q := lg_ltr c10; (repeat (rw [Int32.toInt_toInt64] at q)); exact q
    rw [j_X4_in_17_e]
    refine sf_ret ?_
    refine sf_bz (by decide) ?_
    exact sf_ret ⟨rfl, Or.inr (rfl)⟩
  have C10 : (lg_cmp (Int32.toInt64 x1) (Int32.toInt64 ((τ 101 3) - (1 : Int32)))).toInt ≤ (0 : Int) := ti_nlt c10
  have L10 : x1.toInt ≤ ((τ 101 3) - (1 : Int32)).toInt := by have q := lg_ltrn c10; (repeat (rw [Int32.toInt_toInt64] at q)); exact q
  refine sf_ret ?_
  refine sf_bz (by decide) ?_
  exact sf_ret ⟨rfl, Or.inl ⟨rfl, by omega, by omega⟩⟩
set_option maxHeartbeats 4000000 in
set_option maxRecDepth 100000 in
theorem s_X4_isPane {F : Nat} (hF : 73786976294838206464 ≤ F) {x1 : Int32} {τ : Mem} (hI : wiM τ) : sf (f_X4_isPane F x1 τ) (fun r s => s = τ ∧ ((r = 1 ∧ 0 ≤ x1.toInt ∧ x1.toInt ≤ 5) ∨ r = 0)) := by
  rw [f_X4_isPane_e]
  refine sf_in ?_
  rw [f_X4_in_e]
  have b1 := ti_lo x1
  have b2 := ti_hi x1
  have b3 := ti_lo (lg_cmp (Int32.toInt64 x1) (0 : Int64))
  have b4 := ti_hi (lg_cmp (Int32.toInt64 x1) (0 : Int64))
  refine sf_ite (fun c5 => ?_) (fun c5 => ?_)
  · have C5 : (lg_cmp (Int32.toInt64 x1) (0 : Int64)).toInt < (0 : Int) := ti_lt c5
    have L5 : x1.toInt < (0 : Int) := by have q := lg_ltl c5; (repeat (rw [Int32.toInt_toInt64] at q)); exact q
    rw [j_X4_in_17_e]
    refine sf_ret ?_
    refine sf_bz (by decide) ?_
    exact sf_ret ⟨rfl, Or.inr (rfl)⟩
  have C5 : (0 : Int) ≤ (lg_cmp (Int32.toInt64 x1) (0 : Int64)).toInt := ti_nlt c5
  have L5 : (0 : Int) ≤ x1.toInt := by have q := lg_ltln c5; (repeat (rw [Int32.toInt_toInt64] at q)); exact q
  have m6 := wx_X4_1 hI
  have t7 : ((τ 101 1) - (1 : Int32)).toInt = (τ 101 1).toInt - (1 : Int) := ti_sub (show -2147483648 ≤ (τ 101 1).toInt - (1 : Int) by omega) (show (τ 101 1).toInt - (1 : Int) ≤ 2147483647 by omega)
  have b8 := ti_lo (lg_cmp (Int32.toInt64 x1) (Int32.toInt64 ((τ 101 1) - (1 : Int32))))
  have b9 := ti_hi (lg_cmp (Int32.toInt64 x1) (Int32.toInt64 ((τ 101 1) - (1 : Int32))))
  refine sf_ite (fun c10 => ?_) (fun c10 => ?_)
  · have C10 : (0 : Int) < (lg_cmp (Int32.toInt64 x1) (Int32.toInt64 ((τ 101 1) - (1 : Int32)))).toInt := ti_lt c10
    have L10 : ((τ 101 1) - (1 : Int32)).toInt < x1.toInt := by have q := lg_ltr c10; (repeat (rw [Int32.toInt_toInt64] at q)); exact q
    rw [j_X4_in_17_e]
    refine sf_ret ?_
    refine sf_bz (by decide) ?_
    exact sf_ret ⟨rfl, Or.inr (rfl)⟩
  have C10 : (lg_cmp (Int32.toInt64 x1) (Int32.toInt64 ((τ 101 1) - (1 : Int32)))).toInt ≤ (0 : Int) := ti_nlt c10
  have L10 : x1.toInt ≤ ((τ 101 1) - (1 : Int32)).toInt := by have q := lg_ltrn c10; (repeat (rw [Int32.toInt_toInt64] at q)); exact q
  refine sf_ret ?_
  refine sf_bz (by decide) ?_
  exact sf_ret ⟨rfl, Or.inl ⟨rfl, by omega, by omega⟩⟩
set_option maxHeartbeats 4000000 in
set_option maxRecDepth 100000 in
theorem s_X4_isView {F : Nat} (hF : 73786976294838206464 ≤ F) {x0 : Int32} {τ : Mem} (hI : wiM τ) : sf (f_X4_isView F x0 τ) (fun r s => s = τ ∧ ((r = 1 ∧ 0 ≤ x0.toInt ∧ x0.toInt ≤ 7) ∨ (r = 0 ∧ (x0.toInt < 0 ∨ 7 < x0.toInt)))) := by
  rw [f_X4_isView_e]
  refine sf_in ?_
  rw [f_X4_in_e]
  have b1 := ti_lo x0
  have b2 := ti_hi x0
  have b3 := ti_lo (lg_cmp (Int32.toInt64 x0) (0 : Int64))
  have b4 := ti_hi (lg_cmp (Int32.toInt64 x0) (0 : Int64))
  refine sf_ite (fun c5 => ?_) (fun c5 => ?_)
  · have C5 : (lg_cmp (Int32.toInt64 x0) (0 : Int64)).toInt < (0 : Int) := ti_lt c5
    have L5 : x0.toInt < (0 : Int) := by have q := lg_ltl c5; (repeat (rw [Int32.toInt_toInt64] at q)); exact q
    rw [j_X4_in_17_e]
    refine sf_ret ?_
    refine sf_bz (by decide) ?_
    exact sf_ret ⟨rfl, Or.inr (⟨rfl, by omega⟩)⟩
  have C5 : (0 : Int) ≤ (lg_cmp (Int32.toInt64 x0) (0 : Int64)).toInt := ti_nlt c5
  have L5 : (0 : Int) ≤ x0.toInt := by have q := lg_ltln c5; (repeat (rw [Int32.toInt_toInt64] at q)); exact q
  have b6 := ti_lo (lg_cmp (Int32.toInt64 x0) (7 : Int64))
  have b7 := ti_hi (lg_cmp (Int32.toInt64 x0) (7 : Int64))
  refine sf_ite (fun c8 => ?_) (fun c8 => ?_)
  · have C8 : (0 : Int) < (lg_cmp (Int32.toInt64 x0) (7 : Int64)).toInt := ti_lt c8
    have L8 : (7 : Int) < x0.toInt := by have q := lg_ltr c8; (repeat (rw [Int32.toInt_toInt64] at q)); exact q
    rw [j_X4_in_17_e]
    refine sf_ret ?_
    refine sf_bz (by decide) ?_
    exact sf_ret ⟨rfl, Or.inr (⟨rfl, by omega⟩)⟩
  have C8 : (lg_cmp (Int32.toInt64 x0) (7 : Int64)).toInt ≤ (0 : Int) := ti_nlt c8
  have L8 : x0.toInt ≤ (7 : Int) := by have q := lg_ltrn c8; (repeat (rw [Int32.toInt_toInt64] at q)); exact q
  refine sf_ret ?_
  refine sf_bz (by decide) ?_
  exact sf_ret ⟨rfl, Or.inl ⟨rfl, by omega, by omega⟩⟩
set_option maxHeartbeats 4000000 in
set_option maxRecDepth 100000 in
theorem s_X4_isHour {F : Nat} (hF : 73786976294838206464 ≤ F) {x0 : Int32} {τ : Mem} (hI : wiM τ) : sf (f_X4_isHour F x0 τ) (fun r s => s = τ ∧ ((r = 1 ∧ 0 ≤ x0.toInt ∧ x0.toInt ≤ 23) ∨ (r = 0 ∧ (x0.toInt < 0 ∨ 23 < x0.toInt)))) := by
  rw [f_X4_isHour_e]
  refine sf_in ?_
  rw [f_X4_in_e]
  have b1 := ti_lo x0
  have b2 := ti_hi x0
  have b3 := ti_lo (lg_cmp (Int32.toInt64 x0) (0 : Int64))
  have b4 := ti_hi (lg_cmp (Int32.toInt64 x0) (0 : Int64))
  refine sf_ite (fun c5 => ?_) (fun c5 => ?_)
  · have C5 : (lg_cmp (Int32.toInt64 x0) (0 : Int64)).toInt < (0 : Int) := ti_lt c5
    have L5 : x0.toInt < (0 : Int) := by have q := lg_ltl c5; (repeat (rw [Int32.toInt_toInt64] at q)); exact q
    rw [j_X4_in_17_e]
    refine sf_ret ?_
    refine sf_bz (by decide) ?_
    exact sf_ret ⟨rfl, Or.inr (⟨rfl, by omega⟩)⟩
  have C5 : (0 : Int) ≤ (lg_cmp (Int32.toInt64 x0) (0 : Int64)).toInt := ti_nlt c5
  have L5 : (0 : Int) ≤ x0.toInt := by have q := lg_ltln c5; (repeat (rw [Int32.toInt_toInt64] at q)); exact q
  have b6 := ti_lo (lg_cmp (Int32.toInt64 x0) (23 : Int64))
  have b7 := ti_hi (lg_cmp (Int32.toInt64 x0) (23 : Int64))
  refine sf_ite (fun c8 => ?_) (fun c8 => ?_)
  · have C8 : (0 : Int) < (lg_cmp (Int32.toInt64 x0) (23 : Int64)).toInt := ti_lt c8
    have L8 : (23 : Int) < x0.toInt := by have q := lg_ltr c8; (repeat (rw [Int32.toInt_toInt64] at q)); exact q
    rw [j_X4_in_17_e]
    refine sf_ret ?_
    refine sf_bz (by decide) ?_
    exact sf_ret ⟨rfl, Or.inr (⟨rfl, by omega⟩)⟩
  have C8 : (lg_cmp (Int32.toInt64 x0) (23 : Int64)).toInt ≤ (0 : Int) := ti_nlt c8
  have L8 : x0.toInt ≤ (23 : Int) := by have q := lg_ltrn c8; (repeat (rw [Int32.toInt_toInt64] at q)); exact q
  refine sf_ret ?_
  refine sf_bz (by decide) ?_
  exact sf_ret ⟨rfl, Or.inl ⟨rfl, by omega, by omega⟩⟩
set_option maxHeartbeats 4000000 in
set_option maxRecDepth 100000 in
theorem s_X4_areTwo {F : Nat} (hF : 73786976294838206464 ≤ F) {x1 : Int32} {x2 : Int32} {τ : Mem} (hI : wiM τ) : sf (f_X4_areTwo F x1 x2 τ) (fun r s => s = τ ∧ ((r = 1 ∧ 0 ≤ x1.toInt ∧ x1.toInt ≤ 4 ∧ 0 ≤ x2.toInt ∧ x2.toInt ≤ 4) ∨ r = 0)) := by
  rw [f_X4_areTwo_e]
  have b1 := ti_lo x1
  have b2 := ti_hi x1
  refine sf_bnd (s_X4_isLooker hF hI) (fun r3 u4 p5 => ?_)
  obtain ⟨e9, p5⟩ := p5
  have e9 := e9.symm
  subst e9
  rcases p5 with ⟨rfl, q6, q7⟩ | p5
  · refine sf_ite (fun c8 => ?_) (fun c8 => ?_)
    · have C8 : (1 : Int) = (0 : Int) := ti_eq c8
      exfalso; omega
    have C8 : ¬ (1 : Int) = (0 : Int) := ti_ne c8
    have b9 := ti_lo x2
    have b10 := ti_hi x2
    refine sf_bnd (s_X4_isLooker hF hI) (fun r11 u12 p13 => ?_)
    obtain ⟨e9, p13⟩ := p13
    have e9 := e9.symm
    subst e9
    rcases p13 with ⟨rfl, q14, q15⟩ | p13
    · refine sf_ite (fun c16 => ?_) (fun c16 => ?_)
      · have C16 : (1 : Int) = (0 : Int) := ti_eq c16
        exfalso; omega
      have C16 : ¬ (1 : Int) = (0 : Int) := ti_ne c16
      refine sf_ite (fun c17 => ?_) (fun c17 => ?_)
      · have C17 : x1.toInt = x2.toInt := ti_eq c17
        rw [j_X4_areTwo_25_e]
        exact sf_ret ⟨rfl, Or.inr (rfl)⟩
      have C17 : ¬ x1.toInt = x2.toInt := ti_ne c17
      exact sf_ret ⟨rfl, Or.inl ⟨rfl, by omega, by omega, by omega, by omega⟩⟩
    obtain rfl := p13
    refine sf_ite (fun c18 => ?_) (fun c18 => ?_)
    · have C18 : (0 : Int) = (0 : Int) := ti_eq c18
      rw [j_X4_areTwo_25_e]
      exact sf_ret ⟨rfl, Or.inr (rfl)⟩
    have C18 : ¬ (0 : Int) = (0 : Int) := ti_ne c18
    exfalso; omega
  obtain rfl := p5
  refine sf_ite (fun c19 => ?_) (fun c19 => ?_)
  · have C19 : (0 : Int) = (0 : Int) := ti_eq c19
    rw [j_X4_areTwo_25_e]
    exact sf_ret ⟨rfl, Or.inr (rfl)⟩
  have C19 : ¬ (0 : Int) = (0 : Int) := ti_ne c19
  exfalso; omega
set_option maxHeartbeats 4000000 in
set_option maxRecDepth 100000 in
theorem s_X4_hasBit {F : Nat} (hF : 73786976294838206464 ≤ F) {x0 : Int32} {x1 : Int32} {τ : Mem} (hI : wiM τ) (x1_1 : 0 ≤ x1.toInt) (x1_2 : x1.toInt ≤ 7) : sf (f_X4_hasBit F x0 x1 τ) (fun r s => s = τ ∧ 0 ≤ r.toInt ∧ r.toInt ≤ 1) := by
  rw [f_X4_hasBit_e]
  have b1 := ti_lo ((x0 >>> (x1 &&& 31)) &&& (1 : Int32))
  have b2 := ti_hi ((x0 >>> (x1 &&& 31)) &&& (1 : Int32))
  refine sf_ite (fun c3 => ?_) (fun c3 => ?_)
  · have C3 : ((x0 >>> (x1 &&& 31)) &&& (1 : Int32)).toInt = (1 : Int) := ti_eq c3
    exact sf_ret ⟨rfl, by decide, by decide⟩
  have C3 : ¬ ((x0 >>> (x1 &&& 31)) &&& (1 : Int32)).toInt = (1 : Int) := ti_ne c3
  exact sf_ret ⟨rfl, by decide, by decide⟩
set_option maxHeartbeats 4000000 in
set_option maxRecDepth 100000 in
theorem s_X4_onesOf {F : Nat} (hF : 73786976294838206464 ≤ F) {x0 : Int32} {τ : Mem} (hI : wiM τ) : sf (f_X4_onesOf F x0 τ) (fun r s => s = τ ∧ -2147483648 ≤ r.toInt ∧ r.toInt ≤ 2147483647) := by
  rw [f_X4_onesOf_e]
  obtain ⟨r, e⟩ := wt_ones (F := F) (σ := τ) F (0 : Int32) x0 (by have := x0.toBitVec.isLt; omega)
  exact ⟨r, τ, e, rfl, ti_lo _, ti_hi _⟩
set_option maxHeartbeats 4000000 in
set_option maxRecDepth 100000 in
theorem s_X4_pullOf {F : Nat} (hF : 73786976294838206464 ≤ F) {x1 : Int32} {x2 : Int32} {τ : Mem} (hI : wiM τ) (x1_1 : 0 ≤ x1.toInt) (x1_2 : x1.toInt ≤ 4) (x2_1 : 0 ≤ x2.toInt) (x2_2 : x2.toInt ≤ 23) : sf (f_X4_pullOf F x1 x2 τ) (fun r s => s = τ ∧ -2147483648 ≤ r.toInt ∧ r.toInt ≤ 2147483647) := by
  rw [f_X4_pullOf_e]
  refine sf_in ?_
  rw [f_X4_in_e]
  have b1 := ti_lo (lg_cmp (Int32.toInt64 x2) (6 : Int64))
  have b2 := ti_hi (lg_cmp (Int32.toInt64 x2) (6 : Int64))
  refine sf_ite (fun c3 => ?_) (fun c3 => ?_)
  · have C3 : (lg_cmp (Int32.toInt64 x2) (6 : Int64)).toInt < (0 : Int) := ti_lt c3
    have L3 : x2.toInt < (6 : Int) := by have q := lg_ltl c3; (repeat (rw [Int32.toInt_toInt64] at q)); exact q
    rw [j_X4_in_17_e]
    refine sf_ret ?_
    refine sf_ite (fun c4 => ?_) (fun c4 => ?_)
    · have C4 : (0 : Int) = (0 : Int) := ti_eq c4
      rw [j_X4_pullOf_19_e]
      refine sf_chk (ti_in (by omega) (by omega)) ?_
      have v5 : Int32.toNatClampNeg x1 = x1.toInt.toNat := rfl
      have b7 := ti_lo (τ 105 (Int32.toNatClampNeg x1))
      have b8 := ti_hi (τ 105 (Int32.toNatClampNeg x1))
      have b9 := ti_lo ((τ 105 (Int32.toNatClampNeg x1)) / (3 : Int32))
      have b10 := ti_hi ((τ 105 (Int32.toNatClampNeg x1)) / (3 : Int32))
      have b11 := ti_lo ((1 : Int32) + ((τ 105 (Int32.toNatClampNeg x1)) / (3 : Int32)))
      have b12 := ti_hi ((1 : Int32) + ((τ 105 (Int32.toNatClampNeg x1)) / (3 : Int32)))
      refine sf_lt (fun z6 hz6 => ?_)
      have hz6_ : z6.toInt = ((1 : Int32) + ((τ 105 (Int32.toNatClampNeg x1)) / (3 : Int32))).toInt := (show z6.toInt = ((1 : Int32) + ((τ 105 (Int32.toNatClampNeg x1)) / (3 : Int32))).toInt from congrArg Int32.toInt hz6)
      have b13 := ti_lo (τ 104 (Int32.toNatClampNeg x1))
      have b14 := ti_hi (τ 104 (Int32.toNatClampNeg x1))
      refine sf_ite (fun c15 => ?_) (fun c15 => ?_)
      · have C15 : (τ 104 (Int32.toNatClampNeg x1)).toInt = (1 : Int) := ti_eq c15
        exact sf_ret ⟨rfl, ti_lo _, ti_hi _⟩
      have C15 : ¬ (τ 104 (Int32.toNatClampNeg x1)).toInt = (1 : Int) := ti_ne c15
      refine sf_ite (fun c16 => ?_) (fun c16 => ?_)
      · have C16 : (τ 104 (Int32.toNatClampNeg x1)).toInt = (2 : Int) := ti_eq c16
        have b17 := ti_lo ((τ 105 (Int32.toNatClampNeg x1)) + (8 : Int32))
        have b18 := ti_hi ((τ 105 (Int32.toNatClampNeg x1)) + (8 : Int32))
        refine sf_ite (fun c19 => ?_) (fun c19 => ?_)
        · have C19 : x2.toInt = ((τ 105 (Int32.toNatClampNeg x1)) + (8 : Int32)).toInt := ti_eq c19
          exact sf_ret ⟨rfl, ti_lo _, ti_hi _⟩
        have C19 : ¬ x2.toInt = ((τ 105 (Int32.toNatClampNeg x1)) + (8 : Int32)).toInt := ti_ne c19
        exact sf_ret ⟨rfl, ti_lo _, ti_hi _⟩
      have C16 : ¬ (τ 104 (Int32.toNatClampNeg x1)).toInt = (2 : Int) := ti_ne c16
      refine sf_ite (fun c20 => ?_) (fun c20 => ?_)
      · have C20 : (τ 104 (Int32.toNatClampNeg x1)).toInt = (3 : Int) := ti_eq c20
        have t21 : (x2 - ((x2 / (2 : Int32)) * (2 : Int32))).toInt = x2.toInt % 2 := by rw [ti_rem, Int.tmod_eq_emod_of_nonneg (by omega)]; rfl
        refine sf_ite (fun c22 => ?_) (fun c22 => ?_)
        · have C22 : (x2 - ((x2 / (2 : Int32)) * (2 : Int32))).toInt = (0 : Int) := ti_eq c22
          exact sf_ret ⟨rfl, ti_lo _, ti_hi _⟩
        have C22 : ¬ (x2 - ((x2 / (2 : Int32)) * (2 : Int32))).toInt = (0 : Int) := ti_ne c22
        exact sf_ret ⟨rfl, ti_lo _, ti_hi _⟩
      have C20 : ¬ (τ 104 (Int32.toNatClampNeg x1)).toInt = (3 : Int) := ti_ne c20
      refine sf_ite (fun c23 => ?_) (fun c23 => ?_)
      · have C23 : (τ 104 (Int32.toNatClampNeg x1)).toInt = (4 : Int) := ti_eq c23
        have b24 := ti_lo z6
        have b25 := ti_hi z6
        exact sf_ret ⟨rfl, ti_lo _, ti_hi _⟩
      have C23 : ¬ (τ 104 (Int32.toNatClampNeg x1)).toInt = (4 : Int) := ti_ne c23
      refine sf_ite (fun c26 => ?_) (fun c26 => ?_)
      · have C26 : (τ 104 (Int32.toNatClampNeg x1)).toInt = (5 : Int) := ti_eq c26
        refine sf_ite (fun c27 => ?_) (fun c27 => ?_)
        · have C27 : x2.toInt < (20 : Int) := ti_lt c27
          have b28 := ti_lo z6
          have b29 := ti_hi z6
          exact sf_ret ⟨rfl, ti_lo _, ti_hi _⟩
        have C27 : (20 : Int) ≤ x2.toInt := ti_nlt c27
        exfalso; omega
      have C26 : ¬ (τ 104 (Int32.toNatClampNeg x1)).toInt = (5 : Int) := ti_ne c26
      exact sf_ret ⟨rfl, ti_lo _, ti_hi _⟩
    have C4 : ¬ (0 : Int) = (0 : Int) := ti_ne c4
    exfalso; omega
  have C3 : (0 : Int) ≤ (lg_cmp (Int32.toInt64 x2) (6 : Int64)).toInt := ti_nlt c3
  have L3 : (6 : Int) ≤ x2.toInt := by have q := lg_ltln c3; (repeat (rw [Int32.toInt_toInt64] at q)); exact q
  have b30 := ti_lo (lg_cmp (Int32.toInt64 x2) (17 : Int64))
  have b31 := ti_hi (lg_cmp (Int32.toInt64 x2) (17 : Int64))
  refine sf_ite (fun c32 => ?_) (fun c32 => ?_)
  · have C32 : (0 : Int) < (lg_cmp (Int32.toInt64 x2) (17 : Int64)).toInt := ti_lt c32
    have L32 : (17 : Int) < x2.toInt := by have q := lg_ltr c32; (repeat (rw [Int32.toInt_toInt64] at q)); exact q
    rw [j_X4_in_17_e]
    refine sf_ret ?_
    refine sf_ite (fun c33 => ?_) (fun c33 => ?_)
    · have C33 : (0 : Int) = (0 : Int) := ti_eq c33
      rw [j_X4_pullOf_19_e]
      refine sf_chk (ti_in (by omega) (by omega)) ?_
      have v34 : Int32.toNatClampNeg x1 = x1.toInt.toNat := rfl
      have b36 := ti_lo (τ 105 (Int32.toNatClampNeg x1))
      have b37 := ti_hi (τ 105 (Int32.toNatClampNeg x1))
      have b38 := ti_lo ((τ 105 (Int32.toNatClampNeg x1)) / (3 : Int32))
      have b39 := ti_hi ((τ 105 (Int32.toNatClampNeg x1)) / (3 : Int32))
      have b40 := ti_lo ((1 : Int32) + ((τ 105 (Int32.toNatClampNeg x1)) / (3 : Int32)))
      have b41 := ti_hi ((1 : Int32) + ((τ 105 (Int32.toNatClampNeg x1)) / (3 : Int32)))
      refine sf_lt (fun z35 hz35 => ?_)
      have hz35_ : z35.toInt = ((1 : Int32) + ((τ 105 (Int32.toNatClampNeg x1)) / (3 : Int32))).toInt := (show z35.toInt = ((1 : Int32) + ((τ 105 (Int32.toNatClampNeg x1)) / (3 : Int32))).toInt from congrArg Int32.toInt hz35)
      have b42 := ti_lo (τ 104 (Int32.toNatClampNeg x1))
      have b43 := ti_hi (τ 104 (Int32.toNatClampNeg x1))
      refine sf_ite (fun c44 => ?_) (fun c44 => ?_)
      · have C44 : (τ 104 (Int32.toNatClampNeg x1)).toInt = (1 : Int) := ti_eq c44
        exact sf_ret ⟨rfl, ti_lo _, ti_hi _⟩
      have C44 : ¬ (τ 104 (Int32.toNatClampNeg x1)).toInt = (1 : Int) := ti_ne c44
      refine sf_ite (fun c45 => ?_) (fun c45 => ?_)
      · have C45 : (τ 104 (Int32.toNatClampNeg x1)).toInt = (2 : Int) := ti_eq c45
        have b46 := ti_lo ((τ 105 (Int32.toNatClampNeg x1)) + (8 : Int32))
        have b47 := ti_hi ((τ 105 (Int32.toNatClampNeg x1)) + (8 : Int32))
        refine sf_ite (fun c48 => ?_) (fun c48 => ?_)
        · have C48 : x2.toInt = ((τ 105 (Int32.toNatClampNeg x1)) + (8 : Int32)).toInt := ti_eq c48
          exact sf_ret ⟨rfl, ti_lo _, ti_hi _⟩
        have C48 : ¬ x2.toInt = ((τ 105 (Int32.toNatClampNeg x1)) + (8 : Int32)).toInt := ti_ne c48
        exact sf_ret ⟨rfl, ti_lo _, ti_hi _⟩
      have C45 : ¬ (τ 104 (Int32.toNatClampNeg x1)).toInt = (2 : Int) := ti_ne c45
      refine sf_ite (fun c49 => ?_) (fun c49 => ?_)
      · have C49 : (τ 104 (Int32.toNatClampNeg x1)).toInt = (3 : Int) := ti_eq c49
        have t50 : (x2 - ((x2 / (2 : Int32)) * (2 : Int32))).toInt = x2.toInt % 2 := by rw [ti_rem, Int.tmod_eq_emod_of_nonneg (by omega)]; rfl
        refine sf_ite (fun c51 => ?_) (fun c51 => ?_)
        · have C51 : (x2 - ((x2 / (2 : Int32)) * (2 : Int32))).toInt = (0 : Int) := ti_eq c51
          exact sf_ret ⟨rfl, ti_lo _, ti_hi _⟩
        have C51 : ¬ (x2 - ((x2 / (2 : Int32)) * (2 : Int32))).toInt = (0 : Int) := ti_ne c51
        exact sf_ret ⟨rfl, ti_lo _, ti_hi _⟩
      have C49 : ¬ (τ 104 (Int32.toNatClampNeg x1)).toInt = (3 : Int) := ti_ne c49
      refine sf_ite (fun c52 => ?_) (fun c52 => ?_)
      · have C52 : (τ 104 (Int32.toNatClampNeg x1)).toInt = (4 : Int) := ti_eq c52
        have b53 := ti_lo z35
        have b54 := ti_hi z35
        exact sf_ret ⟨rfl, ti_lo _, ti_hi _⟩
      have C52 : ¬ (τ 104 (Int32.toNatClampNeg x1)).toInt = (4 : Int) := ti_ne c52
      refine sf_ite (fun c55 => ?_) (fun c55 => ?_)
      · have C55 : (τ 104 (Int32.toNatClampNeg x1)).toInt = (5 : Int) := ti_eq c55
        refine sf_ite (fun c56 => ?_) (fun c56 => ?_)
        · have C56 : x2.toInt < (20 : Int) := ti_lt c56
          have b57 := ti_lo z35
          have b58 := ti_hi z35
          exact sf_ret ⟨rfl, ti_lo _, ti_hi _⟩
        have C56 : (20 : Int) ≤ x2.toInt := ti_nlt c56
        have b59 := ti_lo z35
        have b60 := ti_hi z35
        have b61 := ti_lo ((2 : Int32) * z35)
        have b62 := ti_hi ((2 : Int32) * z35)
        exact sf_ret ⟨rfl, ti_lo _, ti_hi _⟩
      have C55 : ¬ (τ 104 (Int32.toNatClampNeg x1)).toInt = (5 : Int) := ti_ne c55
      exact sf_ret ⟨rfl, ti_lo _, ti_hi _⟩
    have C33 : ¬ (0 : Int) = (0 : Int) := ti_ne c33
    exfalso; omega
  have C32 : (lg_cmp (Int32.toInt64 x2) (17 : Int64)).toInt ≤ (0 : Int) := ti_nlt c32
  have L32 : x2.toInt ≤ (17 : Int) := by have q := lg_ltrn c32; (repeat (rw [Int32.toInt_toInt64] at q)); exact q
  refine sf_ret ?_
  refine sf_ite (fun c63 => ?_) (fun c63 => ?_)
  · have C63 : (1 : Int) = (0 : Int) := ti_eq c63
    exfalso; omega
  have C63 : ¬ (1 : Int) = (0 : Int) := ti_ne c63
  rw [j_X4_pullOf_19_e]
  refine sf_chk (ti_in (by omega) (by omega)) ?_
  have v64 : Int32.toNatClampNeg x1 = x1.toInt.toNat := rfl
  have b66 := ti_lo (τ 105 (Int32.toNatClampNeg x1))
  have b67 := ti_hi (τ 105 (Int32.toNatClampNeg x1))
  have b68 := ti_lo ((τ 105 (Int32.toNatClampNeg x1)) / (3 : Int32))
  have b69 := ti_hi ((τ 105 (Int32.toNatClampNeg x1)) / (3 : Int32))
  have b70 := ti_lo ((2 : Int32) + ((τ 105 (Int32.toNatClampNeg x1)) / (3 : Int32)))
  have b71 := ti_hi ((2 : Int32) + ((τ 105 (Int32.toNatClampNeg x1)) / (3 : Int32)))
  refine sf_lt (fun z65 hz65 => ?_)
  have hz65_ : z65.toInt = ((2 : Int32) + ((τ 105 (Int32.toNatClampNeg x1)) / (3 : Int32))).toInt := (show z65.toInt = ((2 : Int32) + ((τ 105 (Int32.toNatClampNeg x1)) / (3 : Int32))).toInt from congrArg Int32.toInt hz65)
  have b72 := ti_lo (τ 104 (Int32.toNatClampNeg x1))
  have b73 := ti_hi (τ 104 (Int32.toNatClampNeg x1))
  refine sf_ite (fun c74 => ?_) (fun c74 => ?_)
  · have C74 : (τ 104 (Int32.toNatClampNeg x1)).toInt = (1 : Int) := ti_eq c74
    exact sf_ret ⟨rfl, ti_lo _, ti_hi _⟩
  have C74 : ¬ (τ 104 (Int32.toNatClampNeg x1)).toInt = (1 : Int) := ti_ne c74
  refine sf_ite (fun c75 => ?_) (fun c75 => ?_)
  · have C75 : (τ 104 (Int32.toNatClampNeg x1)).toInt = (2 : Int) := ti_eq c75
    have b76 := ti_lo ((τ 105 (Int32.toNatClampNeg x1)) + (8 : Int32))
    have b77 := ti_hi ((τ 105 (Int32.toNatClampNeg x1)) + (8 : Int32))
    refine sf_ite (fun c78 => ?_) (fun c78 => ?_)
    · have C78 : x2.toInt = ((τ 105 (Int32.toNatClampNeg x1)) + (8 : Int32)).toInt := ti_eq c78
      exact sf_ret ⟨rfl, ti_lo _, ti_hi _⟩
    have C78 : ¬ x2.toInt = ((τ 105 (Int32.toNatClampNeg x1)) + (8 : Int32)).toInt := ti_ne c78
    exact sf_ret ⟨rfl, ti_lo _, ti_hi _⟩
  have C75 : ¬ (τ 104 (Int32.toNatClampNeg x1)).toInt = (2 : Int) := ti_ne c75
  refine sf_ite (fun c79 => ?_) (fun c79 => ?_)
  · have C79 : (τ 104 (Int32.toNatClampNeg x1)).toInt = (3 : Int) := ti_eq c79
    have t80 : (x2 - ((x2 / (2 : Int32)) * (2 : Int32))).toInt = x2.toInt % 2 := by rw [ti_rem, Int.tmod_eq_emod_of_nonneg (by omega)]; rfl
    refine sf_ite (fun c81 => ?_) (fun c81 => ?_)
    · have C81 : (x2 - ((x2 / (2 : Int32)) * (2 : Int32))).toInt = (0 : Int) := ti_eq c81
      exact sf_ret ⟨rfl, ti_lo _, ti_hi _⟩
    have C81 : ¬ (x2 - ((x2 / (2 : Int32)) * (2 : Int32))).toInt = (0 : Int) := ti_ne c81
    exact sf_ret ⟨rfl, ti_lo _, ti_hi _⟩
  have C79 : ¬ (τ 104 (Int32.toNatClampNeg x1)).toInt = (3 : Int) := ti_ne c79
  refine sf_ite (fun c82 => ?_) (fun c82 => ?_)
  · have C82 : (τ 104 (Int32.toNatClampNeg x1)).toInt = (4 : Int) := ti_eq c82
    have b83 := ti_lo z65
    have b84 := ti_hi z65
    exact sf_ret ⟨rfl, ti_lo _, ti_hi _⟩
  have C82 : ¬ (τ 104 (Int32.toNatClampNeg x1)).toInt = (4 : Int) := ti_ne c82
  refine sf_ite (fun c85 => ?_) (fun c85 => ?_)
  · have C85 : (τ 104 (Int32.toNatClampNeg x1)).toInt = (5 : Int) := ti_eq c85
    refine sf_ite (fun c86 => ?_) (fun c86 => ?_)
    · have C86 : x2.toInt < (20 : Int) := ti_lt c86
      have b87 := ti_lo z65
      have b88 := ti_hi z65
      exact sf_ret ⟨rfl, ti_lo _, ti_hi _⟩
    have C86 : (20 : Int) ≤ x2.toInt := ti_nlt c86
    exfalso; omega
  have C85 : ¬ (τ 104 (Int32.toNatClampNeg x1)).toInt = (5 : Int) := ti_ne c85
  exact sf_ret ⟨rfl, ti_lo _, ti_hi _⟩
set_option maxHeartbeats 4000000 in
set_option maxRecDepth 100000 in
theorem sl_X4_allShown_4 {F : Nat} (hF : 73786976294838206464 ≤ F) {τ : Mem} (hI : wiM τ) : ∀ (N : Nat) (x1 : Int32) (x2 : Int32) , 6 < x2.toInt + N → 0 ≤ x2.toInt → x2.toInt ≤ 6 → sf (lp_X4_allShown_4 F N x1 x2 τ) (fun r s => s = τ ∧ -2147483648 ≤ r.toInt ∧ r.toInt ≤ 2147483647) := by
  intro N
  induction N with
  | zero => intro x1 x2 hN x2_1 x2_2; exfalso; omega
  | succ N ih =>
    intro x1 x2 hN x2_1 x2_2
    rw [lp_X4_allShown_4_s]
    have m1 := wx_X4_1 hI
    refine sf_ite (fun c2 => ?_) (fun c2 => ?_)
    · have C2 : (τ 101 1).toInt ≤ x2.toInt := ti_le c2
      have b3 := ti_lo x1
      have b4 := ti_hi x1
      exact sf_ret ⟨rfl, ti_lo _, ti_hi _⟩
    have C2 : x2.toInt < (τ 101 1).toInt := ti_nle c2
    refine sf_chk (ti_in (by omega) (by omega)) ?_
    have v5 : Int32.toNatClampNeg x2 = x2.toInt.toNat := rfl
    have b7 := ti_lo (x1 ||| (τ 103 (Int32.toNatClampNeg x2)))
    have b8 := ti_hi (x1 ||| (τ 103 (Int32.toNatClampNeg x2)))
    refine sf_lt (fun z6 hz6 => ?_)
    have hz6_ : z6.toInt = (x1 ||| (τ 103 (Int32.toNatClampNeg x2))).toInt := (show z6.toInt = (x1 ||| (τ 103 (Int32.toNatClampNeg x2))).toInt from congrArg Int32.toInt hz6)
    have b9 := ti_lo z6
    have b10 := ti_hi z6
    have t11 : (x2 + (1 : Int32)).toInt = x2.toInt + (1 : Int) := ti_add (show -2147483648 ≤ x2.toInt + (1 : Int) by omega) (show x2.toInt + (1 : Int) ≤ 2147483647 by omega)
    exact ih _ _ (by omega) (by omega) (by omega)
set_option maxHeartbeats 4000000 in
set_option maxRecDepth 100000 in
theorem s_X4_allShown {F : Nat} (hF : 73786976294838206464 ≤ F) {τ : Mem} (hI : wiM τ) : sf (f_X4_allShown F τ) (fun r s => s = τ ∧ -2147483648 ≤ r.toInt ∧ r.toInt ≤ 2147483647) := by
  rw [f_X4_allShown_e]
  have l_0 : (0 : Int32).toInt = 0 := rfl
  exact sl_X4_allShown_4 hF hI _ _ _  (by omega) (by decide) (by decide)
set_option maxHeartbeats 4000000 in
set_option maxRecDepth 100000 in
theorem s_X4_seesIn {F : Nat} (hF : 73786976294838206464 ≤ F) {x1 : Int32} {x2 : Int32} {τ : Mem} (hI : wiM τ) (x1_1 : 0 ≤ x1.toInt) (x1_2 : x1.toInt ≤ 4) (x2_1 : 0 ≤ x2.toInt) (x2_2 : x2.toInt ≤ 23) : sf (f_X4_seesIn F x1 x2 τ) (fun r s => s = τ ∧ -2147483648 ≤ r.toInt ∧ r.toInt ≤ 2147483647) := by
  rw [f_X4_seesIn_e]
  have t1 : ((24 : Int32) * x1).toInt = (24 : Int) * x1.toInt := ti_mul (show -2147483648 ≤ (24 : Int) * x1.toInt by omega) (show (24 : Int) * x1.toInt ≤ 2147483647 by omega)
  have t2 : (((24 : Int32) * x1) + x2).toInt = ((24 : Int32) * x1).toInt + x2.toInt := ti_add (show -2147483648 ≤ ((24 : Int32) * x1).toInt + x2.toInt by omega) (show ((24 : Int32) * x1).toInt + x2.toInt ≤ 2147483647 by omega)
  refine sf_chk (ti_in (by omega) (by omega)) ?_
  have v3 : Int32.toNatClampNeg (((24 : Int32) * x1) + x2) = (((24 : Int32) * x1) + x2).toInt.toNat := rfl
  have m5 := wx_106 hI (Int32.toNatClampNeg (((24 : Int32) * x1) + x2))
  refine sf_lt (fun z4 hz4 => ?_)
  have hz4_ : z4.toInt = (τ 106 (Int32.toNatClampNeg (((24 : Int32) * x1) + x2))).toInt := (show z4.toInt = (τ 106 (Int32.toNatClampNeg (((24 : Int32) * x1) + x2))).toInt from congrArg Int32.toInt hz4)
  refine sf_chk (ti_in (by omega) (by omega)) ?_
  have v6 : Int32.toNatClampNeg x1 = x1.toInt.toNat := rfl
  have b7 := ti_lo (τ 104 (Int32.toNatClampNeg x1))
  have b8 := ti_hi (τ 104 (Int32.toNatClampNeg x1))
  refine sf_ite (fun c9 => ?_) (fun c9 => ?_)
  · have C9 : (τ 104 (Int32.toNatClampNeg x1)).toInt = (2 : Int) := ti_eq c9
    refine sf_bnd (s_X4_allShown hF hI) (fun r10 u11 p12 => ?_)
    obtain ⟨e9, p12_1, p12_2⟩ := p12
    have e9 := e9.symm
    subst e9
    have b13 := ti_lo r10
    have b14 := ti_hi r10
    exact sf_ret ⟨rfl, ti_lo _, ti_hi _⟩
  have C9 : ¬ (τ 104 (Int32.toNatClampNeg x1)).toInt = (2 : Int) := ti_ne c9
  refine sf_ite (fun c15 => ?_) (fun c15 => ?_)
  · have C15 : (0 : Int) ≤ z4.toInt := ti_le c15
    refine sf_chk (ti_in (by omega) (by omega)) ?_
    have v16 : Int32.toNatClampNeg z4 = z4.toInt.toNat := rfl
    have b17 := ti_lo (τ 103 (Int32.toNatClampNeg z4))
    have b18 := ti_hi (τ 103 (Int32.toNatClampNeg z4))
    exact sf_ret ⟨rfl, ti_lo _, ti_hi _⟩
  have C15 : z4.toInt < (0 : Int) := ti_nle c15
  exact sf_ret ⟨rfl, ti_lo _, ti_hi _⟩
set_option maxHeartbeats 4000000 in
set_option maxRecDepth 100000 in
theorem sl_X4_bringsOf_5 {F : Nat} (hF : 73786976294838206464 ≤ F) {x1 : Int32} {x2 : Int32} {τ : Mem} (hI : wiM τ) (x1_1 : 0 ≤ x1.toInt) (x1_2 : x1.toInt ≤ 4) (x2_1 : 0 ≤ x2.toInt) (x2_2 : x2.toInt ≤ 7) : ∀ (N : Nat) (x3 : Int32) (x4 : Int32) , 24 < x4.toInt + N → 0 ≤ x4.toInt → x4.toInt ≤ 24 → sf (lp_X4_bringsOf_5 F x1 x2 N x3 x4 τ) (fun r s => s = τ ∧ -2147483648 ≤ r.toInt ∧ r.toInt ≤ 2147483647) := by
  intro N
  induction N with
  | zero => intro x3 x4 hN x4_1 x4_2; exfalso; omega
  | succ N ih =>
    intro x3 x4 hN x4_1 x4_2
    rw [lp_X4_bringsOf_5_s]
    refine sf_ite (fun c1 => ?_) (fun c1 => ?_)
    · have C1 : (24 : Int) ≤ x4.toInt := ti_le c1
      have b2 := ti_lo x3
      have b3 := ti_hi x3
      exact sf_ret ⟨rfl, ti_lo _, ti_hi _⟩
    have C1 : x4.toInt < (24 : Int) := ti_nle c1
    refine sf_bnd (s_X4_seesIn hF hI (by omega) (by omega) (by omega) (by omega)) (fun r4 u5 p6 => ?_)
    obtain ⟨e9, p6_1, p6_2⟩ := p6
    have e9 := e9.symm
    subst e9
    have b7 := ti_lo r4
    have b8 := ti_hi r4
    refine sf_bnd (s_X4_hasBit hF hI (by omega) (by omega)) (fun r9 u10 p11 => ?_)
    obtain ⟨e9, p11_1, p11_2⟩ := p11
    have e9 := e9.symm
    subst e9
    have hb_r9 : r9 = 0 ∨ r9 = 1 := wi_bool p11_1 p11_2
    refine sf_ite (fun c12 => ?_) (fun c12 => ?_)
    · have C12 : r9.toInt = (0 : Int) := ti_eq c12
      rw [j_X4_bringsOf_38_e]
      have b13 := ti_lo x3
      have b14 := ti_hi x3
      have t15 : (x3 + (0 : Int32)).toInt = x3.toInt + (0 : Int) := ti_add (show -2147483648 ≤ x3.toInt + (0 : Int) by omega) (show x3.toInt + (0 : Int) ≤ 2147483647 by omega)
      have t16 : (x4 + (1 : Int32)).toInt = x4.toInt + (1 : Int) := ti_add (show -2147483648 ≤ x4.toInt + (1 : Int) by omega) (show x4.toInt + (1 : Int) ≤ 2147483647 by omega)
      exact ih _ _ (by omega) (by omega) (by omega)
    have C12 : ¬ r9.toInt = (0 : Int) := ti_ne c12
    refine sf_bnd (s_X4_pullOf hF hI (by omega) (by omega) (by omega) (by omega)) (fun r17 u18 p19 => ?_)
    obtain ⟨e9, p19_1, p19_2⟩ := p19
    have e9 := e9.symm
    subst e9
    rw [j_X4_bringsOf_38_e]
    have b20 := ti_lo x3
    have b21 := ti_hi x3
    have b22 := ti_lo r17
    have b23 := ti_hi r17
    have b24 := ti_lo (x3 + r17)
    have b25 := ti_hi (x3 + r17)
    have t26 : (x4 + (1 : Int32)).toInt = x4.toInt + (1 : Int) := ti_add (show -2147483648 ≤ x4.toInt + (1 : Int) by omega) (show x4.toInt + (1 : Int) ≤ 2147483647 by omega)
    exact ih _ _ (by omega) (by omega) (by omega)
set_option maxHeartbeats 4000000 in
set_option maxRecDepth 100000 in
theorem s_X4_bringsOf {F : Nat} (hF : 73786976294838206464 ≤ F) {x1 : Int32} {x2 : Int32} {τ : Mem} (hI : wiM τ) (x1_1 : 0 ≤ x1.toInt) (x1_2 : x1.toInt ≤ 4) (x2_1 : 0 ≤ x2.toInt) (x2_2 : x2.toInt ≤ 7) : sf (f_X4_bringsOf F x1 x2 τ) (fun r s => s = τ ∧ -2147483648 ≤ r.toInt ∧ r.toInt ≤ 2147483647) := by
  rw [f_X4_bringsOf_e]
  have l_0 : (0 : Int32).toInt = 0 := rfl
  exact sl_X4_bringsOf_5 hF hI (by omega) (by omega) (by omega) (by omega) _ _ _  (by omega) (by decide) (by decide)
set_option maxHeartbeats 4000000 in
set_option maxRecDepth 100000 in
theorem sl_X4_layBrings_12 {F : Nat} (hF : 73786976294838206464 ≤ F) {x1 : Int32} {k2 : Int32 → Mem → Option (Unit × Mem)} {τ : Mem} (x1_1 : 0 ≤ x1.toInt) (x1_2 : x1.toInt ≤ 4) {N2 : Nat} (hM2 : 5 < x1.toInt + (N2 + 1)) (hk2 : ∀ (x1 : Int32) (σ : Mem), wiM σ → (∀ k, k < 101 → σ k = τ k) → σ 101 15 = τ 101 15 → σ 101 34 = τ 101 34 → σ 101 1 = τ 101 1 → σ 101 30 = τ 101 30 → σ 101 18 = τ 101 18 → 5 < x1.toInt + N2 → 0 ≤ x1.toInt → x1.toInt ≤ 5 → sf (k2 x1 σ) (fun _ s => wiM s ∧ (∀ k, k < 101 → s k = τ k) ∧ s 101 15 = τ 101 15 ∧ s 101 34 = τ 101 34 ∧ s 101 1 = τ 101 1 ∧ s 101 30 = τ 101 30 ∧ s 101 18 = τ 101 18 ∧ True)) : ∀ (N : Nat) (x2 : Int32) (σ : Mem), wiM σ → (∀ k, k < 101 → σ k = τ k) → σ 101 15 = τ 101 15 → σ 101 34 = τ 101 34 → σ 101 1 = τ 101 1 → σ 101 30 = τ 101 30 → σ 101 18 = τ 101 18 → 8 < x2.toInt + N → 0 ≤ x2.toInt → x2.toInt ≤ 8 → sf (lp_X4_layBrings_12 F k2 x1 N x2 σ) (fun _ s => wiM s ∧ (∀ k, k < 101 → s k = τ k) ∧ s 101 15 = τ 101 15 ∧ s 101 34 = τ 101 34 ∧ s 101 1 = τ 101 1 ∧ s 101 30 = τ 101 30 ∧ s 101 18 = τ 101 18 ∧ True) := by
  intro N
  induction N with
  | zero => intro x2 σ hI Fσ Of15_σ Of34_σ Of1_σ Of30_σ Of18_σ hN x2_1 x2_2; exfalso; omega
  | succ N ih =>
    intro x2 σ hI Fσ Of15_σ Of34_σ Of1_σ Of30_σ Of18_σ hN x2_1 x2_2
    rw [lp_X4_layBrings_12_s]
    refine sf_ite (fun c1 => ?_) (fun c1 => ?_)
    · have C1 : (8 : Int) ≤ x2.toInt := ti_le c1
      have t2 : (x1 + (1 : Int32)).toInt = x1.toInt + (1 : Int) := ti_add (show -2147483648 ≤ x1.toInt + (1 : Int) by omega) (show x1.toInt + (1 : Int) ≤ 2147483647 by omega)
      exact hk2 _ _ hI Fσ Of15_σ Of34_σ Of1_σ Of30_σ Of18_σ (by omega) (by omega) (by omega)
    have C1 : x2.toInt < (8 : Int) := ti_nle c1
    refine sf_bnd (s_X4_bringsOf hF hI (by omega) (by omega) (by omega) (by omega)) (fun r3 u4 p5 => ?_)
    obtain ⟨e9, p5_1, p5_2⟩ := p5
    have e9 := e9.symm
    subst e9
    have t6 : ((8 : Int32) * x1).toInt = (8 : Int) * x1.toInt := ti_mul (show -2147483648 ≤ (8 : Int) * x1.toInt by omega) (show (8 : Int) * x1.toInt ≤ 2147483647 by omega)
    have t7 : (((8 : Int32) * x1) + x2).toInt = ((8 : Int32) * x1).toInt + x2.toInt := ti_add (show -2147483648 ≤ ((8 : Int32) * x1).toInt + x2.toInt by omega) (show ((8 : Int32) * x1).toInt + x2.toInt ≤ 2147483647 by omega)
    refine sf_chk (ti_in (by omega) (by omega)) ?_
    have v8 : Int32.toNatClampNeg (((8 : Int32) * x1) + x2) = (((8 : Int32) * x1) + x2).toInt.toNat := rfl
    refine sf_lt (fun s9 hs9 => ?_)
    have Is9 : wiM s9 := by rw [hs9]; exact wm_oth hI (by decide) (by decide) (by decide) (by decide)
    have Fs9 : ∀ k, k < 101 → s9 k = τ k := fun k hk => (show s9 k = σ k by rw [hs9, up2_k (by omega)]).trans (Fσ k hk)
    have Of15_s9 : s9 101 15 = τ 101 15 := (show s9 101 15 = σ 101 15 by rw [hs9, up2_k (by omega)]).trans Of15_σ
    have Of34_s9 : s9 101 34 = τ 101 34 := (show s9 101 34 = σ 101 34 by rw [hs9, up2_k (by omega)]).trans Of34_σ
    have Of1_s9 : s9 101 1 = τ 101 1 := (show s9 101 1 = σ 101 1 by rw [hs9, up2_k (by omega)]).trans Of1_σ
    have Of30_s9 : s9 101 30 = τ 101 30 := (show s9 101 30 = σ 101 30 by rw [hs9, up2_k (by omega)]).trans Of30_σ
    have Of18_s9 : s9 101 18 = τ 101 18 := (show s9 101 18 = σ 101 18 by rw [hs9, up2_k (by omega)]).trans Of18_σ
    have t10 : (x2 + (1 : Int32)).toInt = x2.toInt + (1 : Int) := ti_add (show -2147483648 ≤ x2.toInt + (1 : Int) by omega) (show x2.toInt + (1 : Int) ≤ 2147483647 by omega)
    exact ih _ _ Is9 Fs9 Of15_s9 Of34_s9 Of1_s9 Of30_s9 Of18_s9 (by omega) (by omega) (by omega)
set_option maxHeartbeats 4000000 in
set_option maxRecDepth 100000 in
theorem sl_X4_layBrings_2 {F : Nat} (hF : 73786976294838206464 ≤ F) {τ : Mem} : ∀ (N : Nat) (x1 : Int32) (σ : Mem), wiM σ → (∀ k, k < 101 → σ k = τ k) → σ 101 15 = τ 101 15 → σ 101 34 = τ 101 34 → σ 101 1 = τ 101 1 → σ 101 30 = τ 101 30 → σ 101 18 = τ 101 18 → 5 < x1.toInt + N → 0 ≤ x1.toInt → x1.toInt ≤ 5 → sf (lp_X4_layBrings_2 F N x1 σ) (fun _ s => wiM s ∧ (∀ k, k < 101 → s k = τ k) ∧ s 101 15 = τ 101 15 ∧ s 101 34 = τ 101 34 ∧ s 101 1 = τ 101 1 ∧ s 101 30 = τ 101 30 ∧ s 101 18 = τ 101 18 ∧ True) := by
  intro N
  induction N with
  | zero => intro x1 σ hI Fσ Of15_σ Of34_σ Of1_σ Of30_σ Of18_σ hN x1_1 x1_2; exfalso; omega
  | succ N ih =>
    intro x1 σ hI Fσ Of15_σ Of34_σ Of1_σ Of30_σ Of18_σ hN x1_1 x1_2
    rw [lp_X4_layBrings_2_s]
    have m1 := wx_X4_3 hI
    refine sf_ite (fun c2 => ?_) (fun c2 => ?_)
    · have C2 : (σ 101 3).toInt ≤ x1.toInt := ti_le c2
      exact sf_ret ⟨hI, Fσ, Of15_σ, Of34_σ, Of1_σ, Of30_σ, Of18_σ, trivial⟩
    have C2 : x1.toInt < (σ 101 3).toInt := ti_nle c2
    have l_0 : (0 : Int32).toInt = 0 := rfl
    exact sl_X4_layBrings_12 hF (by omega) (by omega) (by omega) ih _ _ _ hI Fσ Of15_σ Of34_σ Of1_σ Of30_σ Of18_σ (by omega) (by decide) (by decide)
set_option maxHeartbeats 4000000 in
set_option maxRecDepth 100000 in
theorem s_X4_layBrings {F : Nat} (hF : 73786976294838206464 ≤ F) {τ : Mem} (hI : wiM τ) : sf (f_X4_layBrings F τ) (fun _ s => wiM s ∧ (∀ k, k < 101 → s k = τ k) ∧ s 101 15 = τ 101 15 ∧ s 101 34 = τ 101 34 ∧ s 101 1 = τ 101 1 ∧ s 101 30 = τ 101 30 ∧ s 101 18 = τ 101 18 ∧ True) := by
  have Fτ : ∀ k, k < 101 → τ k = τ k := fun _ _ => rfl
  have Of15_τ : τ 101 15 = τ 101 15 := rfl
  have Of34_τ : τ 101 34 = τ 101 34 := rfl
  have Of1_τ : τ 101 1 = τ 101 1 := rfl
  have Of30_τ : τ 101 30 = τ 101 30 := rfl
  have Of18_τ : τ 101 18 = τ 101 18 := rfl
  rw [f_X4_layBrings_e]
  have l_0 : (0 : Int32).toInt = 0 := rfl
  exact sl_X4_layBrings_2 hF _ _ _ hI Fτ Of15_τ Of34_τ Of1_τ Of30_τ Of18_τ (by omega) (by decide) (by decide)
set_option maxHeartbeats 4000000 in
set_option maxRecDepth 100000 in
theorem s_X4_held {F : Nat} (hF : 73786976294838206464 ≤ F) {x0 : Int32} {τ : Mem} (hI : wiM τ) : sf (f_X4_held F x0 τ) (fun r s => s = τ ∧ -2147483648 ≤ r.toInt ∧ r.toInt ≤ 99999) := by
  rw [f_X4_held_e]
  have b1 := ti_lo x0
  have b2 := ti_hi x0
  refine sf_ite (fun c3 => ?_) (fun c3 => ?_)
  · have C3 : x0.toInt ≤ (99999 : Int) := ti_le c3
    exact sf_ret ⟨rfl, by omega, by omega⟩
  have C3 : (99999 : Int) < x0.toInt := ti_nle c3
  exact sf_ret ⟨rfl, by decide, by decide⟩
set_option maxHeartbeats 4000000 in
set_option maxRecDepth 100000 in
theorem sl_X4_ownerLooked_13 {F : Nat} (hF : 73786976294838206464 ≤ F) {τ : Mem} (hI : wiM τ) : ∀ (N : Nat) (x1 : Int32) (x2 : Int32) (x3 : Int32) (x4 : Int32) (x5 : Int32) , 5 < x5.toInt + N → -9 ≤ x1.toInt → x1.toInt ≤ 4 → 0 ≤ x2.toInt → x2.toInt ≤ 2147483647 → 0 ≤ x4.toInt → x4.toInt ≤ 1 → 0 ≤ x5.toInt → x5.toInt ≤ 5 → sf (lp_X4_ownerLooked_13 F N x1 x2 x3 x4 x5 τ) (fun r s => s = τ ∧ -9 ≤ r.toInt ∧ r.toInt ≤ 4) := by
  intro N
  induction N with
  | zero => intro x1 x2 x3 x4 x5 hN x1_1 x1_2 x2_1 x2_2 x4_1 x4_2 x5_1 x5_2; exfalso; omega
  | succ N ih =>
    intro x1 x2 x3 x4 x5 hN x1_1 x1_2 x2_1 x2_2 x4_1 x4_2 x5_1 x5_2
    rw [lp_X4_ownerLooked_13_s]
    have m1 := wx_X4_3 hI
    refine sf_ite (fun c2 => ?_) (fun c2 => ?_)
    · have C2 : (τ 101 3).toInt ≤ x5.toInt := ti_le c2
      refine sf_ite (fun c3 => ?_) (fun c3 => ?_)
      · have C3 : x1.toInt < (0 : Int) := ti_lt c3
        rw [j_X4_ownerLooked_156_e]
        rw [j_X4_ownerLooked_157_e]
        refine sf_ite (fun c4 => ?_) (fun c4 => ?_)
        · have C4 : (0 : Int) = (0 : Int) := ti_eq c4
          exact sf_ret ⟨rfl, by decide, by decide⟩
        have C4 : ¬ (0 : Int) = (0 : Int) := ti_ne c4
        exfalso; omega
      have C3 : (0 : Int) ≤ x1.toInt := ti_nlt c3
      have b5 := ti_lo (τ 101 8)
      have b6 := ti_hi (τ 101 8)
      refine sf_ite (fun c7 => ?_) (fun c7 => ?_)
      · have C7 : (τ 101 8).toInt = (0 : Int) := ti_eq c7
        rw [j_X4_ownerLooked_152_e]
        rw [j_X4_ownerLooked_157_e]
        refine sf_ite (fun c8 => ?_) (fun c8 => ?_)
        · have C8 : (1 : Int) = (0 : Int) := ti_eq c8
          exfalso; omega
        have C8 : ¬ (1 : Int) = (0 : Int) := ti_ne c8
        exact sf_ret ⟨rfl, by omega, by omega⟩
      have C7 : ¬ (τ 101 8).toInt = (0 : Int) := ti_ne c7
      refine sf_ite (fun c9 => ?_) (fun c9 => ?_)
      · have C9 : (τ 101 8).toInt = (1 : Int) := ti_eq c9
        refine sf_ite (fun c10 => ?_) (fun c10 => ?_)
        · have C10 : x4.toInt = (0 : Int) := ti_eq c10
          rw [j_X4_ownerLooked_137_e]
          refine sf_ite (fun c11 => ?_) (fun c11 => ?_)
          · have C11 : (τ 101 8).toInt = (2 : Int) := ti_eq c11
            exfalso; omega
          have C11 : ¬ (τ 101 8).toInt = (2 : Int) := ti_ne c11
          rw [j_X4_ownerLooked_156_e]
          rw [j_X4_ownerLooked_157_e]
          refine sf_ite (fun c12 => ?_) (fun c12 => ?_)
          · have C12 : (0 : Int) = (0 : Int) := ti_eq c12
            exact sf_ret ⟨rfl, by decide, by decide⟩
          have C12 : ¬ (0 : Int) = (0 : Int) := ti_ne c12
          exfalso; omega
        have C10 : ¬ x4.toInt = (0 : Int) := ti_ne c10
        rw [j_X4_ownerLooked_152_e]
        rw [j_X4_ownerLooked_157_e]
        refine sf_ite (fun c13 => ?_) (fun c13 => ?_)
        · have C13 : (1 : Int) = (0 : Int) := ti_eq c13
          exfalso; omega
        have C13 : ¬ (1 : Int) = (0 : Int) := ti_ne c13
        exact sf_ret ⟨rfl, by omega, by omega⟩
      have C9 : ¬ (τ 101 8).toInt = (1 : Int) := ti_ne c9
      rw [j_X4_ownerLooked_137_e]
      refine sf_ite (fun c14 => ?_) (fun c14 => ?_)
      · have C14 : (τ 101 8).toInt = (2 : Int) := ti_eq c14
        have b15 := ti_lo x2
        have b16 := ti_hi x2
        have b17 := ti_lo ((2 : Int32) * x2)
        have b18 := ti_hi ((2 : Int32) * x2)
        have b19 := ti_lo x3
        have b20 := ti_hi x3
        refine sf_ite (fun c21 => ?_) (fun c21 => ?_)
        · have C21 : ((2 : Int32) * x2).toInt ≤ x3.toInt := ti_le c21
          rw [j_X4_ownerLooked_156_e]
          rw [j_X4_ownerLooked_157_e]
          refine sf_ite (fun c22 => ?_) (fun c22 => ?_)
          · have C22 : (0 : Int) = (0 : Int) := ti_eq c22
            exact sf_ret ⟨rfl, by decide, by decide⟩
          have C22 : ¬ (0 : Int) = (0 : Int) := ti_ne c22
          exfalso; omega
        have C21 : x3.toInt < ((2 : Int32) * x2).toInt := ti_nle c21
        rw [j_X4_ownerLooked_152_e]
        rw [j_X4_ownerLooked_157_e]
        refine sf_ite (fun c23 => ?_) (fun c23 => ?_)
        · have C23 : (1 : Int) = (0 : Int) := ti_eq c23
          exfalso; omega
        have C23 : ¬ (1 : Int) = (0 : Int) := ti_ne c23
        exact sf_ret ⟨rfl, by omega, by omega⟩
      have C14 : ¬ (τ 101 8).toInt = (2 : Int) := ti_ne c14
      rw [j_X4_ownerLooked_156_e]
      rw [j_X4_ownerLooked_157_e]
      refine sf_ite (fun c24 => ?_) (fun c24 => ?_)
      · have C24 : (0 : Int) = (0 : Int) := ti_eq c24
        exact sf_ret ⟨rfl, by decide, by decide⟩
      have C24 : ¬ (0 : Int) = (0 : Int) := ti_ne c24
      exfalso; omega
    have C2 : x5.toInt < (τ 101 3).toInt := ti_nle c2
    refine sf_chk (ti_in (by omega) (by omega)) ?_
    have v25 : Int32.toNatClampNeg x5 = x5.toInt.toNat := rfl
    have b26 := ti_lo x2
    have b27 := ti_hi x2
    have b28 := ti_lo (τ 110 (Int32.toNatClampNeg x5))
    have b29 := ti_hi (τ 110 (Int32.toNatClampNeg x5))
    refine sf_ite (fun c30 => ?_) (fun c30 => ?_)
    · have C30 : x2.toInt < (τ 110 (Int32.toNatClampNeg x5)).toInt := ti_lt c30
      rw [j_X4_ownerLooked_49_e]
      rw [j_X4_ownerLooked_54_e]
      refine sf_chk (ti_in (by omega) (by omega)) ?_
      have v31 : Int32.toNatClampNeg x5 = x5.toInt.toNat := rfl
      refine sf_ite (fun c32 => ?_) (fun c32 => ?_)
      · have C32 : (τ 110 (Int32.toNatClampNeg x5)).toInt ≤ x2.toInt := ti_le c32
        rw [j_X4_ownerLooked_73_e]
        refine sf_chk (ti_in (by omega) (by omega)) ?_
        have v33 : Int32.toNatClampNeg x5 = x5.toInt.toNat := rfl
        refine sf_ite (fun c34 => ?_) (fun c34 => ?_)
        · have C34 : (τ 110 (Int32.toNatClampNeg x5)).toInt ≤ x2.toInt := ti_le c34
          rw [j_X4_ownerLooked_96_e]
          refine sf_chk (ti_in (by omega) (by omega)) ?_
          have v35 : Int32.toNatClampNeg x5 = x5.toInt.toNat := rfl
          have b37 := ti_lo x3
          have b38 := ti_hi x3
          have b39 := ti_lo (x3 + (τ 110 (Int32.toNatClampNeg x5)))
          have b40 := ti_hi (x3 + (τ 110 (Int32.toNatClampNeg x5)))
          refine sf_lt (fun z36 hz36 => ?_)
          have hz36_ : z36.toInt = (x3 + (τ 110 (Int32.toNatClampNeg x5))).toInt := (show z36.toInt = (x3 + (τ 110 (Int32.toNatClampNeg x5))).toInt from congrArg Int32.toInt hz36)
          have b41 := ti_lo z36
          have b42 := ti_hi z36
          have t43 : (x5 + (1 : Int32)).toInt = x5.toInt + (1 : Int) := ti_add (show -2147483648 ≤ x5.toInt + (1 : Int) by omega) (show x5.toInt + (1 : Int) ≤ 2147483647 by omega)
          exact ih _ _ _ _ _ (by omega) (by omega) (by omega) (by omega) (by omega) (by decide) (by decide) (by omega) (by omega)
        have C34 : x2.toInt < (τ 110 (Int32.toNatClampNeg x5)).toInt := ti_nle c34
        rw [j_X4_ownerLooked_96_e]
        refine sf_chk (ti_in (by omega) (by omega)) ?_
        have v44 : Int32.toNatClampNeg x5 = x5.toInt.toNat := rfl
        have b46 := ti_lo x3
        have b47 := ti_hi x3
        have b48 := ti_lo (x3 + (τ 110 (Int32.toNatClampNeg x5)))
        have b49 := ti_hi (x3 + (τ 110 (Int32.toNatClampNeg x5)))
        refine sf_lt (fun z45 hz45 => ?_)
        have hz45_ : z45.toInt = (x3 + (τ 110 (Int32.toNatClampNeg x5))).toInt := (show z45.toInt = (x3 + (τ 110 (Int32.toNatClampNeg x5))).toInt from congrArg Int32.toInt hz45)
        have b50 := ti_lo z45
        have b51 := ti_hi z45
        have t52 : (x5 + (1 : Int32)).toInt = x5.toInt + (1 : Int) := ti_add (show -2147483648 ≤ x5.toInt + (1 : Int) by omega) (show x5.toInt + (1 : Int) ≤ 2147483647 by omega)
        exact ih _ _ _ _ _ (by omega) (by omega) (by omega) (by omega) (by omega) (by decide) (by decide) (by omega) (by omega)
      have C32 : x2.toInt < (τ 110 (Int32.toNatClampNeg x5)).toInt := ti_nle c32
      rw [j_X4_ownerLooked_73_e]
      refine sf_chk (ti_in (by omega) (by omega)) ?_
      have v53 : Int32.toNatClampNeg x5 = x5.toInt.toNat := rfl
      refine sf_ite (fun c54 => ?_) (fun c54 => ?_)
      · have C54 : (τ 110 (Int32.toNatClampNeg x5)).toInt ≤ x2.toInt := ti_le c54
        rw [j_X4_ownerLooked_96_e]
        refine sf_chk (ti_in (by omega) (by omega)) ?_
        have v55 : Int32.toNatClampNeg x5 = x5.toInt.toNat := rfl
        have b57 := ti_lo x3
        have b58 := ti_hi x3
        have b59 := ti_lo (x3 + (τ 110 (Int32.toNatClampNeg x5)))
        have b60 := ti_hi (x3 + (τ 110 (Int32.toNatClampNeg x5)))
        refine sf_lt (fun z56 hz56 => ?_)
        have hz56_ : z56.toInt = (x3 + (τ 110 (Int32.toNatClampNeg x5))).toInt := (show z56.toInt = (x3 + (τ 110 (Int32.toNatClampNeg x5))).toInt from congrArg Int32.toInt hz56)
        have b61 := ti_lo z56
        have b62 := ti_hi z56
        have t63 : (x5 + (1 : Int32)).toInt = x5.toInt + (1 : Int) := ti_add (show -2147483648 ≤ x5.toInt + (1 : Int) by omega) (show x5.toInt + (1 : Int) ≤ 2147483647 by omega)
        exact ih _ _ _ _ _ (by omega) (by omega) (by omega) (by omega) (by omega) (by decide) (by decide) (by omega) (by omega)
      have C54 : x2.toInt < (τ 110 (Int32.toNatClampNeg x5)).toInt := ti_nle c54
      rw [j_X4_ownerLooked_96_e]
      refine sf_chk (ti_in (by omega) (by omega)) ?_
      have v64 : Int32.toNatClampNeg x5 = x5.toInt.toNat := rfl
      have b66 := ti_lo x3
      have b67 := ti_hi x3
      have b68 := ti_lo (x3 + (τ 110 (Int32.toNatClampNeg x5)))
      have b69 := ti_hi (x3 + (τ 110 (Int32.toNatClampNeg x5)))
      refine sf_lt (fun z65 hz65 => ?_)
      have hz65_ : z65.toInt = (x3 + (τ 110 (Int32.toNatClampNeg x5))).toInt := (show z65.toInt = (x3 + (τ 110 (Int32.toNatClampNeg x5))).toInt from congrArg Int32.toInt hz65)
      have b70 := ti_lo z65
      have b71 := ti_hi z65
      have t72 : (x5 + (1 : Int32)).toInt = x5.toInt + (1 : Int) := ti_add (show -2147483648 ≤ x5.toInt + (1 : Int) by omega) (show x5.toInt + (1 : Int) ≤ 2147483647 by omega)
      exact ih _ _ _ _ _ (by omega) (by omega) (by omega) (by omega) (by omega) (by decide) (by decide) (by omega) (by omega)
    have C30 : (τ 110 (Int32.toNatClampNeg x5)).toInt ≤ x2.toInt := ti_nlt c30
    refine sf_ite (fun c73 => ?_) (fun c73 => ?_)
    · have C73 : x4.toInt = (0 : Int) := ti_eq c73
      rw [j_X4_ownerLooked_53_e]
      rw [j_X4_ownerLooked_54_e]
      refine sf_chk (ti_in (by omega) (by omega)) ?_
      have v74 : Int32.toNatClampNeg x5 = x5.toInt.toNat := rfl
      refine sf_ite (fun c75 => ?_) (fun c75 => ?_)
      · have C75 : (τ 110 (Int32.toNatClampNeg x5)).toInt ≤ x2.toInt := ti_le c75
        rw [j_X4_ownerLooked_73_e]
        refine sf_chk (ti_in (by omega) (by omega)) ?_
        have v76 : Int32.toNatClampNeg x5 = x5.toInt.toNat := rfl
        refine sf_ite (fun c77 => ?_) (fun c77 => ?_)
        · have C77 : (τ 110 (Int32.toNatClampNeg x5)).toInt ≤ x2.toInt := ti_le c77
          rw [j_X4_ownerLooked_96_e]
          refine sf_chk (ti_in (by omega) (by omega)) ?_
          have v78 : Int32.toNatClampNeg x5 = x5.toInt.toNat := rfl
          have b80 := ti_lo x3
          have b81 := ti_hi x3
          have b82 := ti_lo (x3 + (τ 110 (Int32.toNatClampNeg x5)))
          have b83 := ti_hi (x3 + (τ 110 (Int32.toNatClampNeg x5)))
          refine sf_lt (fun z79 hz79 => ?_)
          have hz79_ : z79.toInt = (x3 + (τ 110 (Int32.toNatClampNeg x5))).toInt := (show z79.toInt = (x3 + (τ 110 (Int32.toNatClampNeg x5))).toInt from congrArg Int32.toInt hz79)
          have b84 := ti_lo z79
          have b85 := ti_hi z79
          have t86 : (x5 + (1 : Int32)).toInt = x5.toInt + (1 : Int) := ti_add (show -2147483648 ≤ x5.toInt + (1 : Int) by omega) (show x5.toInt + (1 : Int) ≤ 2147483647 by omega)
          exact ih _ _ _ _ _ (by omega) (by omega) (by omega) (by omega) (by omega) (by decide) (by decide) (by omega) (by omega)
        have C77 : x2.toInt < (τ 110 (Int32.toNatClampNeg x5)).toInt := ti_nle c77
        rw [j_X4_ownerLooked_96_e]
        refine sf_chk (ti_in (by omega) (by omega)) ?_
        have v87 : Int32.toNatClampNeg x5 = x5.toInt.toNat := rfl
        have b89 := ti_lo x3
        have b90 := ti_hi x3
        have b91 := ti_lo (x3 + (τ 110 (Int32.toNatClampNeg x5)))
        have b92 := ti_hi (x3 + (τ 110 (Int32.toNatClampNeg x5)))
        refine sf_lt (fun z88 hz88 => ?_)
        have hz88_ : z88.toInt = (x3 + (τ 110 (Int32.toNatClampNeg x5))).toInt := (show z88.toInt = (x3 + (τ 110 (Int32.toNatClampNeg x5))).toInt from congrArg Int32.toInt hz88)
        have b93 := ti_lo z88
        have b94 := ti_hi z88
        have t95 : (x5 + (1 : Int32)).toInt = x5.toInt + (1 : Int) := ti_add (show -2147483648 ≤ x5.toInt + (1 : Int) by omega) (show x5.toInt + (1 : Int) ≤ 2147483647 by omega)
        exact ih _ _ _ _ _ (by omega) (by omega) (by omega) (by omega) (by omega) (by decide) (by decide) (by omega) (by omega)
      have C75 : x2.toInt < (τ 110 (Int32.toNatClampNeg x5)).toInt := ti_nle c75
      rw [j_X4_ownerLooked_73_e]
      refine sf_chk (ti_in (by omega) (by omega)) ?_
      have v96 : Int32.toNatClampNeg x5 = x5.toInt.toNat := rfl
      refine sf_ite (fun c97 => ?_) (fun c97 => ?_)
      · have C97 : (τ 110 (Int32.toNatClampNeg x5)).toInt ≤ x2.toInt := ti_le c97
        rw [j_X4_ownerLooked_96_e]
        refine sf_chk (ti_in (by omega) (by omega)) ?_
        have v98 : Int32.toNatClampNeg x5 = x5.toInt.toNat := rfl
        have b100 := ti_lo x3
        have b101 := ti_hi x3
        have b102 := ti_lo (x3 + (τ 110 (Int32.toNatClampNeg x5)))
        have b103 := ti_hi (x3 + (τ 110 (Int32.toNatClampNeg x5)))
        refine sf_lt (fun z99 hz99 => ?_)
        have hz99_ : z99.toInt = (x3 + (τ 110 (Int32.toNatClampNeg x5))).toInt := (show z99.toInt = (x3 + (τ 110 (Int32.toNatClampNeg x5))).toInt from congrArg Int32.toInt hz99)
        have b104 := ti_lo z99
        have b105 := ti_hi z99
        have t106 : (x5 + (1 : Int32)).toInt = x5.toInt + (1 : Int) := ti_add (show -2147483648 ≤ x5.toInt + (1 : Int) by omega) (show x5.toInt + (1 : Int) ≤ 2147483647 by omega)
        exact ih _ _ _ _ _ (by omega) (by omega) (by omega) (by omega) (by omega) (by decide) (by decide) (by omega) (by omega)
      have C97 : x2.toInt < (τ 110 (Int32.toNatClampNeg x5)).toInt := ti_nle c97
      rw [j_X4_ownerLooked_96_e]
      refine sf_chk (ti_in (by omega) (by omega)) ?_
      have v107 : Int32.toNatClampNeg x5 = x5.toInt.toNat := rfl
      have b109 := ti_lo x3
      have b110 := ti_hi x3
      have b111 := ti_lo (x3 + (τ 110 (Int32.toNatClampNeg x5)))
      have b112 := ti_hi (x3 + (τ 110 (Int32.toNatClampNeg x5)))
      refine sf_lt (fun z108 hz108 => ?_)
      have hz108_ : z108.toInt = (x3 + (τ 110 (Int32.toNatClampNeg x5))).toInt := (show z108.toInt = (x3 + (τ 110 (Int32.toNatClampNeg x5))).toInt from congrArg Int32.toInt hz108)
      have b113 := ti_lo z108
      have b114 := ti_hi z108
      have t115 : (x5 + (1 : Int32)).toInt = x5.toInt + (1 : Int) := ti_add (show -2147483648 ≤ x5.toInt + (1 : Int) by omega) (show x5.toInt + (1 : Int) ≤ 2147483647 by omega)
      exact ih _ _ _ _ _ (by omega) (by omega) (by omega) (by omega) (by omega) (by decide) (by decide) (by omega) (by omega)
    have C73 : ¬ x4.toInt = (0 : Int) := ti_ne c73
    refine sf_ite (fun c116 => ?_) (fun c116 => ?_)
    · have C116 : x2.toInt ≤ (τ 110 (Int32.toNatClampNeg x5)).toInt := ti_le c116
      rw [j_X4_ownerLooked_53_e]
      rw [j_X4_ownerLooked_54_e]
      refine sf_chk (ti_in (by omega) (by omega)) ?_
      have v117 : Int32.toNatClampNeg x5 = x5.toInt.toNat := rfl
      refine sf_ite (fun c118 => ?_) (fun c118 => ?_)
      · have C118 : (τ 110 (Int32.toNatClampNeg x5)).toInt ≤ x2.toInt := ti_le c118
        rw [j_X4_ownerLooked_73_e]
        refine sf_chk (ti_in (by omega) (by omega)) ?_
        have v119 : Int32.toNatClampNeg x5 = x5.toInt.toNat := rfl
        refine sf_ite (fun c120 => ?_) (fun c120 => ?_)
        · have C120 : (τ 110 (Int32.toNatClampNeg x5)).toInt ≤ x2.toInt := ti_le c120
          rw [j_X4_ownerLooked_96_e]
          refine sf_chk (ti_in (by omega) (by omega)) ?_
          have v121 : Int32.toNatClampNeg x5 = x5.toInt.toNat := rfl
          have b123 := ti_lo x3
          have b124 := ti_hi x3
          have b125 := ti_lo (x3 + (τ 110 (Int32.toNatClampNeg x5)))
          have b126 := ti_hi (x3 + (τ 110 (Int32.toNatClampNeg x5)))
          refine sf_lt (fun z122 hz122 => ?_)
          have hz122_ : z122.toInt = (x3 + (τ 110 (Int32.toNatClampNeg x5))).toInt := (show z122.toInt = (x3 + (τ 110 (Int32.toNatClampNeg x5))).toInt from congrArg Int32.toInt hz122)
          have b127 := ti_lo z122
          have b128 := ti_hi z122
          have t129 : (x5 + (1 : Int32)).toInt = x5.toInt + (1 : Int) := ti_add (show -2147483648 ≤ x5.toInt + (1 : Int) by omega) (show x5.toInt + (1 : Int) ≤ 2147483647 by omega)
          exact ih _ _ _ _ _ (by omega) (by omega) (by omega) (by omega) (by omega) (by decide) (by decide) (by omega) (by omega)
        have C120 : x2.toInt < (τ 110 (Int32.toNatClampNeg x5)).toInt := ti_nle c120
        rw [j_X4_ownerLooked_96_e]
        refine sf_chk (ti_in (by omega) (by omega)) ?_
        have v130 : Int32.toNatClampNeg x5 = x5.toInt.toNat := rfl
        have b132 := ti_lo x3
        have b133 := ti_hi x3
        have b134 := ti_lo (x3 + (τ 110 (Int32.toNatClampNeg x5)))
        have b135 := ti_hi (x3 + (τ 110 (Int32.toNatClampNeg x5)))
        refine sf_lt (fun z131 hz131 => ?_)
        have hz131_ : z131.toInt = (x3 + (τ 110 (Int32.toNatClampNeg x5))).toInt := (show z131.toInt = (x3 + (τ 110 (Int32.toNatClampNeg x5))).toInt from congrArg Int32.toInt hz131)
        have b136 := ti_lo z131
        have b137 := ti_hi z131
        have t138 : (x5 + (1 : Int32)).toInt = x5.toInt + (1 : Int) := ti_add (show -2147483648 ≤ x5.toInt + (1 : Int) by omega) (show x5.toInt + (1 : Int) ≤ 2147483647 by omega)
        exact ih _ _ _ _ _ (by omega) (by omega) (by omega) (by omega) (by omega) (by decide) (by decide) (by omega) (by omega)
      have C118 : x2.toInt < (τ 110 (Int32.toNatClampNeg x5)).toInt := ti_nle c118
      rw [j_X4_ownerLooked_73_e]
      refine sf_chk (ti_in (by omega) (by omega)) ?_
      have v139 : Int32.toNatClampNeg x5 = x5.toInt.toNat := rfl
      refine sf_ite (fun c140 => ?_) (fun c140 => ?_)
      · have C140 : (τ 110 (Int32.toNatClampNeg x5)).toInt ≤ x2.toInt := ti_le c140
        rw [j_X4_ownerLooked_96_e]
        refine sf_chk (ti_in (by omega) (by omega)) ?_
        have v141 : Int32.toNatClampNeg x5 = x5.toInt.toNat := rfl
        have b143 := ti_lo x3
        have b144 := ti_hi x3
        have b145 := ti_lo (x3 + (τ 110 (Int32.toNatClampNeg x5)))
        have b146 := ti_hi (x3 + (τ 110 (Int32.toNatClampNeg x5)))
        refine sf_lt (fun z142 hz142 => ?_)
        have hz142_ : z142.toInt = (x3 + (τ 110 (Int32.toNatClampNeg x5))).toInt := (show z142.toInt = (x3 + (τ 110 (Int32.toNatClampNeg x5))).toInt from congrArg Int32.toInt hz142)
        have b147 := ti_lo z142
        have b148 := ti_hi z142
        have t149 : (x5 + (1 : Int32)).toInt = x5.toInt + (1 : Int) := ti_add (show -2147483648 ≤ x5.toInt + (1 : Int) by omega) (show x5.toInt + (1 : Int) ≤ 2147483647 by omega)
        exact ih _ _ _ _ _ (by omega) (by omega) (by omega) (by omega) (by omega) (by decide) (by decide) (by omega) (by omega)
      have C140 : x2.toInt < (τ 110 (Int32.toNatClampNeg x5)).toInt := ti_nle c140
      rw [j_X4_ownerLooked_96_e]
      refine sf_chk (ti_in (by omega) (by omega)) ?_
      have v150 : Int32.toNatClampNeg x5 = x5.toInt.toNat := rfl
      have b152 := ti_lo x3
      have b153 := ti_hi x3
      have b154 := ti_lo (x3 + (τ 110 (Int32.toNatClampNeg x5)))
      have b155 := ti_hi (x3 + (τ 110 (Int32.toNatClampNeg x5)))
      refine sf_lt (fun z151 hz151 => ?_)
      have hz151_ : z151.toInt = (x3 + (τ 110 (Int32.toNatClampNeg x5))).toInt := (show z151.toInt = (x3 + (τ 110 (Int32.toNatClampNeg x5))).toInt from congrArg Int32.toInt hz151)
      have b156 := ti_lo z151
      have b157 := ti_hi z151
      have t158 : (x5 + (1 : Int32)).toInt = x5.toInt + (1 : Int) := ti_add (show -2147483648 ≤ x5.toInt + (1 : Int) by omega) (show x5.toInt + (1 : Int) ≤ 2147483647 by omega)
      exact ih _ _ _ _ _ (by omega) (by omega) (by omega) (by omega) (by omega) (by decide) (by decide) (by omega) (by omega)
    have C116 : (τ 110 (Int32.toNatClampNeg x5)).toInt < x2.toInt := ti_nle c116
    rw [j_X4_ownerLooked_49_e]
    rw [j_X4_ownerLooked_54_e]
    refine sf_chk (ti_in (by omega) (by omega)) ?_
    have v159 : Int32.toNatClampNeg x5 = x5.toInt.toNat := rfl
    refine sf_ite (fun c160 => ?_) (fun c160 => ?_)
    · have C160 : (τ 110 (Int32.toNatClampNeg x5)).toInt ≤ x2.toInt := ti_le c160
      rw [j_X4_ownerLooked_73_e]
      refine sf_chk (ti_in (by omega) (by omega)) ?_
      have v161 : Int32.toNatClampNeg x5 = x5.toInt.toNat := rfl
      refine sf_ite (fun c162 => ?_) (fun c162 => ?_)
      · have C162 : (τ 110 (Int32.toNatClampNeg x5)).toInt ≤ x2.toInt := ti_le c162
        rw [j_X4_ownerLooked_96_e]
        refine sf_chk (ti_in (by omega) (by omega)) ?_
        have v163 : Int32.toNatClampNeg x5 = x5.toInt.toNat := rfl
        have b165 := ti_lo x3
        have b166 := ti_hi x3
        have b167 := ti_lo (x3 + (τ 110 (Int32.toNatClampNeg x5)))
        have b168 := ti_hi (x3 + (τ 110 (Int32.toNatClampNeg x5)))
        refine sf_lt (fun z164 hz164 => ?_)
        have hz164_ : z164.toInt = (x3 + (τ 110 (Int32.toNatClampNeg x5))).toInt := (show z164.toInt = (x3 + (τ 110 (Int32.toNatClampNeg x5))).toInt from congrArg Int32.toInt hz164)
        have b169 := ti_lo z164
        have b170 := ti_hi z164
        have t171 : (x5 + (1 : Int32)).toInt = x5.toInt + (1 : Int) := ti_add (show -2147483648 ≤ x5.toInt + (1 : Int) by omega) (show x5.toInt + (1 : Int) ≤ 2147483647 by omega)
        exact ih _ _ _ _ _ (by omega) (by omega) (by omega) (by omega) (by omega) (by decide) (by decide) (by omega) (by omega)
      have C162 : x2.toInt < (τ 110 (Int32.toNatClampNeg x5)).toInt := ti_nle c162
      rw [j_X4_ownerLooked_96_e]
      refine sf_chk (ti_in (by omega) (by omega)) ?_
      have v172 : Int32.toNatClampNeg x5 = x5.toInt.toNat := rfl
      have b174 := ti_lo x3
      have b175 := ti_hi x3
      have b176 := ti_lo (x3 + (τ 110 (Int32.toNatClampNeg x5)))
      have b177 := ti_hi (x3 + (τ 110 (Int32.toNatClampNeg x5)))
      refine sf_lt (fun z173 hz173 => ?_)
      have hz173_ : z173.toInt = (x3 + (τ 110 (Int32.toNatClampNeg x5))).toInt := (show z173.toInt = (x3 + (τ 110 (Int32.toNatClampNeg x5))).toInt from congrArg Int32.toInt hz173)
      have b178 := ti_lo z173
      have b179 := ti_hi z173
      have t180 : (x5 + (1 : Int32)).toInt = x5.toInt + (1 : Int) := ti_add (show -2147483648 ≤ x5.toInt + (1 : Int) by omega) (show x5.toInt + (1 : Int) ≤ 2147483647 by omega)
      exact ih _ _ _ _ _ (by omega) (by omega) (by omega) (by omega) (by omega) (by decide) (by decide) (by omega) (by omega)
    have C160 : x2.toInt < (τ 110 (Int32.toNatClampNeg x5)).toInt := ti_nle c160
    rw [j_X4_ownerLooked_73_e]
    refine sf_chk (ti_in (by omega) (by omega)) ?_
    have v181 : Int32.toNatClampNeg x5 = x5.toInt.toNat := rfl
    refine sf_ite (fun c182 => ?_) (fun c182 => ?_)
    · have C182 : (τ 110 (Int32.toNatClampNeg x5)).toInt ≤ x2.toInt := ti_le c182
      rw [j_X4_ownerLooked_96_e]
      refine sf_chk (ti_in (by omega) (by omega)) ?_
      have v183 : Int32.toNatClampNeg x5 = x5.toInt.toNat := rfl
      have b185 := ti_lo x3
      have b186 := ti_hi x3
      have b187 := ti_lo (x3 + (τ 110 (Int32.toNatClampNeg x5)))
      have b188 := ti_hi (x3 + (τ 110 (Int32.toNatClampNeg x5)))
      refine sf_lt (fun z184 hz184 => ?_)
      have hz184_ : z184.toInt = (x3 + (τ 110 (Int32.toNatClampNeg x5))).toInt := (show z184.toInt = (x3 + (τ 110 (Int32.toNatClampNeg x5))).toInt from congrArg Int32.toInt hz184)
      have b189 := ti_lo z184
      have b190 := ti_hi z184
      have t191 : (x5 + (1 : Int32)).toInt = x5.toInt + (1 : Int) := ti_add (show -2147483648 ≤ x5.toInt + (1 : Int) by omega) (show x5.toInt + (1 : Int) ≤ 2147483647 by omega)
      exact ih _ _ _ _ _ (by omega) (by omega) (by omega) (by omega) (by omega) (by decide) (by decide) (by omega) (by omega)
    have C182 : x2.toInt < (τ 110 (Int32.toNatClampNeg x5)).toInt := ti_nle c182
    rw [j_X4_ownerLooked_96_e]
    refine sf_chk (ti_in (by omega) (by omega)) ?_
    have v192 : Int32.toNatClampNeg x5 = x5.toInt.toNat := rfl
    have b194 := ti_lo x3
    have b195 := ti_hi x3
    have b196 := ti_lo (x3 + (τ 110 (Int32.toNatClampNeg x5)))
    have b197 := ti_hi (x3 + (τ 110 (Int32.toNatClampNeg x5)))
    refine sf_lt (fun z193 hz193 => ?_)
    have hz193_ : z193.toInt = (x3 + (τ 110 (Int32.toNatClampNeg x5))).toInt := (show z193.toInt = (x3 + (τ 110 (Int32.toNatClampNeg x5))).toInt from congrArg Int32.toInt hz193)
    have b198 := ti_lo z193
    have b199 := ti_hi z193
    have t200 : (x5 + (1 : Int32)).toInt = x5.toInt + (1 : Int) := ti_add (show -2147483648 ≤ x5.toInt + (1 : Int) by omega) (show x5.toInt + (1 : Int) ≤ 2147483647 by omega)
    exact ih _ _ _ _ _ (by omega) (by omega) (by omega) (by omega) (by omega) (by decide) (by decide) (by omega) (by omega)
set_option maxHeartbeats 4000000 in
set_option maxRecDepth 100000 in
theorem s_X4_ownerLooked {F : Nat} (hF : 73786976294838206464 ≤ F) {τ : Mem} (hI : wiM τ) : sf (f_X4_ownerLooked F τ) (fun r s => s = τ ∧ -9 ≤ r.toInt ∧ r.toInt ≤ 4) := by
  rw [f_X4_ownerLooked_e]
  have l_0 : (0 : Int32).toInt = 0 := rfl
  exact sl_X4_ownerLooked_13 hF hI _ _ _ _ _ _  (by omega) (by decide) (by decide) (by decide) (by decide) (by decide) (by decide) (by decide) (by decide)
set_option maxHeartbeats 4000000 in
set_option maxRecDepth 100000 in
theorem sl_X4_ownerIn_2 {F : Nat} (hF : 73786976294838206464 ≤ F) {x1 : Int32} {x2 : Int32} {τ : Mem} (x1_1 : 0 ≤ x1.toInt) (x1_2 : x1.toInt ≤ 7) (x2_1 : 0 ≤ x2.toInt) (x2_2 : x2.toInt ≤ 999) : ∀ (N : Nat) (x3 : Int32) (σ : Mem), wiM σ → (∀ k, k < 101 → σ k = τ k) → σ 101 15 = τ 101 15 → σ 101 34 = τ 101 34 → σ 101 1 = τ 101 1 → σ 101 30 = τ 101 30 → σ 101 18 = τ 101 18 → 5 < x3.toInt + N → 0 ≤ x3.toInt → x3.toInt ≤ 5 → sf (lp_X4_ownerIn_2 F x1 x2 N x3 σ) (fun r s => wiM s ∧ (∀ k, k < 101 → s k = τ k) ∧ s 101 15 = τ 101 15 ∧ s 101 34 = τ 101 34 ∧ s 101 1 = τ 101 1 ∧ s 101 30 = τ 101 30 ∧ s 101 18 = τ 101 18 ∧ -9 ≤ r.toInt ∧ r.toInt ≤ 4) := by
  intro N
  induction N with
  | zero => intro x3 σ hI Fσ Of15_σ Of34_σ Of1_σ Of30_σ Of18_σ hN x3_1 x3_2; exfalso; omega
  | succ N ih =>
    intro x3 σ hI Fσ Of15_σ Of34_σ Of1_σ Of30_σ Of18_σ hN x3_1 x3_2
    rw [lp_X4_ownerIn_2_s]
    have m1 := wx_X4_3 hI
    refine sf_ite (fun c2 => ?_) (fun c2 => ?_)
    · have C2 : (σ 101 3).toInt ≤ x3.toInt := ti_le c2
      refine sf_bnd (s_X4_ownerLooked hF hI) (fun r3 u4 p5 => ?_)
      obtain ⟨e9, p5_1, p5_2⟩ := p5
      have e9 := e9.symm
      subst e9
      exact sf_ret ⟨hI, Fσ, Of15_σ, Of34_σ, Of1_σ, Of30_σ, Of18_σ, by omega, by omega⟩
    have C2 : x3.toInt < (σ 101 3).toInt := ti_nle c2
    have t6 : ((8 : Int32) * x3).toInt = (8 : Int) * x3.toInt := ti_mul (show -2147483648 ≤ (8 : Int) * x3.toInt by omega) (show (8 : Int) * x3.toInt ≤ 2147483647 by omega)
    have t7 : (((8 : Int32) * x3) + x1).toInt = ((8 : Int32) * x3).toInt + x1.toInt := ti_add (show -2147483648 ≤ ((8 : Int32) * x3).toInt + x1.toInt by omega) (show ((8 : Int32) * x3).toInt + x1.toInt ≤ 2147483647 by omega)
    refine sf_chk (ti_in (by omega) (by omega)) ?_
    have v8 : Int32.toNatClampNeg (((8 : Int32) * x3) + x1) = (((8 : Int32) * x3) + x1).toInt.toNat := rfl
    have b9 := ti_lo (σ 107 (Int32.toNatClampNeg (((8 : Int32) * x3) + x1)))
    have b10 := ti_hi (σ 107 (Int32.toNatClampNeg (((8 : Int32) * x3) + x1)))
    have b11 := ti_lo (σ 109 (Int32.toNatClampNeg (((8 : Int32) * x3) + x1)))
    have b12 := ti_hi (σ 109 (Int32.toNatClampNeg (((8 : Int32) * x3) + x1)))
    have b13 := ti_lo (x2 * (σ 109 (Int32.toNatClampNeg (((8 : Int32) * x3) + x1))))
    have b14 := ti_hi (x2 * (σ 109 (Int32.toNatClampNeg (((8 : Int32) * x3) + x1))))
    have b15 := ti_lo ((σ 107 (Int32.toNatClampNeg (((8 : Int32) * x3) + x1))) + (x2 * (σ 109 (Int32.toNatClampNeg (((8 : Int32) * x3) + x1)))))
    have b16 := ti_hi ((σ 107 (Int32.toNatClampNeg (((8 : Int32) * x3) + x1))) + (x2 * (σ 109 (Int32.toNatClampNeg (((8 : Int32) * x3) + x1)))))
    refine sf_bnd (s_X4_held hF hI) (fun r17 u18 p19 => ?_)
    obtain ⟨e9, p19_1, p19_2⟩ := p19
    have e9 := e9.symm
    subst e9
    refine sf_chk (ti_in (by omega) (by omega)) ?_
    have v20 : Int32.toNatClampNeg x3 = x3.toInt.toNat := rfl
    refine sf_lt (fun s21 hs21 => ?_)
    have Is21 : wiM s21 := by rw [hs21]; exact wm_oth hI (by decide) (by decide) (by decide) (by decide)
    have Fs21 : ∀ k, k < 101 → s21 k = τ k := fun k hk => (show s21 k = σ k by rw [hs21, up2_k (by omega)]).trans (Fσ k hk)
    have Of15_s21 : s21 101 15 = τ 101 15 := (show s21 101 15 = σ 101 15 by rw [hs21, up2_k (by omega)]).trans Of15_σ
    have Of34_s21 : s21 101 34 = τ 101 34 := (show s21 101 34 = σ 101 34 by rw [hs21, up2_k (by omega)]).trans Of34_σ
    have Of1_s21 : s21 101 1 = τ 101 1 := (show s21 101 1 = σ 101 1 by rw [hs21, up2_k (by omega)]).trans Of1_σ
    have Of30_s21 : s21 101 30 = τ 101 30 := (show s21 101 30 = σ 101 30 by rw [hs21, up2_k (by omega)]).trans Of30_σ
    have Of18_s21 : s21 101 18 = τ 101 18 := (show s21 101 18 = σ 101 18 by rw [hs21, up2_k (by omega)]).trans Of18_σ
    have t22 : (x3 + (1 : Int32)).toInt = x3.toInt + (1 : Int) := ti_add (show -2147483648 ≤ x3.toInt + (1 : Int) by omega) (show x3.toInt + (1 : Int) ≤ 2147483647 by omega)
    exact ih _ _ Is21 Fs21 Of15_s21 Of34_s21 Of1_s21 Of30_s21 Of18_s21 (by omega) (by omega) (by omega)
set_option maxHeartbeats 4000000 in
set_option maxRecDepth 100000 in
theorem s_X4_ownerIn {F : Nat} (hF : 73786976294838206464 ≤ F) {x1 : Int32} {x2 : Int32} {τ : Mem} (hI : wiM τ) (x1_1 : 0 ≤ x1.toInt) (x1_2 : x1.toInt ≤ 7) (x2_1 : 0 ≤ x2.toInt) (x2_2 : x2.toInt ≤ 999) : sf (f_X4_ownerIn F x1 x2 τ) (fun r s => wiM s ∧ (∀ k, k < 101 → s k = τ k) ∧ s 101 15 = τ 101 15 ∧ s 101 34 = τ 101 34 ∧ s 101 1 = τ 101 1 ∧ s 101 30 = τ 101 30 ∧ s 101 18 = τ 101 18 ∧ -9 ≤ r.toInt ∧ r.toInt ≤ 4) := by
  have Fτ : ∀ k, k < 101 → τ k = τ k := fun _ _ => rfl
  have Of15_τ : τ 101 15 = τ 101 15 := rfl
  have Of34_τ : τ 101 34 = τ 101 34 := rfl
  have Of1_τ : τ 101 1 = τ 101 1 := rfl
  have Of30_τ : τ 101 30 = τ 101 30 := rfl
  have Of18_τ : τ 101 18 = τ 101 18 := rfl
  rw [f_X4_ownerIn_e]
  have l_0 : (0 : Int32).toInt = 0 := rfl
  exact sl_X4_ownerIn_2 hF (by omega) (by omega) (by omega) (by omega) _ _ _ hI Fτ Of15_τ Of34_τ Of1_τ Of30_τ Of18_τ (by omega) (by decide) (by decide)
set_option maxHeartbeats 4000000 in
set_option maxRecDepth 100000 in
theorem sl_X4_viewsIn_5 {F : Nat} (hF : 73786976294838206464 ≤ F) {x1 : Int32} {x2 : Int32} {τ : Mem} (x1_1 : -9 ≤ x1.toInt) (x1_2 : x1.toInt ≤ 2147483647) (x2_1 : 0 ≤ x2.toInt) (x2_2 : x2.toInt ≤ 999) : ∀ (N : Nat) (x3 : Int32) (x4 : Int32) (σ : Mem), wiM σ → (∀ k, k < 101 → σ k = τ k) → σ 101 15 = τ 101 15 → σ 101 34 = τ 101 34 → σ 101 1 = τ 101 1 → σ 101 30 = τ 101 30 → σ 101 18 = τ 101 18 → 8 < x4.toInt + N → 0 ≤ x4.toInt → x4.toInt ≤ 8 → sf (lp_X4_viewsIn_5 F x1 x2 N x3 x4 σ) (fun r s => wiM s ∧ (∀ k, k < 101 → s k = τ k) ∧ s 101 15 = τ 101 15 ∧ s 101 34 = τ 101 34 ∧ s 101 1 = τ 101 1 ∧ s 101 30 = τ 101 30 ∧ s 101 18 = τ 101 18 ∧ -2147483648 ≤ r.toInt ∧ r.toInt ≤ 2147483647) := by
  intro N
  induction N with
  | zero => intro x3 x4 σ hI Fσ Of15_σ Of34_σ Of1_σ Of30_σ Of18_σ hN x4_1 x4_2; exfalso; omega
  | succ N ih =>
    intro x3 x4 σ hI Fσ Of15_σ Of34_σ Of1_σ Of30_σ Of18_σ hN x4_1 x4_2
    rw [lp_X4_viewsIn_5_s]
    refine sf_ite (fun c1 => ?_) (fun c1 => ?_)
    · have C1 : (8 : Int) ≤ x4.toInt := ti_le c1
      have b2 := ti_lo x3
      have b3 := ti_hi x3
      exact sf_ret ⟨hI, Fσ, Of15_σ, Of34_σ, Of1_σ, Of30_σ, Of18_σ, ti_lo _, ti_hi _⟩
    have C1 : x4.toInt < (8 : Int) := ti_nle c1
    refine sf_bnd (s_X4_ownerIn hF hI (by omega) (by omega) (by omega) (by omega)) (fun r4 u5 p6 => ?_)
    obtain ⟨Iu5, Fu5_, Of15_u5_, Of34_u5_, Of1_u5_, Of30_u5_, Of18_u5_, p6_1, p6_2⟩ := p6
    have Fu5 : ∀ k, k < 101 → u5 k = τ k := fun k hk => (Fu5_ k hk).trans (Fσ k hk)
    have Of15_u5 : u5 101 15 = τ 101 15 := Of15_u5_.trans Of15_σ
    have Of34_u5 : u5 101 34 = τ 101 34 := Of34_u5_.trans Of34_σ
    have Of1_u5 : u5 101 1 = τ 101 1 := Of1_u5_.trans Of1_σ
    have Of30_u5 : u5 101 30 = τ 101 30 := Of30_u5_.trans Of30_σ
    have Of18_u5 : u5 101 18 = τ 101 18 := Of18_u5_.trans Of18_σ
    have b7 := ti_lo x1
    have b8 := ti_hi x1
    refine sf_ite (fun c9 => ?_) (fun c9 => ?_)
    · have C9 : r4.toInt = x1.toInt := ti_eq c9
      rw [j_X4_viewsIn_32_e]
      have b10 := ti_lo (x3 ||| ((1 : Int32) <<< (x4 &&& 31)))
      have b11 := ti_hi (x3 ||| ((1 : Int32) <<< (x4 &&& 31)))
      have t12 : (x4 + (1 : Int32)).toInt = x4.toInt + (1 : Int) := ti_add (show -2147483648 ≤ x4.toInt + (1 : Int) by omega) (show x4.toInt + (1 : Int) ≤ 2147483647 by omega)
      exact ih _ _ _ Iu5 Fu5 Of15_u5 Of34_u5 Of1_u5 Of30_u5 Of18_u5 (by omega) (by omega) (by omega)
    have C9 : ¬ r4.toInt = x1.toInt := ti_ne c9
    rw [j_X4_viewsIn_32_e]
    have b13 := ti_lo (x3 ||| (0 : Int32))
    have b14 := ti_hi (x3 ||| (0 : Int32))
    have t15 : (x4 + (1 : Int32)).toInt = x4.toInt + (1 : Int) := ti_add (show -2147483648 ≤ x4.toInt + (1 : Int) by omega) (show x4.toInt + (1 : Int) ≤ 2147483647 by omega)
    exact ih _ _ _ Iu5 Fu5 Of15_u5 Of34_u5 Of1_u5 Of30_u5 Of18_u5 (by omega) (by omega) (by omega)
set_option maxHeartbeats 4000000 in
set_option maxRecDepth 100000 in
theorem s_X4_viewsIn {F : Nat} (hF : 73786976294838206464 ≤ F) {x1 : Int32} {x2 : Int32} {τ : Mem} (hI : wiM τ) (x1_1 : -9 ≤ x1.toInt) (x1_2 : x1.toInt ≤ 2147483647) (x2_1 : 0 ≤ x2.toInt) (x2_2 : x2.toInt ≤ 999) : sf (f_X4_viewsIn F x1 x2 τ) (fun r s => wiM s ∧ (∀ k, k < 101 → s k = τ k) ∧ s 101 15 = τ 101 15 ∧ s 101 34 = τ 101 34 ∧ s 101 1 = τ 101 1 ∧ s 101 30 = τ 101 30 ∧ s 101 18 = τ 101 18 ∧ -2147483648 ≤ r.toInt ∧ r.toInt ≤ 2147483647) := by
  have Fτ : ∀ k, k < 101 → τ k = τ k := fun _ _ => rfl
  have Of15_τ : τ 101 15 = τ 101 15 := rfl
  have Of34_τ : τ 101 34 = τ 101 34 := rfl
  have Of1_τ : τ 101 1 = τ 101 1 := rfl
  have Of30_τ : τ 101 30 = τ 101 30 := rfl
  have Of18_τ : τ 101 18 = τ 101 18 := rfl
  rw [f_X4_viewsIn_e]
  have b1 := ti_lo x1
  have b2 := ti_hi x1
  have l_0 : (0 : Int32).toInt = 0 := rfl
  exact sl_X4_viewsIn_5 hF (by omega) (by omega) (by omega) (by omega) _ _ _ _ hI Fτ Of15_τ Of34_τ Of1_τ Of30_τ Of18_τ (by omega) (by decide) (by decide)
set_option maxHeartbeats 4000000 in
set_option maxRecDepth 100000 in
theorem sl_X4_worthBy_4 {F : Nat} (hF : 73786976294838206464 ≤ F) {x1 : Int32} {τ : Mem} (hI : wiM τ) : ∀ (N : Nat) (x2 : Int32) (x3 : Int32) , 8 < x3.toInt + N → 0 ≤ x3.toInt → x3.toInt ≤ 8 → sf (lp_X4_worthBy_4 F x1 N x2 x3 τ) (fun r s => s = τ ∧ -2147483648 ≤ r.toInt ∧ r.toInt ≤ 2147483647) := by
  intro N
  induction N with
  | zero => intro x2 x3 hN x3_1 x3_2; exfalso; omega
  | succ N ih =>
    intro x2 x3 hN x3_1 x3_2
    rw [lp_X4_worthBy_4_s]
    refine sf_ite (fun c1 => ?_) (fun c1 => ?_)
    · have C1 : (8 : Int) ≤ x3.toInt := ti_le c1
      have b2 := ti_lo x2
      have b3 := ti_hi x2
      exact sf_ret ⟨rfl, ti_lo _, ti_hi _⟩
    have C1 : x3.toInt < (8 : Int) := ti_nle c1
    have b4 := ti_lo x1
    have b5 := ti_hi x1
    refine sf_bnd (s_X4_hasBit hF hI (by omega) (by omega)) (fun r6 u7 p8 => ?_)
    obtain ⟨e9, p8_1, p8_2⟩ := p8
    have e9 := e9.symm
    subst e9
    have hb_r6 : r6 = 0 ∨ r6 = 1 := wi_bool p8_1 p8_2
    refine sf_ite (fun c9 => ?_) (fun c9 => ?_)
    · have C9 : r6.toInt = (0 : Int) := ti_eq c9
      rw [j_X4_worthBy_29_e]
      have b10 := ti_lo x2
      have b11 := ti_hi x2
      have t12 : (x2 + (0 : Int32)).toInt = x2.toInt + (0 : Int) := ti_add (show -2147483648 ≤ x2.toInt + (0 : Int) by omega) (show x2.toInt + (0 : Int) ≤ 2147483647 by omega)
      have t13 : (x3 + (1 : Int32)).toInt = x3.toInt + (1 : Int) := ti_add (show -2147483648 ≤ x3.toInt + (1 : Int) by omega) (show x3.toInt + (1 : Int) ≤ 2147483647 by omega)
      exact ih _ _ (by omega) (by omega) (by omega)
    have C9 : ¬ r6.toInt = (0 : Int) := ti_ne c9
    refine sf_chk (ti_in (by omega) (by omega)) ?_
    have v14 : Int32.toNatClampNeg x3 = x3.toInt.toNat := rfl
    rw [j_X4_worthBy_29_e]
    have b15 := ti_lo x2
    have b16 := ti_hi x2
    have b17 := ti_lo (τ 102 (Int32.toNatClampNeg x3))
    have b18 := ti_hi (τ 102 (Int32.toNatClampNeg x3))
    have b19 := ti_lo (x2 + (τ 102 (Int32.toNatClampNeg x3)))
    have b20 := ti_hi (x2 + (τ 102 (Int32.toNatClampNeg x3)))
    have t21 : (x3 + (1 : Int32)).toInt = x3.toInt + (1 : Int) := ti_add (show -2147483648 ≤ x3.toInt + (1 : Int) by omega) (show x3.toInt + (1 : Int) ≤ 2147483647 by omega)
    exact ih _ _ (by omega) (by omega) (by omega)
set_option maxHeartbeats 4000000 in
set_option maxRecDepth 100000 in
theorem s_X4_worthBy {F : Nat} (hF : 73786976294838206464 ≤ F) {x1 : Int32} {τ : Mem} (hI : wiM τ) : sf (f_X4_worthBy F x1 τ) (fun r s => s = τ ∧ -2147483648 ≤ r.toInt ∧ r.toInt ≤ 2147483647) := by
  rw [f_X4_worthBy_e]
  have b1 := ti_lo x1
  have b2 := ti_hi x1
  have l_0 : (0 : Int32).toInt = 0 := rfl
  exact sl_X4_worthBy_4 hF hI _ _ _  (by omega) (by decide) (by decide)
set_option maxHeartbeats 4000000 in
set_option maxRecDepth 100000 in
theorem s_X4_worthIn {F : Nat} (hF : 73786976294838206464 ≤ F) {x1 : Int32} {x2 : Int32} {τ : Mem} (hI : wiM τ) (x1_1 : 0 ≤ x1.toInt) (x1_2 : x1.toInt ≤ 2147483647) (x2_1 : 0 ≤ x2.toInt) (x2_2 : x2.toInt ≤ 999) : sf (f_X4_worthIn F x1 x2 τ) (fun r s => wiM s ∧ (∀ k, k < 101 → s k = τ k) ∧ s 101 15 = τ 101 15 ∧ s 101 34 = τ 101 34 ∧ s 101 1 = τ 101 1 ∧ s 101 30 = τ 101 30 ∧ s 101 18 = τ 101 18 ∧ -2147483648 ≤ r.toInt ∧ r.toInt ≤ 2147483647) := by
  have Fτ : ∀ k, k < 101 → τ k = τ k := fun _ _ => rfl
  have Of15_τ : τ 101 15 = τ 101 15 := rfl
  have Of34_τ : τ 101 34 = τ 101 34 := rfl
  have Of1_τ : τ 101 1 = τ 101 1 := rfl
  have Of30_τ : τ 101 30 = τ 101 30 := rfl
  have Of18_τ : τ 101 18 = τ 101 18 := rfl
  rw [f_X4_worthIn_e]
  have b1 := ti_lo x1
  have b2 := ti_hi x1
  refine sf_bnd (s_X4_viewsIn hF hI (by omega) (by omega) (by omega) (by omega)) (fun r3 u4 p5 => ?_)
  obtain ⟨Iu4, Fu4_, Of15_u4_, Of34_u4_, Of1_u4_, Of30_u4_, Of18_u4_, p5_1, p5_2⟩ := p5
  have Fu4 : ∀ k, k < 101 → u4 k = τ k := fun k hk => (Fu4_ k hk).trans (Fτ k hk)
  have Of15_u4 : u4 101 15 = τ 101 15 := Of15_u4_.trans Of15_τ
  have Of34_u4 : u4 101 34 = τ 101 34 := Of34_u4_.trans Of34_τ
  have Of1_u4 : u4 101 1 = τ 101 1 := Of1_u4_.trans Of1_τ
  have Of30_u4 : u4 101 30 = τ 101 30 := Of30_u4_.trans Of30_τ
  have Of18_u4 : u4 101 18 = τ 101 18 := Of18_u4_.trans Of18_τ
  have b6 := ti_lo r3
  have b7 := ti_hi r3
  refine sf_bnd (s_X4_worthBy hF Iu4) (fun r8 u9 p10 => ?_)
  obtain ⟨e9, p10_1, p10_2⟩ := p10
  have e9 := e9.symm
  subst e9
  have b11 := ti_lo r8
  have b12 := ti_hi r8
  exact sf_ret ⟨Iu4, Fu4, Of15_u4, Of34_u4, Of1_u4, Of30_u4, Of18_u4, ti_lo _, ti_hi _⟩
set_option maxHeartbeats 4000000 in
set_option maxRecDepth 100000 in
theorem s_X4_worthAnew {F : Nat} (hF : 73786976294838206464 ≤ F) {x1 : Int32} {x2 : Int32} {τ : Mem} (hI : wiM τ) (x1_1 : 0 ≤ x1.toInt) (x1_2 : x1.toInt ≤ 4) (x2_1 : 0 ≤ x2.toInt) (x2_2 : x2.toInt ≤ 999) : sf (f_X4_worthAnew F x1 x2 τ) (fun r s => wiM s ∧ (∀ k, k < 101 → s k = τ k) ∧ s 101 15 = τ 101 15 ∧ s 101 34 = τ 101 34 ∧ s 101 1 = τ 101 1 ∧ s 101 30 = τ 101 30 ∧ s 101 18 = τ 101 18 ∧ -2147483648 ≤ r.toInt ∧ r.toInt ≤ 2147483647) := by
  have Fτ : ∀ k, k < 101 → τ k = τ k := fun _ _ => rfl
  have Of15_τ : τ 101 15 = τ 101 15 := rfl
  have Of34_τ : τ 101 34 = τ 101 34 := rfl
  have Of1_τ : τ 101 1 = τ 101 1 := rfl
  have Of30_τ : τ 101 30 = τ 101 30 := rfl
  have Of18_τ : τ 101 18 = τ 101 18 := rfl
  rw [f_X4_worthAnew_e]
  refine sf_bnd (s_X4_layBrings hF hI) (fun r1 u2 p3 => ?_)
  obtain ⟨Iu2, Fu2_, Of15_u2_, Of34_u2_, Of1_u2_, Of30_u2_, Of18_u2_, -⟩ := p3
  have Fu2 : ∀ k, k < 101 → u2 k = τ k := fun k hk => (Fu2_ k hk).trans (Fτ k hk)
  have Of15_u2 : u2 101 15 = τ 101 15 := Of15_u2_.trans Of15_τ
  have Of34_u2 : u2 101 34 = τ 101 34 := Of34_u2_.trans Of34_τ
  have Of1_u2 : u2 101 1 = τ 101 1 := Of1_u2_.trans Of1_τ
  have Of30_u2 : u2 101 30 = τ 101 30 := Of30_u2_.trans Of30_τ
  have Of18_u2 : u2 101 18 = τ 101 18 := Of18_u2_.trans Of18_τ
  refine sf_bnd (s_X4_worthIn hF Iu2 (by omega) (by omega) (by omega) (by omega)) (fun r4 u5 p6 => ?_)
  obtain ⟨Iu5, Fu5_, Of15_u5_, Of34_u5_, Of1_u5_, Of30_u5_, Of18_u5_, p6_1, p6_2⟩ := p6
  have Fu5 : ∀ k, k < 101 → u5 k = τ k := fun k hk => (Fu5_ k hk).trans (Fu2 k hk)
  have Of15_u5 : u5 101 15 = τ 101 15 := Of15_u5_.trans Of15_u2
  have Of34_u5 : u5 101 34 = τ 101 34 := Of34_u5_.trans Of34_u2
  have Of1_u5 : u5 101 1 = τ 101 1 := Of1_u5_.trans Of1_u2
  have Of30_u5 : u5 101 30 = τ 101 30 := Of30_u5_.trans Of30_u2
  have Of18_u5 : u5 101 18 = τ 101 18 := Of18_u5_.trans Of18_u2
  have b7 := ti_lo r4
  have b8 := ti_hi r4
  exact sf_ret ⟨Iu5, Fu5, Of15_u5, Of34_u5, Of1_u5, Of30_u5, Of18_u5, ti_lo _, ti_hi _⟩
set_option maxHeartbeats 4000000 in
set_option maxRecDepth 100000 in
theorem sl_X4_hoursOf_4 {F : Nat} (hF : 73786976294838206464 ≤ F) {x1 : Int32} {τ : Mem} (hI : wiM τ) (x1_1 : 0 ≤ x1.toInt) (x1_2 : x1.toInt ≤ 4) : ∀ (N : Nat) (x2 : Int32) (x3 : Int32) , 24 < x3.toInt + N → 0 ≤ x3.toInt → x3.toInt ≤ 24 → sf (lp_X4_hoursOf_4 F x1 N x2 x3 τ) (fun r s => s = τ ∧ -2147483648 ≤ r.toInt ∧ r.toInt ≤ 2147483647) := by
  intro N
  induction N with
  | zero => intro x2 x3 hN x3_1 x3_2; exfalso; omega
  | succ N ih =>
    intro x2 x3 hN x3_1 x3_2
    rw [lp_X4_hoursOf_4_s]
    refine sf_ite (fun c1 => ?_) (fun c1 => ?_)
    · have C1 : (24 : Int) ≤ x3.toInt := ti_le c1
      have b2 := ti_lo x2
      have b3 := ti_hi x2
      exact sf_ret ⟨rfl, ti_lo _, ti_hi _⟩
    have C1 : x3.toInt < (24 : Int) := ti_nle c1
    have t4 : ((24 : Int32) * x1).toInt = (24 : Int) * x1.toInt := ti_mul (show -2147483648 ≤ (24 : Int) * x1.toInt by omega) (show (24 : Int) * x1.toInt ≤ 2147483647 by omega)
    have t5 : (((24 : Int32) * x1) + x3).toInt = ((24 : Int32) * x1).toInt + x3.toInt := ti_add (show -2147483648 ≤ ((24 : Int32) * x1).toInt + x3.toInt by omega) (show ((24 : Int32) * x1).toInt + x3.toInt ≤ 2147483647 by omega)
    refine sf_chk (ti_in (by omega) (by omega)) ?_
    have v6 : Int32.toNatClampNeg (((24 : Int32) * x1) + x3) = (((24 : Int32) * x1) + x3).toInt.toNat := rfl
    have m7 := wx_106 hI (Int32.toNatClampNeg (((24 : Int32) * x1) + x3))
    refine sf_ite (fun c8 => ?_) (fun c8 => ?_)
    · have C8 : (τ 106 (Int32.toNatClampNeg (((24 : Int32) * x1) + x3))).toInt < (0 : Int) := ti_lt c8
      rw [j_X4_hoursOf_30_e]
      have b9 := ti_lo x2
      have b10 := ti_hi x2
      have t11 : (x2 + (0 : Int32)).toInt = x2.toInt + (0 : Int) := ti_add (show -2147483648 ≤ x2.toInt + (0 : Int) by omega) (show x2.toInt + (0 : Int) ≤ 2147483647 by omega)
      have t12 : (x3 + (1 : Int32)).toInt = x3.toInt + (1 : Int) := ti_add (show -2147483648 ≤ x3.toInt + (1 : Int) by omega) (show x3.toInt + (1 : Int) ≤ 2147483647 by omega)
      exact ih _ _ (by omega) (by omega) (by omega)
    have C8 : (0 : Int) ≤ (τ 106 (Int32.toNatClampNeg (((24 : Int32) * x1) + x3))).toInt := ti_nlt c8
    rw [j_X4_hoursOf_30_e]
    have b13 := ti_lo x2
    have b14 := ti_hi x2
    have b15 := ti_lo (x2 + (1 : Int32))
    have b16 := ti_hi (x2 + (1 : Int32))
    have t17 : (x3 + (1 : Int32)).toInt = x3.toInt + (1 : Int) := ti_add (show -2147483648 ≤ x3.toInt + (1 : Int) by omega) (show x3.toInt + (1 : Int) ≤ 2147483647 by omega)
    exact ih _ _ (by omega) (by omega) (by omega)
set_option maxHeartbeats 4000000 in
set_option maxRecDepth 100000 in
theorem s_X4_hoursOf {F : Nat} (hF : 73786976294838206464 ≤ F) {x1 : Int32} {τ : Mem} (hI : wiM τ) (x1_1 : 0 ≤ x1.toInt) (x1_2 : x1.toInt ≤ 4) : sf (f_X4_hoursOf F x1 τ) (fun r s => s = τ ∧ -2147483648 ≤ r.toInt ∧ r.toInt ≤ 2147483647) := by
  rw [f_X4_hoursOf_e]
  have l_0 : (0 : Int32).toInt = 0 := rfl
  exact sl_X4_hoursOf_4 hF hI (by omega) (by omega) _ _ _  (by omega) (by decide) (by decide)
set_option maxHeartbeats 4000000 in
set_option maxRecDepth 100000 in
theorem sl_X4_goDays_6 {F : Nat} (hF : 73786976294838206464 ≤ F) {x1 : Int32} {τ : Mem} (x1_1 : 1 ≤ x1.toInt) (x1_2 : x1.toInt ≤ 99) : ∀ (N : Nat) (x2 : Int32) (σ : Mem), wiM σ → (∀ k, k < 101 → σ k = τ k) → σ 101 15 = τ 101 15 → σ 101 34 = τ 101 34 → σ 101 1 = τ 101 1 → σ 101 30 = τ 101 30 → σ 101 18 = τ 101 18 → 40 < x2.toInt + N → 0 ≤ x2.toInt → x2.toInt ≤ 40 → sf (lp_X4_goDays_6 F x1 N x2 σ) (fun _ s => wiM s ∧ (∀ k, k < 101 → s k = τ k) ∧ s 101 15 = τ 101 15 ∧ s 101 34 = τ 101 34 ∧ s 101 1 = τ 101 1 ∧ s 101 30 = τ 101 30 ∧ s 101 18 = τ 101 18 ∧ True) := by
  intro N
  induction N with
  | zero => intro x2 σ hI Fσ Of15_σ Of34_σ Of1_σ Of30_σ Of18_σ hN x2_1 x2_2; exfalso; omega
  | succ N ih =>
    intro x2 σ hI Fσ Of15_σ Of34_σ Of1_σ Of30_σ Of18_σ hN x2_1 x2_2
    rw [lp_X4_goDays_6_s]
    have m1 := wx_X4_3 hI
    have t2 : ((8 : Int32) * (σ 101 3)).toInt = (8 : Int) * (σ 101 3).toInt := ti_mul (show -2147483648 ≤ (8 : Int) * (σ 101 3).toInt by omega) (show (8 : Int) * (σ 101 3).toInt ≤ 2147483647 by omega)
    refine sf_ite (fun c3 => ?_) (fun c3 => ?_)
    · have C3 : ((8 : Int32) * (σ 101 3)).toInt ≤ x2.toInt := ti_le c3
      refine sf_lt (fun s4 hs4 => ?_)
      have Is4 : wiM s4 := by rw [hs4]; exact wm_fld hI (by decide) (by decide) (by decide) (by decide) (by decide) (by decide) (by decide)
      have Fs4 : ∀ k, k < 101 → s4 k = τ k := fun k hk => (show s4 k = σ k by rw [hs4, up2_k (by omega)]).trans (Fσ k hk)
      have Of15_s4 : s4 101 15 = τ 101 15 := (show s4 101 15 = σ 101 15 by rw [hs4, up2_i (by decide)]).trans Of15_σ
      have Of34_s4 : s4 101 34 = τ 101 34 := (show s4 101 34 = σ 101 34 by rw [hs4, up2_i (by decide)]).trans Of34_σ
      have Of1_s4 : s4 101 1 = τ 101 1 := (show s4 101 1 = σ 101 1 by rw [hs4, up2_i (by decide)]).trans Of1_σ
      have Of30_s4 : s4 101 30 = τ 101 30 := (show s4 101 30 = σ 101 30 by rw [hs4, up2_i (by decide)]).trans Of30_σ
      have Of18_s4 : s4 101 18 = τ 101 18 := (show s4 101 18 = σ 101 18 by rw [hs4, up2_i (by decide)]).trans Of18_σ
      exact sf_ret ⟨Is4, Fs4, Of15_s4, Of34_s4, Of1_s4, Of30_s4, Of18_s4, trivial⟩
    have C3 : x2.toInt < ((8 : Int32) * (σ 101 3)).toInt := ti_nle c3
    refine sf_chk (ti_in (by omega) (by omega)) ?_
    have v5 : Int32.toNatClampNeg x2 = x2.toInt.toNat := rfl
    have b6 := ti_lo (σ 107 (Int32.toNatClampNeg x2))
    have b7 := ti_hi (σ 107 (Int32.toNatClampNeg x2))
    have b8 := ti_lo (σ 109 (Int32.toNatClampNeg x2))
    have b9 := ti_hi (σ 109 (Int32.toNatClampNeg x2))
    have b10 := ti_lo (x1 * (σ 109 (Int32.toNatClampNeg x2)))
    have b11 := ti_hi (x1 * (σ 109 (Int32.toNatClampNeg x2)))
    have b12 := ti_lo ((σ 107 (Int32.toNatClampNeg x2)) + (x1 * (σ 109 (Int32.toNatClampNeg x2))))
    have b13 := ti_hi ((σ 107 (Int32.toNatClampNeg x2)) + (x1 * (σ 109 (Int32.toNatClampNeg x2))))
    refine sf_bnd (s_X4_held hF hI) (fun r14 u15 p16 => ?_)
    obtain ⟨e9, p16_1, p16_2⟩ := p16
    have e9 := e9.symm
    subst e9
    refine sf_lt (fun s17 hs17 => ?_)
    have Is17 : wiM s17 := by rw [hs17]; exact wm_oth hI (by decide) (by decide) (by decide) (by decide)
    have Fs17 : ∀ k, k < 101 → s17 k = τ k := fun k hk => (show s17 k = σ k by rw [hs17, up2_k (by omega)]).trans (Fσ k hk)
    have Of15_s17 : s17 101 15 = τ 101 15 := (show s17 101 15 = σ 101 15 by rw [hs17, up2_k (by omega)]).trans Of15_σ
    have Of34_s17 : s17 101 34 = τ 101 34 := (show s17 101 34 = σ 101 34 by rw [hs17, up2_k (by omega)]).trans Of34_σ
    have Of1_s17 : s17 101 1 = τ 101 1 := (show s17 101 1 = σ 101 1 by rw [hs17, up2_k (by omega)]).trans Of1_σ
    have Of30_s17 : s17 101 30 = τ 101 30 := (show s17 101 30 = σ 101 30 by rw [hs17, up2_k (by omega)]).trans Of30_σ
    have Of18_s17 : s17 101 18 = τ 101 18 := (show s17 101 18 = σ 101 18 by rw [hs17, up2_k (by omega)]).trans Of18_σ
    have t18 : (x2 + (1 : Int32)).toInt = x2.toInt + (1 : Int) := ti_add (show -2147483648 ≤ x2.toInt + (1 : Int) by omega) (show x2.toInt + (1 : Int) ≤ 2147483647 by omega)
    exact ih _ _ Is17 Fs17 Of15_s17 Of34_s17 Of1_s17 Of30_s17 Of18_s17 (by omega) (by omega) (by omega)
set_option maxHeartbeats 4000000 in
set_option maxRecDepth 100000 in
theorem s_X4_goDays {F : Nat} (hF : 73786976294838206464 ≤ F) {x1 : Int32} {τ : Mem} (hI : wiM τ) (x1_1 : 1 ≤ x1.toInt) (x1_2 : x1.toInt ≤ 99) : sf (f_X4_goDays F x1 τ) (fun _ s => wiM s ∧ (∀ k, k < 101 → s k = τ k) ∧ s 101 15 = τ 101 15 ∧ s 101 34 = τ 101 34 ∧ s 101 1 = τ 101 1 ∧ s 101 30 = τ 101 30 ∧ s 101 18 = τ 101 18 ∧ True) := by
  have Fτ : ∀ k, k < 101 → τ k = τ k := fun _ _ => rfl
  have Of15_τ : τ 101 15 = τ 101 15 := rfl
  have Of34_τ : τ 101 34 = τ 101 34 := rfl
  have Of1_τ : τ 101 1 = τ 101 1 := rfl
  have Of30_τ : τ 101 30 = τ 101 30 := rfl
  have Of18_τ : τ 101 18 = τ 101 18 := rfl
  rw [f_X4_goDays_e]
  refine sf_bnd (s_X4_layBrings hF hI) (fun r1 u2 p3 => ?_)
  obtain ⟨Iu2, Fu2_, Of15_u2_, Of34_u2_, Of1_u2_, Of30_u2_, Of18_u2_, -⟩ := p3
  have Fu2 : ∀ k, k < 101 → u2 k = τ k := fun k hk => (Fu2_ k hk).trans (Fτ k hk)
  have Of15_u2 : u2 101 15 = τ 101 15 := Of15_u2_.trans Of15_τ
  have Of34_u2 : u2 101 34 = τ 101 34 := Of34_u2_.trans Of34_τ
  have Of1_u2 : u2 101 1 = τ 101 1 := Of1_u2_.trans Of1_τ
  have Of30_u2 : u2 101 30 = τ 101 30 := Of30_u2_.trans Of30_τ
  have Of18_u2 : u2 101 18 = τ 101 18 := Of18_u2_.trans Of18_τ
  have l_0 : (0 : Int32).toInt = 0 := rfl
  exact sl_X4_goDays_6 hF (by omega) (by omega) _ _ _ Iu2 Fu2 Of15_u2 Of34_u2 Of1_u2 Of30_u2 Of18_u2 (by omega) (by decide) (by decide)
set_option maxHeartbeats 4000000 in
set_option maxRecDepth 100000 in
theorem sl_X4_owned_8 {F : Nat} (hF : 73786976294838206464 ≤ F) {τ : Mem} : ∀ (N : Nat) (x1 : Int32) (x2 : Int32) (σ : Mem), wiM σ → (∀ k, k < 101 → σ k = τ k) → σ 101 15 = τ 101 15 → σ 101 34 = τ 101 34 → σ 101 1 = τ 101 1 → σ 101 30 = τ 101 30 → σ 101 18 = τ 101 18 → 8 < x2.toInt + N → 0 ≤ x2.toInt → x2.toInt ≤ 8 → sf (lp_X4_owned_8 F N x1 x2 σ) (fun r s => wiM s ∧ (∀ k, k < 101 → s k = τ k) ∧ s 101 15 = τ 101 15 ∧ s 101 34 = τ 101 34 ∧ s 101 1 = τ 101 1 ∧ s 101 30 = τ 101 30 ∧ s 101 18 = τ 101 18 ∧ -2147483648 ≤ r.toInt ∧ r.toInt ≤ 2147483647) := by
  intro N
  induction N with
  | zero => intro x1 x2 σ hI Fσ Of15_σ Of34_σ Of1_σ Of30_σ Of18_σ hN x2_1 x2_2; exfalso; omega
  | succ N ih =>
    intro x1 x2 σ hI Fσ Of15_σ Of34_σ Of1_σ Of30_σ Of18_σ hN x2_1 x2_2
    rw [lp_X4_owned_8_s]
    refine sf_ite (fun c1 => ?_) (fun c1 => ?_)
    · have C1 : (8 : Int) ≤ x2.toInt := ti_le c1
      have b2 := ti_lo x1
      have b3 := ti_hi x1
      exact sf_ret ⟨hI, Fσ, Of15_σ, Of34_σ, Of1_σ, Of30_σ, Of18_σ, ti_lo _, ti_hi _⟩
    have C1 : x2.toInt < (8 : Int) := ti_nle c1
    refine sf_bnd (s_X4_ownerIn hF hI (by omega) (by omega) (by decide) (by decide)) (fun r4 u5 p6 => ?_)
    obtain ⟨Iu5, Fu5_, Of15_u5_, Of34_u5_, Of1_u5_, Of30_u5_, Of18_u5_, p6_1, p6_2⟩ := p6
    have Fu5 : ∀ k, k < 101 → u5 k = τ k := fun k hk => (Fu5_ k hk).trans (Fσ k hk)
    have Of15_u5 : u5 101 15 = τ 101 15 := Of15_u5_.trans Of15_σ
    have Of34_u5 : u5 101 34 = τ 101 34 := Of34_u5_.trans Of34_σ
    have Of1_u5 : u5 101 1 = τ 101 1 := Of1_u5_.trans Of1_σ
    have Of30_u5 : u5 101 30 = τ 101 30 := Of30_u5_.trans Of30_σ
    have Of18_u5 : u5 101 18 = τ 101 18 := Of18_u5_.trans Of18_σ
    refine sf_ite (fun c7 => ?_) (fun c7 => ?_)
    · have C7 : (0 : Int) ≤ r4.toInt := ti_le c7
      rw [j_X4_owned_29_e]
      have b8 := ti_lo x1
      have b9 := ti_hi x1
      have b10 := ti_lo (x1 + (1 : Int32))
      have b11 := ti_hi (x1 + (1 : Int32))
      have t12 : (x2 + (1 : Int32)).toInt = x2.toInt + (1 : Int) := ti_add (show -2147483648 ≤ x2.toInt + (1 : Int) by omega) (show x2.toInt + (1 : Int) ≤ 2147483647 by omega)
      exact ih _ _ _ Iu5 Fu5 Of15_u5 Of34_u5 Of1_u5 Of30_u5 Of18_u5 (by omega) (by omega) (by omega)
    have C7 : r4.toInt < (0 : Int) := ti_nle c7
    rw [j_X4_owned_29_e]
    have b13 := ti_lo x1
    have b14 := ti_hi x1
    have t15 : (x1 + (0 : Int32)).toInt = x1.toInt + (0 : Int) := ti_add (show -2147483648 ≤ x1.toInt + (0 : Int) by omega) (show x1.toInt + (0 : Int) ≤ 2147483647 by omega)
    have t16 : (x2 + (1 : Int32)).toInt = x2.toInt + (1 : Int) := ti_add (show -2147483648 ≤ x2.toInt + (1 : Int) by omega) (show x2.toInt + (1 : Int) ≤ 2147483647 by omega)
    exact ih _ _ _ Iu5 Fu5 Of15_u5 Of34_u5 Of1_u5 Of30_u5 Of18_u5 (by omega) (by omega) (by omega)
set_option maxHeartbeats 4000000 in
set_option maxRecDepth 100000 in
theorem s_X4_owned {F : Nat} (hF : 73786976294838206464 ≤ F) {τ : Mem} (hI : wiM τ) : sf (f_X4_owned F τ) (fun r s => wiM s ∧ (∀ k, k < 101 → s k = τ k) ∧ s 101 15 = τ 101 15 ∧ s 101 34 = τ 101 34 ∧ s 101 1 = τ 101 1 ∧ s 101 30 = τ 101 30 ∧ s 101 18 = τ 101 18 ∧ -2147483648 ≤ r.toInt ∧ r.toInt ≤ 2147483647) := by
  have Fτ : ∀ k, k < 101 → τ k = τ k := fun _ _ => rfl
  have Of15_τ : τ 101 15 = τ 101 15 := rfl
  have Of34_τ : τ 101 34 = τ 101 34 := rfl
  have Of1_τ : τ 101 1 = τ 101 1 := rfl
  have Of30_τ : τ 101 30 = τ 101 30 := rfl
  have Of18_τ : τ 101 18 = τ 101 18 := rfl
  rw [f_X4_owned_e]
  refine sf_bnd (s_X4_layBrings hF hI) (fun r1 u2 p3 => ?_)
  obtain ⟨Iu2, Fu2_, Of15_u2_, Of34_u2_, Of1_u2_, Of30_u2_, Of18_u2_, -⟩ := p3
  have Fu2 : ∀ k, k < 101 → u2 k = τ k := fun k hk => (Fu2_ k hk).trans (Fτ k hk)
  have Of15_u2 : u2 101 15 = τ 101 15 := Of15_u2_.trans Of15_τ
  have Of34_u2 : u2 101 34 = τ 101 34 := Of34_u2_.trans Of34_τ
  have Of1_u2 : u2 101 1 = τ 101 1 := Of1_u2_.trans Of1_τ
  have Of30_u2 : u2 101 30 = τ 101 30 := Of30_u2_.trans Of30_τ
  have Of18_u2 : u2 101 18 = τ 101 18 := Of18_u2_.trans Of18_τ
  have l_0 : (0 : Int32).toInt = 0 := rfl
  exact sl_X4_owned_8 hF _ _ _ _ Iu2 Fu2 Of15_u2 Of34_u2 Of1_u2 Of30_u2 Of18_u2 (by omega) (by decide) (by decide)
set_option maxHeartbeats 4000000 in
set_option maxRecDepth 100000 in
theorem s_X4_feed {F : Nat} (hF : 73786976294838206464 ≤ F) {x1 : Int32} {τ : Mem} (hI : wiM τ) : sf (f_X4_feed F x1 τ) (fun r s => wiM s ∧ (∀ k, k < 101 → s k = τ k) ∧ s 101 34 = τ 101 34 ∧ s 101 1 = τ 101 1 ∧ s 101 30 = τ 101 30 ∧ s 101 18 = τ 101 18 ∧ -2147483648 ≤ r.toInt ∧ r.toInt ≤ 2147483647 ∧ ((0 ≤ x1.toInt ∧ x1.toInt ≤ 255 ∧ (τ 101 15).toInt ≤ 95 ∧ (s 101 15).toInt = (τ 101 15).toInt + 1 ∧ r.toInt = (s 101 15).toInt) ∨ (x1.toInt < 0 ∧ (s 101 15).toInt = (τ 101 15).toInt ∧ r.toInt = -4) ∨ (0 ≤ x1.toInt ∧ (255 < x1.toInt ∨ 96 ≤ (τ 101 15).toInt) ∧ (s 101 15).toInt = (τ 101 15).toInt ∧ r.toInt = -6))) := by
  have Fτ : ∀ k, k < 101 → τ k = τ k := fun _ _ => rfl
  have Of15_τ : τ 101 15 = τ 101 15 := rfl
  have Of34_τ : τ 101 34 = τ 101 34 := rfl
  have Of1_τ : τ 101 1 = τ 101 1 := rfl
  have Of30_τ : τ 101 30 = τ 101 30 := rfl
  have Of18_τ : τ 101 18 = τ 101 18 := rfl
  rw [f_X4_feed_e]
  refine sf_lt (fun s1 hs1 => ?_)
  have Is1 : wiM s1 := by rw [hs1]; exact wm_fld hI (by decide) (by decide) (by decide) (by decide) (by decide) (by decide) (by decide)
  have Fs1 : ∀ k, k < 101 → s1 k = τ k := fun k hk => (show s1 k = τ k by rw [hs1, up2_k (by omega)]).trans (Fτ k hk)
  have Of15_s1 : s1 101 15 = τ 101 15 := (show s1 101 15 = τ 101 15 by rw [hs1, up2_i (by decide)]).trans Of15_τ
  have Of34_s1 : s1 101 34 = τ 101 34 := (show s1 101 34 = τ 101 34 by rw [hs1, up2_i (by decide)]).trans Of34_τ
  have Of1_s1 : s1 101 1 = τ 101 1 := (show s1 101 1 = τ 101 1 by rw [hs1, up2_i (by decide)]).trans Of1_τ
  have Of30_s1 : s1 101 30 = τ 101 30 := (show s1 101 30 = τ 101 30 by rw [hs1, up2_i (by decide)]).trans Of30_τ
  have Of18_s1 : s1 101 18 = τ 101 18 := (show s1 101 18 = τ 101 18 by rw [hs1, up2_i (by decide)]).trans Of18_τ
  have b2 := ti_lo x1
  have b3 := ti_hi x1
  refine sf_ite (fun c4 => ?_) (fun c4 => ?_)
  · have C4 : (0 : Int) ≤ x1.toInt := ti_le c4
    refine sf_ite (fun c5 => ?_) (fun c5 => ?_)
    · have C5 : (255 : Int) < x1.toInt := ti_lt c5
      rw [j_X4_feed_32_e]
      refine sf_bnd (s_X4_refuse hF Is1 (by decide) (by decide)) (fun r6 u7 p8 => ?_)
      obtain ⟨Iu7, Fu7_, Of15_u7_, Of34_u7_, Of1_u7_, Of30_u7_, Of18_u7_, p8_1, p8_2, p8_x0⟩ := p8
      have Fu7 : ∀ k, k < 101 → u7 k = τ k := fun k hk => (Fu7_ k hk).trans (Fs1 k hk)
      have Of15_u7 : u7 101 15 = τ 101 15 := Of15_u7_.trans Of15_s1
      have Of34_u7 : u7 101 34 = τ 101 34 := Of34_u7_.trans Of34_s1
      have Of1_u7 : u7 101 1 = τ 101 1 := Of1_u7_.trans Of1_s1
      have Of30_u7 : u7 101 30 = τ 101 30 := Of30_u7_.trans Of30_s1
      have Of18_u7 : u7 101 18 = τ 101 18 := Of18_u7_.trans Of18_s1
      replace p8_x0 : r6.toInt = (-6 : Int) := p8_x0
      have m9 := wx_X4_15 Iu7
      have m10 := wx_X4_15 Is1
      have m11 := wx_X4_15 hI
      have e12 : (s1 101 15).toInt = (τ 101 15).toInt := congrArg Int32.toInt (by rw [hs1, up2_i (by decide)])
      have e13 : (u7 101 15).toInt = (s1 101 15).toInt := congrArg Int32.toInt Of15_u7_
      exact sf_ret ⟨Iu7, Fu7, Of34_u7, Of1_u7, Of30_u7, Of18_u7, ti_lo _, ti_hi _, (show (0 ≤ x1.toInt ∧ x1.toInt ≤ 255 ∧ (τ 101 15).toInt ≤ 95 ∧ (u7 101 15).toInt = (τ 101 15).toInt + 1 ∧ r6.toInt = (u7 101 15).toInt) ∨ (x1.toInt < 0 ∧ (u7 101 15).toInt = (τ 101 15).toInt ∧ r6.toInt = -4) ∨ (0 ≤ x1.toInt ∧ (255 < x1.toInt ∨ 96 ≤ (τ 101 15).toInt) ∧ (u7 101 15).toInt = (τ 101 15).toInt ∧ r6.toInt = -6) from by omega)⟩
    have C5 : x1.toInt ≤ (255 : Int) := ti_nlt c5
    have m14 := wx_X4_15 Is1
    have m15 := wx_X4_15 hI
    have e16 : (s1 101 15).toInt = (τ 101 15).toInt := congrArg Int32.toInt (by rw [hs1, up2_i (by decide)])
    refine sf_ite (fun c17 => ?_) (fun c17 => ?_)
    · have C17 : (s1 101 15).toInt = (96 : Int) := ti_eq c17
      rw [j_X4_feed_32_e]
      refine sf_bnd (s_X4_refuse hF Is1 (by decide) (by decide)) (fun r18 u19 p20 => ?_)
      obtain ⟨Iu19, Fu19_, Of15_u19_, Of34_u19_, Of1_u19_, Of30_u19_, Of18_u19_, p20_1, p20_2, p20_x0⟩ := p20
      have Fu19 : ∀ k, k < 101 → u19 k = τ k := fun k hk => (Fu19_ k hk).trans (Fs1 k hk)
      have Of15_u19 : u19 101 15 = τ 101 15 := Of15_u19_.trans Of15_s1
      have Of34_u19 : u19 101 34 = τ 101 34 := Of34_u19_.trans Of34_s1
      have Of1_u19 : u19 101 1 = τ 101 1 := Of1_u19_.trans Of1_s1
      have Of30_u19 : u19 101 30 = τ 101 30 := Of30_u19_.trans Of30_s1
      have Of18_u19 : u19 101 18 = τ 101 18 := Of18_u19_.trans Of18_s1
      replace p20_x0 : r18.toInt = (-6 : Int) := p20_x0
      have m21 := wx_X4_15 Iu19
      have e22 : (u19 101 15).toInt = (s1 101 15).toInt := congrArg Int32.toInt Of15_u19_
      exact sf_ret ⟨Iu19, Fu19, Of34_u19, Of1_u19, Of30_u19, Of18_u19, ti_lo _, ti_hi _, (show (0 ≤ x1.toInt ∧ x1.toInt ≤ 255 ∧ (τ 101 15).toInt ≤ 95 ∧ (u19 101 15).toInt = (τ 101 15).toInt + 1 ∧ r18.toInt = (u19 101 15).toInt) ∨ (x1.toInt < 0 ∧ (u19 101 15).toInt = (τ 101 15).toInt ∧ r18.toInt = -4) ∨ (0 ≤ x1.toInt ∧ (255 < x1.toInt ∨ 96 ≤ (τ 101 15).toInt) ∧ (u19 101 15).toInt = (τ 101 15).toInt ∧ r18.toInt = -6) from by omega)⟩
    have C17 : ¬ (s1 101 15).toInt = (96 : Int) := ti_ne c17
    refine sf_chk (ti_in (by omega) (by omega)) ?_
    have v23 : Int32.toNatClampNeg (s1 101 15) = (s1 101 15).toInt.toNat := rfl
    refine sf_lt (fun s24 hs24 => ?_)
    have Is24 : wiM s24 := by rw [hs24]; exact wm_oth Is1 (by decide) (by decide) (by decide) (by decide)
    have Fs24 : ∀ k, k < 101 → s24 k = τ k := fun k hk => (show s24 k = s1 k by rw [hs24, up2_k (by omega)]).trans (Fs1 k hk)
    have Of15_s24 : s24 101 15 = τ 101 15 := (show s24 101 15 = s1 101 15 by rw [hs24, up2_k (by omega)]).trans Of15_s1
    have Of34_s24 : s24 101 34 = τ 101 34 := (show s24 101 34 = s1 101 34 by rw [hs24, up2_k (by omega)]).trans Of34_s1
    have Of1_s24 : s24 101 1 = τ 101 1 := (show s24 101 1 = s1 101 1 by rw [hs24, up2_k (by omega)]).trans Of1_s1
    have Of30_s24 : s24 101 30 = τ 101 30 := (show s24 101 30 = s1 101 30 by rw [hs24, up2_k (by omega)]).trans Of30_s1
    have Of18_s24 : s24 101 18 = τ 101 18 := (show s24 101 18 = s1 101 18 by rw [hs24, up2_k (by omega)]).trans Of18_s1
    refine sf_lt (fun s25 hs25 => ?_)
    have m26 := wx_X4_15 Is24
    have e27 : (s24 101 15).toInt = (s1 101 15).toInt := congrArg Int32.toInt (by rw [hs24, up2_k (by omega)])
    have t28 : ((s24 101 15) + (1 : Int32)).toInt = (s24 101 15).toInt + (1 : Int) := ti_add (show -2147483648 ≤ (s24 101 15).toInt + (1 : Int) by omega) (show (s24 101 15).toInt + (1 : Int) ≤ 2147483647 by omega)
    have Is25 : wiM s25 := by rw [hs25]; exact wx_put_X4_15 Is24 (by omega) (by omega)
    have Fs25 : ∀ k, k < 101 → s25 k = τ k := fun k hk => (show s25 k = s24 k by rw [hs25, up2_k (by omega)]).trans (Fs24 k hk)
    have Of34_s25 : s25 101 34 = τ 101 34 := (show s25 101 34 = s24 101 34 by rw [hs25, up2_i (by decide)]).trans Of34_s24
    have Of1_s25 : s25 101 1 = τ 101 1 := (show s25 101 1 = s24 101 1 by rw [hs25, up2_i (by decide)]).trans Of1_s24
    have Of30_s25 : s25 101 30 = τ 101 30 := (show s25 101 30 = s24 101 30 by rw [hs25, up2_i (by decide)]).trans Of30_s24
    have Of18_s25 : s25 101 18 = τ 101 18 := (show s25 101 18 = s24 101 18 by rw [hs25, up2_i (by decide)]).trans Of18_s24
    have m29 := wx_X4_15 Is25
    have e30 : (s25 101 15).toInt = ((s24 101 15) + (1 : Int32)).toInt := (show (s25 101 15).toInt = ((s24 101 15) + (1 : Int32)).toInt from congrArg Int32.toInt (by rw [hs25, up2_s]))
    exact sf_ret ⟨Is25, Fs25, Of34_s25, Of1_s25, Of30_s25, Of18_s25, ti_lo _, ti_hi _, (show (0 ≤ x1.toInt ∧ x1.toInt ≤ 255 ∧ (τ 101 15).toInt ≤ 95 ∧ (s25 101 15).toInt = (τ 101 15).toInt + 1 ∧ (s25 101 15).toInt = (s25 101 15).toInt) ∨ (x1.toInt < 0 ∧ (s25 101 15).toInt = (τ 101 15).toInt ∧ (s25 101 15).toInt = -4) ∨ (0 ≤ x1.toInt ∧ (255 < x1.toInt ∨ 96 ≤ (τ 101 15).toInt) ∧ (s25 101 15).toInt = (τ 101 15).toInt ∧ (s25 101 15).toInt = -6) from by omega)⟩
  have C4 : x1.toInt < (0 : Int) := ti_nle c4
  refine sf_bnd (s_X4_refuse hF Is1 (by decide) (by decide)) (fun r31 u32 p33 => ?_)
  obtain ⟨Iu32, Fu32_, Of15_u32_, Of34_u32_, Of1_u32_, Of30_u32_, Of18_u32_, p33_1, p33_2, p33_x0⟩ := p33
  have Fu32 : ∀ k, k < 101 → u32 k = τ k := fun k hk => (Fu32_ k hk).trans (Fs1 k hk)
  have Of15_u32 : u32 101 15 = τ 101 15 := Of15_u32_.trans Of15_s1
  have Of34_u32 : u32 101 34 = τ 101 34 := Of34_u32_.trans Of34_s1
  have Of1_u32 : u32 101 1 = τ 101 1 := Of1_u32_.trans Of1_s1
  have Of30_u32 : u32 101 30 = τ 101 30 := Of30_u32_.trans Of30_s1
  have Of18_u32 : u32 101 18 = τ 101 18 := Of18_u32_.trans Of18_s1
  replace p33_x0 : r31.toInt = (-4 : Int) := p33_x0
  have m34 := wx_X4_15 Iu32
  have m35 := wx_X4_15 Is1
  have m36 := wx_X4_15 hI
  have e37 : (s1 101 15).toInt = (τ 101 15).toInt := congrArg Int32.toInt (by rw [hs1, up2_i (by decide)])
  have e38 : (u32 101 15).toInt = (s1 101 15).toInt := congrArg Int32.toInt Of15_u32_
  exact sf_ret ⟨Iu32, Fu32, Of34_u32, Of1_u32, Of30_u32, Of18_u32, ti_lo _, ti_hi _, (show (0 ≤ x1.toInt ∧ x1.toInt ≤ 255 ∧ (τ 101 15).toInt ≤ 95 ∧ (u32 101 15).toInt = (τ 101 15).toInt + 1 ∧ r31.toInt = (u32 101 15).toInt) ∨ (x1.toInt < 0 ∧ (u32 101 15).toInt = (τ 101 15).toInt ∧ r31.toInt = -4) ∨ (0 ≤ x1.toInt ∧ (255 < x1.toInt ∨ 96 ≤ (τ 101 15).toInt) ∧ (u32 101 15).toInt = (τ 101 15).toInt ∧ r31.toInt = -6) from by omega)⟩
set_option maxHeartbeats 4000000 in
set_option maxRecDepth 100000 in
theorem s_X4_here {F : Nat} (hF : 73786976294838206464 ≤ F) {τ : Mem} (hI : wiM τ) : sf (f_X4_here F τ) (fun r s => s = τ ∧ -2147483648 ≤ r.toInt ∧ r.toInt ≤ 2147483647 ∧ (((τ 101 15).toInt ≤ (τ 101 16).toInt ∧ r.toInt = -1) ∨ ((τ 101 16).toInt < (τ 101 15).toInt ∧ r.toInt = (τ 111 (Int32.toNatClampNeg (τ 101 16))).toInt))) := by
  rw [f_X4_here_e]
  have m1 := wx_X4_15 hI
  have m2 := wx_X4_16 hI
  refine sf_ite (fun c3 => ?_) (fun c3 => ?_)
  · have C3 : (τ 101 15).toInt ≤ (τ 101 16).toInt := ti_le c3
    exact sf_ret ⟨rfl, ti_lo _, ti_hi _, (show ((τ 101 15).toInt ≤ (τ 101 16).toInt ∧ (-1 : Int) = -1) ∨ ((τ 101 16).toInt < (τ 101 15).toInt ∧ (-1 : Int) = (τ 111 (Int32.toNatClampNeg (τ 101 16))).toInt) from by omega)⟩
  have C3 : (τ 101 16).toInt < (τ 101 15).toInt := ti_nle c3
  refine sf_chk (ti_in (by omega) (by omega)) ?_
  have v4 : Int32.toNatClampNeg (τ 101 16) = (τ 101 16).toInt.toNat := rfl
  have b5 := ti_lo (τ 111 (Int32.toNatClampNeg (τ 101 16)))
  have b6 := ti_hi (τ 111 (Int32.toNatClampNeg (τ 101 16)))
  exact sf_ret ⟨rfl, ti_lo _, ti_hi _, (show ((τ 101 15).toInt ≤ (τ 101 16).toInt ∧ (τ 111 (Int32.toNatClampNeg (τ 101 16))).toInt = -1) ∨ ((τ 101 16).toInt < (τ 101 15).toInt ∧ (τ 111 (Int32.toNatClampNeg (τ 101 16))).toInt = (τ 111 (Int32.toNatClampNeg (τ 101 16))).toInt) from by omega)⟩
set_option maxHeartbeats 4000000 in
set_option maxRecDepth 100000 in
theorem sl_X4_readDigits_4 {F : Nat} (hF : 73786976294838206464 ≤ F) {x1 : Int32} {τ : Mem} (x1_1 : 1 ≤ x1.toInt) (x1_2 : x1.toInt ≤ 3) : ∀ (N : Nat) (x2 : Int32) (x3 : Int32) (σ : Mem), wiM σ → (∀ k, k < 101 → σ k = τ k) → σ 101 15 = τ 101 15 → σ 101 34 = τ 101 34 → σ 101 1 = τ 101 1 → σ 101 30 = τ 101 30 → σ 101 18 = τ 101 18 → 3 < x3.toInt + N → 0 ≤ x2.toInt → x2.toInt ≤ 999 → 0 ≤ x3.toInt → x3.toInt ≤ 3 → ((x3.toInt = 0 ∧ x2.toInt = 0) ∨ (x3.toInt = 1 ∧ x2.toInt ≤ 9) ∨ (x3.toInt = 2 ∧ x2.toInt ≤ 99) ∨ (x3.toInt = 3 ∧ x2.toInt ≤ 999)) → ((σ 101 17).toInt = 0 → (τ 101 16).toInt + x3.toInt ≤ (σ 101 16).toInt) → ((τ 101 16).toInt ≤ (σ 101 16).toInt) → sf (lp_X4_readDigits_4 F x1 N x2 x3 σ) (fun r s => wiM s ∧ (∀ k, k < 101 → s k = τ k) ∧ s 101 15 = τ 101 15 ∧ s 101 34 = τ 101 34 ∧ s 101 1 = τ 101 1 ∧ s 101 30 = τ 101 30 ∧ s 101 18 = τ 101 18 ∧ 0 ≤ r.toInt ∧ r.toInt ≤ 999 ∧ ((s 101 17).toInt = 0 → (τ 101 16).toInt + x1.toInt ≤ (s 101 16).toInt) ∧ ((τ 101 16).toInt ≤ (s 101 16).toInt)) := by
  intro N
  induction N with
  | zero => intro x2 x3 σ hI Fσ Of15_σ Of34_σ Of1_σ Of30_σ Of18_σ hN x2_1 x2_2 x3_1 x3_2 xl0 xl1 xl2; exfalso; omega
  | succ N ih =>
    intro x2 x3 σ hI Fσ Of15_σ Of34_σ Of1_σ Of30_σ Of18_σ hN x2_1 x2_2 x3_1 x3_2 xl0 xl1 xl2
    rw [lp_X4_readDigits_4_s]
    refine sf_ite (fun c1 => ?_) (fun c1 => ?_)
    · have C1 : x1.toInt ≤ x3.toInt := ti_le c1
      have b2 := ti_lo (σ 101 17)
      have b3 := ti_hi (σ 101 17)
      have m4 := wx_X4_16 hI
      have b5 := ti_lo (τ 101 17)
      have b6 := ti_hi (τ 101 17)
      have b7 := ti_lo (τ 101 16)
      have b8 := ti_hi (τ 101 16)
      exact sf_ret ⟨hI, Fσ, Of15_σ, Of34_σ, Of1_σ, Of30_σ, Of18_σ, by omega, by omega, (show (σ 101 17).toInt = 0 → (τ 101 16).toInt + x1.toInt ≤ (σ 101 16).toInt from by omega), (show (τ 101 16).toInt ≤ (σ 101 16).toInt from by omega)⟩
    have C1 : x3.toInt < x1.toInt := ti_nle c1
    have b9 := ti_lo (σ 101 17)
    have b10 := ti_hi (σ 101 17)
    refine sf_ite (fun c11 => ?_) (fun c11 => ?_)
    · have C11 : (σ 101 17).toInt = (0 : Int) := ti_eq c11
      have m12 := wx_X4_15 hI
      have e13 : (σ 101 15).toInt = (τ 101 15).toInt := congrArg Int32.toInt Of15_σ
      have m14 := wx_X4_16 hI
      refine sf_bnd (s_X4_here hF hI) (fun r15 u16 p17 => ?_)
      obtain ⟨e9, p17_1, p17_2, p17_x0⟩ := p17
      have e9 := e9.symm
      subst e9
      replace p17_x0 : ((σ 101 15).toInt ≤ (σ 101 16).toInt ∧ r15.toInt = -1) ∨ ((σ 101 16).toInt < (σ 101 15).toInt ∧ r15.toInt = (σ 111 (Int32.toNatClampNeg (σ 101 16))).toInt) := p17_x0
      refine sf_in ?_
      rw [f_X4_in_e]
      have b18 := ti_lo r15
      have b19 := ti_hi r15
      have b20 := ti_lo (lg_cmp (Int32.toInt64 r15) (48 : Int64))
      have b21 := ti_hi (lg_cmp (Int32.toInt64 r15) (48 : Int64))
      refine sf_ite (fun c22 => ?_) (fun c22 => ?_)
      · have C22 : (lg_cmp (Int32.toInt64 r15) (48 : Int64)).toInt < (0 : Int) := ti_lt c22
        have L22 : r15.toInt < (48 : Int) := by have q := lg_ltl c22; (repeat (rw [Int32.toInt_toInt64] at q)); exact q
        rw [j_X4_in_17_e]
        refine sf_ret ?_
        refine sf_ite (fun c23 => ?_) (fun c23 => ?_)
        · have C23 : (0 : Int) = (0 : Int) := ti_eq c23
          rw [j_X4_readDigits_34_e]
          rw [j_X4_readDigits_39_e]
          refine sf_bz (by decide) ?_
          refine sf_lt (fun s24 hs24 => ?_)
          have Is24 : wiM s24 := by rw [hs24]; exact wm_fld hI (by decide) (by decide) (by decide) (by decide) (by decide) (by decide) (by decide)
          have Fs24 : ∀ k, k < 101 → s24 k = τ k := fun k hk => (show s24 k = σ k by rw [hs24, up2_k (by omega)]).trans (Fσ k hk)
          have Of15_s24 : s24 101 15 = τ 101 15 := (show s24 101 15 = σ 101 15 by rw [hs24, up2_i (by decide)]).trans Of15_σ
          have Of34_s24 : s24 101 34 = τ 101 34 := (show s24 101 34 = σ 101 34 by rw [hs24, up2_i (by decide)]).trans Of34_σ
          have Of1_s24 : s24 101 1 = τ 101 1 := (show s24 101 1 = σ 101 1 by rw [hs24, up2_i (by decide)]).trans Of1_σ
          have Of30_s24 : s24 101 30 = τ 101 30 := (show s24 101 30 = σ 101 30 by rw [hs24, up2_i (by decide)]).trans Of30_σ
          have Of18_s24 : s24 101 18 = τ 101 18 := (show s24 101 18 = σ 101 18 by rw [hs24, up2_i (by decide)]).trans Of18_σ
          have e25 : (s24 101 17).toInt = (1 : Int) := (show (s24 101 17).toInt = (1 : Int32).toInt from congrArg Int32.toInt (by rw [hs24, up2_s]))
          refine sf_ite (fun c26 => ?_) (fun c26 => ?_)
          · have C26 : (s24 101 17).toInt = (0 : Int) := ti_eq c26
            exfalso; omega
          have C26 : ¬ (s24 101 17).toInt = (0 : Int) := ti_ne c26
          rw [j_X4_readDigits_70_e]
          refine sf_ite (fun c27 => ?_) (fun c27 => ?_)
          · have C27 : (s24 101 17).toInt = (0 : Int) := ti_eq c27
            exfalso; omega
          have C27 : ¬ (s24 101 17).toInt = (0 : Int) := ti_ne c27
          rw [j_X4_readDigits_88_e]
          refine sf_lt (fun s28 hs28 => ?_)
          have m29 := wx_X4_16 Is24
          have e30 : (s24 101 16).toInt = (σ 101 16).toInt := congrArg Int32.toInt (by rw [hs24, up2_i (by decide)])
          have t31 : ((s24 101 16) + (0 : Int32)).toInt = (s24 101 16).toInt + (0 : Int) := ti_add (show -2147483648 ≤ (s24 101 16).toInt + (0 : Int) by omega) (show (s24 101 16).toInt + (0 : Int) ≤ 2147483647 by omega)
          have Is28 : wiM s28 := by rw [hs28]; exact wx_put_X4_16 Is24 (by omega) (by omega)
          have Fs28 : ∀ k, k < 101 → s28 k = τ k := fun k hk => (show s28 k = s24 k by rw [hs28, up2_k (by omega)]).trans (Fs24 k hk)
          have Of15_s28 : s28 101 15 = τ 101 15 := (show s28 101 15 = s24 101 15 by rw [hs28, up2_i (by decide)]).trans Of15_s24
          have Of34_s28 : s28 101 34 = τ 101 34 := (show s28 101 34 = s24 101 34 by rw [hs28, up2_i (by decide)]).trans Of34_s24
          have Of1_s28 : s28 101 1 = τ 101 1 := (show s28 101 1 = s24 101 1 by rw [hs28, up2_i (by decide)]).trans Of1_s24
          have Of30_s28 : s28 101 30 = τ 101 30 := (show s28 101 30 = s24 101 30 by rw [hs28, up2_i (by decide)]).trans Of30_s24
          have Of18_s28 : s28 101 18 = τ 101 18 := (show s28 101 18 = s24 101 18 by rw [hs28, up2_i (by decide)]).trans Of18_s24
          have t32 : (x3 + (1 : Int32)).toInt = x3.toInt + (1 : Int) := ti_add (show -2147483648 ≤ x3.toInt + (1 : Int) by omega) (show x3.toInt + (1 : Int) ≤ 2147483647 by omega)
          have e33 : (s28 101 17).toInt = (s24 101 17).toInt := congrArg Int32.toInt (by rw [hs28, up2_i (by decide)])
          have m34 := wx_X4_16 Is28
          have e35 : (s28 101 16).toInt = ((s24 101 16) + (0 : Int32)).toInt := (show (s28 101 16).toInt = ((s24 101 16) + (0 : Int32)).toInt from congrArg Int32.toInt (by rw [hs28, up2_s]))
          have b36 := ti_lo (τ 101 17)
          have b37 := ti_hi (τ 101 17)
          have b38 := ti_lo (τ 101 16)
          have b39 := ti_hi (τ 101 16)
          exact ih _ _ _ Is28 Fs28 Of15_s28 Of34_s28 Of1_s28 Of30_s28 Of18_s28 (by omega) (by decide) (by decide) (by omega) (by omega) (show ((x3 + (1 : Int32)).toInt = 0 ∧ (0 : Int) = 0) ∨ ((x3 + (1 : Int32)).toInt = 1 ∧ (0 : Int) ≤ 9) ∨ ((x3 + (1 : Int32)).toInt = 2 ∧ (0 : Int) ≤ 99) ∨ ((x3 + (1 : Int32)).toInt = 3 ∧ (0 : Int) ≤ 999) from by omega) (show (s28 101 17).toInt = 0 → (τ 101 16).toInt + (x3 + (1 : Int32)).toInt ≤ (s28 101 16).toInt from by omega) (show (τ 101 16).toInt ≤ (s28 101 16).toInt from by omega)
        have C23 : ¬ (0 : Int) = (0 : Int) := ti_ne c23
        exfalso; omega
      have C22 : (0 : Int) ≤ (lg_cmp (Int32.toInt64 r15) (48 : Int64)).toInt := ti_nlt c22
      have L22 : (48 : Int) ≤ r15.toInt := by have q := lg_ltln c22; (repeat (rw [Int32.toInt_toInt64] at q)); exact q
      have b40 := ti_lo (lg_cmp (Int32.toInt64 r15) (57 : Int64))
      have b41 := ti_hi (lg_cmp (Int32.toInt64 r15) (57 : Int64))
      refine sf_ite (fun c42 => ?_) (fun c42 => ?_)
      · have C42 : (0 : Int) < (lg_cmp (Int32.toInt64 r15) (57 : Int64)).toInt := ti_lt c42
        have L42 : (57 : Int) < r15.toInt := by have q := lg_ltr c42; (repeat (rw [Int32.toInt_toInt64] at q)); exact q
        rw [j_X4_in_17_e]
        refine sf_ret ?_
        refine sf_ite (fun c43 => ?_) (fun c43 => ?_)
        · have C43 : (0 : Int) = (0 : Int) := ti_eq c43
          rw [j_X4_readDigits_34_e]
          rw [j_X4_readDigits_39_e]
          refine sf_bz (by decide) ?_
          refine sf_lt (fun s44 hs44 => ?_)
          have Is44 : wiM s44 := by rw [hs44]; exact wm_fld hI (by decide) (by decide) (by decide) (by decide) (by decide) (by decide) (by decide)
          have Fs44 : ∀ k, k < 101 → s44 k = τ k := fun k hk => (show s44 k = σ k by rw [hs44, up2_k (by omega)]).trans (Fσ k hk)
          have Of15_s44 : s44 101 15 = τ 101 15 := (show s44 101 15 = σ 101 15 by rw [hs44, up2_i (by decide)]).trans Of15_σ
          have Of34_s44 : s44 101 34 = τ 101 34 := (show s44 101 34 = σ 101 34 by rw [hs44, up2_i (by decide)]).trans Of34_σ
          have Of1_s44 : s44 101 1 = τ 101 1 := (show s44 101 1 = σ 101 1 by rw [hs44, up2_i (by decide)]).trans Of1_σ
          have Of30_s44 : s44 101 30 = τ 101 30 := (show s44 101 30 = σ 101 30 by rw [hs44, up2_i (by decide)]).trans Of30_σ
          have Of18_s44 : s44 101 18 = τ 101 18 := (show s44 101 18 = σ 101 18 by rw [hs44, up2_i (by decide)]).trans Of18_σ
          have e45 : (s44 101 17).toInt = (1 : Int) := (show (s44 101 17).toInt = (1 : Int32).toInt from congrArg Int32.toInt (by rw [hs44, up2_s]))
          refine sf_ite (fun c46 => ?_) (fun c46 => ?_)
          · have C46 : (s44 101 17).toInt = (0 : Int) := ti_eq c46
            exfalso; omega
          have C46 : ¬ (s44 101 17).toInt = (0 : Int) := ti_ne c46
          rw [j_X4_readDigits_70_e]
          refine sf_ite (fun c47 => ?_) (fun c47 => ?_)
          · have C47 : (s44 101 17).toInt = (0 : Int) := ti_eq c47
            exfalso; omega
          have C47 : ¬ (s44 101 17).toInt = (0 : Int) := ti_ne c47
          rw [j_X4_readDigits_88_e]
          refine sf_lt (fun s48 hs48 => ?_)
          have m49 := wx_X4_16 Is44
          have e50 : (s44 101 16).toInt = (σ 101 16).toInt := congrArg Int32.toInt (by rw [hs44, up2_i (by decide)])
          have t51 : ((s44 101 16) + (0 : Int32)).toInt = (s44 101 16).toInt + (0 : Int) := ti_add (show -2147483648 ≤ (s44 101 16).toInt + (0 : Int) by omega) (show (s44 101 16).toInt + (0 : Int) ≤ 2147483647 by omega)
          have Is48 : wiM s48 := by rw [hs48]; exact wx_put_X4_16 Is44 (by omega) (by omega)
          have Fs48 : ∀ k, k < 101 → s48 k = τ k := fun k hk => (show s48 k = s44 k by rw [hs48, up2_k (by omega)]).trans (Fs44 k hk)
          have Of15_s48 : s48 101 15 = τ 101 15 := (show s48 101 15 = s44 101 15 by rw [hs48, up2_i (by decide)]).trans Of15_s44
          have Of34_s48 : s48 101 34 = τ 101 34 := (show s48 101 34 = s44 101 34 by rw [hs48, up2_i (by decide)]).trans Of34_s44
          have Of1_s48 : s48 101 1 = τ 101 1 := (show s48 101 1 = s44 101 1 by rw [hs48, up2_i (by decide)]).trans Of1_s44
          have Of30_s48 : s48 101 30 = τ 101 30 := (show s48 101 30 = s44 101 30 by rw [hs48, up2_i (by decide)]).trans Of30_s44
          have Of18_s48 : s48 101 18 = τ 101 18 := (show s48 101 18 = s44 101 18 by rw [hs48, up2_i (by decide)]).trans Of18_s44
          have t52 : (x3 + (1 : Int32)).toInt = x3.toInt + (1 : Int) := ti_add (show -2147483648 ≤ x3.toInt + (1 : Int) by omega) (show x3.toInt + (1 : Int) ≤ 2147483647 by omega)
          have e53 : (s48 101 17).toInt = (s44 101 17).toInt := congrArg Int32.toInt (by rw [hs48, up2_i (by decide)])
          have m54 := wx_X4_16 Is48
          have e55 : (s48 101 16).toInt = ((s44 101 16) + (0 : Int32)).toInt := (show (s48 101 16).toInt = ((s44 101 16) + (0 : Int32)).toInt from congrArg Int32.toInt (by rw [hs48, up2_s]))
          have b56 := ti_lo (τ 101 17)
          have b57 := ti_hi (τ 101 17)
          have b58 := ti_lo (τ 101 16)
          have b59 := ti_hi (τ 101 16)
          exact ih _ _ _ Is48 Fs48 Of15_s48 Of34_s48 Of1_s48 Of30_s48 Of18_s48 (by omega) (by decide) (by decide) (by omega) (by omega) (show ((x3 + (1 : Int32)).toInt = 0 ∧ (0 : Int) = 0) ∨ ((x3 + (1 : Int32)).toInt = 1 ∧ (0 : Int) ≤ 9) ∨ ((x3 + (1 : Int32)).toInt = 2 ∧ (0 : Int) ≤ 99) ∨ ((x3 + (1 : Int32)).toInt = 3 ∧ (0 : Int) ≤ 999) from by omega) (show (s48 101 17).toInt = 0 → (τ 101 16).toInt + (x3 + (1 : Int32)).toInt ≤ (s48 101 16).toInt from by omega) (show (τ 101 16).toInt ≤ (s48 101 16).toInt from by omega)
        have C43 : ¬ (0 : Int) = (0 : Int) := ti_ne c43
        exfalso; omega
      have C42 : (lg_cmp (Int32.toInt64 r15) (57 : Int64)).toInt ≤ (0 : Int) := ti_nlt c42
      have L42 : r15.toInt ≤ (57 : Int) := by have q := lg_ltrn c42; (repeat (rw [Int32.toInt_toInt64] at q)); exact q
      refine sf_ret ?_
      refine sf_ite (fun c60 => ?_) (fun c60 => ?_)
      · have C60 : (1 : Int) = (0 : Int) := ti_eq c60
        exfalso; omega
      have C60 : ¬ (1 : Int) = (0 : Int) := ti_ne c60
      rw [j_X4_readDigits_39_e]
      refine sf_bz (by decide) ?_
      refine sf_lt (fun s61 hs61 => ?_)
      have Is61 : wiM s61 := by rw [hs61]; exact wm_fld hI (by decide) (by decide) (by decide) (by decide) (by decide) (by decide) (by decide)
      have Fs61 : ∀ k, k < 101 → s61 k = τ k := fun k hk => (show s61 k = σ k by rw [hs61, up2_k (by omega)]).trans (Fσ k hk)
      have Of15_s61 : s61 101 15 = τ 101 15 := (show s61 101 15 = σ 101 15 by rw [hs61, up2_i (by decide)]).trans Of15_σ
      have Of34_s61 : s61 101 34 = τ 101 34 := (show s61 101 34 = σ 101 34 by rw [hs61, up2_i (by decide)]).trans Of34_σ
      have Of1_s61 : s61 101 1 = τ 101 1 := (show s61 101 1 = σ 101 1 by rw [hs61, up2_i (by decide)]).trans Of1_σ
      have Of30_s61 : s61 101 30 = τ 101 30 := (show s61 101 30 = σ 101 30 by rw [hs61, up2_i (by decide)]).trans Of30_σ
      have Of18_s61 : s61 101 18 = τ 101 18 := (show s61 101 18 = σ 101 18 by rw [hs61, up2_i (by decide)]).trans Of18_σ
      have e62 : (s61 101 17).toInt = (0 : Int) := (show (s61 101 17).toInt = (0 : Int32).toInt from congrArg Int32.toInt (by rw [hs61, up2_s]))
      refine sf_ite (fun c63 => ?_) (fun c63 => ?_)
      · have C63 : (s61 101 17).toInt = (0 : Int) := ti_eq c63
        have m64 := wx_X4_16 Is61
        have e65 : (s61 101 16).toInt = (σ 101 16).toInt := congrArg Int32.toInt (by rw [hs61, up2_i (by decide)])
        refine sf_chk (ti_in (by omega) (by omega)) ?_
        have v66 : Int32.toNatClampNeg (s61 101 16) = (s61 101 16).toInt.toNat := rfl
        rw [j_X4_readDigits_70_e]
        refine sf_ite (fun c67 => ?_) (fun c67 => ?_)
        · have C67 : (s61 101 17).toInt = (0 : Int) := ti_eq c67
          rw [j_X4_readDigits_88_e]
          refine sf_lt (fun s68 hs68 => ?_)
          have t69 : ((s61 101 16) + (1 : Int32)).toInt = (s61 101 16).toInt + (1 : Int) := ti_add (show -2147483648 ≤ (s61 101 16).toInt + (1 : Int) by omega) (show (s61 101 16).toInt + (1 : Int) ≤ 2147483647 by omega)
          have Is68 : wiM s68 := by rw [hs68]; exact wx_put_X4_16 Is61 (by omega) (by omega)
          have Fs68 : ∀ k, k < 101 → s68 k = τ k := fun k hk => (show s68 k = s61 k by rw [hs68, up2_k (by omega)]).trans (Fs61 k hk)
          have Of15_s68 : s68 101 15 = τ 101 15 := (show s68 101 15 = s61 101 15 by rw [hs68, up2_i (by decide)]).trans Of15_s61
          have Of34_s68 : s68 101 34 = τ 101 34 := (show s68 101 34 = s61 101 34 by rw [hs68, up2_i (by decide)]).trans Of34_s61
          have Of1_s68 : s68 101 1 = τ 101 1 := (show s68 101 1 = s61 101 1 by rw [hs68, up2_i (by decide)]).trans Of1_s61
          have Of30_s68 : s68 101 30 = τ 101 30 := (show s68 101 30 = s61 101 30 by rw [hs68, up2_i (by decide)]).trans Of30_s61
          have Of18_s68 : s68 101 18 = τ 101 18 := (show s68 101 18 = s61 101 18 by rw [hs68, up2_i (by decide)]).trans Of18_s61
          have t70 : ((10 : Int32) * x2).toInt = (10 : Int) * x2.toInt := ti_mul (show -2147483648 ≤ (10 : Int) * x2.toInt by omega) (show (10 : Int) * x2.toInt ≤ 2147483647 by omega)
          have e71 : (s61 111 (Int32.toNatClampNeg (s61 101 16))).toInt = (σ 111 (Int32.toNatClampNeg (σ 101 16))).toInt := congrArg Int32.toInt (by rw [hs61, up2_k (by omega), up2_i (by decide)])
          have t72 : (((10 : Int32) * x2) + (s61 111 (Int32.toNatClampNeg (s61 101 16)))).toInt = ((10 : Int32) * x2).toInt + (s61 111 (Int32.toNatClampNeg (s61 101 16))).toInt := ti_add (show -2147483648 ≤ ((10 : Int32) * x2).toInt + (s61 111 (Int32.toNatClampNeg (s61 101 16))).toInt by omega) (show ((10 : Int32) * x2).toInt + (s61 111 (Int32.toNatClampNeg (s61 101 16))).toInt ≤ 2147483647 by omega)
          have t73 : ((((10 : Int32) * x2) + (s61 111 (Int32.toNatClampNeg (s61 101 16)))) - (48 : Int32)).toInt = (((10 : Int32) * x2) + (s61 111 (Int32.toNatClampNeg (s61 101 16)))).toInt - (48 : Int) := ti_sub (show -2147483648 ≤ (((10 : Int32) * x2) + (s61 111 (Int32.toNatClampNeg (s61 101 16)))).toInt - (48 : Int) by omega) (show (((10 : Int32) * x2) + (s61 111 (Int32.toNatClampNeg (s61 101 16)))).toInt - (48 : Int) ≤ 2147483647 by omega)
          have t74 : (x3 + (1 : Int32)).toInt = x3.toInt + (1 : Int) := ti_add (show -2147483648 ≤ x3.toInt + (1 : Int) by omega) (show x3.toInt + (1 : Int) ≤ 2147483647 by omega)
          have e75 : (s68 101 17).toInt = (s61 101 17).toInt := congrArg Int32.toInt (by rw [hs68, up2_i (by decide)])
          have m76 := wx_X4_16 Is68
          have e77 : (s68 101 16).toInt = ((s61 101 16) + (1 : Int32)).toInt := (show (s68 101 16).toInt = ((s61 101 16) + (1 : Int32)).toInt from congrArg Int32.toInt (by rw [hs68, up2_s]))
          have b78 := ti_lo (τ 101 17)
          have b79 := ti_hi (τ 101 17)
          have b80 := ti_lo (τ 101 16)
          have b81 := ti_hi (τ 101 16)
          exact ih _ _ _ Is68 Fs68 Of15_s68 Of34_s68 Of1_s68 Of30_s68 Of18_s68 (by omega) (by omega) (by omega) (by omega) (by omega) (show ((x3 + (1 : Int32)).toInt = 0 ∧ ((((10 : Int32) * x2) + (s61 111 (Int32.toNatClampNeg (s61 101 16)))) - (48 : Int32)).toInt = 0) ∨ ((x3 + (1 : Int32)).toInt = 1 ∧ ((((10 : Int32) * x2) + (s61 111 (Int32.toNatClampNeg (s61 101 16)))) - (48 : Int32)).toInt ≤ 9) ∨ ((x3 + (1 : Int32)).toInt = 2 ∧ ((((10 : Int32) * x2) + (s61 111 (Int32.toNatClampNeg (s61 101 16)))) - (48 : Int32)).toInt ≤ 99) ∨ ((x3 + (1 : Int32)).toInt = 3 ∧ ((((10 : Int32) * x2) + (s61 111 (Int32.toNatClampNeg (s61 101 16)))) - (48 : Int32)).toInt ≤ 999) from by omega) (show (s68 101 17).toInt = 0 → (τ 101 16).toInt + (x3 + (1 : Int32)).toInt ≤ (s68 101 16).toInt from by omega) (show (τ 101 16).toInt ≤ (s68 101 16).toInt from by omega)
        have C67 : ¬ (s61 101 17).toInt = (0 : Int) := ti_ne c67
        exfalso; omega
      have C63 : ¬ (s61 101 17).toInt = (0 : Int) := ti_ne c63
      exfalso; omega
    have C11 : ¬ (σ 101 17).toInt = (0 : Int) := ti_ne c11
    rw [j_X4_readDigits_34_e]
    rw [j_X4_readDigits_39_e]
    refine sf_bz (by decide) ?_
    refine sf_lt (fun s82 hs82 => ?_)
    have Is82 : wiM s82 := by rw [hs82]; exact wm_fld hI (by decide) (by decide) (by decide) (by decide) (by decide) (by decide) (by decide)
    have Fs82 : ∀ k, k < 101 → s82 k = τ k := fun k hk => (show s82 k = σ k by rw [hs82, up2_k (by omega)]).trans (Fσ k hk)
    have Of15_s82 : s82 101 15 = τ 101 15 := (show s82 101 15 = σ 101 15 by rw [hs82, up2_i (by decide)]).trans Of15_σ
    have Of34_s82 : s82 101 34 = τ 101 34 := (show s82 101 34 = σ 101 34 by rw [hs82, up2_i (by decide)]).trans Of34_σ
    have Of1_s82 : s82 101 1 = τ 101 1 := (show s82 101 1 = σ 101 1 by rw [hs82, up2_i (by decide)]).trans Of1_σ
    have Of30_s82 : s82 101 30 = τ 101 30 := (show s82 101 30 = σ 101 30 by rw [hs82, up2_i (by decide)]).trans Of30_σ
    have Of18_s82 : s82 101 18 = τ 101 18 := (show s82 101 18 = σ 101 18 by rw [hs82, up2_i (by decide)]).trans Of18_σ
    have e83 : (s82 101 17).toInt = (1 : Int) := (show (s82 101 17).toInt = (1 : Int32).toInt from congrArg Int32.toInt (by rw [hs82, up2_s]))
    refine sf_ite (fun c84 => ?_) (fun c84 => ?_)
    · have C84 : (s82 101 17).toInt = (0 : Int) := ti_eq c84
      exfalso; omega
    have C84 : ¬ (s82 101 17).toInt = (0 : Int) := ti_ne c84
    rw [j_X4_readDigits_70_e]
    refine sf_ite (fun c85 => ?_) (fun c85 => ?_)
    · have C85 : (s82 101 17).toInt = (0 : Int) := ti_eq c85
      exfalso; omega
    have C85 : ¬ (s82 101 17).toInt = (0 : Int) := ti_ne c85
    rw [j_X4_readDigits_88_e]
    refine sf_lt (fun s86 hs86 => ?_)
    have m87 := wx_X4_16 Is82
    have m88 := wx_X4_16 hI
    have e89 : (s82 101 16).toInt = (σ 101 16).toInt := congrArg Int32.toInt (by rw [hs82, up2_i (by decide)])
    have t90 : ((s82 101 16) + (0 : Int32)).toInt = (s82 101 16).toInt + (0 : Int) := ti_add (show -2147483648 ≤ (s82 101 16).toInt + (0 : Int) by omega) (show (s82 101 16).toInt + (0 : Int) ≤ 2147483647 by omega)
    have Is86 : wiM s86 := by rw [hs86]; exact wx_put_X4_16 Is82 (by omega) (by omega)
    have Fs86 : ∀ k, k < 101 → s86 k = τ k := fun k hk => (show s86 k = s82 k by rw [hs86, up2_k (by omega)]).trans (Fs82 k hk)
    have Of15_s86 : s86 101 15 = τ 101 15 := (show s86 101 15 = s82 101 15 by rw [hs86, up2_i (by decide)]).trans Of15_s82
    have Of34_s86 : s86 101 34 = τ 101 34 := (show s86 101 34 = s82 101 34 by rw [hs86, up2_i (by decide)]).trans Of34_s82
    have Of1_s86 : s86 101 1 = τ 101 1 := (show s86 101 1 = s82 101 1 by rw [hs86, up2_i (by decide)]).trans Of1_s82
    have Of30_s86 : s86 101 30 = τ 101 30 := (show s86 101 30 = s82 101 30 by rw [hs86, up2_i (by decide)]).trans Of30_s82
    have Of18_s86 : s86 101 18 = τ 101 18 := (show s86 101 18 = s82 101 18 by rw [hs86, up2_i (by decide)]).trans Of18_s82
    have t91 : (x3 + (1 : Int32)).toInt = x3.toInt + (1 : Int) := ti_add (show -2147483648 ≤ x3.toInt + (1 : Int) by omega) (show x3.toInt + (1 : Int) ≤ 2147483647 by omega)
    have e92 : (s86 101 17).toInt = (s82 101 17).toInt := congrArg Int32.toInt (by rw [hs86, up2_i (by decide)])
    have m93 := wx_X4_16 Is86
    have e94 : (s86 101 16).toInt = ((s82 101 16) + (0 : Int32)).toInt := (show (s86 101 16).toInt = ((s82 101 16) + (0 : Int32)).toInt from congrArg Int32.toInt (by rw [hs86, up2_s]))
    have b95 := ti_lo (τ 101 17)
    have b96 := ti_hi (τ 101 17)
    have b97 := ti_lo (τ 101 16)
    have b98 := ti_hi (τ 101 16)
    exact ih _ _ _ Is86 Fs86 Of15_s86 Of34_s86 Of1_s86 Of30_s86 Of18_s86 (by omega) (by decide) (by decide) (by omega) (by omega) (show ((x3 + (1 : Int32)).toInt = 0 ∧ (0 : Int) = 0) ∨ ((x3 + (1 : Int32)).toInt = 1 ∧ (0 : Int) ≤ 9) ∨ ((x3 + (1 : Int32)).toInt = 2 ∧ (0 : Int) ≤ 99) ∨ ((x3 + (1 : Int32)).toInt = 3 ∧ (0 : Int) ≤ 999) from by omega) (show (s86 101 17).toInt = 0 → (τ 101 16).toInt + (x3 + (1 : Int32)).toInt ≤ (s86 101 16).toInt from by omega) (show (τ 101 16).toInt ≤ (s86 101 16).toInt from by omega)
set_option maxHeartbeats 4000000 in
set_option maxRecDepth 100000 in
theorem s_X4_readDigits {F : Nat} (hF : 73786976294838206464 ≤ F) {x1 : Int32} {τ : Mem} (hI : wiM τ) (x1_1 : 1 ≤ x1.toInt) (x1_2 : x1.toInt ≤ 3) : sf (f_X4_readDigits F x1 τ) (fun r s => wiM s ∧ (∀ k, k < 101 → s k = τ k) ∧ s 101 15 = τ 101 15 ∧ s 101 34 = τ 101 34 ∧ s 101 1 = τ 101 1 ∧ s 101 30 = τ 101 30 ∧ s 101 18 = τ 101 18 ∧ 0 ≤ r.toInt ∧ r.toInt ≤ 999 ∧ ((s 101 17).toInt = 0 → (τ 101 16).toInt + x1.toInt ≤ (s 101 16).toInt) ∧ ((τ 101 16).toInt ≤ (s 101 16).toInt)) := by
  have Fτ : ∀ k, k < 101 → τ k = τ k := fun _ _ => rfl
  have Of15_τ : τ 101 15 = τ 101 15 := rfl
  have Of34_τ : τ 101 34 = τ 101 34 := rfl
  have Of1_τ : τ 101 1 = τ 101 1 := rfl
  have Of30_τ : τ 101 30 = τ 101 30 := rfl
  have Of18_τ : τ 101 18 = τ 101 18 := rfl
  rw [f_X4_readDigits_e]
  have b1 := ti_lo (τ 101 17)
  have b2 := ti_hi (τ 101 17)
  have m3 := wx_X4_16 hI
  have l_0 : (0 : Int32).toInt = 0 := rfl
  exact sl_X4_readDigits_4 hF (by omega) (by omega) _ _ _ _ hI Fτ Of15_τ Of34_τ Of1_τ Of30_τ Of18_τ (by omega) (by decide) (by decide) (by decide) (by decide) (show ((0 : Int) = 0 ∧ (0 : Int) = 0) ∨ ((0 : Int) = 1 ∧ (0 : Int) ≤ 9) ∨ ((0 : Int) = 2 ∧ (0 : Int) ≤ 99) ∨ ((0 : Int) = 3 ∧ (0 : Int) ≤ 999) from by omega) (show (τ 101 17).toInt = 0 → (τ 101 16).toInt + (0 : Int) ≤ (τ 101 16).toInt from by omega) (show (τ 101 16).toInt ≤ (τ 101 16).toInt from by omega)
