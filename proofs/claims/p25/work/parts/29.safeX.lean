theorem wi_bool {r : Int32} (h1 : 0 ≤ r.toInt) (h2 : r.toInt ≤ 1) : r = 0 ∨ r = 1 := by
  rcases (show r.toInt = 0 ∨ r.toInt = 1 by omega) with e | e
  · exact Or.inl (Int32.toInt_inj.mp e)
  · exact Or.inr (Int32.toInt_inj.mp e)
theorem wi_shl (e : Int32) (h0 : 0 ≤ e.toInt) (h6 : e.toInt ≤ 6) : 1 ≤ ((1 : Int32) <<< (e &&& 31)).toInt ∧ ((1 : Int32) <<< (e &&& 31)).toInt ≤ 64 := by
  rcases (show e.toInt = (0 : Int32).toInt ∨ e.toInt = (1 : Int32).toInt ∨ e.toInt = (2 : Int32).toInt ∨ e.toInt = (3 : Int32).toInt ∨ e.toInt = (4 : Int32).toInt ∨ e.toInt = (5 : Int32).toInt ∨ e.toInt = (6 : Int32).toInt from by
    show e.toInt = 0 ∨ e.toInt = 1 ∨ e.toInt = 2 ∨ e.toInt = 3 ∨ e.toInt = 4 ∨ e.toInt = 5 ∨ e.toInt = 6
    omega) with h | h | h | h | h | h | h <;> (have q := Int32.toInt_inj.mp h; subst q; decide)
theorem ti_l64 {e : Int32} (h : ¬ e.toInt = 0) : ¬ Int32.toInt64 e = 0 := fun q => h (by
  have t := congrArg Int64.toInt q
  rw [Int32.toInt_toInt64] at t
  exact t)
set_option maxHeartbeats 4000000 in
set_option maxRecDepth 100000 in
theorem sl_X0_takeFrom_92 {F : Nat} (hF : 100000 ≤ F) {h : Nat} {g : Nat} {τ : Mem} (hh : wt_isH h) (hg : wt_isH g) : ∀ (N : Nat) (x2 : Int32) (σ : Mem), wiX σ → (∀ k, 101 ≤ k → σ k = τ k) → σ 83 1 = τ 83 1 → σ 0 7 = τ 0 7 → 5 < x2.toInt + N → 0 ≤ x2.toInt → x2.toInt ≤ 5 → sf (lp_X0_takeFrom_92 F h g N x2 σ) (fun _ s => wiX s ∧ (∀ k, 101 ≤ k → s k = τ k) ∧ s 83 1 = τ 83 1 ∧ s 0 7 = τ 0 7 ∧ True) := by
  intro N
  induction N with
  | zero => intro x2 σ hI Fσ O83_σ O0_σ hN x2_1 x2_2; exfalso; omega
  | succ N ih =>
    intro x2 σ hI Fσ O83_σ O0_σ hN x2_1 x2_2
    have hc_h := wt_Hcs hh
    have hc_g := wt_Hcs hg
    rw [lp_X0_takeFrom_92_s]
    refine sf_ite (fun c1 => ?_) (fun c1 => ?_)
    · have C1 : (5 : Int) ≤ x2.toInt := ti_le c1
      exact sf_ret ⟨hI, Fσ, O83_σ, O0_σ, trivial⟩
    have C1 : x2.toInt < (5 : Int) := ti_nle c1
    refine sf_chk (ti_in (by omega) (by omega)) ?_
    have v2 : Int32.toNatClampNeg x2 = x2.toInt.toNat := rfl
    refine sf_lt (fun s3 hs3 => ?_)
    have Is3 : wiX s3 := by rw [hs3]; exact wx_othA hI (fun hq => by have := wt_Hcs hq; omega) (by omega) (by omega) (by omega)
    have Fs3 : ∀ k, 101 ≤ k → s3 k = τ k := fun k hk => (show s3 k = σ k by rw [hs3, upA_k (by omega)]).trans (Fσ k hk)
    have O83_s3 : s3 83 1 = τ 83 1 := (show s3 83 1 = σ 83 1 by rw [hs3, upA_k (by omega)]).trans O83_σ
    have O0_s3 : s3 0 7 = τ 0 7 := (show s3 0 7 = σ 0 7 by rw [hs3, upA_k (by omega)]).trans O0_σ
    refine sf_lt (fun s4 hs4 => ?_)
    have Is4 : wiX s4 := by rw [hs4]; exact wx_othA Is3 (fun hq => by have := wt_Hcs hq; omega) (by omega) (by omega) (by omega)
    have Fs4 : ∀ k, 101 ≤ k → s4 k = τ k := fun k hk => (show s4 k = s3 k by rw [hs4, upA_k (by omega)]).trans (Fs3 k hk)
    have O83_s4 : s4 83 1 = τ 83 1 := (show s4 83 1 = s3 83 1 by rw [hs4, upA_k (by omega)]).trans O83_s3
    have O0_s4 : s4 0 7 = τ 0 7 := (show s4 0 7 = s3 0 7 by rw [hs4, upA_k (by omega)]).trans O0_s3
    have t5 : (x2 + (1 : Int32)).toInt = x2.toInt + (1 : Int) := ti_add (show -2147483648 ≤ x2.toInt + (1 : Int) by omega) (show x2.toInt + (1 : Int) ≤ 2147483647 by omega)
    exact ih _ _ Is4 Fs4 O83_s4 O0_s4 (by omega) (by omega) (by omega)
set_option maxHeartbeats 4000000 in
set_option maxRecDepth 100000 in
theorem s_X0_takeFrom {F : Nat} (hF : 100000 ≤ F) {h : Nat} {g : Nat} {τ : Mem} (hh : wt_isH h) (hg : wt_isH g) (hI : wiX τ) : sf (f_X0_takeFrom F h g τ) (fun _ s => wiX s ∧ (∀ k, 101 ≤ k → s k = τ k) ∧ s 83 1 = τ 83 1 ∧ s 0 7 = τ 0 7 ∧ True) := by
  have hc_h := wt_Hcs hh
  have hc_g := wt_Hcs hg
  have Fτ : ∀ k, 101 ≤ k → τ k = τ k := fun _ _ => rfl
  have O83_τ : τ 83 1 = τ 83 1 := rfl
  have O0_τ : τ 0 7 = τ 0 7 := rfl
  rw [f_X0_takeFrom_e]
  refine sf_lt (fun s1 hs1 => ?_)
  have m2 := wx_X0_0 hI hg
  have Is1 : wiX s1 := by rw [hs1]; exact wx_put_X0_0 hI hh (by omega) (by omega)
  have Fs1 : ∀ k, 101 ≤ k → s1 k = τ k := fun k hk => (show s1 k = τ k by rw [hs1, up2_k (by omega)]).trans (Fτ k hk)
  have O83_s1 : s1 83 1 = τ 83 1 := (show s1 83 1 = τ 83 1 by rw [hs1, up2_k (by omega)]).trans O83_τ
  have O0_s1 : s1 0 7 = τ 0 7 := (show s1 0 7 = τ 0 7 by rw [hs1, up2_k (by omega)]).trans O0_τ
  refine sf_lt (fun s3 hs3 => ?_)
  have m4 := wx_X0_2 Is1 hg
  have Is3 : wiX s3 := by rw [hs3]; exact wx_put_X0_2 Is1 hh (by omega) (by omega)
  have Fs3 : ∀ k, 101 ≤ k → s3 k = τ k := fun k hk => (show s3 k = s1 k by rw [hs3, up2_k (by omega)]).trans (Fs1 k hk)
  have O83_s3 : s3 83 1 = τ 83 1 := (show s3 83 1 = s1 83 1 by rw [hs3, up2_k (by omega)]).trans O83_s1
  have O0_s3 : s3 0 7 = τ 0 7 := (show s3 0 7 = s1 0 7 by rw [hs3, up2_k (by omega)]).trans O0_s1
  refine sf_lt (fun s5 hs5 => ?_)
  have Is5 : wiX s5 := by rw [hs5]; exact wx_oth Is3 (fun q hq e => by have := wt_Hcs hq; omega) (fun e => by omega) (fun e => by omega) (fun e => by omega)
  have Fs5 : ∀ k, 101 ≤ k → s5 k = τ k := fun k hk => (show s5 k = s3 k by rw [hs5, up2_k (by omega)]).trans (Fs3 k hk)
  have O83_s5 : s5 83 1 = τ 83 1 := (show s5 83 1 = s3 83 1 by rw [hs5, up2_k (by omega)]).trans O83_s3
  have O0_s5 : s5 0 7 = τ 0 7 := (show s5 0 7 = s3 0 7 by rw [hs5, up2_k (by omega)]).trans O0_s3
  refine sf_lt (fun s6 hs6 => ?_)
  have Is6 : wiX s6 := by rw [hs6]; exact wx_oth Is5 (fun q hq e => by have := wt_Hcs hq; omega) (fun e => by omega) (fun e => by omega) (fun e => by omega)
  have Fs6 : ∀ k, 101 ≤ k → s6 k = τ k := fun k hk => (show s6 k = s5 k by rw [hs6, up2_k (by omega)]).trans (Fs5 k hk)
  have O83_s6 : s6 83 1 = τ 83 1 := (show s6 83 1 = s5 83 1 by rw [hs6, up2_k (by omega)]).trans O83_s5
  have O0_s6 : s6 0 7 = τ 0 7 := (show s6 0 7 = s5 0 7 by rw [hs6, up2_k (by omega)]).trans O0_s5
  refine sf_lt (fun s7 hs7 => ?_)
  have Is7 : wiX s7 := by rw [hs7]; exact wx_othA Is6 (fun hq => by have := wt_Hcs hq; omega) (by omega) (by omega) (by omega)
  have Fs7 : ∀ k, 101 ≤ k → s7 k = τ k := fun k hk => (show s7 k = s6 k by rw [hs7, upA_k (by omega)]).trans (Fs6 k hk)
  have O83_s7 : s7 83 1 = τ 83 1 := (show s7 83 1 = s6 83 1 by rw [hs7, upA_k (by omega)]).trans O83_s6
  have O0_s7 : s7 0 7 = τ 0 7 := (show s7 0 7 = s6 0 7 by rw [hs7, upA_k (by omega)]).trans O0_s6
  refine sf_lt (fun s8 hs8 => ?_)
  have Is8 : wiX s8 := by rw [hs8]; exact wx_othA Is7 (fun hq => by have := wt_Hcs hq; omega) (by omega) (by omega) (by omega)
  have Fs8 : ∀ k, 101 ≤ k → s8 k = τ k := fun k hk => (show s8 k = s7 k by rw [hs8, upA_k (by omega)]).trans (Fs7 k hk)
  have O83_s8 : s8 83 1 = τ 83 1 := (show s8 83 1 = s7 83 1 by rw [hs8, upA_k (by omega)]).trans O83_s7
  have O0_s8 : s8 0 7 = τ 0 7 := (show s8 0 7 = s7 0 7 by rw [hs8, upA_k (by omega)]).trans O0_s7
  refine sf_lt (fun s9 hs9 => ?_)
  have Is9 : wiX s9 := by rw [hs9]; exact wx_othA Is8 (fun hq => by have := wt_Hcs hq; omega) (by omega) (by omega) (by omega)
  have Fs9 : ∀ k, 101 ≤ k → s9 k = τ k := fun k hk => (show s9 k = s8 k by rw [hs9, upA_k (by omega)]).trans (Fs8 k hk)
  have O83_s9 : s9 83 1 = τ 83 1 := (show s9 83 1 = s8 83 1 by rw [hs9, upA_k (by omega)]).trans O83_s8
  have O0_s9 : s9 0 7 = τ 0 7 := (show s9 0 7 = s8 0 7 by rw [hs9, upA_k (by omega)]).trans O0_s8
  refine sf_lt (fun s10 hs10 => ?_)
  have Is10 : wiX s10 := by rw [hs10]; exact wx_othA Is9 (fun hq => by have := wt_Hcs hq; omega) (by omega) (by omega) (by omega)
  have Fs10 : ∀ k, 101 ≤ k → s10 k = τ k := fun k hk => (show s10 k = s9 k by rw [hs10, upA_k (by omega)]).trans (Fs9 k hk)
  have O83_s10 : s10 83 1 = τ 83 1 := (show s10 83 1 = s9 83 1 by rw [hs10, upA_k (by omega)]).trans O83_s9
  have O0_s10 : s10 0 7 = τ 0 7 := (show s10 0 7 = s9 0 7 by rw [hs10, upA_k (by omega)]).trans O0_s9
  have l_0 : (0 : Int32).toInt = 0 := rfl
  exact sl_X0_takeFrom_92 hF hh hg _ _ _ Is10 Fs10 O83_s10 O0_s10 (by omega) (by decide) (by decide)
set_option maxHeartbeats 4000000 in
set_option maxRecDepth 100000 in
theorem s_X0_isView {F : Nat} (hF : 100000 ≤ F) {x0 : Int32} {τ : Mem} (hI : wiX τ) : sf (f_X0_isView F x0 τ) (fun r s => s = τ ∧ ((r = 1 ∧ 0 ≤ x0.toInt ∧ x0.toInt ≤ 7) ∨ (r = 0 ∧ (x0.toInt < 0 ∨ 7 < x0.toInt)))) := by
  rw [f_X0_isView_e]
  have b1 := ti_lo x0
  have b2 := ti_hi x0
  refine sf_ite (fun c3 => ?_) (fun c3 => ?_)
  · have C3 : x0.toInt < (0 : Int) := ti_lt c3
    rw [j_X0_isView_14_e]
    exact sf_ret ⟨rfl, Or.inr (⟨rfl, by omega⟩)⟩
  have C3 : (0 : Int) ≤ x0.toInt := ti_nlt c3
  refine sf_ite (fun c4 => ?_) (fun c4 => ?_)
  · have C4 : (8 : Int) ≤ x0.toInt := ti_le c4
    rw [j_X0_isView_14_e]
    exact sf_ret ⟨rfl, Or.inr (⟨rfl, by omega⟩)⟩
  have C4 : x0.toInt < (8 : Int) := ti_nle c4
  exact sf_ret ⟨rfl, Or.inl ⟨rfl, by omega, by omega⟩⟩
set_option maxHeartbeats 4000000 in
set_option maxRecDepth 100000 in
theorem s_X0_isHour {F : Nat} (hF : 100000 ≤ F) {x0 : Int32} {τ : Mem} (hI : wiX τ) : sf (f_X0_isHour F x0 τ) (fun r s => s = τ ∧ ((r = 1 ∧ 0 ≤ x0.toInt ∧ x0.toInt ≤ 23) ∨ (r = 0 ∧ (x0.toInt < 0 ∨ 23 < x0.toInt)))) := by
  rw [f_X0_isHour_e]
  have b1 := ti_lo x0
  have b2 := ti_hi x0
  refine sf_ite (fun c3 => ?_) (fun c3 => ?_)
  · have C3 : x0.toInt < (0 : Int) := ti_lt c3
    rw [j_X0_isHour_14_e]
    exact sf_ret ⟨rfl, Or.inr (⟨rfl, by omega⟩)⟩
  have C3 : (0 : Int) ≤ x0.toInt := ti_nlt c3
  refine sf_ite (fun c4 => ?_) (fun c4 => ?_)
  · have C4 : (24 : Int) ≤ x0.toInt := ti_le c4
    rw [j_X0_isHour_14_e]
    exact sf_ret ⟨rfl, Or.inr (⟨rfl, by omega⟩)⟩
  have C4 : x0.toInt < (24 : Int) := ti_nle c4
  exact sf_ret ⟨rfl, Or.inl ⟨rfl, by omega, by omega⟩⟩
set_option maxHeartbeats 4000000 in
set_option maxRecDepth 100000 in
theorem s_X0_isPane {F : Nat} (hF : 100000 ≤ F) {h : Nat} {x1 : Int32} {τ : Mem} (hh : wt_isH h) (hI : wiX τ) : sf (f_X0_isPane F h x1 τ) (fun r s => s = τ ∧ ((r = 1 ∧ 0 ≤ x1.toInt ∧ x1.toInt ≤ 5) ∨ r = 0)) := by
  have hc_h := wt_Hcs hh
  rw [f_X0_isPane_e]
  have b1 := ti_lo x1
  have b2 := ti_hi x1
  refine sf_ite (fun c3 => ?_) (fun c3 => ?_)
  · have C3 : x1.toInt < (0 : Int) := ti_lt c3
    rw [j_X0_isPane_22_e]
    exact sf_ret ⟨rfl, Or.inr (rfl)⟩
  have C3 : (0 : Int) ≤ x1.toInt := ti_nlt c3
  have m4 := wx_X0_0 hI hh
  refine sf_ite (fun c5 => ?_) (fun c5 => ?_)
  · have C5 : (τ h 0).toInt ≤ x1.toInt := ti_le c5
    rw [j_X0_isPane_22_e]
    exact sf_ret ⟨rfl, Or.inr (rfl)⟩
  have C5 : x1.toInt < (τ h 0).toInt := ti_nle c5
  refine sf_ite (fun c6 => ?_) (fun c6 => ?_)
  · have C6 : (6 : Int) ≤ x1.toInt := ti_le c6
    exfalso; omega
  have C6 : x1.toInt < (6 : Int) := ti_nle c6
  exact sf_ret ⟨rfl, Or.inl ⟨rfl, by omega, by omega⟩⟩
set_option maxHeartbeats 4000000 in
set_option maxRecDepth 100000 in
theorem s_X0_isLooker {F : Nat} (hF : 100000 ≤ F) {h : Nat} {x1 : Int32} {τ : Mem} (hh : wt_isH h) (hI : wiX τ) : sf (f_X0_isLooker F h x1 τ) (fun r s => s = τ ∧ ((r = 1 ∧ 0 ≤ x1.toInt ∧ x1.toInt ≤ 4) ∨ r = 0)) := by
  have hc_h := wt_Hcs hh
  rw [f_X0_isLooker_e]
  have b1 := ti_lo x1
  have b2 := ti_hi x1
  refine sf_ite (fun c3 => ?_) (fun c3 => ?_)
  · have C3 : x1.toInt < (0 : Int) := ti_lt c3
    rw [j_X0_isLooker_21_e]
    exact sf_ret ⟨rfl, Or.inr (rfl)⟩
  have C3 : (0 : Int) ≤ x1.toInt := ti_nlt c3
  have m4 := wx_X0_2 hI hh
  refine sf_ite (fun c5 => ?_) (fun c5 => ?_)
  · have C5 : (τ h 2).toInt ≤ x1.toInt := ti_le c5
    rw [j_X0_isLooker_21_e]
    exact sf_ret ⟨rfl, Or.inr (rfl)⟩
  have C5 : x1.toInt < (τ h 2).toInt := ti_nle c5
  refine sf_ite (fun c6 => ?_) (fun c6 => ?_)
  · have C6 : (5 : Int) ≤ x1.toInt := ti_le c6
    exfalso; omega
  have C6 : x1.toInt < (5 : Int) := ti_nle c6
  exact sf_ret ⟨rfl, Or.inl ⟨rfl, by omega, by omega⟩⟩
set_option maxHeartbeats 4000000 in
set_option maxRecDepth 100000 in
theorem s_X0_addPane {F : Nat} (hF : 100000 ≤ F) {h : Nat} {x1 : Int32} {τ : Mem} (hh : wt_isH h) (hI : wiX τ) : sf (f_X0_addPane F h x1 τ) (fun r s => wiX s ∧ (∀ k, 101 ≤ k → s k = τ k) ∧ s 83 1 = τ 83 1 ∧ s 0 7 = τ 0 7 ∧ 0 ≤ r.toInt ∧ r.toInt ≤ 1) := by
  have hc_h := wt_Hcs hh
  have Fτ : ∀ k, 101 ≤ k → τ k = τ k := fun _ _ => rfl
  have O83_τ : τ 83 1 = τ 83 1 := rfl
  have O0_τ : τ 0 7 = τ 0 7 := rfl
  rw [f_X0_addPane_e]
  have b1 := ti_lo x1
  have b2 := ti_hi x1
  refine sf_ite (fun c3 => ?_) (fun c3 => ?_)
  · have C3 : x1.toInt < (0 : Int) := ti_lt c3
    rw [j_X0_addPane_27_e]
    exact sf_ret ⟨hI, Fτ, O83_τ, O0_τ, by decide, by decide⟩
  have C3 : (0 : Int) ≤ x1.toInt := ti_nlt c3
  refine sf_ite (fun c4 => ?_) (fun c4 => ?_)
  · have C4 : (255 : Int) < x1.toInt := ti_lt c4
    rw [j_X0_addPane_27_e]
    exact sf_ret ⟨hI, Fτ, O83_τ, O0_τ, by decide, by decide⟩
  have C4 : x1.toInt ≤ (255 : Int) := ti_nlt c4
  have m5 := wx_X0_0 hI hh
  refine sf_ite (fun c6 => ?_) (fun c6 => ?_)
  · have C6 : (τ h 0).toInt < (0 : Int) := ti_lt c6
    exfalso; omega
  have C6 : (0 : Int) ≤ (τ h 0).toInt := ti_nlt c6
  refine sf_ite (fun c7 => ?_) (fun c7 => ?_)
  · have C7 : (τ h 0).toInt < (6 : Int) := ti_lt c7
    refine sf_chk (ti_in (by omega) (by omega)) ?_
    have v8 : Int32.toNatClampNeg (τ h 0) = (τ h 0).toInt.toNat := rfl
    refine sf_lt (fun s9 hs9 => ?_)
    have Is9 : wiX s9 := by rw [hs9]; exact wx_oth hI (fun q hq e => by have := wt_Hcs hq; omega) (fun e => by omega) (fun e => by omega) (fun e => by omega)
    have Fs9 : ∀ k, 101 ≤ k → s9 k = τ k := fun k hk => (show s9 k = τ k by rw [hs9, up2_k (by omega)]).trans (Fτ k hk)
    have O83_s9 : s9 83 1 = τ 83 1 := (show s9 83 1 = τ 83 1 by rw [hs9, up2_k (by omega)]).trans O83_τ
    have O0_s9 : s9 0 7 = τ 0 7 := (show s9 0 7 = τ 0 7 by rw [hs9, up2_k (by omega)]).trans O0_τ
    refine sf_lt (fun s10 hs10 => ?_)
    have m11 := wx_X0_0 Is9 hh
    have e12 : (s9 h 0).toInt = (τ h 0).toInt := congrArg Int32.toInt (by rw [hs9, up2_k (by omega)])
    have t13 : ((s9 h 0) + (1 : Int32)).toInt = (s9 h 0).toInt + (1 : Int) := ti_add (show -2147483648 ≤ (s9 h 0).toInt + (1 : Int) by omega) (show (s9 h 0).toInt + (1 : Int) ≤ 2147483647 by omega)
    have Is10 : wiX s10 := by rw [hs10]; exact wx_put_X0_0 Is9 hh (by omega) (by omega)
    have Fs10 : ∀ k, 101 ≤ k → s10 k = τ k := fun k hk => (show s10 k = s9 k by rw [hs10, up2_k (by omega)]).trans (Fs9 k hk)
    have O83_s10 : s10 83 1 = τ 83 1 := (show s10 83 1 = s9 83 1 by rw [hs10, up2_k (by omega)]).trans O83_s9
    have O0_s10 : s10 0 7 = τ 0 7 := (show s10 0 7 = s9 0 7 by rw [hs10, up2_k (by omega)]).trans O0_s9
    exact sf_ret ⟨Is10, Fs10, O83_s10, O0_s10, by decide, by decide⟩
  have C7 : (6 : Int) ≤ (τ h 0).toInt := ti_nlt c7
  rw [j_X0_addPane_27_e]
  exact sf_ret ⟨hI, Fτ, O83_τ, O0_τ, by decide, by decide⟩
set_option maxHeartbeats 4000000 in
set_option maxRecDepth 100000 in
theorem sl_X0_addLooker_86 {F : Nat} (hF : 100000 ≤ F) {h : Nat} {τ : Mem} (hh : wt_isH h) : ∀ (N : Nat) (x3 : Int32) (σ : Mem), wiX σ → (∀ k, 101 ≤ k → σ k = τ k) → σ 83 1 = τ 83 1 → σ 0 7 = τ 0 7 → 8 < x3.toInt + N → 0 ≤ x3.toInt → x3.toInt ≤ 8 → 0 ≤ (σ h 2).toInt → (σ h 2).toInt ≤ 4 → sf (lp_X0_addLooker_86 F h N x3 σ) (fun r s => wiX s ∧ (∀ k, 101 ≤ k → s k = τ k) ∧ s 83 1 = τ 83 1 ∧ s 0 7 = τ 0 7 ∧ 0 ≤ r.toInt ∧ r.toInt ≤ 1) := by
  intro N
  induction N with
  | zero => intro x3 σ hI Fσ O83_σ O0_σ hN x3_1 x3_2 mf0_1 mf0_2; exfalso; omega
  | succ N ih =>
    intro x3 σ hI Fσ O83_σ O0_σ hN x3_1 x3_2 mf0_1 mf0_2
    have hc_h := wt_Hcs hh
    rw [lp_X0_addLooker_86_s]
    refine sf_ite (fun c1 => ?_) (fun c1 => ?_)
    · have C1 : (8 : Int) ≤ x3.toInt := ti_le c1
      refine sf_lt (fun s2 hs2 => ?_)
      have m3 := wx_X0_2 hI hh
      have t4 : ((σ h 2) + (1 : Int32)).toInt = (σ h 2).toInt + (1 : Int) := ti_add (show -2147483648 ≤ (σ h 2).toInt + (1 : Int) by omega) (show (σ h 2).toInt + (1 : Int) ≤ 2147483647 by omega)
      have Is2 : wiX s2 := by rw [hs2]; exact wx_put_X0_2 hI hh (by omega) (by omega)
      have Fs2 : ∀ k, 101 ≤ k → s2 k = τ k := fun k hk => (show s2 k = σ k by rw [hs2, up2_k (by omega)]).trans (Fσ k hk)
      have O83_s2 : s2 83 1 = τ 83 1 := (show s2 83 1 = σ 83 1 by rw [hs2, up2_k (by omega)]).trans O83_σ
      have O0_s2 : s2 0 7 = τ 0 7 := (show s2 0 7 = σ 0 7 by rw [hs2, up2_k (by omega)]).trans O0_σ
      exact sf_ret ⟨Is2, Fs2, O83_s2, O0_s2, by decide, by decide⟩
    have C1 : x3.toInt < (8 : Int) := ti_nle c1
    have m5 := wx_X0_2 hI hh
    refine sf_chk (ti_in (by omega) (by omega)) ?_
    have v6 : Int32.toNatClampNeg (σ h 2) = (σ h 2).toInt.toNat := rfl
    refine sf_chk (ti_in (by omega) (by omega)) ?_
    have v7 : Int32.toNatClampNeg x3 = x3.toInt.toNat := rfl
    refine sf_lt (fun s8 hs8 => ?_)
    have Is8 : wiX s8 := by rw [hs8]; exact wx_oth hI (fun q hq e => by have := wt_Hcs hq; omega) (fun e => by omega) (fun e => by omega) (fun e => by omega)
    have Fs8 : ∀ k, 101 ≤ k → s8 k = τ k := fun k hk => (show s8 k = σ k by rw [hs8, up2_k (by omega)]).trans (Fσ k hk)
    have O83_s8 : s8 83 1 = τ 83 1 := (show s8 83 1 = σ 83 1 by rw [hs8, up2_k (by omega)]).trans O83_σ
    have O0_s8 : s8 0 7 = τ 0 7 := (show s8 0 7 = σ 0 7 by rw [hs8, up2_k (by omega)]).trans O0_σ
    have t9 : (x3 + (1 : Int32)).toInt = x3.toInt + (1 : Int) := ti_add (show -2147483648 ≤ x3.toInt + (1 : Int) by omega) (show x3.toInt + (1 : Int) ≤ 2147483647 by omega)
    have m10 := wx_X0_2 Is8 hh
    have e11 : (s8 h 2).toInt = (σ h 2).toInt := congrArg Int32.toInt (by rw [hs8, up2_k (by omega)])
    exact ih _ _ Is8 Fs8 O83_s8 O0_s8 (by omega) (by omega) (by omega) (by omega) (by omega)
set_option maxHeartbeats 4000000 in
set_option maxRecDepth 100000 in
theorem sl_X0_addLooker_59 {F : Nat} (hF : 100000 ≤ F) {h : Nat} {τ : Mem} (hh : wt_isH h) : ∀ (N : Nat) (x3 : Int32) (σ : Mem), wiX σ → (∀ k, 101 ≤ k → σ k = τ k) → σ 83 1 = τ 83 1 → σ 0 7 = τ 0 7 → 24 < x3.toInt + N → 0 ≤ x3.toInt → x3.toInt ≤ 24 → 0 ≤ (σ h 2).toInt → (σ h 2).toInt ≤ 4 → sf (lp_X0_addLooker_59 F h N x3 σ) (fun r s => wiX s ∧ (∀ k, 101 ≤ k → s k = τ k) ∧ s 83 1 = τ 83 1 ∧ s 0 7 = τ 0 7 ∧ 0 ≤ r.toInt ∧ r.toInt ≤ 1) := by
  intro N
  induction N with
  | zero => intro x3 σ hI Fσ O83_σ O0_σ hN x3_1 x3_2 mf0_1 mf0_2; exfalso; omega
  | succ N ih =>
    intro x3 σ hI Fσ O83_σ O0_σ hN x3_1 x3_2 mf0_1 mf0_2
    have hc_h := wt_Hcs hh
    rw [lp_X0_addLooker_59_s]
    refine sf_ite (fun c1 => ?_) (fun c1 => ?_)
    · have C1 : (24 : Int) ≤ x3.toInt := ti_le c1
      have m2 := wx_X0_2 hI hh
      have l_0 : (0 : Int32).toInt = 0 := rfl
      exact sl_X0_addLooker_86 hF hh _ _ _ hI Fσ O83_σ O0_σ (by omega) (by decide) (by decide) (by omega) (by omega)
    have C1 : x3.toInt < (24 : Int) := ti_nle c1
    have m3 := wx_X0_2 hI hh
    refine sf_chk (ti_in (by omega) (by omega)) ?_
    have v4 : Int32.toNatClampNeg (σ h 2) = (σ h 2).toInt.toNat := rfl
    refine sf_chk (ti_in (by omega) (by omega)) ?_
    have v5 : Int32.toNatClampNeg x3 = x3.toInt.toNat := rfl
    refine sf_lt (fun s6 hs6 => ?_)
    have Is6 : wiX s6 := by rw [hs6]; exact wx_oth hI (fun q hq e => by have := wt_Hcs hq; omega) (fun e => by omega) (fun e => by omega) (fun e => by omega)
    have Fs6 : ∀ k, 101 ≤ k → s6 k = τ k := fun k hk => (show s6 k = σ k by rw [hs6, up2_k (by omega)]).trans (Fσ k hk)
    have O83_s6 : s6 83 1 = τ 83 1 := (show s6 83 1 = σ 83 1 by rw [hs6, up2_k (by omega)]).trans O83_σ
    have O0_s6 : s6 0 7 = τ 0 7 := (show s6 0 7 = σ 0 7 by rw [hs6, up2_k (by omega)]).trans O0_σ
    have t7 : (x3 + (1 : Int32)).toInt = x3.toInt + (1 : Int) := ti_add (show -2147483648 ≤ x3.toInt + (1 : Int) by omega) (show x3.toInt + (1 : Int) ≤ 2147483647 by omega)
    have m8 := wx_X0_2 Is6 hh
    have e9 : (s6 h 2).toInt = (σ h 2).toInt := congrArg Int32.toInt (by rw [hs6, up2_k (by omega)])
    exact ih _ _ Is6 Fs6 O83_s6 O0_s6 (by omega) (by omega) (by omega) (by omega) (by omega)
set_option maxHeartbeats 4000000 in
set_option maxRecDepth 100000 in
theorem s_X0_addLooker {F : Nat} (hF : 100000 ≤ F) {h : Nat} {x1 : Int32} {x2 : Int32} {τ : Mem} (hh : wt_isH h) (hI : wiX τ) : sf (f_X0_addLooker F h x1 x2 τ) (fun r s => wiX s ∧ (∀ k, 101 ≤ k → s k = τ k) ∧ s 83 1 = τ 83 1 ∧ s 0 7 = τ 0 7 ∧ 0 ≤ r.toInt ∧ r.toInt ≤ 1) := by
  have hc_h := wt_Hcs hh
  have Fτ : ∀ k, 101 ≤ k → τ k = τ k := fun _ _ => rfl
  have O83_τ : τ 83 1 = τ 83 1 := rfl
  have O0_τ : τ 0 7 = τ 0 7 := rfl
  rw [f_X0_addLooker_e]
  have b1 := ti_lo x1
  have b2 := ti_hi x1
  refine sf_ite (fun c3 => ?_) (fun c3 => ?_)
  · have C3 : x1.toInt < (0 : Int) := ti_lt c3
    rw [j_X0_addLooker_35_e]
    exact sf_ret ⟨hI, Fτ, O83_τ, O0_τ, by decide, by decide⟩
  have C3 : (0 : Int) ≤ x1.toInt := ti_nlt c3
  refine sf_ite (fun c4 => ?_) (fun c4 => ?_)
  · have C4 : (6 : Int) ≤ x1.toInt := ti_le c4
    rw [j_X0_addLooker_35_e]
    exact sf_ret ⟨hI, Fτ, O83_τ, O0_τ, by decide, by decide⟩
  have C4 : x1.toInt < (6 : Int) := ti_nle c4
  have b5 := ti_lo x2
  have b6 := ti_hi x2
  refine sf_ite (fun c7 => ?_) (fun c7 => ?_)
  · have C7 : x2.toInt < (0 : Int) := ti_lt c7
    rw [j_X0_addLooker_35_e]
    exact sf_ret ⟨hI, Fτ, O83_τ, O0_τ, by decide, by decide⟩
  have C7 : (0 : Int) ≤ x2.toInt := ti_nlt c7
  refine sf_ite (fun c8 => ?_) (fun c8 => ?_)
  · have C8 : (9 : Int) < x2.toInt := ti_lt c8
    rw [j_X0_addLooker_35_e]
    exact sf_ret ⟨hI, Fτ, O83_τ, O0_τ, by decide, by decide⟩
  have C8 : x2.toInt ≤ (9 : Int) := ti_nlt c8
  have m9 := wx_X0_2 hI hh
  refine sf_ite (fun c10 => ?_) (fun c10 => ?_)
  · have C10 : (τ h 2).toInt < (0 : Int) := ti_lt c10
    exfalso; omega
  have C10 : (0 : Int) ≤ (τ h 2).toInt := ti_nlt c10
  refine sf_ite (fun c11 => ?_) (fun c11 => ?_)
  · have C11 : (τ h 2).toInt < (5 : Int) := ti_lt c11
    refine sf_chk (ti_in (by omega) (by omega)) ?_
    have v12 : Int32.toNatClampNeg (τ h 2) = (τ h 2).toInt.toNat := rfl
    refine sf_lt (fun s13 hs13 => ?_)
    have Is13 : wiX s13 := by rw [hs13]; exact wx_oth hI (fun q hq e => by have := wt_Hcs hq; omega) (fun e => by omega) (fun e => by omega) (fun e => by omega)
    have Fs13 : ∀ k, 101 ≤ k → s13 k = τ k := fun k hk => (show s13 k = τ k by rw [hs13, up2_k (by omega)]).trans (Fτ k hk)
    have O83_s13 : s13 83 1 = τ 83 1 := (show s13 83 1 = τ 83 1 by rw [hs13, up2_k (by omega)]).trans O83_τ
    have O0_s13 : s13 0 7 = τ 0 7 := (show s13 0 7 = τ 0 7 by rw [hs13, up2_k (by omega)]).trans O0_τ
    have m14 := wx_X0_2 Is13 hh
    have e15 : (s13 h 2).toInt = (τ h 2).toInt := congrArg Int32.toInt (by rw [hs13, up2_k (by omega)])
    refine sf_chk (ti_in (by omega) (by omega)) ?_
    have v16 : Int32.toNatClampNeg (s13 h 2) = (s13 h 2).toInt.toNat := rfl
    refine sf_lt (fun s17 hs17 => ?_)
    have Is17 : wiX s17 := by rw [hs17]; exact wx_oth Is13 (fun q hq e => by have := wt_Hcs hq; omega) (fun e => by omega) (fun e => by omega) (fun e => by omega)
    have Fs17 : ∀ k, 101 ≤ k → s17 k = τ k := fun k hk => (show s17 k = s13 k by rw [hs17, up2_k (by omega)]).trans (Fs13 k hk)
    have O83_s17 : s17 83 1 = τ 83 1 := (show s17 83 1 = s13 83 1 by rw [hs17, up2_k (by omega)]).trans O83_s13
    have O0_s17 : s17 0 7 = τ 0 7 := (show s17 0 7 = s13 0 7 by rw [hs17, up2_k (by omega)]).trans O0_s13
    have m18 := wx_X0_2 Is17 hh
    have e19 : (s17 h 2).toInt = (s13 h 2).toInt := congrArg Int32.toInt (by rw [hs17, up2_k (by omega)])
    have l_0 : (0 : Int32).toInt = 0 := rfl
    exact sl_X0_addLooker_59 hF hh _ _ _ Is17 Fs17 O83_s17 O0_s17 (by omega) (by decide) (by decide) (by omega) (by omega)
  have C11 : (5 : Int) ≤ (τ h 2).toInt := ti_nlt c11
  rw [j_X0_addLooker_35_e]
  exact sf_ret ⟨hI, Fτ, O83_τ, O0_τ, by decide, by decide⟩
set_option maxHeartbeats 4000000 in
set_option maxRecDepth 100000 in
theorem sl_X0_post_48 {F : Nat} (hF : 100000 ≤ F) {h : Nat} {x1 : Int32} {x3 : Int32} {x4 : Int32} {τ : Mem} (hh : wt_isH h) (x1_1 : 0 ≤ x1.toInt) (x1_2 : x1.toInt ≤ 4) (x3_1 : 0 ≤ x3.toInt) (x3_2 : x3.toInt ≤ 23) (x4_1 : 0 ≤ x4.toInt) (x4_2 : x4.toInt ≤ 9) : ∀ (N : Nat) (x5 : Int32) (σ : Mem), wiX σ → (∀ k, 101 ≤ k → σ k = τ k) → σ 83 1 = τ 83 1 → σ 0 7 = τ 0 7 → 24 < x5.toInt + N → 0 ≤ x5.toInt → x5.toInt ≤ 24 → sf (lp_X0_post_48 F h x1 x3 x4 N x5 σ) (fun r s => wiX s ∧ (∀ k, 101 ≤ k → s k = τ k) ∧ s 83 1 = τ 83 1 ∧ s 0 7 = τ 0 7 ∧ 0 ≤ r.toInt ∧ r.toInt ≤ 1) := by
  intro N
  induction N with
  | zero => intro x5 σ hI Fσ O83_σ O0_σ hN x5_1 x5_2; exfalso; omega
  | succ N ih =>
    intro x5 σ hI Fσ O83_σ O0_σ hN x5_1 x5_2
    have hc_h := wt_Hcs hh
    rw [lp_X0_post_48_s]
    refine sf_ite (fun c1 => ?_) (fun c1 => ?_)
    · have C1 : x3.toInt < x5.toInt := ti_lt c1
      exact sf_ret ⟨hI, Fσ, O83_σ, O0_σ, by decide, by decide⟩
    have C1 : x5.toInt ≤ x3.toInt := ti_nlt c1
    refine sf_chk (ti_in (by omega) (by omega)) ?_
    have v2 : Int32.toNatClampNeg x1 = x1.toInt.toNat := rfl
    refine sf_chk (ti_in (by omega) (by omega)) ?_
    have v3 : Int32.toNatClampNeg x5 = x5.toInt.toNat := rfl
    refine sf_lt (fun s4 hs4 => ?_)
    have Is4 : wiX s4 := by rw [hs4]; exact wx_oth hI (fun q hq e => by have := wt_Hcs hq; omega) (fun e => by omega) (fun e => by omega) (fun e => by omega)
    have Fs4 : ∀ k, 101 ≤ k → s4 k = τ k := fun k hk => (show s4 k = σ k by rw [hs4, up2_k (by omega)]).trans (Fσ k hk)
    have O83_s4 : s4 83 1 = τ 83 1 := (show s4 83 1 = σ 83 1 by rw [hs4, up2_k (by omega)]).trans O83_σ
    have O0_s4 : s4 0 7 = τ 0 7 := (show s4 0 7 = σ 0 7 by rw [hs4, up2_k (by omega)]).trans O0_σ
    have t5 : (x5 + (1 : Int32)).toInt = x5.toInt + (1 : Int) := ti_add (show -2147483648 ≤ x5.toInt + (1 : Int) by omega) (show x5.toInt + (1 : Int) ≤ 2147483647 by omega)
    exact ih _ _ Is4 Fs4 O83_s4 O0_s4 (by omega) (by omega) (by omega)
set_option maxHeartbeats 4000000 in
set_option maxRecDepth 100000 in
theorem s_X0_post {F : Nat} (hF : 100000 ≤ F) {h : Nat} {x1 : Int32} {x2 : Int32} {x3 : Int32} {x4 : Int32} {τ : Mem} (hh : wt_isH h) (hI : wiX τ) : sf (f_X0_post F h x1 x2 x3 x4 τ) (fun r s => wiX s ∧ (∀ k, 101 ≤ k → s k = τ k) ∧ s 83 1 = τ 83 1 ∧ s 0 7 = τ 0 7 ∧ 0 ≤ r.toInt ∧ r.toInt ≤ 1) := by
  have hc_h := wt_Hcs hh
  have Fτ : ∀ k, 101 ≤ k → τ k = τ k := fun _ _ => rfl
  have O83_τ : τ 83 1 = τ 83 1 := rfl
  have O0_τ : τ 0 7 = τ 0 7 := rfl
  rw [f_X0_post_e]
  have b1 := ti_lo x1
  have b2 := ti_hi x1
  refine sf_bnd (s_X0_isLooker hF hh hI) (fun r3 u4 p5 => ?_)
  obtain ⟨e9, p5⟩ := p5
  have e9 := e9.symm
  subst e9
  rcases p5 with ⟨rfl, q6, q7⟩ | p5
  · refine sf_ite (fun c8 => ?_) (fun c8 => ?_)
    · have C8 : (1 : Int) = (0 : Int) := ti_eq c8
      exfalso; omega
    have C8 : ¬ (1 : Int) = (0 : Int) := ti_ne c8
    have b9 := ti_lo x2
    have b10 := ti_hi x2
    refine sf_bnd (s_X0_isHour hF hI) (fun r11 u12 p13 => ?_)
    obtain ⟨e9, p13⟩ := p13
    have e9 := e9.symm
    subst e9
    rcases p13 with ⟨rfl, q14, q15⟩ | p13
    · refine sf_ite (fun c16 => ?_) (fun c16 => ?_)
      · have C16 : (1 : Int) = (0 : Int) := ti_eq c16
        exfalso; omega
      have C16 : ¬ (1 : Int) = (0 : Int) := ti_ne c16
      have b17 := ti_lo x3
      have b18 := ti_hi x3
      refine sf_bnd (s_X0_isHour hF hI) (fun r19 u20 p21 => ?_)
      obtain ⟨e9, p21⟩ := p21
      have e9 := e9.symm
      subst e9
      rcases p21 with ⟨rfl, q22, q23⟩ | p21
      · refine sf_ite (fun c24 => ?_) (fun c24 => ?_)
        · have C24 : (1 : Int) = (0 : Int) := ti_eq c24
          exfalso; omega
        have C24 : ¬ (1 : Int) = (0 : Int) := ti_ne c24
        refine sf_ite (fun c25 => ?_) (fun c25 => ?_)
        · have C25 : x3.toInt < x2.toInt := ti_lt c25
          rw [j_X0_post_43_e]
          exact sf_ret ⟨hI, Fτ, O83_τ, O0_τ, by decide, by decide⟩
        have C25 : x2.toInt ≤ x3.toInt := ti_nlt c25
        have b26 := ti_lo x4
        have b27 := ti_hi x4
        refine sf_ite (fun c28 => ?_) (fun c28 => ?_)
        · have C28 : x4.toInt = (9 : Int) := ti_eq c28
          rw [j_X0_post_45_e]
          exact sl_X0_post_48 hF hh (by omega) (by omega) (by omega) (by omega) (by omega) (by omega) _ _ _ hI Fτ O83_τ O0_τ (by omega) (by omega) (by omega)
        have C28 : ¬ x4.toInt = (9 : Int) := ti_ne c28
        refine sf_bnd (s_X0_isPane hF hh hI) (fun r29 u30 p31 => ?_)
        obtain ⟨e9, p31⟩ := p31
        have e9 := e9.symm
        subst e9
        rcases p31 with ⟨rfl, q32, q33⟩ | p31
        · refine sf_ite (fun c34 => ?_) (fun c34 => ?_)
          · have C34 : (1 : Int) = (0 : Int) := ti_eq c34
            exfalso; omega
          have C34 : ¬ (1 : Int) = (0 : Int) := ti_ne c34
          rw [j_X0_post_45_e]
          exact sl_X0_post_48 hF hh (by omega) (by omega) (by omega) (by omega) (by omega) (by omega) _ _ _ hI Fτ O83_τ O0_τ (by omega) (by omega) (by omega)
        obtain rfl := p31
        refine sf_ite (fun c35 => ?_) (fun c35 => ?_)
        · have C35 : (0 : Int) = (0 : Int) := ti_eq c35
          rw [j_X0_post_43_e]
          exact sf_ret ⟨hI, Fτ, O83_τ, O0_τ, by decide, by decide⟩
        have C35 : ¬ (0 : Int) = (0 : Int) := ti_ne c35
        exfalso; omega
      obtain ⟨rfl, q36⟩ := p21
      refine sf_ite (fun c37 => ?_) (fun c37 => ?_)
      · have C37 : (0 : Int) = (0 : Int) := ti_eq c37
        rw [j_X0_post_43_e]
        exact sf_ret ⟨hI, Fτ, O83_τ, O0_τ, by decide, by decide⟩
      have C37 : ¬ (0 : Int) = (0 : Int) := ti_ne c37
      exfalso; omega
    obtain ⟨rfl, q38⟩ := p13
    refine sf_ite (fun c39 => ?_) (fun c39 => ?_)
    · have C39 : (0 : Int) = (0 : Int) := ti_eq c39
      rw [j_X0_post_43_e]
      exact sf_ret ⟨hI, Fτ, O83_τ, O0_τ, by decide, by decide⟩
    have C39 : ¬ (0 : Int) = (0 : Int) := ti_ne c39
    exfalso; omega
  obtain rfl := p5
  refine sf_ite (fun c40 => ?_) (fun c40 => ?_)
  · have C40 : (0 : Int) = (0 : Int) := ti_eq c40
    rw [j_X0_post_43_e]
    exact sf_ret ⟨hI, Fτ, O83_τ, O0_τ, by decide, by decide⟩
  have C40 : ¬ (0 : Int) = (0 : Int) := ti_ne c40
  exfalso; omega
set_option maxHeartbeats 4000000 in
set_option maxRecDepth 100000 in
theorem s_X0_flip {F : Nat} (hF : 100000 ≤ F) {h : Nat} {x1 : Int32} {x2 : Int32} {τ : Mem} (hh : wt_isH h) (hI : wiX τ) : sf (f_X0_flip F h x1 x2 τ) (fun r s => wiX s ∧ (∀ k, 101 ≤ k → s k = τ k) ∧ s 83 1 = τ 83 1 ∧ s 0 7 = τ 0 7 ∧ 0 ≤ r.toInt ∧ r.toInt ≤ 1) := by
  have hc_h := wt_Hcs hh
  have Fτ : ∀ k, 101 ≤ k → τ k = τ k := fun _ _ => rfl
  have O83_τ : τ 83 1 = τ 83 1 := rfl
  have O0_τ : τ 0 7 = τ 0 7 := rfl
  rw [f_X0_flip_e]
  have b1 := ti_lo x1
  have b2 := ti_hi x1
  refine sf_bnd (s_X0_isPane hF hh hI) (fun r3 u4 p5 => ?_)
  obtain ⟨e9, p5⟩ := p5
  have e9 := e9.symm
  subst e9
  rcases p5 with ⟨rfl, q6, q7⟩ | p5
  · refine sf_ite (fun c8 => ?_) (fun c8 => ?_)
    · have C8 : (1 : Int) = (0 : Int) := ti_eq c8
      exfalso; omega
    have C8 : ¬ (1 : Int) = (0 : Int) := ti_ne c8
    have b9 := ti_lo x2
    have b10 := ti_hi x2
    refine sf_bnd (s_X0_isView hF hI) (fun r11 u12 p13 => ?_)
    obtain ⟨e9, p13⟩ := p13
    have e9 := e9.symm
    subst e9
    rcases p13 with ⟨rfl, q14, q15⟩ | p13
    · refine sf_ite (fun c16 => ?_) (fun c16 => ?_)
      · have C16 : (1 : Int) = (0 : Int) := ti_eq c16
        exfalso; omega
      have C16 : ¬ (1 : Int) = (0 : Int) := ti_ne c16
      refine sf_chk (ti_in (by omega) (by omega)) ?_
      have v17 : Int32.toNatClampNeg x1 = x1.toInt.toNat := rfl
      refine sf_lt (fun s18 hs18 => ?_)
      have Is18 : wiX s18 := by rw [hs18]; exact wx_oth hI (fun q hq e => by have := wt_Hcs hq; omega) (fun e => by omega) (fun e => by omega) (fun e => by omega)
      have Fs18 : ∀ k, 101 ≤ k → s18 k = τ k := fun k hk => (show s18 k = τ k by rw [hs18, up2_k (by omega)]).trans (Fτ k hk)
      have O83_s18 : s18 83 1 = τ 83 1 := (show s18 83 1 = τ 83 1 by rw [hs18, up2_k (by omega)]).trans O83_τ
      have O0_s18 : s18 0 7 = τ 0 7 := (show s18 0 7 = τ 0 7 by rw [hs18, up2_k (by omega)]).trans O0_τ
      exact sf_ret ⟨Is18, Fs18, O83_s18, O0_s18, by decide, by decide⟩
    obtain ⟨rfl, q19⟩ := p13
    refine sf_ite (fun c20 => ?_) (fun c20 => ?_)
    · have C20 : (0 : Int) = (0 : Int) := ti_eq c20
      rw [j_X0_flip_15_e]
      exact sf_ret ⟨hI, Fτ, O83_τ, O0_τ, by decide, by decide⟩
    have C20 : ¬ (0 : Int) = (0 : Int) := ti_ne c20
    exfalso; omega
  obtain rfl := p5
  refine sf_ite (fun c21 => ?_) (fun c21 => ?_)
  · have C21 : (0 : Int) = (0 : Int) := ti_eq c21
    rw [j_X0_flip_15_e]
    exact sf_ret ⟨hI, Fτ, O83_τ, O0_τ, by decide, by decide⟩
  have C21 : ¬ (0 : Int) = (0 : Int) := ti_ne c21
  exfalso; omega
set_option maxHeartbeats 4000000 in
set_option maxRecDepth 100000 in
theorem s_X0_price {F : Nat} (hF : 100000 ≤ F) {h : Nat} {x1 : Int32} {x2 : Int32} {τ : Mem} (hh : wt_isH h) (hI : wiX τ) : sf (f_X0_price F h x1 x2 τ) (fun r s => wiX s ∧ (∀ k, 101 ≤ k → s k = τ k) ∧ s 83 1 = τ 83 1 ∧ s 0 7 = τ 0 7 ∧ 0 ≤ r.toInt ∧ r.toInt ≤ 1) := by
  have hc_h := wt_Hcs hh
  have Fτ : ∀ k, 101 ≤ k → τ k = τ k := fun _ _ => rfl
  have O83_τ : τ 83 1 = τ 83 1 := rfl
  have O0_τ : τ 0 7 = τ 0 7 := rfl
  rw [f_X0_price_e]
  have b1 := ti_lo x1
  have b2 := ti_hi x1
  refine sf_bnd (s_X0_isView hF hI) (fun r3 u4 p5 => ?_)
  obtain ⟨e9, p5⟩ := p5
  have e9 := e9.symm
  subst e9
  rcases p5 with ⟨rfl, q6, q7⟩ | p5
  · refine sf_ite (fun c8 => ?_) (fun c8 => ?_)
    · have C8 : (1 : Int) = (0 : Int) := ti_eq c8
      exfalso; omega
    have C8 : ¬ (1 : Int) = (0 : Int) := ti_ne c8
    have b9 := ti_lo x2
    have b10 := ti_hi x2
    refine sf_ite (fun c11 => ?_) (fun c11 => ?_)
    · have C11 : x2.toInt < (0 : Int) := ti_lt c11
      rw [j_X0_price_17_e]
      exact sf_ret ⟨hI, Fτ, O83_τ, O0_τ, by decide, by decide⟩
    have C11 : (0 : Int) ≤ x2.toInt := ti_nlt c11
    refine sf_ite (fun c12 => ?_) (fun c12 => ?_)
    · have C12 : x2.toInt ≤ (9 : Int) := ti_le c12
      refine sf_chk (ti_in (by omega) (by omega)) ?_
      have v13 : Int32.toNatClampNeg x1 = x1.toInt.toNat := rfl
      refine sf_lt (fun s14 hs14 => ?_)
      have Is14 : wiX s14 := by rw [hs14]; exact wx_oth hI (fun q hq e => by have := wt_Hcs hq; omega) (fun e => by omega) (fun e => by omega) (fun e => by omega)
      have Fs14 : ∀ k, 101 ≤ k → s14 k = τ k := fun k hk => (show s14 k = τ k by rw [hs14, up2_k (by omega)]).trans (Fτ k hk)
      have O83_s14 : s14 83 1 = τ 83 1 := (show s14 83 1 = τ 83 1 by rw [hs14, up2_k (by omega)]).trans O83_τ
      have O0_s14 : s14 0 7 = τ 0 7 := (show s14 0 7 = τ 0 7 by rw [hs14, up2_k (by omega)]).trans O0_τ
      exact sf_ret ⟨Is14, Fs14, O83_s14, O0_s14, by decide, by decide⟩
    have C12 : (9 : Int) < x2.toInt := ti_nle c12
    rw [j_X0_price_17_e]
    exact sf_ret ⟨hI, Fτ, O83_τ, O0_τ, by decide, by decide⟩
  obtain ⟨rfl, q15⟩ := p5
  refine sf_ite (fun c16 => ?_) (fun c16 => ?_)
  · have C16 : (0 : Int) = (0 : Int) := ti_eq c16
    rw [j_X0_price_17_e]
    exact sf_ret ⟨hI, Fτ, O83_τ, O0_τ, by decide, by decide⟩
  have C16 : ¬ (0 : Int) = (0 : Int) := ti_ne c16
  exfalso; omega
set_option maxHeartbeats 4000000 in
set_option maxRecDepth 100000 in
theorem s_X0_rule {F : Nat} (hF : 100000 ≤ F) {h : Nat} {x1 : Int32} {τ : Mem} (hh : wt_isH h) (hI : wiX τ) : sf (f_X0_rule F h x1 τ) (fun r s => wiX s ∧ (∀ k, 101 ≤ k → s k = τ k) ∧ s 83 1 = τ 83 1 ∧ s 0 7 = τ 0 7 ∧ 0 ≤ r.toInt ∧ r.toInt ≤ 1) := by
  have hc_h := wt_Hcs hh
  have Fτ : ∀ k, 101 ≤ k → τ k = τ k := fun _ _ => rfl
  have O83_τ : τ 83 1 = τ 83 1 := rfl
  have O0_τ : τ 0 7 = τ 0 7 := rfl
  rw [f_X0_rule_e]
  have b1 := ti_lo x1
  have b2 := ti_hi x1
  refine sf_ite (fun c3 => ?_) (fun c3 => ?_)
  · have C3 : x1.toInt < (0 : Int) := ti_lt c3
    rw [j_X0_rule_9_e]
    exact sf_ret ⟨hI, Fτ, O83_τ, O0_τ, by decide, by decide⟩
  have C3 : (0 : Int) ≤ x1.toInt := ti_nlt c3
  refine sf_ite (fun c4 => ?_) (fun c4 => ?_)
  · have C4 : x1.toInt < (3 : Int) := ti_lt c4
    refine sf_lt (fun s5 hs5 => ?_)
    have Is5 : wiX s5 := by rw [hs5]; exact wx_oth hI (fun q hq e => by have := wt_Hcs hq; omega) (fun e => by omega) (fun e => by omega) (fun e => by omega)
    have Fs5 : ∀ k, 101 ≤ k → s5 k = τ k := fun k hk => (show s5 k = τ k by rw [hs5, up2_k (by omega)]).trans (Fτ k hk)
    have O83_s5 : s5 83 1 = τ 83 1 := (show s5 83 1 = τ 83 1 by rw [hs5, up2_k (by omega)]).trans O83_τ
    have O0_s5 : s5 0 7 = τ 0 7 := (show s5 0 7 = τ 0 7 by rw [hs5, up2_k (by omega)]).trans O0_τ
    exact sf_ret ⟨Is5, Fs5, O83_s5, O0_s5, by decide, by decide⟩
  have C4 : (3 : Int) ≤ x1.toInt := ti_nlt c4
  rw [j_X0_rule_9_e]
  exact sf_ret ⟨hI, Fτ, O83_τ, O0_τ, by decide, by decide⟩
set_option maxHeartbeats 4000000 in
set_option maxRecDepth 100000 in
theorem sl_X0_shownBy_4 {F : Nat} (hF : 100000 ≤ F) {h : Nat} {x1 : Int32} {τ : Mem} (hh : wt_isH h) (hI : wiX τ) (x1_1 : 0 ≤ x1.toInt) (x1_2 : x1.toInt ≤ 63) : ∀ (N : Nat) (x2 : Int32) (x3 : Int32) , 6 < x3.toInt + N → 0 ≤ x3.toInt → x3.toInt ≤ 6 → sf (lp_X0_shownBy_4 F h x1 N x2 x3 τ) (fun r s => s = τ ∧ -2147483648 ≤ r.toInt ∧ r.toInt ≤ 2147483647) := by
  intro N
  induction N with
  | zero => intro x2 x3 hN x3_1 x3_2; exfalso; omega
  | succ N ih =>
    intro x2 x3 hN x3_1 x3_2
    have hc_h := wt_Hcs hh
    rw [lp_X0_shownBy_4_s]
    have m1 := wx_X0_0 hI hh
    refine sf_ite (fun c2 => ?_) (fun c2 => ?_)
    · have C2 : (τ h 0).toInt ≤ x3.toInt := ti_le c2
      have b3 := ti_lo x2
      have b4 := ti_hi x2
      exact sf_ret ⟨rfl, ti_lo _, ti_hi _⟩
    have C2 : x3.toInt < (τ h 0).toInt := ti_nle c2
    have b5 := ti_lo ((x1 >>> (x3 &&& 31)) &&& (1 : Int32))
    have b6 := ti_hi ((x1 >>> (x3 &&& 31)) &&& (1 : Int32))
    refine sf_ite (fun c7 => ?_) (fun c7 => ?_)
    · have C7 : ((x1 >>> (x3 &&& 31)) &&& (1 : Int32)).toInt = (1 : Int) := ti_eq c7
      refine sf_chk (ti_in (by omega) (by omega)) ?_
      have v8 : Int32.toNatClampNeg x3 = x3.toInt.toNat := rfl
      have b10 := ti_lo (x2 ||| (τ (h + 1) (Int32.toNatClampNeg x3)))
      have b11 := ti_hi (x2 ||| (τ (h + 1) (Int32.toNatClampNeg x3)))
      refine sf_lt (fun z9 hz9 => ?_)
      have hz9_ : z9.toInt = (x2 ||| (τ (h + 1) (Int32.toNatClampNeg x3))).toInt := (show z9.toInt = (x2 ||| (τ (h + 1) (Int32.toNatClampNeg x3))).toInt from congrArg Int32.toInt hz9)
      rw [j_X0_shownBy_30_e]
      have b12 := ti_lo z9
      have b13 := ti_hi z9
      have t14 : (x3 + (1 : Int32)).toInt = x3.toInt + (1 : Int) := ti_add (show -2147483648 ≤ x3.toInt + (1 : Int) by omega) (show x3.toInt + (1 : Int) ≤ 2147483647 by omega)
      exact ih _ _ (by omega) (by omega) (by omega)
    have C7 : ¬ ((x1 >>> (x3 &&& 31)) &&& (1 : Int32)).toInt = (1 : Int) := ti_ne c7
    rw [j_X0_shownBy_30_e]
    have b15 := ti_lo x2
    have b16 := ti_hi x2
    have t17 : (x3 + (1 : Int32)).toInt = x3.toInt + (1 : Int) := ti_add (show -2147483648 ≤ x3.toInt + (1 : Int) by omega) (show x3.toInt + (1 : Int) ≤ 2147483647 by omega)
    exact ih _ _ (by omega) (by omega) (by omega)
set_option maxHeartbeats 4000000 in
set_option maxRecDepth 100000 in
theorem s_X0_shownBy {F : Nat} (hF : 100000 ≤ F) {h : Nat} {x1 : Int32} {τ : Mem} (hh : wt_isH h) (hI : wiX τ) (x1_1 : 0 ≤ x1.toInt) (x1_2 : x1.toInt ≤ 63) : sf (f_X0_shownBy F h x1 τ) (fun r s => s = τ ∧ -2147483648 ≤ r.toInt ∧ r.toInt ≤ 2147483647) := by
  have hc_h := wt_Hcs hh
  rw [f_X0_shownBy_e]
  have l_0 : (0 : Int32).toInt = 0 := rfl
  exact sl_X0_shownBy_4 hF hh hI (by omega) (by omega) _ _ _  (by omega) (by decide) (by decide)
set_option maxHeartbeats 4000000 in
set_option maxRecDepth 100000 in
theorem s_X0_allShown {F : Nat} (hF : 100000 ≤ F) {h : Nat} {τ : Mem} (hh : wt_isH h) (hI : wiX τ) : sf (f_X0_allShown F h τ) (fun r s => s = τ ∧ -2147483648 ≤ r.toInt ∧ r.toInt ≤ 2147483647) := by
  have hc_h := wt_Hcs hh
  rw [f_X0_allShown_e]
  have m1 := wx_X0_0 hI hh
  obtain ⟨w2_1, w2_2⟩ := wi_shl (τ h 0) (by omega) (by omega)
  have t3 : (((1 : Int32) <<< ((τ h 0) &&& 31)) - (1 : Int32)).toInt = ((1 : Int32) <<< ((τ h 0) &&& 31)).toInt - (1 : Int) := ti_sub (show -2147483648 ≤ ((1 : Int32) <<< ((τ h 0) &&& 31)).toInt - (1 : Int) by omega) (show ((1 : Int32) <<< ((τ h 0) &&& 31)).toInt - (1 : Int) ≤ 2147483647 by omega)
  refine sf_bnd (s_X0_shownBy hF hh hI (by omega) (by omega)) (fun r4 u5 p6 => ?_)
  obtain ⟨e9, p6_1, p6_2⟩ := p6
  have e9 := e9.symm
  subst e9
  have b7 := ti_lo r4
  have b8 := ti_hi r4
  exact sf_ret ⟨rfl, ti_lo _, ti_hi _⟩
set_option maxHeartbeats 4000000 in
set_option maxRecDepth 100000 in
theorem s_X0_invalidsPull {F : Nat} (hF : 100000 ≤ F) {x0 : Int32} {τ : Mem} (hI : wiX τ) (x0_1 : 0 ≤ x0.toInt) (x0_2 : x0.toInt ≤ 23) : sf (f_X0_invalidsPull F x0 τ) (fun r s => s = τ ∧ 1 ≤ r.toInt ∧ r.toInt ≤ 2) := by
  rw [f_X0_invalidsPull_e]
  refine sf_ite (fun c1 => ?_) (fun c1 => ?_)
  · have C1 : x0.toInt < (6 : Int) := ti_lt c1
    rw [j_X0_invalidsPull_16_e]
    exact sf_ret ⟨rfl, by decide, by decide⟩
  have C1 : (6 : Int) ≤ x0.toInt := ti_nlt c1
  refine sf_ite (fun c2 => ?_) (fun c2 => ?_)
  · have C2 : (17 : Int) < x0.toInt := ti_lt c2
    rw [j_X0_invalidsPull_16_e]
    exact sf_ret ⟨rfl, by decide, by decide⟩
  have C2 : x0.toInt ≤ (17 : Int) := ti_nlt c2
  exact sf_ret ⟨rfl, by decide, by decide⟩
set_option maxHeartbeats 4000000 in
set_option maxRecDepth 100000 in
theorem s_X0_pull {F : Nat} (hF : 100000 ≤ F) {h : Nat} {x1 : Int32} {x2 : Int32} {τ : Mem} (hh : wt_isH h) (hI : wiX τ) (x1_1 : 0 ≤ x1.toInt) (x1_2 : x1.toInt ≤ 4) (x2_1 : 0 ≤ x2.toInt) (x2_2 : x2.toInt ≤ 23) : sf (f_X0_pull F h x1 x2 τ) (fun r s => s = τ ∧ -2147483648 ≤ r.toInt ∧ r.toInt ≤ 2147483647) := by
  have hc_h := wt_Hcs hh
  rw [f_X0_pull_e]
  refine sf_chk (ti_in (by omega) (by omega)) ?_
  have v1 : Int32.toNatClampNeg x1 = x1.toInt.toNat := rfl
  have b3 := ti_lo (τ (h + 3) (Int32.toNatClampNeg x1))
  have b4 := ti_hi (τ (h + 3) (Int32.toNatClampNeg x1))
  refine sf_lt (fun z2 hz2 => ?_)
  have hz2_ : z2.toInt = (τ (h + 3) (Int32.toNatClampNeg x1)).toInt := (show z2.toInt = (τ (h + 3) (Int32.toNatClampNeg x1)).toInt from congrArg Int32.toInt hz2)
  have b5 := ti_lo (τ (h + 2) (Int32.toNatClampNeg x1))
  have b6 := ti_hi (τ (h + 2) (Int32.toNatClampNeg x1))
  refine sf_ite (fun c7 => ?_) (fun c7 => ?_)
  · have C7 : (τ (h + 2) (Int32.toNatClampNeg x1)).toInt = (0 : Int) := ti_eq c7
    exact sf_ret ⟨rfl, ti_lo _, ti_hi _⟩
  have C7 : ¬ (τ (h + 2) (Int32.toNatClampNeg x1)).toInt = (0 : Int) := ti_ne c7
  refine sf_ite (fun c8 => ?_) (fun c8 => ?_)
  · have C8 : (τ (h + 2) (Int32.toNatClampNeg x1)).toInt = (1 : Int) := ti_eq c8
    refine sf_bnd (s_X0_invalidsPull hF hI (by omega) (by omega)) (fun r9 u10 p11 => ?_)
    obtain ⟨e9, p11_1, p11_2⟩ := p11
    have e9 := e9.symm
    subst e9
    exact sf_ret ⟨rfl, ti_lo _, ti_hi _⟩
  have C8 : ¬ (τ (h + 2) (Int32.toNatClampNeg x1)).toInt = (1 : Int) := ti_ne c8
  refine sf_ite (fun c12 => ?_) (fun c12 => ?_)
  · have C12 : (τ (h + 2) (Int32.toNatClampNeg x1)).toInt = (2 : Int) := ti_eq c12
    have b13 := ti_lo z2
    have b14 := ti_hi z2
    have b15 := ti_lo (z2 + (8 : Int32))
    have b16 := ti_hi (z2 + (8 : Int32))
    refine sf_ite (fun c17 => ?_) (fun c17 => ?_)
    · have C17 : x2.toInt = (z2 + (8 : Int32)).toInt := ti_eq c17
      exact sf_ret ⟨rfl, ti_lo _, ti_hi _⟩
    have C17 : ¬ x2.toInt = (z2 + (8 : Int32)).toInt := ti_ne c17
    exact sf_ret ⟨rfl, ti_lo _, ti_hi _⟩
  have C12 : ¬ (τ (h + 2) (Int32.toNatClampNeg x1)).toInt = (2 : Int) := ti_ne c12
  refine sf_ite (fun c18 => ?_) (fun c18 => ?_)
  · have C18 : (τ (h + 2) (Int32.toNatClampNeg x1)).toInt = (3 : Int) := ti_eq c18
    have t19 : (x2 - ((x2 / (2 : Int32)) * (2 : Int32))).toInt = x2.toInt % 2 := by rw [ti_rem, Int.tmod_eq_emod_of_nonneg (by omega)]; rfl
    refine sf_ite (fun c20 => ?_) (fun c20 => ?_)
    · have C20 : (x2 - ((x2 / (2 : Int32)) * (2 : Int32))).toInt = (0 : Int) := ti_eq c20
      exact sf_ret ⟨rfl, ti_lo _, ti_hi _⟩
    have C20 : ¬ (x2 - ((x2 / (2 : Int32)) * (2 : Int32))).toInt = (0 : Int) := ti_ne c20
    exact sf_ret ⟨rfl, ti_lo _, ti_hi _⟩
  have C18 : ¬ (τ (h + 2) (Int32.toNatClampNeg x1)).toInt = (3 : Int) := ti_ne c18
  refine sf_ite (fun c21 => ?_) (fun c21 => ?_)
  · have C21 : (τ (h + 2) (Int32.toNatClampNeg x1)).toInt = (4 : Int) := ti_eq c21
    refine sf_bnd (s_X0_invalidsPull hF hI (by omega) (by omega)) (fun r22 u23 p24 => ?_)
    obtain ⟨e9, p24_1, p24_2⟩ := p24
    have e9 := e9.symm
    subst e9
    have b25 := ti_lo z2
    have b26 := ti_hi z2
    have b27 := ti_lo (z2 / (3 : Int32))
    have b28 := ti_hi (z2 / (3 : Int32))
    have b29 := ti_lo ((z2 / (3 : Int32)) + r22)
    have b30 := ti_hi ((z2 / (3 : Int32)) + r22)
    exact sf_ret ⟨rfl, ti_lo _, ti_hi _⟩
  have C21 : ¬ (τ (h + 2) (Int32.toNatClampNeg x1)).toInt = (4 : Int) := ti_ne c21
  refine sf_ite (fun c31 => ?_) (fun c31 => ?_)
  · have C31 : (τ (h + 2) (Int32.toNatClampNeg x1)).toInt = (5 : Int) := ti_eq c31
    refine sf_bnd (s_X0_invalidsPull hF hI (by omega) (by omega)) (fun r32 u33 p34 => ?_)
    obtain ⟨e9, p34_1, p34_2⟩ := p34
    have e9 := e9.symm
    subst e9
    refine sf_ite (fun c35 => ?_) (fun c35 => ?_)
    · have C35 : x2.toInt < (20 : Int) := ti_lt c35
      rw [j_X0_pull_113_e]
      have b36 := ti_lo z2
      have b37 := ti_hi z2
      have b38 := ti_lo (z2 / (3 : Int32))
      have b39 := ti_hi (z2 / (3 : Int32))
      have b40 := ti_lo ((z2 / (3 : Int32)) + r32)
      have b41 := ti_hi ((z2 / (3 : Int32)) + r32)
      have t42 : (((z2 / (3 : Int32)) + r32) * (1 : Int32)).toInt = ((z2 / (3 : Int32)) + r32).toInt * (1 : Int) := ti_mul (show -2147483648 ≤ ((z2 / (3 : Int32)) + r32).toInt * (1 : Int) by omega) (show ((z2 / (3 : Int32)) + r32).toInt * (1 : Int) ≤ 2147483647 by omega)
      exact sf_ret ⟨rfl, ti_lo _, ti_hi _⟩
    have C35 : (20 : Int) ≤ x2.toInt := ti_nlt c35
    rw [j_X0_pull_113_e]
    have b43 := ti_lo z2
    have b44 := ti_hi z2
    have b45 := ti_lo (z2 / (3 : Int32))
    have b46 := ti_hi (z2 / (3 : Int32))
    have b47 := ti_lo ((z2 / (3 : Int32)) + r32)
    have b48 := ti_hi ((z2 / (3 : Int32)) + r32)
    have b49 := ti_lo (((z2 / (3 : Int32)) + r32) * (2 : Int32))
    have b50 := ti_hi (((z2 / (3 : Int32)) + r32) * (2 : Int32))
    exact sf_ret ⟨rfl, ti_lo _, ti_hi _⟩
  have C31 : ¬ (τ (h + 2) (Int32.toNatClampNeg x1)).toInt = (5 : Int) := ti_ne c31
  exact sf_ret ⟨rfl, ti_lo _, ti_hi _⟩
set_option maxHeartbeats 4000000 in
set_option maxRecDepth 100000 in
theorem s_X0_sight {F : Nat} (hF : 100000 ≤ F) {h : Nat} {x1 : Int32} {x2 : Int32} {x3 : Int32} {τ : Mem} (hh : wt_isH h) (hI : wiX τ) (x1_1 : 0 ≤ x1.toInt) (x1_2 : x1.toInt ≤ 4) (x2_1 : 0 ≤ x2.toInt) (x2_2 : x2.toInt ≤ 23) : sf (f_X0_sight F h x1 x2 x3 τ) (fun r s => s = τ ∧ -2147483648 ≤ r.toInt ∧ r.toInt ≤ 2147483647) := by
  have hc_h := wt_Hcs hh
  rw [f_X0_sight_e]
  refine sf_chk (ti_in (by omega) (by omega)) ?_
  have v1 : Int32.toNatClampNeg x1 = x1.toInt.toNat := rfl
  have b2 := ti_lo (τ (h + 2) (Int32.toNatClampNeg x1))
  have b3 := ti_hi (τ (h + 2) (Int32.toNatClampNeg x1))
  refine sf_ite (fun c4 => ?_) (fun c4 => ?_)
  · have C4 : (τ (h + 2) (Int32.toNatClampNeg x1)).toInt = (2 : Int) := ti_eq c4
    have b5 := ti_lo x3
    have b6 := ti_hi x3
    exact sf_ret ⟨rfl, ti_lo _, ti_hi _⟩
  have C4 : ¬ (τ (h + 2) (Int32.toNatClampNeg x1)).toInt = (2 : Int) := ti_ne c4
  refine sf_chk (ti_in (by omega) (by omega)) ?_
  have v7 : Int32.toNatClampNeg x2 = x2.toInt.toNat := rfl
  have b9 := ti_lo (τ ((h + 5) + (Int32.toNatClampNeg x1)) (Int32.toNatClampNeg x2))
  have b10 := ti_hi (τ ((h + 5) + (Int32.toNatClampNeg x1)) (Int32.toNatClampNeg x2))
  refine sf_lt (fun z8 hz8 => ?_)
  have hz8_ : z8.toInt = (τ ((h + 5) + (Int32.toNatClampNeg x1)) (Int32.toNatClampNeg x2)).toInt := (show z8.toInt = (τ ((h + 5) + (Int32.toNatClampNeg x1)) (Int32.toNatClampNeg x2)).toInt from congrArg Int32.toInt hz8)
  have b11 := ti_lo z8
  have b12 := ti_hi z8
  refine sf_bnd (s_X0_isPane hF hh hI) (fun r13 u14 p15 => ?_)
  obtain ⟨e9, p15⟩ := p15
  have e9 := e9.symm
  subst e9
  rcases p15 with ⟨rfl, q16, q17⟩ | p15
  · refine sf_ite (fun c18 => ?_) (fun c18 => ?_)
    · have C18 : (1 : Int) = (0 : Int) := ti_eq c18
      exfalso; omega
    have C18 : ¬ (1 : Int) = (0 : Int) := ti_ne c18
    refine sf_chk (ti_in (by omega) (by omega)) ?_
    have v19 : Int32.toNatClampNeg z8 = z8.toInt.toNat := rfl
    have b20 := ti_lo (τ (h + 1) (Int32.toNatClampNeg z8))
    have b21 := ti_hi (τ (h + 1) (Int32.toNatClampNeg z8))
    exact sf_ret ⟨rfl, ti_lo _, ti_hi _⟩
  obtain rfl := p15
  refine sf_ite (fun c22 => ?_) (fun c22 => ?_)
  · have C22 : (0 : Int) = (0 : Int) := ti_eq c22
    exact sf_ret ⟨rfl, ti_lo _, ti_hi _⟩
  have C22 : ¬ (0 : Int) = (0 : Int) := ti_ne c22
  exfalso; omega
set_option maxHeartbeats 4000000 in
set_option maxRecDepth 100000 in
theorem sl_X0_gain_3 {F : Nat} (hF : 100000 ≤ F) {h : Nat} {x1 : Int32} {x2 : Int32} {x3 : Int32} {τ : Mem} (hh : wt_isH h) (x1_1 : 0 ≤ x1.toInt) (x1_2 : x1.toInt ≤ 4) (x3_1 : 1 ≤ x3.toInt) (x3_2 : x3.toInt ≤ 2147483647) : ∀ (N : Nat) (x4 : Int32) (σ : Mem), wiX σ → (∀ k, 101 ≤ k → σ k = τ k) → σ 83 1 = τ 83 1 → σ 0 7 = τ 0 7 → 8 < x4.toInt + N → 0 ≤ x4.toInt → x4.toInt ≤ 8 → sf (lp_X0_gain_3 F h x1 x2 x3 N x4 σ) (fun _ s => wiX s ∧ (∀ k, 101 ≤ k → s k = τ k) ∧ s 83 1 = τ 83 1 ∧ s 0 7 = τ 0 7 ∧ True) := by
  intro N
  induction N with
  | zero => intro x4 σ hI Fσ O83_σ O0_σ hN x4_1 x4_2; exfalso; omega
  | succ N ih =>
    intro x4 σ hI Fσ O83_σ O0_σ hN x4_1 x4_2
    have hc_h := wt_Hcs hh
    rw [lp_X0_gain_3_s]
    refine sf_ite (fun c1 => ?_) (fun c1 => ?_)
    · have C1 : (8 : Int) ≤ x4.toInt := ti_le c1
      exact sf_ret ⟨hI, Fσ, O83_σ, O0_σ, trivial⟩
    have C1 : x4.toInt < (8 : Int) := ti_nle c1
    have b2 := ti_lo ((x2 >>> (x4 &&& 31)) &&& (1 : Int32))
    have b3 := ti_hi ((x2 >>> (x4 &&& 31)) &&& (1 : Int32))
    refine sf_ite (fun c4 => ?_) (fun c4 => ?_)
    · have C4 : ((x2 >>> (x4 &&& 31)) &&& (1 : Int32)).toInt = (1 : Int) := ti_eq c4
      refine sf_chk (ti_in (by omega) (by omega)) ?_
      have v5 : Int32.toNatClampNeg x1 = x1.toInt.toNat := rfl
      refine sf_chk (ti_in (by omega) (by omega)) ?_
      have v6 : Int32.toNatClampNeg x4 = x4.toInt.toNat := rfl
      refine sf_lt (fun s7 hs7 => ?_)
      have Is7 : wiX s7 := by rw [hs7]; exact wx_oth hI (fun q hq e => by have := wt_Hcs hq; omega) (fun e => by omega) (fun e => by omega) (fun e => by omega)
      have Fs7 : ∀ k, 101 ≤ k → s7 k = τ k := fun k hk => (show s7 k = σ k by rw [hs7, up2_k (by omega)]).trans (Fσ k hk)
      have O83_s7 : s7 83 1 = τ 83 1 := (show s7 83 1 = σ 83 1 by rw [hs7, up2_k (by omega)]).trans O83_σ
      have O0_s7 : s7 0 7 = τ 0 7 := (show s7 0 7 = σ 0 7 by rw [hs7, up2_k (by omega)]).trans O0_σ
      rw [j_X0_gain_33_e]
      have t8 : (x4 + (1 : Int32)).toInt = x4.toInt + (1 : Int) := ti_add (show -2147483648 ≤ x4.toInt + (1 : Int) by omega) (show x4.toInt + (1 : Int) ≤ 2147483647 by omega)
      exact ih _ _ Is7 Fs7 O83_s7 O0_s7 (by omega) (by omega) (by omega)
    have C4 : ¬ ((x2 >>> (x4 &&& 31)) &&& (1 : Int32)).toInt = (1 : Int) := ti_ne c4
    rw [j_X0_gain_33_e]
    have t9 : (x4 + (1 : Int32)).toInt = x4.toInt + (1 : Int) := ti_add (show -2147483648 ≤ x4.toInt + (1 : Int) by omega) (show x4.toInt + (1 : Int) ≤ 2147483647 by omega)
    exact ih _ _ hI Fσ O83_σ O0_σ (by omega) (by omega) (by omega)
set_option maxHeartbeats 4000000 in
set_option maxRecDepth 100000 in
theorem s_X0_gain {F : Nat} (hF : 100000 ≤ F) {h : Nat} {x1 : Int32} {x2 : Int32} {x3 : Int32} {τ : Mem} (hh : wt_isH h) (hI : wiX τ) (x1_1 : 0 ≤ x1.toInt) (x1_2 : x1.toInt ≤ 4) (x3_1 : 1 ≤ x3.toInt) (x3_2 : x3.toInt ≤ 2147483647) : sf (f_X0_gain F h x1 x2 x3 τ) (fun _ s => wiX s ∧ (∀ k, 101 ≤ k → s k = τ k) ∧ s 83 1 = τ 83 1 ∧ s 0 7 = τ 0 7 ∧ True) := by
  have hc_h := wt_Hcs hh
  have Fτ : ∀ k, 101 ≤ k → τ k = τ k := fun _ _ => rfl
  have O83_τ : τ 83 1 = τ 83 1 := rfl
  have O0_τ : τ 0 7 = τ 0 7 := rfl
  rw [f_X0_gain_e]
  have b1 := ti_lo x2
  have b2 := ti_hi x2
  have b3 := ti_lo x3
  have b4 := ti_hi x3
  have l_0 : (0 : Int32).toInt = 0 := rfl
  exact sl_X0_gain_3 hF hh (by omega) (by omega) (by omega) (by omega) _ _ _ hI Fτ O83_τ O0_τ (by omega) (by decide) (by decide)
set_option maxHeartbeats 4000000 in
set_option maxRecDepth 100000 in
theorem sl_X0_reckon_40 {F : Nat} (hF : 100000 ≤ F) {h : Nat} {x1 : Int32} {x2 : Int32} {k7 : Int32 → Mem → Option (Unit × Mem)} {τ : Mem} (hh : wt_isH h) (x2_1 : 0 ≤ x2.toInt) (x2_2 : x2.toInt ≤ 4) {N7 : Nat} (hM7 : 5 < x2.toInt + (N7 + 1)) (hk7 : ∀ (x2 : Int32) (σ : Mem), wiX σ → (∀ k, 101 ≤ k → σ k = τ k) → σ 83 1 = τ 83 1 → σ 0 7 = τ 0 7 → 5 < x2.toInt + N7 → 0 ≤ x2.toInt → x2.toInt ≤ 5 → sf (k7 x2 σ) (fun _ s => wiX s ∧ (∀ k, 101 ≤ k → s k = τ k) ∧ s 83 1 = τ 83 1 ∧ s 0 7 = τ 0 7 ∧ True)) : ∀ (N : Nat) (x3 : Int32) (σ : Mem), wiX σ → (∀ k, 101 ≤ k → σ k = τ k) → σ 83 1 = τ 83 1 → σ 0 7 = τ 0 7 → 24 < x3.toInt + N → 0 ≤ x3.toInt → x3.toInt ≤ 24 → sf (lp_X0_reckon_40 F k7 h x1 x2 N x3 σ) (fun _ s => wiX s ∧ (∀ k, 101 ≤ k → s k = τ k) ∧ s 83 1 = τ 83 1 ∧ s 0 7 = τ 0 7 ∧ True) := by
  intro N
  induction N with
  | zero => intro x3 σ hI Fσ O83_σ O0_σ hN x3_1 x3_2; exfalso; omega
  | succ N ih =>
    intro x3 σ hI Fσ O83_σ O0_σ hN x3_1 x3_2
    have hc_h := wt_Hcs hh
    rw [lp_X0_reckon_40_s]
    refine sf_ite (fun c1 => ?_) (fun c1 => ?_)
    · have C1 : (24 : Int) ≤ x3.toInt := ti_le c1
      have t2 : (x2 + (1 : Int32)).toInt = x2.toInt + (1 : Int) := ti_add (show -2147483648 ≤ x2.toInt + (1 : Int) by omega) (show x2.toInt + (1 : Int) ≤ 2147483647 by omega)
      exact hk7 _ _ hI Fσ O83_σ O0_σ (by omega) (by omega) (by omega)
    have C1 : x3.toInt < (24 : Int) := ti_nle c1
    refine sf_bnd (s_X0_pull hF hh hI (by omega) (by omega) (by omega) (by omega)) (fun r3 u4 p5 => ?_)
    obtain ⟨e9, p5_1, p5_2⟩ := p5
    have e9 := e9.symm
    subst e9
    have b6 := ti_lo r3
    have b7 := ti_hi r3
    refine sf_ite (fun c8 => ?_) (fun c8 => ?_)
    · have C8 : r3.toInt ≤ (0 : Int) := ti_le c8
      rw [j_X0_reckon_73_e]
      have t9 : (x3 + (1 : Int32)).toInt = x3.toInt + (1 : Int) := ti_add (show -2147483648 ≤ x3.toInt + (1 : Int) by omega) (show x3.toInt + (1 : Int) ≤ 2147483647 by omega)
      exact ih _ _ hI Fσ O83_σ O0_σ (by omega) (by omega) (by omega)
    have C8 : (0 : Int) < r3.toInt := ti_nle c8
    have b10 := ti_lo x1
    have b11 := ti_hi x1
    refine sf_bnd (s_X0_sight hF hh hI (by omega) (by omega) (by omega) (by omega)) (fun r12 u13 p14 => ?_)
    obtain ⟨e9, p14_1, p14_2⟩ := p14
    have e9 := e9.symm
    subst e9
    have b15 := ti_lo r12
    have b16 := ti_hi r12
    refine sf_bnd (s_X0_gain hF hh hI (by omega) (by omega) (by omega) (by omega)) (fun r17 u18 p19 => ?_)
    obtain ⟨Iu18, Fu18_, O83_u18_, O0_u18_, -⟩ := p19
    have Fu18 : ∀ k, 101 ≤ k → u18 k = τ k := fun k hk => (Fu18_ k hk).trans (Fσ k hk)
    have O83_u18 : u18 83 1 = τ 83 1 := O83_u18_.trans O83_σ
    have O0_u18 : u18 0 7 = τ 0 7 := O0_u18_.trans O0_σ
    rw [j_X0_reckon_73_e]
    have t20 : (x3 + (1 : Int32)).toInt = x3.toInt + (1 : Int) := ti_add (show -2147483648 ≤ x3.toInt + (1 : Int) by omega) (show x3.toInt + (1 : Int) ≤ 2147483647 by omega)
    exact ih _ _ Iu18 Fu18 O83_u18 O0_u18 (by omega) (by omega) (by omega)
set_option maxHeartbeats 4000000 in
set_option maxRecDepth 100000 in
theorem sl_X0_reckon_17 {F : Nat} (hF : 100000 ≤ F) {h : Nat} {x1 : Int32} {x2 : Int32} {k7 : Int32 → Mem → Option (Unit × Mem)} {τ : Mem} (hh : wt_isH h) (x2_1 : 0 ≤ x2.toInt) (x2_2 : x2.toInt ≤ 4) {N7 : Nat} (hM7 : 5 < x2.toInt + (N7 + 1)) (hk7 : ∀ (x2 : Int32) (σ : Mem), wiX σ → (∀ k, 101 ≤ k → σ k = τ k) → σ 83 1 = τ 83 1 → σ 0 7 = τ 0 7 → 5 < x2.toInt + N7 → 0 ≤ x2.toInt → x2.toInt ≤ 5 → sf (k7 x2 σ) (fun _ s => wiX s ∧ (∀ k, 101 ≤ k → s k = τ k) ∧ s 83 1 = τ 83 1 ∧ s 0 7 = τ 0 7 ∧ True)) : ∀ (N : Nat) (x3 : Int32) (σ : Mem), wiX σ → (∀ k, 101 ≤ k → σ k = τ k) → σ 83 1 = τ 83 1 → σ 0 7 = τ 0 7 → 8 < x3.toInt + N → 0 ≤ x3.toInt → x3.toInt ≤ 8 → sf (lp_X0_reckon_17 F k7 h x1 x2 N x3 σ) (fun _ s => wiX s ∧ (∀ k, 101 ≤ k → s k = τ k) ∧ s 83 1 = τ 83 1 ∧ s 0 7 = τ 0 7 ∧ True) := by
  intro N
  induction N with
  | zero => intro x3 σ hI Fσ O83_σ O0_σ hN x3_1 x3_2; exfalso; omega
  | succ N ih =>
    intro x3 σ hI Fσ O83_σ O0_σ hN x3_1 x3_2
    have hc_h := wt_Hcs hh
    rw [lp_X0_reckon_17_s]
    refine sf_ite (fun c1 => ?_) (fun c1 => ?_)
    · have C1 : (8 : Int) ≤ x3.toInt := ti_le c1
      have b2 := ti_lo x1
      have b3 := ti_hi x1
      have l_0 : (0 : Int32).toInt = 0 := rfl
      exact sl_X0_reckon_40 hF hh (by omega) (by omega) (by omega) hk7 _ _ _ hI Fσ O83_σ O0_σ (by omega) (by decide) (by decide)
    have C1 : x3.toInt < (8 : Int) := ti_nle c1
    refine sf_chk (ti_in (by omega) (by omega)) ?_
    have v4 : Int32.toNatClampNeg x2 = x2.toInt.toNat := rfl
    refine sf_chk (ti_in (by omega) (by omega)) ?_
    have v5 : Int32.toNatClampNeg x3 = x3.toInt.toNat := rfl
    refine sf_lt (fun s6 hs6 => ?_)
    have Is6 : wiX s6 := by rw [hs6]; exact wx_oth hI (fun q hq e => by have := wt_Hcs hq; omega) (fun e => by omega) (fun e => by omega) (fun e => by omega)
    have Fs6 : ∀ k, 101 ≤ k → s6 k = τ k := fun k hk => (show s6 k = σ k by rw [hs6, up2_k (by omega)]).trans (Fσ k hk)
    have O83_s6 : s6 83 1 = τ 83 1 := (show s6 83 1 = σ 83 1 by rw [hs6, up2_k (by omega)]).trans O83_σ
    have O0_s6 : s6 0 7 = τ 0 7 := (show s6 0 7 = σ 0 7 by rw [hs6, up2_k (by omega)]).trans O0_σ
    have t7 : (x3 + (1 : Int32)).toInt = x3.toInt + (1 : Int) := ti_add (show -2147483648 ≤ x3.toInt + (1 : Int) by omega) (show x3.toInt + (1 : Int) ≤ 2147483647 by omega)
    exact ih _ _ Is6 Fs6 O83_s6 O0_s6 (by omega) (by omega) (by omega)
set_option maxHeartbeats 4000000 in
set_option maxRecDepth 100000 in
theorem sl_X0_reckon_7 {F : Nat} (hF : 100000 ≤ F) {h : Nat} {x1 : Int32} {τ : Mem} (hh : wt_isH h) : ∀ (N : Nat) (x2 : Int32) (σ : Mem), wiX σ → (∀ k, 101 ≤ k → σ k = τ k) → σ 83 1 = τ 83 1 → σ 0 7 = τ 0 7 → 5 < x2.toInt + N → 0 ≤ x2.toInt → x2.toInt ≤ 5 → sf (lp_X0_reckon_7 F h x1 N x2 σ) (fun _ s => wiX s ∧ (∀ k, 101 ≤ k → s k = τ k) ∧ s 83 1 = τ 83 1 ∧ s 0 7 = τ 0 7 ∧ True) := by
  intro N
  induction N with
  | zero => intro x2 σ hI Fσ O83_σ O0_σ hN x2_1 x2_2; exfalso; omega
  | succ N ih =>
    intro x2 σ hI Fσ O83_σ O0_σ hN x2_1 x2_2
    have hc_h := wt_Hcs hh
    rw [lp_X0_reckon_7_s]
    have m1 := wx_X0_2 hI hh
    refine sf_ite (fun c2 => ?_) (fun c2 => ?_)
    · have C2 : (σ h 2).toInt ≤ x2.toInt := ti_le c2
      exact sf_ret ⟨hI, Fσ, O83_σ, O0_σ, trivial⟩
    have C2 : x2.toInt < (σ h 2).toInt := ti_nle c2
    have b3 := ti_lo x1
    have b4 := ti_hi x1
    have l_0 : (0 : Int32).toInt = 0 := rfl
    exact sl_X0_reckon_17 hF hh (by omega) (by omega) (by omega) ih _ _ _ hI Fσ O83_σ O0_σ (by omega) (by decide) (by decide)
set_option maxHeartbeats 4000000 in
set_option maxRecDepth 100000 in
theorem s_X0_reckon {F : Nat} (hF : 100000 ≤ F) {h : Nat} {τ : Mem} (hh : wt_isH h) (hI : wiX τ) : sf (f_X0_reckon F h τ) (fun _ s => wiX s ∧ (∀ k, 101 ≤ k → s k = τ k) ∧ s 83 1 = τ 83 1 ∧ s 0 7 = τ 0 7 ∧ True) := by
  have hc_h := wt_Hcs hh
  have Fτ : ∀ k, 101 ≤ k → τ k = τ k := fun _ _ => rfl
  have O83_τ : τ 83 1 = τ 83 1 := rfl
  have O0_τ : τ 0 7 = τ 0 7 := rfl
  rw [f_X0_reckon_e]
  refine sf_bnd (s_X0_allShown hF hh hI) (fun r1 u2 p3 => ?_)
  obtain ⟨e9, p3_1, p3_2⟩ := p3
  have e9 := e9.symm
  subst e9
  have b4 := ti_lo r1
  have b5 := ti_hi r1
  have l_0 : (0 : Int32).toInt = 0 := rfl
  exact sl_X0_reckon_7 hF hh _ _ _ hI Fτ O83_τ O0_τ (by omega) (by decide) (by decide)
set_option maxHeartbeats 4000000 in
set_option maxRecDepth 100000 in
theorem s_X0_behind {F : Nat} (hF : 100000 ≤ F) {h : Nat} {x1 : Int32} {x2 : Int32} {x3 : Int32} {τ : Mem} (hh : wt_isH h) (hI : wiX τ) (x1_1 : 0 ≤ x1.toInt) (x1_2 : x1.toInt ≤ 4) (x2_1 : 0 ≤ x2.toInt) (x2_2 : x2.toInt ≤ 7) (x3_1 : 0 ≤ x3.toInt) (x3_2 : x3.toInt ≤ 999) : sf (f_X0_behind F h x1 x2 x3 τ) (fun r s => s = τ ∧ -2147483648 ≤ r.toInt ∧ r.toInt ≤ 2147483647) := by
  have hc_h := wt_Hcs hh
  rw [f_X0_behind_e]
  refine sf_chk (ti_in (by omega) (by omega)) ?_
  have v1 : Int32.toNatClampNeg x1 = x1.toInt.toNat := rfl
  refine sf_chk (ti_in (by omega) (by omega)) ?_
  have v2 : Int32.toNatClampNeg x2 = x2.toInt.toNat := rfl
  have b3 := ti_lo (wt_min (99999 : Int32) ((τ ((h + 11) + (Int32.toNatClampNeg x1)) (Int32.toNatClampNeg x2)) + (x3 * (τ ((h + 18) + (Int32.toNatClampNeg x1)) (Int32.toNatClampNeg x2)))))
  have b4 := ti_hi (wt_min (99999 : Int32) ((τ ((h + 11) + (Int32.toNatClampNeg x1)) (Int32.toNatClampNeg x2)) + (x3 * (τ ((h + 18) + (Int32.toNatClampNeg x1)) (Int32.toNatClampNeg x2)))))
  exact sf_ret ⟨rfl, ti_lo _, ti_hi _⟩
set_option maxHeartbeats 4000000 in
set_option maxRecDepth 100000 in
theorem sl_X0_pass_41 {F : Nat} (hF : 100000 ≤ F) {h : Nat} {x1 : Int32} {x2 : Int32} {k31 : Int32 → Mem → Option (Int32 × Mem)} {τ : Mem} (hh : wt_isH h) (x1_1 : 1 ≤ x1.toInt) (x1_2 : x1.toInt ≤ 99) (x2_1 : 0 ≤ x2.toInt) (x2_2 : x2.toInt ≤ 4) {N31 : Nat} (hM31 : 5 < x2.toInt + (N31 + 1)) (hk31 : ∀ (x2 : Int32) (σ : Mem), wiX σ → (∀ k, 101 ≤ k → σ k = τ k) → σ 83 1 = τ 83 1 → σ 0 7 = τ 0 7 → 5 < x2.toInt + N31 → 0 ≤ x2.toInt → x2.toInt ≤ 5 → sf (k31 x2 σ) (fun r s => wiX s ∧ (∀ k, 101 ≤ k → s k = τ k) ∧ s 83 1 = τ 83 1 ∧ s 0 7 = τ 0 7 ∧ 0 ≤ r.toInt ∧ r.toInt ≤ 1)) : ∀ (N : Nat) (x3 : Int32) (σ : Mem), wiX σ → (∀ k, 101 ≤ k → σ k = τ k) → σ 83 1 = τ 83 1 → σ 0 7 = τ 0 7 → 8 < x3.toInt + N → 0 ≤ x3.toInt → x3.toInt ≤ 8 → sf (lp_X0_pass_41 F k31 h x1 x2 N x3 σ) (fun r s => wiX s ∧ (∀ k, 101 ≤ k → s k = τ k) ∧ s 83 1 = τ 83 1 ∧ s 0 7 = τ 0 7 ∧ 0 ≤ r.toInt ∧ r.toInt ≤ 1) := by
  intro N
  induction N with
  | zero => intro x3 σ hI Fσ O83_σ O0_σ hN x3_1 x3_2; exfalso; omega
  | succ N ih =>
    intro x3 σ hI Fσ O83_σ O0_σ hN x3_1 x3_2
    have hc_h := wt_Hcs hh
    rw [lp_X0_pass_41_s]
    refine sf_ite (fun c1 => ?_) (fun c1 => ?_)
    · have C1 : (8 : Int) ≤ x3.toInt := ti_le c1
      have t2 : (x2 + (1 : Int32)).toInt = x2.toInt + (1 : Int) := ti_add (show -2147483648 ≤ x2.toInt + (1 : Int) by omega) (show x2.toInt + (1 : Int) ≤ 2147483647 by omega)
      exact hk31 _ _ hI Fσ O83_σ O0_σ (by omega) (by omega) (by omega)
    have C1 : x3.toInt < (8 : Int) := ti_nle c1
    refine sf_chk (ti_in (by omega) (by omega)) ?_
    have v3 : Int32.toNatClampNeg x2 = x2.toInt.toNat := rfl
    refine sf_bnd (s_X0_behind hF hh hI (by omega) (by omega) (by omega) (by omega) (by omega) (by omega)) (fun r4 u5 p6 => ?_)
    obtain ⟨e9, p6_1, p6_2⟩ := p6
    have e9 := e9.symm
    subst e9
    refine sf_chk (ti_in (by omega) (by omega)) ?_
    have v7 : Int32.toNatClampNeg x3 = x3.toInt.toNat := rfl
    refine sf_lt (fun s8 hs8 => ?_)
    have Is8 : wiX s8 := by rw [hs8]; exact wx_oth hI (fun q hq e => by have := wt_Hcs hq; omega) (fun e => by omega) (fun e => by omega) (fun e => by omega)
    have Fs8 : ∀ k, 101 ≤ k → s8 k = τ k := fun k hk => (show s8 k = σ k by rw [hs8, up2_k (by omega)]).trans (Fσ k hk)
    have O83_s8 : s8 83 1 = τ 83 1 := (show s8 83 1 = σ 83 1 by rw [hs8, up2_k (by omega)]).trans O83_σ
    have O0_s8 : s8 0 7 = τ 0 7 := (show s8 0 7 = σ 0 7 by rw [hs8, up2_k (by omega)]).trans O0_σ
    have t9 : (x3 + (1 : Int32)).toInt = x3.toInt + (1 : Int) := ti_add (show -2147483648 ≤ x3.toInt + (1 : Int) by omega) (show x3.toInt + (1 : Int) ≤ 2147483647 by omega)
    exact ih _ _ Is8 Fs8 O83_s8 O0_s8 (by omega) (by omega) (by omega)
set_option maxHeartbeats 4000000 in
set_option maxRecDepth 100000 in
theorem sl_X0_pass_31 {F : Nat} (hF : 100000 ≤ F) {h : Nat} {x1 : Int32} {τ : Mem} (hh : wt_isH h) (x1_1 : 1 ≤ x1.toInt) (x1_2 : x1.toInt ≤ 99) : ∀ (N : Nat) (x2 : Int32) (σ : Mem), wiX σ → (∀ k, 101 ≤ k → σ k = τ k) → σ 83 1 = τ 83 1 → σ 0 7 = τ 0 7 → 5 < x2.toInt + N → 0 ≤ x2.toInt → x2.toInt ≤ 5 → sf (lp_X0_pass_31 F h x1 N x2 σ) (fun r s => wiX s ∧ (∀ k, 101 ≤ k → s k = τ k) ∧ s 83 1 = τ 83 1 ∧ s 0 7 = τ 0 7 ∧ 0 ≤ r.toInt ∧ r.toInt ≤ 1) := by
  intro N
  induction N with
  | zero => intro x2 σ hI Fσ O83_σ O0_σ hN x2_1 x2_2; exfalso; omega
  | succ N ih =>
    intro x2 σ hI Fσ O83_σ O0_σ hN x2_1 x2_2
    have hc_h := wt_Hcs hh
    rw [lp_X0_pass_31_s]
    have m1 := wx_X0_2 hI hh
    refine sf_ite (fun c2 => ?_) (fun c2 => ?_)
    · have C2 : (σ h 2).toInt ≤ x2.toInt := ti_le c2
      refine sf_lt (fun s3 hs3 => ?_)
      have Is3 : wiX s3 := by rw [hs3]; exact wx_oth hI (fun q hq e => by have := wt_Hcs hq; omega) (fun e => by omega) (fun e => by omega) (fun e => by omega)
      have Fs3 : ∀ k, 101 ≤ k → s3 k = τ k := fun k hk => (show s3 k = σ k by rw [hs3, up2_k (by omega)]).trans (Fσ k hk)
      have O83_s3 : s3 83 1 = τ 83 1 := (show s3 83 1 = σ 83 1 by rw [hs3, up2_k (by omega)]).trans O83_σ
      have O0_s3 : s3 0 7 = τ 0 7 := (show s3 0 7 = σ 0 7 by rw [hs3, up2_k (by omega)]).trans O0_σ
      exact sf_ret ⟨Is3, Fs3, O83_s3, O0_s3, by decide, by decide⟩
    have C2 : x2.toInt < (σ h 2).toInt := ti_nle c2
    have l_0 : (0 : Int32).toInt = 0 := rfl
    exact sl_X0_pass_41 hF hh (by omega) (by omega) (by omega) (by omega) (by omega) ih _ _ _ hI Fσ O83_σ O0_σ (by omega) (by decide) (by decide)
set_option maxHeartbeats 4000000 in
set_option maxRecDepth 100000 in
theorem s_X0_pass {F : Nat} (hF : 100000 ≤ F) {h : Nat} {x1 : Int32} {τ : Mem} (hh : wt_isH h) (hI : wiX τ) : sf (f_X0_pass F h x1 τ) (fun r s => wiX s ∧ (∀ k, 101 ≤ k → s k = τ k) ∧ s 83 1 = τ 83 1 ∧ s 0 7 = τ 0 7 ∧ 0 ≤ r.toInt ∧ r.toInt ≤ 1) := by
  have hc_h := wt_Hcs hh
  have Fτ : ∀ k, 101 ≤ k → τ k = τ k := fun _ _ => rfl
  have O83_τ : τ 83 1 = τ 83 1 := rfl
  have O0_τ : τ 0 7 = τ 0 7 := rfl
  rw [f_X0_pass_e]
  have b1 := ti_lo x1
  have b2 := ti_hi x1
  refine sf_ite (fun c3 => ?_) (fun c3 => ?_)
  · have C3 : x1.toInt < (1 : Int) := ti_lt c3
    rw [j_X0_pass_23_e]
    exact sf_ret ⟨hI, Fτ, O83_τ, O0_τ, by decide, by decide⟩
  have C3 : (1 : Int) ≤ x1.toInt := ti_nlt c3
  refine sf_ite (fun c4 => ?_) (fun c4 => ?_)
  · have C4 : (99 : Int) < x1.toInt := ti_lt c4
    rw [j_X0_pass_23_e]
    exact sf_ret ⟨hI, Fτ, O83_τ, O0_τ, by decide, by decide⟩
  have C4 : x1.toInt ≤ (99 : Int) := ti_nlt c4
  have b5 := ti_lo (τ h 9)
  have b6 := ti_hi (τ h 9)
  have b7 := ti_lo ((τ h 9) + x1)
  have b8 := ti_hi ((τ h 9) + x1)
  refine sf_ite (fun c9 => ?_) (fun c9 => ?_)
  · have C9 : ((τ h 9) + x1).toInt ≤ (9999 : Int) := ti_le c9
    refine sf_bnd (s_X0_reckon hF hh hI) (fun r10 u11 p12 => ?_)
    obtain ⟨Iu11, Fu11_, O83_u11_, O0_u11_, -⟩ := p12
    have Fu11 : ∀ k, 101 ≤ k → u11 k = τ k := fun k hk => (Fu11_ k hk).trans (Fτ k hk)
    have O83_u11 : u11 83 1 = τ 83 1 := O83_u11_.trans O83_τ
    have O0_u11 : u11 0 7 = τ 0 7 := O0_u11_.trans O0_τ
    have l_0 : (0 : Int32).toInt = 0 := rfl
    exact sl_X0_pass_31 hF hh (by omega) (by omega) _ _ _ Iu11 Fu11 O83_u11 O0_u11 (by omega) (by decide) (by decide)
  have C9 : (9999 : Int) < ((τ h 9) + x1).toInt := ti_nle c9
  rw [j_X0_pass_23_e]
  exact sf_ret ⟨hI, Fτ, O83_τ, O0_τ, by decide, by decide⟩
set_option maxHeartbeats 4000000 in
set_option maxRecDepth 100000 in
theorem sl_X0_tradeRosters_19 {F : Nat} (hF : 100000 ≤ F) {h : Nat} {x1 : Int32} {x2 : Int32} {τ : Mem} (hh : wt_isH h) (x1_1 : 0 ≤ x1.toInt) (x1_2 : x1.toInt ≤ 4) (x2_1 : 1 ≤ x2.toInt) (x2_2 : x2.toInt ≤ 4) : ∀ (N : Nat) (x3 : Int32) (σ : Mem), wiX σ → (∀ k, 101 ≤ k → σ k = τ k) → σ 83 1 = τ 83 1 → σ 0 7 = τ 0 7 → 24 < x3.toInt + N → 0 ≤ x3.toInt → x3.toInt ≤ 24 → sf (lp_X0_tradeRosters_19 F h x1 x2 N x3 σ) (fun _ s => wiX s ∧ (∀ k, 101 ≤ k → s k = τ k) ∧ s 83 1 = τ 83 1 ∧ s 0 7 = τ 0 7 ∧ True) := by
  intro N
  induction N with
  | zero => intro x3 σ hI Fσ O83_σ O0_σ hN x3_1 x3_2; exfalso; omega
  | succ N ih =>
    intro x3 σ hI Fσ O83_σ O0_σ hN x3_1 x3_2
    have hc_h := wt_Hcs hh
    rw [lp_X0_tradeRosters_19_s]
    refine sf_ite (fun c1 => ?_) (fun c1 => ?_)
    · have C1 : (24 : Int) ≤ x3.toInt := ti_le c1
      exact sf_ret ⟨hI, Fσ, O83_σ, O0_σ, trivial⟩
    have C1 : x3.toInt < (24 : Int) := ti_nle c1
    refine sf_chk (ti_in (by omega) (by omega)) ?_
    have v2 : Int32.toNatClampNeg x1 = x1.toInt.toNat := rfl
    refine sf_chk (ti_in (by omega) (by omega)) ?_
    have v3 : Int32.toNatClampNeg x3 = x3.toInt.toNat := rfl
    have b5 := ti_lo (σ ((h + 5) + (Int32.toNatClampNeg x1)) (Int32.toNatClampNeg x3))
    have b6 := ti_hi (σ ((h + 5) + (Int32.toNatClampNeg x1)) (Int32.toNatClampNeg x3))
    refine sf_lt (fun z4 hz4 => ?_)
    have hz4_ : z4.toInt = (σ ((h + 5) + (Int32.toNatClampNeg x1)) (Int32.toNatClampNeg x3)).toInt := (show z4.toInt = (σ ((h + 5) + (Int32.toNatClampNeg x1)) (Int32.toNatClampNeg x3)).toInt from congrArg Int32.toInt hz4)
    refine sf_chk (ti_in (by omega) (by omega)) ?_
    have v7 : Int32.toNatClampNeg x2 = x2.toInt.toNat := rfl
    refine sf_lt (fun s8 hs8 => ?_)
    have Is8 : wiX s8 := by rw [hs8]; exact wx_oth hI (fun q hq e => by have := wt_Hcs hq; omega) (fun e => by omega) (fun e => by omega) (fun e => by omega)
    have Fs8 : ∀ k, 101 ≤ k → s8 k = τ k := fun k hk => (show s8 k = σ k by rw [hs8, up2_k (by omega)]).trans (Fσ k hk)
    have O83_s8 : s8 83 1 = τ 83 1 := (show s8 83 1 = σ 83 1 by rw [hs8, up2_k (by omega)]).trans O83_σ
    have O0_s8 : s8 0 7 = τ 0 7 := (show s8 0 7 = σ 0 7 by rw [hs8, up2_k (by omega)]).trans O0_σ
    refine sf_lt (fun s9 hs9 => ?_)
    have Is9 : wiX s9 := by rw [hs9]; exact wx_oth Is8 (fun q hq e => by have := wt_Hcs hq; omega) (fun e => by omega) (fun e => by omega) (fun e => by omega)
    have Fs9 : ∀ k, 101 ≤ k → s9 k = τ k := fun k hk => (show s9 k = s8 k by rw [hs9, up2_k (by omega)]).trans (Fs8 k hk)
    have O83_s9 : s9 83 1 = τ 83 1 := (show s9 83 1 = s8 83 1 by rw [hs9, up2_k (by omega)]).trans O83_s8
    have O0_s9 : s9 0 7 = τ 0 7 := (show s9 0 7 = s8 0 7 by rw [hs9, up2_k (by omega)]).trans O0_s8
    have t10 : (x3 + (1 : Int32)).toInt = x3.toInt + (1 : Int) := ti_add (show -2147483648 ≤ x3.toInt + (1 : Int) by omega) (show x3.toInt + (1 : Int) ≤ 2147483647 by omega)
    exact ih _ _ Is9 Fs9 O83_s9 O0_s9 (by omega) (by omega) (by omega)
set_option maxHeartbeats 4000000 in
set_option maxRecDepth 100000 in
theorem s_X0_tradeRosters {F : Nat} (hF : 100000 ≤ F) {h : Nat} {x1 : Int32} {x2 : Int32} {τ : Mem} (hh : wt_isH h) (hI : wiX τ) (x1_1 : 0 ≤ x1.toInt) (x1_2 : x1.toInt ≤ 4) (x2_1 : 1 ≤ x2.toInt) (x2_2 : x2.toInt ≤ 4) : sf (f_X0_tradeRosters F h x1 x2 τ) (fun _ s => wiX s ∧ (∀ k, 101 ≤ k → s k = τ k) ∧ s 83 1 = τ 83 1 ∧ s 0 7 = τ 0 7 ∧ True) := by
  have hc_h := wt_Hcs hh
  have Fτ : ∀ k, 101 ≤ k → τ k = τ k := fun _ _ => rfl
  have O83_τ : τ 83 1 = τ 83 1 := rfl
  have O0_τ : τ 0 7 = τ 0 7 := rfl
  rw [f_X0_tradeRosters_e]
  refine sf_bnd (s_X0_isLooker hF hh hI) (fun r1 u2 p3 => ?_)
  obtain ⟨e9, p3⟩ := p3
  have e9 := e9.symm
  subst e9
  rcases p3 with ⟨rfl, q4, q5⟩ | p3
  · refine sf_ite (fun c6 => ?_) (fun c6 => ?_)
    · have C6 : (1 : Int) = (0 : Int) := ti_eq c6
      exfalso; omega
    have C6 : ¬ (1 : Int) = (0 : Int) := ti_ne c6
    refine sf_bnd (s_X0_isLooker hF hh hI) (fun r7 u8 p9 => ?_)
    obtain ⟨e9, p9⟩ := p9
    have e9 := e9.symm
    subst e9
    rcases p9 with ⟨rfl, q10, q11⟩ | p9
    · refine sf_ite (fun c12 => ?_) (fun c12 => ?_)
      · have C12 : (1 : Int) = (0 : Int) := ti_eq c12
        exfalso; omega
      have C12 : ¬ (1 : Int) = (0 : Int) := ti_ne c12
      have l_0 : (0 : Int32).toInt = 0 := rfl
      exact sl_X0_tradeRosters_19 hF hh (by omega) (by omega) (by omega) (by omega) _ _ _ hI Fτ O83_τ O0_τ (by omega) (by decide) (by decide)
    obtain rfl := p9
    refine sf_ite (fun c13 => ?_) (fun c13 => ?_)
    · have C13 : (0 : Int) = (0 : Int) := ti_eq c13
      exact sf_ret ⟨hI, Fτ, O83_τ, O0_τ, trivial⟩
    have C13 : ¬ (0 : Int) = (0 : Int) := ti_ne c13
    exfalso; omega
  obtain rfl := p3
  refine sf_ite (fun c14 => ?_) (fun c14 => ?_)
  · have C14 : (0 : Int) = (0 : Int) := ti_eq c14
    exact sf_ret ⟨hI, Fτ, O83_τ, O0_τ, trivial⟩
  have C14 : ¬ (0 : Int) = (0 : Int) := ti_ne c14
  exfalso; omega
set_option maxHeartbeats 4000000 in
set_option maxRecDepth 100000 in
theorem s_X0_shows {F : Nat} (hF : 100000 ≤ F) {h : Nat} {x1 : Int32} {x2 : Int32} {τ : Mem} (hh : wt_isH h) (hI : wiX τ) (x1_1 : 0 ≤ x1.toInt) (x1_2 : x1.toInt ≤ 5) (x2_1 : 0 ≤ x2.toInt) (x2_2 : x2.toInt ≤ 7) : sf (f_X0_shows F h x1 x2 τ) (fun r s => s = τ ∧ 0 ≤ r.toInt ∧ r.toInt ≤ 1) := by
  have hc_h := wt_Hcs hh
  rw [f_X0_shows_e]
  refine sf_bnd (s_X0_isPane hF hh hI) (fun r1 u2 p3 => ?_)
  obtain ⟨e9, p3⟩ := p3
  have e9 := e9.symm
  subst e9
  rcases p3 with ⟨rfl, q4, q5⟩ | p3
  · refine sf_ite (fun c6 => ?_) (fun c6 => ?_)
    · have C6 : (1 : Int) = (0 : Int) := ti_eq c6
      exfalso; omega
    have C6 : ¬ (1 : Int) = (0 : Int) := ti_ne c6
    refine sf_bnd (s_X0_isView hF hI) (fun r7 u8 p9 => ?_)
    obtain ⟨e9, p9⟩ := p9
    have e9 := e9.symm
    subst e9
    rcases p9 with ⟨rfl, q10, q11⟩ | p9
    · refine sf_ite (fun c12 => ?_) (fun c12 => ?_)
      · have C12 : (1 : Int) = (0 : Int) := ti_eq c12
        exfalso; omega
      have C12 : ¬ (1 : Int) = (0 : Int) := ti_ne c12
      refine sf_chk (ti_in (by omega) (by omega)) ?_
      have v13 : Int32.toNatClampNeg x1 = x1.toInt.toNat := rfl
      have b14 := ti_lo (((τ (h + 1) (Int32.toNatClampNeg x1)) >>> (x2 &&& 31)) &&& (1 : Int32))
      have b15 := ti_hi (((τ (h + 1) (Int32.toNatClampNeg x1)) >>> (x2 &&& 31)) &&& (1 : Int32))
      refine sf_ite (fun c16 => ?_) (fun c16 => ?_)
      · have C16 : (((τ (h + 1) (Int32.toNatClampNeg x1)) >>> (x2 &&& 31)) &&& (1 : Int32)).toInt = (1 : Int) := ti_eq c16
        exact sf_ret ⟨rfl, by decide, by decide⟩
      have C16 : ¬ (((τ (h + 1) (Int32.toNatClampNeg x1)) >>> (x2 &&& 31)) &&& (1 : Int32)).toInt = (1 : Int) := ti_ne c16
      rw [j_X0_shows_33_e]
      exact sf_ret ⟨rfl, by decide, by decide⟩
    obtain ⟨rfl, q17⟩ := p9
    refine sf_ite (fun c18 => ?_) (fun c18 => ?_)
    · have C18 : (0 : Int) = (0 : Int) := ti_eq c18
      rw [j_X0_shows_33_e]
      exact sf_ret ⟨rfl, by decide, by decide⟩
    have C18 : ¬ (0 : Int) = (0 : Int) := ti_ne c18
    exfalso; omega
  obtain rfl := p3
  refine sf_ite (fun c19 => ?_) (fun c19 => ?_)
  · have C19 : (0 : Int) = (0 : Int) := ti_eq c19
    rw [j_X0_shows_33_e]
    exact sf_ret ⟨rfl, by decide, by decide⟩
  have C19 : ¬ (0 : Int) = (0 : Int) := ti_ne c19
  exfalso; omega
set_option maxHeartbeats 4000000 in
set_option maxRecDepth 100000 in
theorem sl_X0_timesShown_4 {F : Nat} (hF : 100000 ≤ F) {h : Nat} {x1 : Int32} {τ : Mem} (hh : wt_isH h) (hI : wiX τ) (x1_1 : 0 ≤ x1.toInt) (x1_2 : x1.toInt ≤ 7) : ∀ (N : Nat) (x2 : Int32) (x3 : Int32) , 6 < x3.toInt + N → 0 ≤ x3.toInt → x3.toInt ≤ 6 → sf (lp_X0_timesShown_4 F h x1 N x2 x3 τ) (fun r s => s = τ ∧ -2147483648 ≤ r.toInt ∧ r.toInt ≤ 2147483647) := by
  intro N
  induction N with
  | zero => intro x2 x3 hN x3_1 x3_2; exfalso; omega
  | succ N ih =>
    intro x2 x3 hN x3_1 x3_2
    have hc_h := wt_Hcs hh
    rw [lp_X0_timesShown_4_s]
    have m1 := wx_X0_0 hI hh
    refine sf_ite (fun c2 => ?_) (fun c2 => ?_)
    · have C2 : (τ h 0).toInt ≤ x3.toInt := ti_le c2
      have b3 := ti_lo x2
      have b4 := ti_hi x2
      exact sf_ret ⟨rfl, ti_lo _, ti_hi _⟩
    have C2 : x3.toInt < (τ h 0).toInt := ti_nle c2
    refine sf_bnd (s_X0_shows hF hh hI (by omega) (by omega) (by omega) (by omega)) (fun r5 u6 p7 => ?_)
    obtain ⟨e9, p7_1, p7_2⟩ := p7
    have e9 := e9.symm
    subst e9
    have hb_r5 : r5 = 0 ∨ r5 = 1 := wi_bool p7_1 p7_2
    refine sf_ite (fun c8 => ?_) (fun c8 => ?_)
    · have C8 : r5.toInt = (0 : Int) := ti_eq c8
      rw [j_X0_timesShown_24_e]
      have b9 := ti_lo x2
      have b10 := ti_hi x2
      have t11 : (x3 + (1 : Int32)).toInt = x3.toInt + (1 : Int) := ti_add (show -2147483648 ≤ x3.toInt + (1 : Int) by omega) (show x3.toInt + (1 : Int) ≤ 2147483647 by omega)
      exact ih _ _ (by omega) (by omega) (by omega)
    have C8 : ¬ r5.toInt = (0 : Int) := ti_ne c8
    rw [j_X0_timesShown_24_e]
    have b12 := ti_lo x2
    have b13 := ti_hi x2
    have b14 := ti_lo (x2 + (1 : Int32))
    have b15 := ti_hi (x2 + (1 : Int32))
    have t16 : (x3 + (1 : Int32)).toInt = x3.toInt + (1 : Int) := ti_add (show -2147483648 ≤ x3.toInt + (1 : Int) by omega) (show x3.toInt + (1 : Int) ≤ 2147483647 by omega)
    exact ih _ _ (by omega) (by omega) (by omega)
set_option maxHeartbeats 4000000 in
set_option maxRecDepth 100000 in
theorem s_X0_timesShown {F : Nat} (hF : 100000 ≤ F) {h : Nat} {x1 : Int32} {τ : Mem} (hh : wt_isH h) (hI : wiX τ) (x1_1 : 0 ≤ x1.toInt) (x1_2 : x1.toInt ≤ 7) : sf (f_X0_timesShown F h x1 τ) (fun r s => s = τ ∧ -2147483648 ≤ r.toInt ∧ r.toInt ≤ 2147483647) := by
  have hc_h := wt_Hcs hh
  rw [f_X0_timesShown_e]
  have l_0 : (0 : Int32).toInt = 0 := rfl
  exact sl_X0_timesShown_4 hF hh hI (by omega) (by omega) _ _ _  (by omega) (by decide) (by decide)
set_option maxHeartbeats 4000000 in
set_option maxRecDepth 100000 in
theorem sl_X0_hoursAt_15 {F : Nat} (hF : 100000 ≤ F) {h : Nat} {x1 : Int32} {x3 : Int32} {k4 : Int32 → Int32 → Mem → Option (Int32 × Mem)} {τ : Mem} (hh : wt_isH h) (hI : wiX τ) (x1_1 : 0 ≤ x1.toInt) (x1_2 : x1.toInt ≤ 5) (x3_1 : 0 ≤ x3.toInt) (x3_2 : x3.toInt ≤ 4) {N4 : Nat} (hM4 : 5 < x3.toInt + (N4 + 1)) (hk4 : ∀ (x2 : Int32) (x3 : Int32) , 5 < x3.toInt + N4 → 0 ≤ x3.toInt → x3.toInt ≤ 5 → sf (k4 x2 x3 τ) (fun r s => s = τ ∧ -2147483648 ≤ r.toInt ∧ r.toInt ≤ 2147483647)) : ∀ (N : Nat) (x2 : Int32) (x4 : Int32) , 24 < x4.toInt + N → 0 ≤ x4.toInt → x4.toInt ≤ 24 → sf (lp_X0_hoursAt_15 F k4 h x1 x3 N x2 x4 τ) (fun r s => s = τ ∧ -2147483648 ≤ r.toInt ∧ r.toInt ≤ 2147483647) := by
  intro N
  induction N with
  | zero => intro x2 x4 hN x4_1 x4_2; exfalso; omega
  | succ N ih =>
    intro x2 x4 hN x4_1 x4_2
    have hc_h := wt_Hcs hh
    rw [lp_X0_hoursAt_15_s]
    refine sf_ite (fun c1 => ?_) (fun c1 => ?_)
    · have C1 : (24 : Int) ≤ x4.toInt := ti_le c1
      have b2 := ti_lo x2
      have b3 := ti_hi x2
      have t4 : (x3 + (1 : Int32)).toInt = x3.toInt + (1 : Int) := ti_add (show -2147483648 ≤ x3.toInt + (1 : Int) by omega) (show x3.toInt + (1 : Int) ≤ 2147483647 by omega)
      exact hk4 _ _ (by omega) (by omega) (by omega)
    have C1 : x4.toInt < (24 : Int) := ti_nle c1
    refine sf_chk (ti_in (by omega) (by omega)) ?_
    have v5 : Int32.toNatClampNeg x3 = x3.toInt.toNat := rfl
    refine sf_chk (ti_in (by omega) (by omega)) ?_
    have v6 : Int32.toNatClampNeg x4 = x4.toInt.toNat := rfl
    have b7 := ti_lo (τ ((h + 5) + (Int32.toNatClampNeg x3)) (Int32.toNatClampNeg x4))
    have b8 := ti_hi (τ ((h + 5) + (Int32.toNatClampNeg x3)) (Int32.toNatClampNeg x4))
    refine sf_ite (fun c9 => ?_) (fun c9 => ?_)
    · have C9 : (τ ((h + 5) + (Int32.toNatClampNeg x3)) (Int32.toNatClampNeg x4)).toInt = x1.toInt := ti_eq c9
      rw [j_X0_hoursAt_38_e]
      have b10 := ti_lo x2
      have b11 := ti_hi x2
      have b12 := ti_lo (x2 + (1 : Int32))
      have b13 := ti_hi (x2 + (1 : Int32))
      have t14 : (x4 + (1 : Int32)).toInt = x4.toInt + (1 : Int) := ti_add (show -2147483648 ≤ x4.toInt + (1 : Int) by omega) (show x4.toInt + (1 : Int) ≤ 2147483647 by omega)
      exact ih _ _ (by omega) (by omega) (by omega)
    have C9 : ¬ (τ ((h + 5) + (Int32.toNatClampNeg x3)) (Int32.toNatClampNeg x4)).toInt = x1.toInt := ti_ne c9
    rw [j_X0_hoursAt_38_e]
    have b15 := ti_lo x2
    have b16 := ti_hi x2
    have t17 : (x4 + (1 : Int32)).toInt = x4.toInt + (1 : Int) := ti_add (show -2147483648 ≤ x4.toInt + (1 : Int) by omega) (show x4.toInt + (1 : Int) ≤ 2147483647 by omega)
    exact ih _ _ (by omega) (by omega) (by omega)
set_option maxHeartbeats 4000000 in
set_option maxRecDepth 100000 in
theorem sl_X0_hoursAt_4 {F : Nat} (hF : 100000 ≤ F) {h : Nat} {x1 : Int32} {τ : Mem} (hh : wt_isH h) (hI : wiX τ) (x1_1 : 0 ≤ x1.toInt) (x1_2 : x1.toInt ≤ 5) : ∀ (N : Nat) (x2 : Int32) (x3 : Int32) , 5 < x3.toInt + N → 0 ≤ x3.toInt → x3.toInt ≤ 5 → sf (lp_X0_hoursAt_4 F h x1 N x2 x3 τ) (fun r s => s = τ ∧ -2147483648 ≤ r.toInt ∧ r.toInt ≤ 2147483647) := by
  intro N
  induction N with
  | zero => intro x2 x3 hN x3_1 x3_2; exfalso; omega
  | succ N ih =>
    intro x2 x3 hN x3_1 x3_2
    have hc_h := wt_Hcs hh
    rw [lp_X0_hoursAt_4_s]
    have m1 := wx_X0_2 hI hh
    refine sf_ite (fun c2 => ?_) (fun c2 => ?_)
    · have C2 : (τ h 2).toInt ≤ x3.toInt := ti_le c2
      have b3 := ti_lo x2
      have b4 := ti_hi x2
      exact sf_ret ⟨rfl, ti_lo _, ti_hi _⟩
    have C2 : x3.toInt < (τ h 2).toInt := ti_nle c2
    have b5 := ti_lo x2
    have b6 := ti_hi x2
    have l_0 : (0 : Int32).toInt = 0 := rfl
    exact sl_X0_hoursAt_15 hF hh hI (by omega) (by omega) (by omega) (by omega) (by omega) ih _ _ _  (by omega) (by decide) (by decide)
set_option maxHeartbeats 4000000 in
set_option maxRecDepth 100000 in
theorem s_X0_hoursAt {F : Nat} (hF : 100000 ≤ F) {h : Nat} {x1 : Int32} {τ : Mem} (hh : wt_isH h) (hI : wiX τ) (x1_1 : 0 ≤ x1.toInt) (x1_2 : x1.toInt ≤ 5) : sf (f_X0_hoursAt F h x1 τ) (fun r s => s = τ ∧ -2147483648 ≤ r.toInt ∧ r.toInt ≤ 2147483647) := by
  have hc_h := wt_Hcs hh
  rw [f_X0_hoursAt_e]
  have l_0 : (0 : Int32).toInt = 0 := rfl
  exact sl_X0_hoursAt_4 hF hh hI (by omega) (by omega) _ _ _  (by omega) (by decide) (by decide)
set_option maxHeartbeats 4000000 in
set_option maxRecDepth 100000 in
theorem sl_X0_hoursOf_4 {F : Nat} (hF : 100000 ≤ F) {h : Nat} {x1 : Int32} {τ : Mem} (hh : wt_isH h) (hI : wiX τ) (x1_1 : 0 ≤ x1.toInt) (x1_2 : x1.toInt ≤ 4) : ∀ (N : Nat) (x2 : Int32) (x3 : Int32) , 24 < x3.toInt + N → 0 ≤ x3.toInt → x3.toInt ≤ 24 → sf (lp_X0_hoursOf_4 F h x1 N x2 x3 τ) (fun r s => s = τ ∧ -2147483648 ≤ r.toInt ∧ r.toInt ≤ 2147483647) := by
  intro N
  induction N with
  | zero => intro x2 x3 hN x3_1 x3_2; exfalso; omega
  | succ N ih =>
    intro x2 x3 hN x3_1 x3_2
    have hc_h := wt_Hcs hh
    rw [lp_X0_hoursOf_4_s]
    refine sf_ite (fun c1 => ?_) (fun c1 => ?_)
    · have C1 : (24 : Int) ≤ x3.toInt := ti_le c1
      have b2 := ti_lo x2
      have b3 := ti_hi x2
      exact sf_ret ⟨rfl, ti_lo _, ti_hi _⟩
    have C1 : x3.toInt < (24 : Int) := ti_nle c1
    refine sf_chk (ti_in (by omega) (by omega)) ?_
    have v4 : Int32.toNatClampNeg x1 = x1.toInt.toNat := rfl
    refine sf_chk (ti_in (by omega) (by omega)) ?_
    have v5 : Int32.toNatClampNeg x3 = x3.toInt.toNat := rfl
    have b6 := ti_lo (τ ((h + 5) + (Int32.toNatClampNeg x1)) (Int32.toNatClampNeg x3))
    have b7 := ti_hi (τ ((h + 5) + (Int32.toNatClampNeg x1)) (Int32.toNatClampNeg x3))
    refine sf_ite (fun c8 => ?_) (fun c8 => ?_)
    · have C8 : (τ ((h + 5) + (Int32.toNatClampNeg x1)) (Int32.toNatClampNeg x3)).toInt = (9 : Int) := ti_eq c8
      rw [j_X0_hoursOf_26_e]
      have b9 := ti_lo x2
      have b10 := ti_hi x2
      have t11 : (x3 + (1 : Int32)).toInt = x3.toInt + (1 : Int) := ti_add (show -2147483648 ≤ x3.toInt + (1 : Int) by omega) (show x3.toInt + (1 : Int) ≤ 2147483647 by omega)
      exact ih _ _ (by omega) (by omega) (by omega)
    have C8 : ¬ (τ ((h + 5) + (Int32.toNatClampNeg x1)) (Int32.toNatClampNeg x3)).toInt = (9 : Int) := ti_ne c8
    rw [j_X0_hoursOf_26_e]
    have b12 := ti_lo x2
    have b13 := ti_hi x2
    have b14 := ti_lo (x2 + (1 : Int32))
    have b15 := ti_hi (x2 + (1 : Int32))
    have t16 : (x3 + (1 : Int32)).toInt = x3.toInt + (1 : Int) := ti_add (show -2147483648 ≤ x3.toInt + (1 : Int) by omega) (show x3.toInt + (1 : Int) ≤ 2147483647 by omega)
    exact ih _ _ (by omega) (by omega) (by omega)
set_option maxHeartbeats 4000000 in
set_option maxRecDepth 100000 in
theorem s_X0_hoursOf {F : Nat} (hF : 100000 ≤ F) {h : Nat} {x1 : Int32} {τ : Mem} (hh : wt_isH h) (hI : wiX τ) (x1_1 : 0 ≤ x1.toInt) (x1_2 : x1.toInt ≤ 4) : sf (f_X0_hoursOf F h x1 τ) (fun r s => s = τ ∧ -2147483648 ≤ r.toInt ∧ r.toInt ≤ 2147483647) := by
  have hc_h := wt_Hcs hh
  rw [f_X0_hoursOf_e]
  have l_0 : (0 : Int32).toInt = 0 := rfl
  exact sl_X0_hoursOf_4 hF hh hI (by omega) (by omega) _ _ _  (by omega) (by decide) (by decide)
set_option maxHeartbeats 4000000 in
set_option maxRecDepth 100000 in
theorem sl_X0_hoursOfAll_4 {F : Nat} (hF : 100000 ≤ F) {h : Nat} {τ : Mem} (hh : wt_isH h) (hI : wiX τ) : ∀ (N : Nat) (x1 : Int32) (x2 : Int32) , 5 < x2.toInt + N → 0 ≤ x2.toInt → x2.toInt ≤ 5 → sf (lp_X0_hoursOfAll_4 F h N x1 x2 τ) (fun r s => s = τ ∧ -2147483648 ≤ r.toInt ∧ r.toInt ≤ 2147483647) := by
  intro N
  induction N with
  | zero => intro x1 x2 hN x2_1 x2_2; exfalso; omega
  | succ N ih =>
    intro x1 x2 hN x2_1 x2_2
    have hc_h := wt_Hcs hh
    rw [lp_X0_hoursOfAll_4_s]
    have m1 := wx_X0_2 hI hh
    refine sf_ite (fun c2 => ?_) (fun c2 => ?_)
    · have C2 : (τ h 2).toInt ≤ x2.toInt := ti_le c2
      have b3 := ti_lo x1
      have b4 := ti_hi x1
      exact sf_ret ⟨rfl, ti_lo _, ti_hi _⟩
    have C2 : x2.toInt < (τ h 2).toInt := ti_nle c2
    refine sf_bnd (s_X0_hoursOf hF hh hI (by omega) (by omega)) (fun r5 u6 p7 => ?_)
    obtain ⟨e9, p7_1, p7_2⟩ := p7
    have e9 := e9.symm
    subst e9
    have b8 := ti_lo x1
    have b9 := ti_hi x1
    have b10 := ti_lo r5
    have b11 := ti_hi r5
    have b12 := ti_lo (x1 + r5)
    have b13 := ti_hi (x1 + r5)
    have t14 : (x2 + (1 : Int32)).toInt = x2.toInt + (1 : Int) := ti_add (show -2147483648 ≤ x2.toInt + (1 : Int) by omega) (show x2.toInt + (1 : Int) ≤ 2147483647 by omega)
    exact ih _ _ (by omega) (by omega) (by omega)
set_option maxHeartbeats 4000000 in
set_option maxRecDepth 100000 in
theorem s_X0_hoursOfAll {F : Nat} (hF : 100000 ≤ F) {h : Nat} {τ : Mem} (hh : wt_isH h) (hI : wiX τ) : sf (f_X0_hoursOfAll F h τ) (fun r s => s = τ ∧ -2147483648 ≤ r.toInt ∧ r.toInt ≤ 2147483647) := by
  have hc_h := wt_Hcs hh
  rw [f_X0_hoursOfAll_e]
  have l_0 : (0 : Int32).toInt = 0 := rfl
  exact sl_X0_hoursOfAll_4 hF hh hI _ _ _  (by omega) (by decide) (by decide)
set_option maxHeartbeats 4000000 in
set_option maxRecDepth 100000 in
theorem sl_X0_standingIn_4 {F : Nat} (hF : 100000 ≤ F) {h : Nat} {x1 : Int32} {τ : Mem} (hh : wt_isH h) (hI : wiX τ) (x1_1 : 0 ≤ x1.toInt) (x1_2 : x1.toInt ≤ 23) : ∀ (N : Nat) (x2 : Int32) (x3 : Int32) , 5 < x3.toInt + N → 0 ≤ x3.toInt → x3.toInt ≤ 5 → sf (lp_X0_standingIn_4 F h x1 N x2 x3 τ) (fun r s => s = τ ∧ -2147483648 ≤ r.toInt ∧ r.toInt ≤ 2147483647) := by
  intro N
  induction N with
  | zero => intro x2 x3 hN x3_1 x3_2; exfalso; omega
  | succ N ih =>
    intro x2 x3 hN x3_1 x3_2
    have hc_h := wt_Hcs hh
    rw [lp_X0_standingIn_4_s]
    have m1 := wx_X0_2 hI hh
    refine sf_ite (fun c2 => ?_) (fun c2 => ?_)
    · have C2 : (τ h 2).toInt ≤ x3.toInt := ti_le c2
      have b3 := ti_lo x2
      have b4 := ti_hi x2
      exact sf_ret ⟨rfl, ti_lo _, ti_hi _⟩
    have C2 : x3.toInt < (τ h 2).toInt := ti_nle c2
    refine sf_chk (ti_in (by omega) (by omega)) ?_
    have v5 : Int32.toNatClampNeg x3 = x3.toInt.toNat := rfl
    refine sf_chk (ti_in (by omega) (by omega)) ?_
    have v6 : Int32.toNatClampNeg x1 = x1.toInt.toNat := rfl
    have b7 := ti_lo (τ ((h + 5) + (Int32.toNatClampNeg x3)) (Int32.toNatClampNeg x1))
    have b8 := ti_hi (τ ((h + 5) + (Int32.toNatClampNeg x3)) (Int32.toNatClampNeg x1))
    refine sf_ite (fun c9 => ?_) (fun c9 => ?_)
    · have C9 : (τ ((h + 5) + (Int32.toNatClampNeg x3)) (Int32.toNatClampNeg x1)).toInt = (9 : Int) := ti_eq c9
      rw [j_X0_standingIn_28_e]
      have b10 := ti_lo x2
      have b11 := ti_hi x2
      have t12 : (x3 + (1 : Int32)).toInt = x3.toInt + (1 : Int) := ti_add (show -2147483648 ≤ x3.toInt + (1 : Int) by omega) (show x3.toInt + (1 : Int) ≤ 2147483647 by omega)
      exact ih _ _ (by omega) (by omega) (by omega)
    have C9 : ¬ (τ ((h + 5) + (Int32.toNatClampNeg x3)) (Int32.toNatClampNeg x1)).toInt = (9 : Int) := ti_ne c9
    rw [j_X0_standingIn_28_e]
    have b13 := ti_lo x2
    have b14 := ti_hi x2
    have b15 := ti_lo (x2 + (1 : Int32))
    have b16 := ti_hi (x2 + (1 : Int32))
    have t17 : (x3 + (1 : Int32)).toInt = x3.toInt + (1 : Int) := ti_add (show -2147483648 ≤ x3.toInt + (1 : Int) by omega) (show x3.toInt + (1 : Int) ≤ 2147483647 by omega)
    exact ih _ _ (by omega) (by omega) (by omega)
set_option maxHeartbeats 4000000 in
set_option maxRecDepth 100000 in
theorem s_X0_standingIn {F : Nat} (hF : 100000 ≤ F) {h : Nat} {x1 : Int32} {τ : Mem} (hh : wt_isH h) (hI : wiX τ) (x1_1 : 0 ≤ x1.toInt) (x1_2 : x1.toInt ≤ 23) : sf (f_X0_standingIn F h x1 τ) (fun r s => s = τ ∧ -2147483648 ≤ r.toInt ∧ r.toInt ≤ 2147483647) := by
  have hc_h := wt_Hcs hh
  rw [f_X0_standingIn_e]
  have l_0 : (0 : Int32).toInt = 0 := rfl
  exact sl_X0_standingIn_4 hF hh hI (by omega) (by omega) _ _ _  (by omega) (by decide) (by decide)
set_option maxHeartbeats 4000000 in
set_option maxRecDepth 100000 in
theorem sl_X0_gainOfAll_4 {F : Nat} (hF : 100000 ≤ F) {h : Nat} {x1 : Int32} {τ : Mem} (hh : wt_isH h) (hI : wiX τ) (x1_1 : 0 ≤ x1.toInt) (x1_2 : x1.toInt ≤ 7) : ∀ (N : Nat) (x2 : Int32) (x3 : Int32) , 5 < x3.toInt + N → 0 ≤ x3.toInt → x3.toInt ≤ 5 → sf (lp_X0_gainOfAll_4 F h x1 N x2 x3 τ) (fun r s => s = τ ∧ -2147483648 ≤ r.toInt ∧ r.toInt ≤ 2147483647) := by
  intro N
  induction N with
  | zero => intro x2 x3 hN x3_1 x3_2; exfalso; omega
  | succ N ih =>
    intro x2 x3 hN x3_1 x3_2
    have hc_h := wt_Hcs hh
    rw [lp_X0_gainOfAll_4_s]
    have m1 := wx_X0_2 hI hh
    refine sf_ite (fun c2 => ?_) (fun c2 => ?_)
    · have C2 : (τ h 2).toInt ≤ x3.toInt := ti_le c2
      have b3 := ti_lo x2
      have b4 := ti_hi x2
      exact sf_ret ⟨rfl, ti_lo _, ti_hi _⟩
    have C2 : x3.toInt < (τ h 2).toInt := ti_nle c2
    refine sf_chk (ti_in (by omega) (by omega)) ?_
    have v5 : Int32.toNatClampNeg x3 = x3.toInt.toNat := rfl
    refine sf_chk (ti_in (by omega) (by omega)) ?_
    have v6 : Int32.toNatClampNeg x1 = x1.toInt.toNat := rfl
    have b8 := ti_lo x2
    have b9 := ti_hi x2
    have b10 := ti_lo (τ ((h + 18) + (Int32.toNatClampNeg x3)) (Int32.toNatClampNeg x1))
    have b11 := ti_hi (τ ((h + 18) + (Int32.toNatClampNeg x3)) (Int32.toNatClampNeg x1))
    have b12 := ti_lo (x2 + (τ ((h + 18) + (Int32.toNatClampNeg x3)) (Int32.toNatClampNeg x1)))
    have b13 := ti_hi (x2 + (τ ((h + 18) + (Int32.toNatClampNeg x3)) (Int32.toNatClampNeg x1)))
    refine sf_lt (fun z7 hz7 => ?_)
    have hz7_ : z7.toInt = (x2 + (τ ((h + 18) + (Int32.toNatClampNeg x3)) (Int32.toNatClampNeg x1))).toInt := (show z7.toInt = (x2 + (τ ((h + 18) + (Int32.toNatClampNeg x3)) (Int32.toNatClampNeg x1))).toInt from congrArg Int32.toInt hz7)
    have b14 := ti_lo z7
    have b15 := ti_hi z7
    have t16 : (x3 + (1 : Int32)).toInt = x3.toInt + (1 : Int) := ti_add (show -2147483648 ≤ x3.toInt + (1 : Int) by omega) (show x3.toInt + (1 : Int) ≤ 2147483647 by omega)
    exact ih _ _ (by omega) (by omega) (by omega)
set_option maxHeartbeats 4000000 in
set_option maxRecDepth 100000 in
theorem s_X0_gainOfAll {F : Nat} (hF : 100000 ≤ F) {h : Nat} {x1 : Int32} {τ : Mem} (hh : wt_isH h) (hI : wiX τ) (x1_1 : 0 ≤ x1.toInt) (x1_2 : x1.toInt ≤ 7) : sf (f_X0_gainOfAll F h x1 τ) (fun r s => s = τ ∧ -2147483648 ≤ r.toInt ∧ r.toInt ≤ 2147483647) := by
  have hc_h := wt_Hcs hh
  rw [f_X0_gainOfAll_e]
  have l_0 : (0 : Int32).toInt = 0 := rfl
  exact sl_X0_gainOfAll_4 hF hh hI (by omega) (by omega) _ _ _  (by omega) (by decide) (by decide)
set_option maxHeartbeats 4000000 in
set_option maxRecDepth 100000 in
theorem sl_X0_holder_15 {F : Nat} (hF : 100000 ≤ F) {h : Nat} {x1 : Int32} {x2 : Int32} {τ : Mem} (hh : wt_isH h) (hI : wiX τ) (x1_1 : 0 ≤ x1.toInt) (x1_2 : x1.toInt ≤ 7) (x2_1 : 0 ≤ x2.toInt) (x2_2 : x2.toInt ≤ 999) : ∀ (N : Nat) (x3 : Int32) (x4 : Int32) (x5 : Int32) (x6 : Int32) (x7 : Int32) , 5 < x7.toInt + N → -9 ≤ x3.toInt → x3.toInt ≤ 4 → 0 ≤ x4.toInt → x4.toInt ≤ 2147483647 → 0 ≤ x6.toInt → x6.toInt ≤ 1 → 0 ≤ x7.toInt → x7.toInt ≤ 5 → sf (lp_X0_holder_15 F h x1 x2 N x3 x4 x5 x6 x7 τ) (fun r s => s = τ ∧ -9 ≤ r.toInt ∧ r.toInt ≤ 4) := by
  intro N
  induction N with
  | zero => intro x3 x4 x5 x6 x7 hN x3_1 x3_2 x4_1 x4_2 x6_1 x6_2 x7_1 x7_2; exfalso; omega
  | succ N ih =>
    intro x3 x4 x5 x6 x7 hN x3_1 x3_2 x4_1 x4_2 x6_1 x6_2 x7_1 x7_2
    have hc_h := wt_Hcs hh
    rw [lp_X0_holder_15_s]
    have m1 := wx_X0_2 hI hh
    refine sf_ite (fun c2 => ?_) (fun c2 => ?_)
    · have C2 : (τ h 2).toInt ≤ x7.toInt := ti_le c2
      have b3 := ti_lo (τ h 8)
      have b4 := ti_hi (τ h 8)
      refine sf_ite (fun c5 => ?_) (fun c5 => ?_)
      · have C5 : (τ h 8).toInt = (1 : Int) := ti_eq c5
        refine sf_ite (fun c6 => ?_) (fun c6 => ?_)
        · have C6 : x6.toInt = (0 : Int) := ti_eq c6
          rw [j_X0_holder_90_e]
          refine sf_ite (fun c7 => ?_) (fun c7 => ?_)
          · have C7 : (τ h 8).toInt = (2 : Int) := ti_eq c7
            exfalso; omega
          have C7 : ¬ (τ h 8).toInt = (2 : Int) := ti_ne c7
          rw [j_X0_holder_111_e]
          exact sf_ret ⟨rfl, by omega, by omega⟩
        have C6 : ¬ x6.toInt = (0 : Int) := ti_ne c6
        rw [j_X0_holder_108_e]
        exact sf_ret ⟨rfl, by decide, by decide⟩
      have C5 : ¬ (τ h 8).toInt = (1 : Int) := ti_ne c5
      rw [j_X0_holder_90_e]
      refine sf_ite (fun c8 => ?_) (fun c8 => ?_)
      · have C8 : (τ h 8).toInt = (2 : Int) := ti_eq c8
        have b9 := ti_lo x5
        have b10 := ti_hi x5
        have b11 := ti_lo x4
        have b12 := ti_hi x4
        have b13 := ti_lo (x5 - x4)
        have b14 := ti_hi (x5 - x4)
        refine sf_ite (fun c15 => ?_) (fun c15 => ?_)
        · have C15 : (x5 - x4).toInt < x4.toInt := ti_lt c15
          rw [j_X0_holder_111_e]
          exact sf_ret ⟨rfl, by omega, by omega⟩
        have C15 : x4.toInt ≤ (x5 - x4).toInt := ti_nlt c15
        rw [j_X0_holder_108_e]
        exact sf_ret ⟨rfl, by decide, by decide⟩
      have C8 : ¬ (τ h 8).toInt = (2 : Int) := ti_ne c8
      rw [j_X0_holder_111_e]
      exact sf_ret ⟨rfl, by omega, by omega⟩
    have C2 : x7.toInt < (τ h 2).toInt := ti_nle c2
    refine sf_bnd (s_X0_behind hF hh hI (by omega) (by omega) (by omega) (by omega) (by omega) (by omega)) (fun r16 u17 p18 => ?_)
    obtain ⟨e9, p18_1, p18_2⟩ := p18
    have e9 := e9.symm
    subst e9
    have b19 := ti_lo r16
    have b20 := ti_hi r16
    have b21 := ti_lo x4
    have b22 := ti_hi x4
    refine sf_ite (fun c23 => ?_) (fun c23 => ?_)
    · have C23 : r16.toInt ≤ x4.toInt := ti_le c23
      refine sf_ite (fun c24 => ?_) (fun c24 => ?_)
      · have C24 : r16.toInt = x4.toInt := ti_eq c24
        rw [j_X0_holder_71_e]
        have b25 := ti_lo x5
        have b26 := ti_hi x5
        have b27 := ti_lo (x5 + r16)
        have b28 := ti_hi (x5 + r16)
        have t29 : (x7 + (1 : Int32)).toInt = x7.toInt + (1 : Int) := ti_add (show -2147483648 ≤ x7.toInt + (1 : Int) by omega) (show x7.toInt + (1 : Int) ≤ 2147483647 by omega)
        exact ih _ _ _ _ _ (by omega) (by omega) (by omega) (by omega) (by omega) (by decide) (by decide) (by omega) (by omega)
      have C24 : ¬ r16.toInt = x4.toInt := ti_ne c24
      rw [j_X0_holder_71_e]
      have b30 := ti_lo x5
      have b31 := ti_hi x5
      have b32 := ti_lo (x5 + r16)
      have b33 := ti_hi (x5 + r16)
      have t34 : (x7 + (1 : Int32)).toInt = x7.toInt + (1 : Int) := ti_add (show -2147483648 ≤ x7.toInt + (1 : Int) by omega) (show x7.toInt + (1 : Int) ≤ 2147483647 by omega)
      exact ih _ _ _ _ _ (by omega) (by omega) (by omega) (by omega) (by omega) (by omega) (by omega) (by omega) (by omega)
    have C23 : x4.toInt < r16.toInt := ti_nle c23
    rw [j_X0_holder_71_e]
    have b35 := ti_lo x5
    have b36 := ti_hi x5
    have b37 := ti_lo (x5 + r16)
    have b38 := ti_hi (x5 + r16)
    have t39 : (x7 + (1 : Int32)).toInt = x7.toInt + (1 : Int) := ti_add (show -2147483648 ≤ x7.toInt + (1 : Int) by omega) (show x7.toInt + (1 : Int) ≤ 2147483647 by omega)
    exact ih _ _ _ _ _ (by omega) (by omega) (by omega) (by omega) (by omega) (by decide) (by decide) (by omega) (by omega)
set_option maxHeartbeats 4000000 in
set_option maxRecDepth 100000 in
theorem s_X0_holder {F : Nat} (hF : 100000 ≤ F) {h : Nat} {x1 : Int32} {x2 : Int32} {τ : Mem} (hh : wt_isH h) (hI : wiX τ) (x1_1 : 0 ≤ x1.toInt) (x1_2 : x1.toInt ≤ 7) (x2_1 : 0 ≤ x2.toInt) (x2_2 : x2.toInt ≤ 999) : sf (f_X0_holder F h x1 x2 τ) (fun r s => s = τ ∧ -9 ≤ r.toInt ∧ r.toInt ≤ 4) := by
  have hc_h := wt_Hcs hh
  rw [f_X0_holder_e]
  have l_0 : (0 : Int32).toInt = 0 := rfl
  exact sl_X0_holder_15 hF hh hI (by omega) (by omega) (by omega) (by omega) _ _ _ _ _ _  (by omega) (by decide) (by decide) (by decide) (by decide) (by decide) (by decide) (by decide) (by decide)
set_option maxHeartbeats 4000000 in
set_option maxRecDepth 100000 in
theorem sl_X0_holdings_5 {F : Nat} (hF : 100000 ≤ F) {h : Nat} {x1 : Int32} {x2 : Int32} {τ : Mem} (hh : wt_isH h) (hI : wiX τ) (x1_1 : -9 ≤ x1.toInt) (x1_2 : x1.toInt ≤ 4) (x2_1 : 0 ≤ x2.toInt) (x2_2 : x2.toInt ≤ 999) : ∀ (N : Nat) (x3 : Int32) (x4 : Int32) , 8 < x4.toInt + N → 0 ≤ x4.toInt → x4.toInt ≤ 8 → sf (lp_X0_holdings_5 F h x1 x2 N x3 x4 τ) (fun r s => s = τ ∧ -2147483648 ≤ r.toInt ∧ r.toInt ≤ 2147483647) := by
  intro N
  induction N with
  | zero => intro x3 x4 hN x4_1 x4_2; exfalso; omega
  | succ N ih =>
    intro x3 x4 hN x4_1 x4_2
    have hc_h := wt_Hcs hh
    rw [lp_X0_holdings_5_s]
    refine sf_ite (fun c1 => ?_) (fun c1 => ?_)
    · have C1 : (8 : Int) ≤ x4.toInt := ti_le c1
      have b2 := ti_lo x3
      have b3 := ti_hi x3
      exact sf_ret ⟨rfl, ti_lo _, ti_hi _⟩
    have C1 : x4.toInt < (8 : Int) := ti_nle c1
    refine sf_bnd (s_X0_holder hF hh hI (by omega) (by omega) (by omega) (by omega)) (fun r4 u5 p6 => ?_)
    obtain ⟨e9, p6_1, p6_2⟩ := p6
    have e9 := e9.symm
    subst e9
    refine sf_ite (fun c7 => ?_) (fun c7 => ?_)
    · have C7 : r4.toInt = x1.toInt := ti_eq c7
      have b9 := ti_lo (x3 ||| ((1 : Int32) <<< (x4 &&& 31)))
      have b10 := ti_hi (x3 ||| ((1 : Int32) <<< (x4 &&& 31)))
      refine sf_lt (fun z8 hz8 => ?_)
      have hz8_ : z8.toInt = (x3 ||| ((1 : Int32) <<< (x4 &&& 31))).toInt := (show z8.toInt = (x3 ||| ((1 : Int32) <<< (x4 &&& 31))).toInt from congrArg Int32.toInt hz8)
      rw [j_X0_holdings_30_e]
      have b11 := ti_lo z8
      have b12 := ti_hi z8
      have t13 : (x4 + (1 : Int32)).toInt = x4.toInt + (1 : Int) := ti_add (show -2147483648 ≤ x4.toInt + (1 : Int) by omega) (show x4.toInt + (1 : Int) ≤ 2147483647 by omega)
      exact ih _ _ (by omega) (by omega) (by omega)
    have C7 : ¬ r4.toInt = x1.toInt := ti_ne c7
    rw [j_X0_holdings_30_e]
    have b14 := ti_lo x3
    have b15 := ti_hi x3
    have t16 : (x4 + (1 : Int32)).toInt = x4.toInt + (1 : Int) := ti_add (show -2147483648 ≤ x4.toInt + (1 : Int) by omega) (show x4.toInt + (1 : Int) ≤ 2147483647 by omega)
    exact ih _ _ (by omega) (by omega) (by omega)
set_option maxHeartbeats 4000000 in
set_option maxRecDepth 100000 in
theorem s_X0_holdings {F : Nat} (hF : 100000 ≤ F) {h : Nat} {x1 : Int32} {x2 : Int32} {τ : Mem} (hh : wt_isH h) (hI : wiX τ) (x1_1 : -9 ≤ x1.toInt) (x1_2 : x1.toInt ≤ 4) (x2_1 : 0 ≤ x2.toInt) (x2_2 : x2.toInt ≤ 999) : sf (f_X0_holdings F h x1 x2 τ) (fun r s => s = τ ∧ -2147483648 ≤ r.toInt ∧ r.toInt ≤ 2147483647) := by
  have hc_h := wt_Hcs hh
  rw [f_X0_holdings_e]
  have l_0 : (0 : Int32).toInt = 0 := rfl
  exact sl_X0_holdings_5 hF hh hI (by omega) (by omega) (by omega) (by omega) _ _ _  (by omega) (by decide) (by decide)
set_option maxHeartbeats 4000000 in
set_option maxRecDepth 100000 in
theorem sl_X0_firstHolding_2 {F : Nat} (hF : 100000 ≤ F) {h : Nat} {x1 : Int32} {x2 : Int32} {τ : Mem} (hh : wt_isH h) (hI : wiX τ) (x1_1 : -1 ≤ x1.toInt) (x1_2 : x1.toInt ≤ 4) (x2_1 : 0 ≤ x2.toInt) (x2_2 : x2.toInt ≤ 999) : ∀ (N : Nat) (x3 : Int32) , 8 < x3.toInt + N → 0 ≤ x3.toInt → x3.toInt ≤ 8 → sf (lp_X0_firstHolding_2 F h x1 x2 N x3 τ) (fun r s => s = τ ∧ -9 ≤ r.toInt ∧ r.toInt ≤ 7) := by
  intro N
  induction N with
  | zero => intro x3 hN x3_1 x3_2; exfalso; omega
  | succ N ih =>
    intro x3 hN x3_1 x3_2
    have hc_h := wt_Hcs hh
    rw [lp_X0_firstHolding_2_s]
    refine sf_ite (fun c1 => ?_) (fun c1 => ?_)
    · have C1 : (8 : Int) ≤ x3.toInt := ti_le c1
      exact sf_ret ⟨rfl, by decide, by decide⟩
    have C1 : x3.toInt < (8 : Int) := ti_nle c1
    refine sf_bnd (s_X0_holder hF hh hI (by omega) (by omega) (by omega) (by omega)) (fun r2 u3 p4 => ?_)
    obtain ⟨e9, p4_1, p4_2⟩ := p4
    have e9 := e9.symm
    subst e9
    refine sf_ite (fun c5 => ?_) (fun c5 => ?_)
    · have C5 : r2.toInt = x1.toInt := ti_eq c5
      exact sf_ret ⟨rfl, by omega, by omega⟩
    have C5 : ¬ r2.toInt = x1.toInt := ti_ne c5
    have t6 : (x3 + (1 : Int32)).toInt = x3.toInt + (1 : Int) := ti_add (show -2147483648 ≤ x3.toInt + (1 : Int) by omega) (show x3.toInt + (1 : Int) ≤ 2147483647 by omega)
    exact ih _ (by omega) (by omega) (by omega)
set_option maxHeartbeats 4000000 in
set_option maxRecDepth 100000 in
theorem s_X0_firstHolding {F : Nat} (hF : 100000 ≤ F) {h : Nat} {x1 : Int32} {x2 : Int32} {τ : Mem} (hh : wt_isH h) (hI : wiX τ) (x1_1 : -1 ≤ x1.toInt) (x1_2 : x1.toInt ≤ 4) (x2_1 : 0 ≤ x2.toInt) (x2_2 : x2.toInt ≤ 999) : sf (f_X0_firstHolding F h x1 x2 τ) (fun r s => s = τ ∧ -9 ≤ r.toInt ∧ r.toInt ≤ 7) := by
  have hc_h := wt_Hcs hh
  rw [f_X0_firstHolding_e]
  have l_0 : (0 : Int32).toInt = 0 := rfl
  exact sl_X0_firstHolding_2 hF hh hI (by omega) (by omega) (by omega) (by omega) _ _  (by omega) (by decide) (by decide)
set_option maxHeartbeats 4000000 in
set_option maxRecDepth 100000 in
theorem s_X0_held {F : Nat} (hF : 100000 ≤ F) {h : Nat} {x1 : Int32} {τ : Mem} (hh : wt_isH h) (hI : wiX τ) (x1_1 : 0 ≤ x1.toInt) (x1_2 : x1.toInt ≤ 999) : sf (f_X0_held F h x1 τ) (fun r s => s = τ ∧ -2147483648 ≤ r.toInt ∧ r.toInt ≤ 2147483647) := by
  have hc_h := wt_Hcs hh
  rw [f_X0_held_e]
  refine sf_bnd (s_X0_holdings hF hh hI (by decide) (by decide) (by omega) (by omega)) (fun r1 u2 p3 => ?_)
  obtain ⟨e9, p3_1, p3_2⟩ := p3
  have e9 := e9.symm
  subst e9
  have b4 := ti_lo r1
  have b5 := ti_hi r1
  have b6 := ti_lo ((255 : Int32) - r1)
  have b7 := ti_hi ((255 : Int32) - r1)
  exact sf_ret ⟨rfl, ti_lo _, ti_hi _⟩
set_option maxHeartbeats 4000000 in
set_option maxRecDepth 100000 in
theorem sl_X0_wealth_5 {F : Nat} (hF : 100000 ≤ F) {h : Nat} {x1 : Int32} {x2 : Int32} {τ : Mem} (hh : wt_isH h) (hI : wiX τ) (x2_1 : 0 ≤ x2.toInt) (x2_2 : x2.toInt ≤ 999) : ∀ (N : Nat) (x3 : Int32) (x4 : Int32) , 8 < x4.toInt + N → 0 ≤ x4.toInt → x4.toInt ≤ 8 → sf (lp_X0_wealth_5 F h x1 x2 N x3 x4 τ) (fun r s => s = τ ∧ -2147483648 ≤ r.toInt ∧ r.toInt ≤ 2147483647) := by
  intro N
  induction N with
  | zero => intro x3 x4 hN x4_1 x4_2; exfalso; omega
  | succ N ih =>
    intro x3 x4 hN x4_1 x4_2
    have hc_h := wt_Hcs hh
    rw [lp_X0_wealth_5_s]
    refine sf_ite (fun c1 => ?_) (fun c1 => ?_)
    · have C1 : (8 : Int) ≤ x4.toInt := ti_le c1
      have b2 := ti_lo x3
      have b3 := ti_hi x3
      exact sf_ret ⟨rfl, ti_lo _, ti_hi _⟩
    have C1 : x4.toInt < (8 : Int) := ti_nle c1
    refine sf_bnd (s_X0_holder hF hh hI (by omega) (by omega) (by omega) (by omega)) (fun r4 u5 p6 => ?_)
    obtain ⟨e9, p6_1, p6_2⟩ := p6
    have e9 := e9.symm
    subst e9
    have b7 := ti_lo x1
    have b8 := ti_hi x1
    refine sf_ite (fun c9 => ?_) (fun c9 => ?_)
    · have C9 : r4.toInt = x1.toInt := ti_eq c9
      refine sf_chk (ti_in (by omega) (by omega)) ?_
      have v10 : Int32.toNatClampNeg x4 = x4.toInt.toNat := rfl
      have b12 := ti_lo x3
      have b13 := ti_hi x3
      have b14 := ti_lo (τ (h + 16) (Int32.toNatClampNeg x4))
      have b15 := ti_hi (τ (h + 16) (Int32.toNatClampNeg x4))
      have b16 := ti_lo (x3 + (τ (h + 16) (Int32.toNatClampNeg x4)))
      have b17 := ti_hi (x3 + (τ (h + 16) (Int32.toNatClampNeg x4)))
      refine sf_lt (fun z11 hz11 => ?_)
      have hz11_ : z11.toInt = (x3 + (τ (h + 16) (Int32.toNatClampNeg x4))).toInt := (show z11.toInt = (x3 + (τ (h + 16) (Int32.toNatClampNeg x4))).toInt from congrArg Int32.toInt hz11)
      rw [j_X0_wealth_33_e]
      have b18 := ti_lo z11
      have b19 := ti_hi z11
      have t20 : (x4 + (1 : Int32)).toInt = x4.toInt + (1 : Int) := ti_add (show -2147483648 ≤ x4.toInt + (1 : Int) by omega) (show x4.toInt + (1 : Int) ≤ 2147483647 by omega)
      exact ih _ _ (by omega) (by omega) (by omega)
    have C9 : ¬ r4.toInt = x1.toInt := ti_ne c9
    rw [j_X0_wealth_33_e]
    have b21 := ti_lo x3
    have b22 := ti_hi x3
    have t23 : (x4 + (1 : Int32)).toInt = x4.toInt + (1 : Int) := ti_add (show -2147483648 ≤ x4.toInt + (1 : Int) by omega) (show x4.toInt + (1 : Int) ≤ 2147483647 by omega)
    exact ih _ _ (by omega) (by omega) (by omega)
set_option maxHeartbeats 4000000 in
set_option maxRecDepth 100000 in
theorem s_X0_wealth {F : Nat} (hF : 100000 ≤ F) {h : Nat} {x1 : Int32} {x2 : Int32} {τ : Mem} (hh : wt_isH h) (hI : wiX τ) (x2_1 : 0 ≤ x2.toInt) (x2_2 : x2.toInt ≤ 999) : sf (f_X0_wealth F h x1 x2 τ) (fun r s => s = τ ∧ -2147483648 ≤ r.toInt ∧ r.toInt ≤ 2147483647) := by
  have hc_h := wt_Hcs hh
  rw [f_X0_wealth_e]
  have b1 := ti_lo x1
  have b2 := ti_hi x1
  have l_0 : (0 : Int32).toInt = 0 := rfl
  exact sl_X0_wealth_5 hF hh hI (by omega) (by omega) _ _ _  (by omega) (by decide) (by decide)
set_option maxHeartbeats 4000000 in
set_option maxRecDepth 100000 in
theorem sl_X0_wealthiest_8 {F : Nat} (hF : 100000 ≤ F) {h : Nat} {x1 : Int32} {τ : Mem} (hh : wt_isH h) (hI : wiX τ) (x1_1 : 0 ≤ x1.toInt) (x1_2 : x1.toInt ≤ 999) : ∀ (N : Nat) (x2 : Int32) (x3 : Int32) (x4 : Int32) , 5 < x4.toInt + N → -9 ≤ x2.toInt → x2.toInt ≤ 4 → -1 ≤ x3.toInt → x3.toInt ≤ 2147483647 → 0 ≤ x4.toInt → x4.toInt ≤ 5 → sf (lp_X0_wealthiest_8 F h x1 N x2 x3 x4 τ) (fun r s => s = τ ∧ -9 ≤ r.toInt ∧ r.toInt ≤ 4) := by
  intro N
  induction N with
  | zero => intro x2 x3 x4 hN x2_1 x2_2 x3_1 x3_2 x4_1 x4_2; exfalso; omega
  | succ N ih =>
    intro x2 x3 x4 hN x2_1 x2_2 x3_1 x3_2 x4_1 x4_2
    have hc_h := wt_Hcs hh
    rw [lp_X0_wealthiest_8_s]
    have m1 := wx_X0_2 hI hh
    refine sf_ite (fun c2 => ?_) (fun c2 => ?_)
    · have C2 : (τ h 2).toInt ≤ x4.toInt := ti_le c2
      exact sf_ret ⟨rfl, by omega, by omega⟩
    have C2 : x4.toInt < (τ h 2).toInt := ti_nle c2
    refine sf_bnd (s_X0_wealth hF hh hI (by omega) (by omega)) (fun r3 u4 p5 => ?_)
    obtain ⟨e9, p5_1, p5_2⟩ := p5
    have e9 := e9.symm
    subst e9
    have b6 := ti_lo r3
    have b7 := ti_hi r3
    have b8 := ti_lo x3
    have b9 := ti_hi x3
    refine sf_ite (fun c10 => ?_) (fun c10 => ?_)
    · have C10 : r3.toInt ≤ x3.toInt := ti_le c10
      rw [j_X0_wealthiest_38_e]
      have t11 : (x4 + (1 : Int32)).toInt = x4.toInt + (1 : Int) := ti_add (show -2147483648 ≤ x4.toInt + (1 : Int) by omega) (show x4.toInt + (1 : Int) ≤ 2147483647 by omega)
      exact ih _ _ _ (by omega) (by omega) (by omega) (by omega) (by omega) (by omega) (by omega)
    have C10 : x3.toInt < r3.toInt := ti_nle c10
    rw [j_X0_wealthiest_38_e]
    have t12 : (x4 + (1 : Int32)).toInt = x4.toInt + (1 : Int) := ti_add (show -2147483648 ≤ x4.toInt + (1 : Int) by omega) (show x4.toInt + (1 : Int) ≤ 2147483647 by omega)
    exact ih _ _ _ (by omega) (by omega) (by omega) (by omega) (by omega) (by omega) (by omega)
set_option maxHeartbeats 4000000 in
set_option maxRecDepth 100000 in
theorem s_X0_wealthiest {F : Nat} (hF : 100000 ≤ F) {h : Nat} {x1 : Int32} {τ : Mem} (hh : wt_isH h) (hI : wiX τ) (x1_1 : 0 ≤ x1.toInt) (x1_2 : x1.toInt ≤ 999) : sf (f_X0_wealthiest F h x1 τ) (fun r s => s = τ ∧ -9 ≤ r.toInt ∧ r.toInt ≤ 4) := by
  have hc_h := wt_Hcs hh
  rw [f_X0_wealthiest_e]
  have l_0 : (0 : Int32).toInt = 0 := rfl
  exact sl_X0_wealthiest_8 hF hh hI (by omega) (by omega) _ _ _ _  (by omega) (by decide) (by decide) (by decide) (by decide) (by decide) (by decide)
set_option maxHeartbeats 4000000 in
set_option maxRecDepth 100000 in
theorem sl_X0_lead_6 {F : Nat} (hF : 100000 ≤ F) {h : Nat} {x1 : Int32} {x2 : Int32} {x3 : Int32} {τ : Mem} (hh : wt_isH h) (hI : wiX τ) (x1_1 : 0 ≤ x1.toInt) (x1_2 : x1.toInt ≤ 4) (x2_1 : 0 ≤ x2.toInt) (x2_2 : x2.toInt ≤ 4) (x3_1 : 0 ≤ x3.toInt) (x3_2 : x3.toInt ≤ 999) : ∀ (N : Nat) (x4 : Int32) (x5 : Int32) , 8 < x5.toInt + N → 0 ≤ x5.toInt → x5.toInt ≤ 8 → sf (lp_X0_lead_6 F h x1 x2 x3 N x4 x5 τ) (fun r s => s = τ ∧ -2147483648 ≤ r.toInt ∧ r.toInt ≤ 2147483647) := by
  intro N
  induction N with
  | zero => intro x4 x5 hN x5_1 x5_2; exfalso; omega
  | succ N ih =>
    intro x4 x5 hN x5_1 x5_2
    have hc_h := wt_Hcs hh
    rw [lp_X0_lead_6_s]
    refine sf_ite (fun c1 => ?_) (fun c1 => ?_)
    · have C1 : (8 : Int) ≤ x5.toInt := ti_le c1
      have b2 := ti_lo x4
      have b3 := ti_hi x4
      exact sf_ret ⟨rfl, ti_lo _, ti_hi _⟩
    have C1 : x5.toInt < (8 : Int) := ti_nle c1
    refine sf_bnd (s_X0_holder hF hh hI (by omega) (by omega) (by omega) (by omega)) (fun r4 u5 p6 => ?_)
    obtain ⟨e9, p6_1, p6_2⟩ := p6
    have e9 := e9.symm
    subst e9
    refine sf_ite (fun c7 => ?_) (fun c7 => ?_)
    · have C7 : r4.toInt = x1.toInt := ti_eq c7
      refine sf_chk (ti_in (by omega) (by omega)) ?_
      have v8 : Int32.toNatClampNeg x5 = x5.toInt.toNat := rfl
      have b10 := ti_lo x4
      have b11 := ti_hi x4
      have b12 := ti_lo (τ (h + 16) (Int32.toNatClampNeg x5))
      have b13 := ti_hi (τ (h + 16) (Int32.toNatClampNeg x5))
      have b14 := ti_lo (x4 + (τ (h + 16) (Int32.toNatClampNeg x5)))
      have b15 := ti_hi (x4 + (τ (h + 16) (Int32.toNatClampNeg x5)))
      refine sf_lt (fun z9 hz9 => ?_)
      have hz9_ : z9.toInt = (x4 + (τ (h + 16) (Int32.toNatClampNeg x5))).toInt := (show z9.toInt = (x4 + (τ (h + 16) (Int32.toNatClampNeg x5))).toInt from congrArg Int32.toInt hz9)
      rw [j_X0_lead_61_e]
      have b16 := ti_lo z9
      have b17 := ti_hi z9
      have t18 : (x5 + (1 : Int32)).toInt = x5.toInt + (1 : Int) := ti_add (show -2147483648 ≤ x5.toInt + (1 : Int) by omega) (show x5.toInt + (1 : Int) ≤ 2147483647 by omega)
      exact ih _ _ (by omega) (by omega) (by omega)
    have C7 : ¬ r4.toInt = x1.toInt := ti_ne c7
    refine sf_ite (fun c19 => ?_) (fun c19 => ?_)
    · have C19 : r4.toInt = x2.toInt := ti_eq c19
      refine sf_chk (ti_in (by omega) (by omega)) ?_
      have v20 : Int32.toNatClampNeg x5 = x5.toInt.toNat := rfl
      have b22 := ti_lo x4
      have b23 := ti_hi x4
      have b24 := ti_lo (τ (h + 16) (Int32.toNatClampNeg x5))
      have b25 := ti_hi (τ (h + 16) (Int32.toNatClampNeg x5))
      have b26 := ti_lo (x4 - (τ (h + 16) (Int32.toNatClampNeg x5)))
      have b27 := ti_hi (x4 - (τ (h + 16) (Int32.toNatClampNeg x5)))
      refine sf_lt (fun z21 hz21 => ?_)
      have hz21_ : z21.toInt = (x4 - (τ (h + 16) (Int32.toNatClampNeg x5))).toInt := (show z21.toInt = (x4 - (τ (h + 16) (Int32.toNatClampNeg x5))).toInt from congrArg Int32.toInt hz21)
      rw [j_X0_lead_61_e]
      have b28 := ti_lo z21
      have b29 := ti_hi z21
      have t30 : (x5 + (1 : Int32)).toInt = x5.toInt + (1 : Int) := ti_add (show -2147483648 ≤ x5.toInt + (1 : Int) by omega) (show x5.toInt + (1 : Int) ≤ 2147483647 by omega)
      exact ih _ _ (by omega) (by omega) (by omega)
    have C19 : ¬ r4.toInt = x2.toInt := ti_ne c19
    rw [j_X0_lead_61_e]
    have b31 := ti_lo x4
    have b32 := ti_hi x4
    have t33 : (x5 + (1 : Int32)).toInt = x5.toInt + (1 : Int) := ti_add (show -2147483648 ≤ x5.toInt + (1 : Int) by omega) (show x5.toInt + (1 : Int) ≤ 2147483647 by omega)
    exact ih _ _ (by omega) (by omega) (by omega)
set_option maxHeartbeats 4000000 in
set_option maxRecDepth 100000 in
theorem s_X0_lead {F : Nat} (hF : 100000 ≤ F) {h : Nat} {x1 : Int32} {x2 : Int32} {x3 : Int32} {τ : Mem} (hh : wt_isH h) (hI : wiX τ) (x1_1 : 0 ≤ x1.toInt) (x1_2 : x1.toInt ≤ 4) (x2_1 : 0 ≤ x2.toInt) (x2_2 : x2.toInt ≤ 4) (x3_1 : 0 ≤ x3.toInt) (x3_2 : x3.toInt ≤ 999) : sf (f_X0_lead F h x1 x2 x3 τ) (fun r s => s = τ ∧ -2147483648 ≤ r.toInt ∧ r.toInt ≤ 2147483647) := by
  have hc_h := wt_Hcs hh
  rw [f_X0_lead_e]
  have l_0 : (0 : Int32).toInt = 0 := rfl
  exact sl_X0_lead_6 hF hh hI (by omega) (by omega) (by omega) (by omega) (by omega) (by omega) _ _ _  (by omega) (by decide) (by decide)
set_option maxHeartbeats 4000000 in
set_option maxRecDepth 100000 in
theorem sl_X0_outdo_22 {F : Nat} (hF : 100000 ≤ F) {h : Nat} {x1 : Int32} {x2 : Int32} {x3 : Int32} {x4 : Int32} {x5 : Int32} {τ : Mem} (hh : wt_isH h) (hI : wiX τ) (x1_1 : 0 ≤ x1.toInt) (x1_2 : x1.toInt ≤ 4) (x2_1 : 0 ≤ x2.toInt) (x2_2 : x2.toInt ≤ 4) (x3_1 : 0 ≤ x3.toInt) (x3_2 : x3.toInt ≤ 7) (x4_1 : 0 ≤ x4.toInt) (x4_2 : x4.toInt ≤ 999) : ∀ (N : Nat) (x6 : Int32) , 5 < x6.toInt + N → 0 ≤ x6.toInt → x6.toInt ≤ 5 → sf (lp_X0_outdo_22 F h x1 x2 x3 x4 x5 N x6 τ) (fun r s => s = τ ∧ 0 ≤ r.toInt ∧ r.toInt ≤ 1) := by
  intro N
  induction N with
  | zero => intro x6 hN x6_1 x6_2; exfalso; omega
  | succ N ih =>
    intro x6 hN x6_1 x6_2
    have hc_h := wt_Hcs hh
    rw [lp_X0_outdo_22_s]
    have m1 := wx_X0_2 hI hh
    refine sf_ite (fun c2 => ?_) (fun c2 => ?_)
    · have C2 : (τ h 2).toInt ≤ x6.toInt := ti_le c2
      exact sf_ret ⟨rfl, by decide, by decide⟩
    have C2 : x6.toInt < (τ h 2).toInt := ti_nle c2
    refine sf_ite (fun c3 => ?_) (fun c3 => ?_)
    · have C3 : x6.toInt = x1.toInt := ti_eq c3
      rw [j_X0_outdo_59_e]
      have t4 : (x6 + (1 : Int32)).toInt = x6.toInt + (1 : Int) := ti_add (show -2147483648 ≤ x6.toInt + (1 : Int) by omega) (show x6.toInt + (1 : Int) ≤ 2147483647 by omega)
      exact ih _ (by omega) (by omega) (by omega)
    have C3 : ¬ x6.toInt = x1.toInt := ti_ne c3
    refine sf_ite (fun c5 => ?_) (fun c5 => ?_)
    · have C5 : x6.toInt = x2.toInt := ti_eq c5
      rw [j_X0_outdo_59_e]
      have t6 : (x6 + (1 : Int32)).toInt = x6.toInt + (1 : Int) := ti_add (show -2147483648 ≤ x6.toInt + (1 : Int) by omega) (show x6.toInt + (1 : Int) ≤ 2147483647 by omega)
      exact ih _ (by omega) (by omega) (by omega)
    have C5 : ¬ x6.toInt = x2.toInt := ti_ne c5
    refine sf_bnd (s_X0_behind hF hh hI (by omega) (by omega) (by omega) (by omega) (by omega) (by omega)) (fun r7 u8 p9 => ?_)
    obtain ⟨e9, p9_1, p9_2⟩ := p9
    have e9 := e9.symm
    subst e9
    have b10 := ti_lo r7
    have b11 := ti_hi r7
    have b12 := ti_lo x5
    have b13 := ti_hi x5
    refine sf_ite (fun c14 => ?_) (fun c14 => ?_)
    · have C14 : r7.toInt < x5.toInt := ti_lt c14
      rw [j_X0_outdo_59_e]
      have t15 : (x6 + (1 : Int32)).toInt = x6.toInt + (1 : Int) := ti_add (show -2147483648 ≤ x6.toInt + (1 : Int) by omega) (show x6.toInt + (1 : Int) ≤ 2147483647 by omega)
      exact ih _ (by omega) (by omega) (by omega)
    have C14 : x5.toInt ≤ r7.toInt := ti_nlt c14
    exact sf_ret ⟨rfl, by decide, by decide⟩
set_option maxHeartbeats 4000000 in
set_option maxRecDepth 100000 in
theorem s_X0_outdo {F : Nat} (hF : 100000 ≤ F) {h : Nat} {x1 : Int32} {x2 : Int32} {x3 : Int32} {x4 : Int32} {τ : Mem} (hh : wt_isH h) (hI : wiX τ) (x1_1 : 0 ≤ x1.toInt) (x1_2 : x1.toInt ≤ 4) (x2_1 : 0 ≤ x2.toInt) (x2_2 : x2.toInt ≤ 4) (x3_1 : 0 ≤ x3.toInt) (x3_2 : x3.toInt ≤ 7) (x4_1 : 0 ≤ x4.toInt) (x4_2 : x4.toInt ≤ 999) : sf (f_X0_outdo F h x1 x2 x3 x4 τ) (fun r s => s = τ ∧ 0 ≤ r.toInt ∧ r.toInt ≤ 1) := by
  have hc_h := wt_Hcs hh
  rw [f_X0_outdo_e]
  refine sf_bnd (s_X0_behind hF hh hI (by omega) (by omega) (by omega) (by omega) (by omega) (by omega)) (fun r1 u2 p3 => ?_)
  obtain ⟨e9, p3_1, p3_2⟩ := p3
  have e9 := e9.symm
  subst e9
  refine sf_bnd (s_X0_behind hF hh hI (by omega) (by omega) (by omega) (by omega) (by omega) (by omega)) (fun r4 u5 p6 => ?_)
  obtain ⟨e9, p6_1, p6_2⟩ := p6
  have e9 := e9.symm
  subst e9
  have b7 := ti_lo r1
  have b8 := ti_hi r1
  have b9 := ti_lo r4
  have b10 := ti_hi r4
  have b11 := ti_lo (r1 + r4)
  have b12 := ti_hi (r1 + r4)
  have l_0 : (0 : Int32).toInt = 0 := rfl
  exact sl_X0_outdo_22 hF hh hI (by omega) (by omega) (by omega) (by omega) (by omega) (by omega) (by omega) (by omega) _ _  (by omega) (by decide) (by decide)
set_option maxHeartbeats 4000000 in
set_option maxRecDepth 100000 in
theorem sl_X0_placeOf_15 {F : Nat} (hF : 100000 ≤ F) {h : Nat} {x1 : Int32} {x2 : Int32} {x4 : Int32} {τ : Mem} (hh : wt_isH h) (hI : wiX τ) (x1_1 : 0 ≤ x1.toInt) (x1_2 : x1.toInt ≤ 4) (x2_1 : 0 ≤ x2.toInt) (x2_2 : x2.toInt ≤ 7) : ∀ (N : Nat) (x3 : Int32) (x5 : Int32) , 5 < x5.toInt + N → 0 ≤ x5.toInt → x5.toInt ≤ 5 → sf (lp_X0_placeOf_15 F h x1 x2 x4 N x3 x5 τ) (fun r s => s = τ ∧ -2147483648 ≤ r.toInt ∧ r.toInt ≤ 2147483647) := by
  intro N
  induction N with
  | zero => intro x3 x5 hN x5_1 x5_2; exfalso; omega
  | succ N ih =>
    intro x3 x5 hN x5_1 x5_2
    have hc_h := wt_Hcs hh
    rw [lp_X0_placeOf_15_s]
    have m1 := wx_X0_2 hI hh
    refine sf_ite (fun c2 => ?_) (fun c2 => ?_)
    · have C2 : (τ h 2).toInt ≤ x5.toInt := ti_le c2
      have b3 := ti_lo x3
      have b4 := ti_hi x3
      exact sf_ret ⟨rfl, ti_lo _, ti_hi _⟩
    have C2 : x5.toInt < (τ h 2).toInt := ti_nle c2
    refine sf_chk (ti_in (by omega) (by omega)) ?_
    have v5 : Int32.toNatClampNeg x5 = x5.toInt.toNat := rfl
    refine sf_chk (ti_in (by omega) (by omega)) ?_
    have v6 : Int32.toNatClampNeg x2 = x2.toInt.toNat := rfl
    have b8 := ti_lo (τ ((h + 11) + (Int32.toNatClampNeg x5)) (Int32.toNatClampNeg x2))
    have b9 := ti_hi (τ ((h + 11) + (Int32.toNatClampNeg x5)) (Int32.toNatClampNeg x2))
    refine sf_lt (fun z7 hz7 => ?_)
    have hz7_ : z7.toInt = (τ ((h + 11) + (Int32.toNatClampNeg x5)) (Int32.toNatClampNeg x2)).toInt := (show z7.toInt = (τ ((h + 11) + (Int32.toNatClampNeg x5)) (Int32.toNatClampNeg x2)).toInt from congrArg Int32.toInt hz7)
    have b10 := ti_lo x4
    have b11 := ti_hi x4
    have b12 := ti_lo z7
    have b13 := ti_hi z7
    refine sf_ite (fun c14 => ?_) (fun c14 => ?_)
    · have C14 : x4.toInt < z7.toInt := ti_lt c14
      rw [j_X0_placeOf_55_e]
      rw [j_X0_placeOf_58_e]
      have b15 := ti_lo x3
      have b16 := ti_hi x3
      have b17 := ti_lo (x3 + (1 : Int32))
      have b18 := ti_hi (x3 + (1 : Int32))
      have t19 : (x5 + (1 : Int32)).toInt = x5.toInt + (1 : Int) := ti_add (show -2147483648 ≤ x5.toInt + (1 : Int) by omega) (show x5.toInt + (1 : Int) ≤ 2147483647 by omega)
      exact ih _ _ (by omega) (by omega) (by omega)
    have C14 : z7.toInt ≤ x4.toInt := ti_nlt c14
    refine sf_ite (fun c20 => ?_) (fun c20 => ?_)
    · have C20 : z7.toInt = x4.toInt := ti_eq c20
      refine sf_ite (fun c21 => ?_) (fun c21 => ?_)
      · have C21 : x1.toInt ≤ x5.toInt := ti_le c21
        rw [j_X0_placeOf_58_e]
        have b22 := ti_lo x3
        have b23 := ti_hi x3
        have t24 : (x5 + (1 : Int32)).toInt = x5.toInt + (1 : Int) := ti_add (show -2147483648 ≤ x5.toInt + (1 : Int) by omega) (show x5.toInt + (1 : Int) ≤ 2147483647 by omega)
        exact ih _ _ (by omega) (by omega) (by omega)
      have C21 : x5.toInt < x1.toInt := ti_nle c21
      rw [j_X0_placeOf_55_e]
      rw [j_X0_placeOf_58_e]
      have b25 := ti_lo x3
      have b26 := ti_hi x3
      have b27 := ti_lo (x3 + (1 : Int32))
      have b28 := ti_hi (x3 + (1 : Int32))
      have t29 : (x5 + (1 : Int32)).toInt = x5.toInt + (1 : Int) := ti_add (show -2147483648 ≤ x5.toInt + (1 : Int) by omega) (show x5.toInt + (1 : Int) ≤ 2147483647 by omega)
      exact ih _ _ (by omega) (by omega) (by omega)
    have C20 : ¬ z7.toInt = x4.toInt := ti_ne c20
    rw [j_X0_placeOf_58_e]
    have b30 := ti_lo x3
    have b31 := ti_hi x3
    have t32 : (x5 + (1 : Int32)).toInt = x5.toInt + (1 : Int) := ti_add (show -2147483648 ≤ x5.toInt + (1 : Int) by omega) (show x5.toInt + (1 : Int) ≤ 2147483647 by omega)
    exact ih _ _ (by omega) (by omega) (by omega)
set_option maxHeartbeats 4000000 in
set_option maxRecDepth 100000 in
theorem s_X0_placeOf {F : Nat} (hF : 100000 ≤ F) {h : Nat} {x1 : Int32} {x2 : Int32} {τ : Mem} (hh : wt_isH h) (hI : wiX τ) (x1_1 : 0 ≤ x1.toInt) (x1_2 : x1.toInt ≤ 4) (x2_1 : 0 ≤ x2.toInt) (x2_2 : x2.toInt ≤ 7) : sf (f_X0_placeOf F h x1 x2 τ) (fun r s => s = τ ∧ -2147483648 ≤ r.toInt ∧ r.toInt ≤ 2147483647) := by
  have hc_h := wt_Hcs hh
  rw [f_X0_placeOf_e]
  refine sf_chk (ti_in (by omega) (by omega)) ?_
  have v1 : Int32.toNatClampNeg x1 = x1.toInt.toNat := rfl
  refine sf_chk (ti_in (by omega) (by omega)) ?_
  have v2 : Int32.toNatClampNeg x2 = x2.toInt.toNat := rfl
  have b4 := ti_lo (τ ((h + 11) + (Int32.toNatClampNeg x1)) (Int32.toNatClampNeg x2))
  have b5 := ti_hi (τ ((h + 11) + (Int32.toNatClampNeg x1)) (Int32.toNatClampNeg x2))
  refine sf_lt (fun z3 hz3 => ?_)
  have hz3_ : z3.toInt = (τ ((h + 11) + (Int32.toNatClampNeg x1)) (Int32.toNatClampNeg x2)).toInt := (show z3.toInt = (τ ((h + 11) + (Int32.toNatClampNeg x1)) (Int32.toNatClampNeg x2)).toInt from congrArg Int32.toInt hz3)
  have b6 := ti_lo z3
  have b7 := ti_hi z3
  have l_0 : (0 : Int32).toInt = 0 := rfl
  exact sl_X0_placeOf_15 hF hh hI (by omega) (by omega) (by omega) (by omega) _ _ _  (by omega) (by decide) (by decide)
set_option maxHeartbeats 4000000 in
set_option maxRecDepth 100000 in
theorem s_X1_add {F : Nat} (hF : 100000 ≤ F) {x1 : Int32} {τ : Mem} (hI : wiX τ) (x1_1 : 0 ≤ x1.toInt) (x1_2 : x1.toInt ≤ 255) : sf (f_X1_add F x1 τ) (fun _ s => wiX s ∧ (∀ k, 101 ≤ k → s k = τ k) ∧ s 0 7 = τ 0 7 ∧ True ∧ (((τ 83 1).toInt ≤ 95 → (s 83 1).toInt = (τ 83 1).toInt + 1) ∧ (96 ≤ (τ 83 1).toInt → (s 83 1).toInt = (τ 83 1).toInt))) := by
  have Fτ : ∀ k, 101 ≤ k → τ k = τ k := fun _ _ => rfl
  have O83_τ : τ 83 1 = τ 83 1 := rfl
  have O0_τ : τ 0 7 = τ 0 7 := rfl
  rw [f_X1_add_e]
  have m1 := wx_X1_1 hI
  refine sf_ite (fun c2 => ?_) (fun c2 => ?_)
  · have C2 : (τ 83 1).toInt < (0 : Int) := ti_lt c2
    exfalso; omega
  have C2 : (0 : Int) ≤ (τ 83 1).toInt := ti_nlt c2
  refine sf_ite (fun c3 => ?_) (fun c3 => ?_)
  · have C3 : (96 : Int) ≤ (τ 83 1).toInt := ti_le c3
    exact sf_ret ⟨hI, Fτ, O0_τ, trivial, (show ((τ 83 1).toInt ≤ 95 → (τ 83 1).toInt = (τ 83 1).toInt + 1) ∧ (96 ≤ (τ 83 1).toInt → (τ 83 1).toInt = (τ 83 1).toInt) from by omega)⟩
  have C3 : (τ 83 1).toInt < (96 : Int) := ti_nle c3
  refine sf_chk (ti_in (by omega) (by omega)) ?_
  have v4 : Int32.toNatClampNeg (τ 83 1) = (τ 83 1).toInt.toNat := rfl
  refine sf_lt (fun s5 hs5 => ?_)
  have Is5 : wiX s5 := by rw [hs5]; exact wx_oth hI (fun q hq e => by have := wt_Hcs hq; omega) (fun e => by omega) (fun e => by omega) (fun e => by omega)
  have Fs5 : ∀ k, 101 ≤ k → s5 k = τ k := fun k hk => (show s5 k = τ k by rw [hs5, up2_k (by omega)]).trans (Fτ k hk)
  have O83_s5 : s5 83 1 = τ 83 1 := (show s5 83 1 = τ 83 1 by rw [hs5, up2_k (by omega)]).trans O83_τ
  have O0_s5 : s5 0 7 = τ 0 7 := (show s5 0 7 = τ 0 7 by rw [hs5, up2_k (by omega)]).trans O0_τ
  refine sf_lt (fun s6 hs6 => ?_)
  have m7 := wx_X1_1 Is5
  have e8 : (s5 83 1).toInt = (τ 83 1).toInt := congrArg Int32.toInt (by rw [hs5, up2_k (by omega)])
  have t9 : ((s5 83 1) + (1 : Int32)).toInt = (s5 83 1).toInt + (1 : Int) := ti_add (show -2147483648 ≤ (s5 83 1).toInt + (1 : Int) by omega) (show (s5 83 1).toInt + (1 : Int) ≤ 2147483647 by omega)
  have Is6 : wiX s6 := by rw [hs6]; exact wx_put_X1_1 Is5 (by omega) (by omega)
  have Fs6 : ∀ k, 101 ≤ k → s6 k = τ k := fun k hk => (show s6 k = s5 k by rw [hs6, up2_k (by omega)]).trans (Fs5 k hk)
  have O0_s6 : s6 0 7 = τ 0 7 := (show s6 0 7 = s5 0 7 by rw [hs6, up2_k (by omega)]).trans O0_s5
  have m10 := wx_X1_1 Is6
  have e11 : (s6 83 1).toInt = ((s5 83 1) + (1 : Int32)).toInt := (show (s6 83 1).toInt = ((s5 83 1) + (1 : Int32)).toInt from congrArg Int32.toInt (by rw [hs6, up2_s]))
  exact sf_ret ⟨Is6, Fs6, O0_s6, trivial, (show ((τ 83 1).toInt ≤ 95 → (s6 83 1).toInt = (τ 83 1).toInt + 1) ∧ (96 ≤ (τ 83 1).toInt → (s6 83 1).toInt = (τ 83 1).toInt) from by omega)⟩
