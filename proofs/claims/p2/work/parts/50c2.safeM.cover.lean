set_option maxHeartbeats 4000000 in
set_option maxRecDepth 100000 in
theorem sl_X4_cover_21 {F : Nat} (hF : 73786976294838206464 ≤ F) {x1 : Int32} {τ : Mem} : ∀ (N : Nat) (x2 : Int32) (x3 : Int32) (σ : Mem), wiM σ → (∀ k, k < 101 → σ k = τ k) → σ 101 15 = τ 101 15 → σ 101 34 = τ 101 34 → σ 101 1 = τ 101 1 → σ 101 30 = τ 101 30 → σ 101 18 = τ 101 18 → x3.toInt + 1 < N → 0 ≤ x2.toInt → x2.toInt ≤ 63 → -1 ≤ x3.toInt → x3.toInt ≤ 63 → sf (lp_X4_cover_21 F x1 N x2 x3 σ) (fun r s => wiM s ∧ (∀ k, k < 101 → s k = τ k) ∧ s 101 15 = τ 101 15 ∧ s 101 34 = τ 101 34 ∧ s 101 1 = τ 101 1 ∧ s 101 30 = τ 101 30 ∧ s 101 18 = τ 101 18 ∧ 0 ≤ r.toInt ∧ r.toInt ≤ 63) := by
  intro N
  induction N with
  | zero => intro x2 x3 σ hI Fσ Of15_σ Of34_σ Of1_σ Of30_σ Of18_σ hN x2_1 x2_2 x3_1 x3_2; exfalso; omega
  | succ N ih =>
    intro x2 x3 σ hI Fσ Of15_σ Of34_σ Of1_σ Of30_σ Of18_σ hN x2_1 x2_2 x3_1 x3_2
    rw [lp_X4_cover_21_s]
    refine sf_ite (fun c1 => ?_) (fun c1 => ?_)
    · have C1 : x3.toInt < (0 : Int) := ti_lt c1
      exact sf_ret ⟨hI, Fσ, Of15_σ, Of34_σ, Of1_σ, Of30_σ, Of18_σ, by omega, by omega⟩
    have C1 : (0 : Int) ≤ x3.toInt := ti_nlt c1
    have b2 := ti_lo x1
    have b3 := ti_hi x1
    have l_0 : (0 : Int32).toInt = 0 := rfl
    exact sl_X4_cover_31 hF (by omega) (by omega) (by omega) (by omega) (by omega) ih _ _ _ _ hI Fσ Of15_σ Of34_σ Of1_σ Of30_σ Of18_σ (by omega) (by decide) (by decide)
