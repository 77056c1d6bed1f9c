theorem wtB_fld {x : Int32} {σ s : Mem} (hC : wtCar x 116 σ 188 s) {i : Nat} (h3 : i ≠ 1 ∧ i ≠ 3 ∧ i ≠ 8 ∧ i ≠ 9) (h4 : i < 25 ∨ 27 < i) : s 101 i = σ 101 i := wt_Car_fld (by unfold wiK; omega) hC h3 h4
theorem cm_image {F : Nat} (hF : 1000 ≤ F) {σ : Mem} : pc (f_X4_image F σ) (fun r s => (∀ p, p < 188 → s 116 p = wvM σ p) ∧ r = s 101 9 ∧ s 101 24 = 1 ∧ ∀ k i, k ≠ 116 → ¬ (k = 101 ∧ (i = 10 ∨ i = 24 ∨ (25 ≤ i ∧ i ≤ 27))) → s k i = σ k i) := by
  rw [f_X4_image_e]
  refine pc_lt (fun s1 h1 => pc_lt (fun s2 h2 => pc_bnd (sf_pc (wt_carryAll hF (Or.inr rfl) (by unfold wiK; omega))) (fun _ s4 q => pc_ret ?_)))
  have e2 : ∀ k i, ¬ (k = 101 ∧ (i = 10 ∨ i = 24)) → s2 k i = σ k i := fun k i h => by rw [h2, wm_key, if_neg (by omega), h1, wm_key, if_neg (by omega)]
  obtain ⟨q1, q2⟩ := q.2.2.2.1 (by decide)
  refine ⟨fun p hp => ?_, rfl, ?_, fun k i a b => ?_⟩
  · rw [q1 p hp]
    have h1 := wtJ_101 p hp
    exact e2 _ _ (fun w => by have := wtI_fld p hp w.1; omega)
  · rw [wtB_fld q (by decide) (by decide), h2, up2_s]
  · rw [q2 k i (fun w => b ⟨w.1, by have := w.2; omega⟩) (fun w => a w.1), e2 k i (fun w => b ⟨w.1, by omega⟩)]
theorem cm_restore {F : Nat} (hF : 1000 ≤ F) {σ : Mem} : pc (f_X4_restore F σ) (mR (if σ 101 24 = 0 then -3 else 0) (fun r s => (∀ p, p < 188 → wvM s p = σ 116 p) ∧ r = s 101 9 ∧ s 101 30 = 0 ∧ ag cIW σ s) σ) := by
  rw [f_X4_restore_e]
  refine pc_lt (fun s1 h1 => ?_)
  have k7 : ∀ k i, ¬ (k = 101 ∧ i = 10) → s1 k i = σ k i := by rw [h1]; exact th_k
  rw [k7 101 24 (by omega)]
  refine pc_ite (fun c => ?_) (fun c => ?_)
  · rw [if_pos c]; exact mR_ref (by decide) k7
  · rw [if_neg c]
    refine pc_bnd (sf_pc (wt_carryAll hF (Or.inl rfl) (by unfold wiK; omega))) (fun _ s4 q => pc_lt (fun s5 h5 => pc_ret ⟨fun _ => ⟨fun p hp => ?_, ?_, by rw [h5, up2_s], fun k i hc => ?_⟩, fun n => absurd rfl n⟩))
    · rw [h5, wvM_no (by omega) (by omega) hp]
      exact ((q.2.2.2.2 rfl).1 p hp).trans (k7 116 p (by omega))
    · rfl
    · obtain ⟨a1, a2, a3, a4, a5⟩ := wcid_cIW hc
      rw [h5, wm_key, if_neg (fun w => a4 ⟨w.1, by have := w.2; omega⟩)]
      have hcc : ¬ (k = 101 ∧ (i = 1 ∨ i = 3 ∨ i = 8 ∨ i = 9)) := fun w => by
        obtain ⟨rfl, w⟩ := w
        unfold cIW cI cL cW at hc
        rw [show wcid 101 i = 1000 + i from rfl] at hc
        omega
      rw [(q.2.2.2.2 rfl).2 k i a3 (fun p hp w => by
        obtain ⟨rfl, rfl⟩ := w
        have h1 := wtJ_101 p hp
        by_cases e : wtJ p = 101
        · exact hcc ⟨e, wtI_fld p hp e⟩
        · exact a5 (by omega)), k7 k i (fun w => a4 ⟨w.1, by omega⟩)]
theorem cm_back {F : Nat} (hF : 73786976294838206464 ≤ F) {σ : Mem} (hM : wiM σ) : pc (f_X4_back F σ) (mR (if (σ 101 30).toInt = 0 then -3 else 0) (fun r s => r = s 101 30 ∧ (s 101 30).toInt = (σ 101 30).toInt - 1 ∧ (∀ p, p < 188 → wvM s p = σ 117 (188 * ((σ 101 30).toNatClampNeg - 1) + p)) ∧ s 117 = σ 117 ∧ ag cIW σ s) σ) := by
  rw [f_X4_back_e]
  have b := wx_X4_30 hM
  refine pc_lt (fun s6 h6 => ?_)
  have k7 : ∀ k i, ¬ (k = 101 ∧ i = 10) → s6 k i = σ k i := by rw [h6]; exact th_k
  have I6 : wiM s6 := by rw [h6]; exact wm_fld hM (by decide) (by decide) (by decide) (by decide) (by decide) (by decide) (by decide)
  have u6 : s6 101 30 = σ 101 30 := k7 _ _ (by omega)
  refine pc_ite (fun c => ?_) (fun c => ?_)
  · have d := ti_eq c
    rw [u6, tz_0] at d
    rw [if_pos d]; exact mR_ref (by decide) k7
  have d := ti_ne c
  rw [u6, tz_0] at d
  rw [if_neg d]
  refine pc_lt (fun s7 h7 => ?_)
  have e7 : (s6 101 30 - 1).toInt = (σ 101 30).toInt - 1 := by rw [ti_sub (by rw [u6, tz_1]; omega) (by rw [u6, tz_1]; omega), u6, tz_1]
  have en := ti_nat (σ 101 30)
  refine pc_mono (sf_pc (wt_bk_31 (τ := s6) (t := (σ 101 30).toNatClampNeg - 1) (by omega) (by omega) (by rw [h7, up2_s, e7]; omega) (fun j i h => by rw [h7, wm_key, if_neg h]) F 0 (0 : Int32) s7 rfl (by omega) (by omega) (by rw [h7]; exact wx_put_X4_30 I6 (by omega) (by omega)) (fun _ _ _ => rfl) (fun p hp => by omega))) (fun r s h => ?_)
  obtain ⟨g0, g1, g2, g3, g4⟩ := h
  refine ⟨fun _ => ⟨Int32.toInt_inj.mp (by rw [g0, g1]), by rw [g1]; omega, fun p hp => ?_, ?_, fun k i hc => ?_⟩, fun n => absurd rfl n⟩
  · show s (wtJ p) (wtI p) = _
    rw [g2 p hp, k7 117 _ (by omega)]
  · funext i
    rw [g3 117 i (by decide) (fun w => by have := w.1; omega) (by omega) (fun p hp w => by have := wtJ_101 p hp; omega), k7 117 i (by omega)]
  · obtain ⟨a1, a2, a3, a4, a5⟩ := wcid_cIW hc
    have hcc : ¬ (k = 101 ∧ (i = 1 ∨ i = 3 ∨ i = 8 ∨ i = 9)) := fun w => by
      obtain ⟨rfl, w⟩ := w
      unfold cIW cI cL cW at hc
      rw [show wcid 101 i = 1000 + i from rfl] at hc
      omega
    rw [g3 k i a2 a3 (fun w => a4 ⟨w.1, by omega⟩) (fun p hp w => by
      obtain ⟨rfl, rfl⟩ := w
      have h1 := wtJ_101 p hp
      by_cases e : wtJ p = 101
      · exact hcc ⟨e, wtI_fld p hp e⟩
      · exact a5 (by omega)), k7 k i (fun w => a4 ⟨w.1, by omega⟩)]
theorem cm_days {F : Nat} (hF : 1000 ≤ F) {x : Int32} {σ : Mem} (hv : wvV (wvM σ)) : pc (f_X4_days F x σ) (mR (eDays (σ 101 9) x) (fun r s => (∀ p, p < 188 → wvM s p = aDay (wvM σ) x p) ∧ s 101 30 = 0) σ) := by
  rw [f_X4_days_e]
  refine pc_lt (fun s7 h7 => pc_be mx_wrongN ?_)
  simp only [j_X4_days_34_e, j_X4_days_35_e]
  have k7 : ∀ k i, ¬ (k = 101 ∧ i = 10) → s7 k i = σ k i := by rw [h7]; exact th_k
  have e7 : s7 101 9 = σ 101 9 := k7 _ _ (by omega)
  have hV7 : ∀ p, p < 188 → wvM s7 p = wvM σ p := fun p hp => by rw [h7]; exact th_V hp
  have hG : ∀ e, e = eDays (σ 101 9) x → pc (if 0 ≤ e then (wt_bnd (f_X4_goDays F x s7) fun r1 s2 => wt_lt (up2 s2 101 30 (0 : Int32)) fun s3 => wt_bnd (f_X4_owned F s3) fun r4 s5 => some (r4, s5)) else wt_bnd (f_X4_refuse F e s7) fun r s => some (r, s)) (mR (eDays (σ 101 9) x) (fun r s => (∀ p, p < 188 → wvM s p = aDay (wvM σ) x p) ∧ s 101 30 = 0) σ) := fun e he => by
    subst he
    refine mR_end (sg_cF sg_cN (sg_i (by decide))) k7 (fun e => pc_bnd (mx_goDays hF (wvV_cg hv hV7)) (fun _ s2 q => pc_lt (fun s3 h3 => pc_bnd (pc_pf (fr_X4_owned hF)) (fun r s f => pc_ret ⟨fun p hp => ?_, ?_⟩))))
    · rw [wvM_fr f (fun c hc => by show ¬ _; unfold wf_48; omega) (by omega), h3, wvM_no (by omega) (by omega) (by omega), q p hp]
      exact aDay_cg hv hV7 hp
    · rw [f 101 30 (fun w => by revert w; show ¬ _; unfold wf_48; rw [show wcid 101 30 = 1030 from rfl]; omega), h3, up2_s]
  by_cases c1 : cN x 1 99 = 0
  · rw [if_pos c1, e7]
    by_cases c2 : σ 101 9 + x ≤ 9999
    · rw [if_pos c2]
      refine hG _ ?_
      unfold eDays cF
      have := ti_le c2
      rw [tz_9999] at this
      rw [if_pos c1, if_pos this, c1]
    · rw [if_neg c2]
      refine hG _ ?_
      unfold eDays cF
      have := ti_nle c2
      rw [tz_9999] at this
      rw [if_pos c1, if_neg (by omega)]
  · rw [if_neg c1]
    refine hG _ ?_
    unfold eDays cF
    rw [if_neg c1]
