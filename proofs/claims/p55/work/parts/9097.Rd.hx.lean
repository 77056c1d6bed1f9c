theorem kx_ahead {F : Nat} (hF : 1000 ≤ F) {x1 x2 : Int32} {σ : Mem} {V : Nat → Int32} (h : vH 1 V σ) : pc (f_X3_ahead F x1 x2 σ) (fun _ z => z 86 = wB (σ 86) (akAhead V x1 x2)) := by
  rw [f_X3_ahead_e]
  refine pc_be (qx_noPair (kX_H h)) ?_
  unfold akAhead
  refine kq_end (fun _ => ?_)
  have f_σ : fr kW σ σ := fr_rf
  refine pf_bnd (fr_X0_reckon hF wt_h1) (kw_X0_reckon_1) f_σ (fun r1 s2 f_s2 => ?_)
  exact gl_X3_ahead_27 hF _ _ _ f_s2
theorem kx_bestLaw {F : Nat} (hF : 1000 ≤ F) {x1 x2 : Int32} {σ : Mem} {V : Nat → Int32} (h : vH 1 V σ) : pc (f_X3_bestLaw F x1 x2 σ) (fun _ z => z 86 = wB (σ 86) (akBestLaw V x1 x2)) := by
  rw [f_X3_bestLaw_e, f_X3_noLookerFar_e]
  refine pc_be (by rw [wt_bnd_eq (ax_noLooker (by rw [vH_2 h]; exact h.1.2.1.2)), wt_bnd_eq ax_outside, wt_bnd_eq ax_firstOf]) ?_
  rw [vH_2 h]
  unfold akBestLaw
  refine kq_end (fun _ => ?_)
  have f_σ : fr kW σ σ := fr_rf
  refine pf_bnd (fr_X0_takeFrom hF wt_h24 wt_h1) (kw_X0_takeFrom_24) f_σ (fun r1 s2 f_s2 => ?_)
  refine pf_bnd (fr_X0_reckon hF wt_h24) (kw_X0_reckon_24) f_s2 (fun r3 s4 f_s4 => ?_)
  exact gl_X3_bestLaw_44 hF _ _ _ _ _ f_s4
theorem kx_bestPane {F : Nat} (hF : 1000 ≤ F) {x1 x2 x3 x4 : Int32} {σ : Mem} {V : Nat → Int32} (h : vH 1 V σ) : pc (f_X3_bestPane F x1 x2 x3 x4 σ) (fun _ z => z 86 = wB (σ 86) (akBestPane V x1 x2 x3 x4)) := by
  have h5 := h.1.2.1.2
  have h6 := h.1.1
  rw [f_X3_bestPane_e]
  refine pc_be (ax_noLooker (by rw [vH_2 h]; exact h5)) (pc_be ax_noHour (pc_be ax_firstOf (pc_be ax_outside (pc_be ax_firstOf (pc_be ax_notBelow (pc_be ax_firstOf ?_))))))
  rw [vH_2 h]
  unfold akBestPane
  refine kq_end (fun _ => ?_)
  have f_σ : fr kW σ σ := fr_rf
  refine pf_bnd (fr_X0_takeFrom hF wt_h24 wt_h1) (kw_X0_takeFrom_24) f_σ (fun r1 s2 f_s2 => ?_)
  exact gl_X3_bestPane_71 hF _ _ _ _ _ f_s2
theorem kx_busy {F : Nat} (hF : 1000 ≤ F) {x1 : Int32} {σ : Mem} {V : Nat → Int32} (h : vX V σ) : pc (f_X3_busy F x1 σ) (fun _ z => z 86 = wB (σ 86) (akBusy V x1)) := by
  rw [f_X3_busy_e]
  refine pc_be ax_notBelow ?_
  unfold akBusy
  refine kq_end (fun _ => ?_)
  have f_σ : fr kW σ σ := fr_rf
  exact gl_X3_busy_24 hF _ _ _ _ _ f_σ
theorem kx_counts {F : Nat} (hF : 1000 ≤ F) {x1 x2 x3 : Int32} {σ : Mem} {V : Nat → Int32} (h : vH 1 V σ) : pc (f_X3_counts F x1 x2 x3 σ) (fun _ z => z 86 = wB (σ 86) (akCounts V x1 x2 x3)) := by
  rw [f_X3_counts_e]
  refine pc_be (ax_noLooker (by rw [vH_2 h]; exact h.1.2.1.2)) (pc_be ax_noView (pc_be ax_firstOf (pc_be ax_notBelow (pc_be ax_firstOf ?_))))
  rw [vH_2 h]
  unfold akCounts
  refine kq_end (fun _ => ?_)
  have f_σ : fr kW σ σ := fr_rf
  refine pf_bnd (fr_X0_reckon hF wt_h1) (kw_X0_reckon_1) f_σ (fun r1 s2 f_s2 => ?_)
  refine pf_ite ?_ ?_
  · refine pf_chk (fun v3 => ?_)
    refine pf_chk (fun v4 => ?_)
    exact pf_ret f_s2
  · refine pf_chk (fun v5 => ?_)
    refine pf_chk (fun v6 => ?_)
    exact pf_ret f_s2
theorem kx_days {F : Nat} (hF : 1000 ≤ F) {x : Int32} {σ : Mem} {V : Nat → Int32} (h : vH 1 V σ) : pc (f_X3_days F x σ) (fun _ z => z 86 = wB (σ 86) (akDays V x)) := by
  rw [f_X3_days_e]
  refine pc_be ax_outside ?_
  simp only [j_X3_days_30_e]
  rw [vH_9 h]
  have key : ∀ e, e = eDays (V 3) x → pc (if e = 0 then (wt_bnd (f_X0_pass F 1 x σ) fun r1 s2 => wt_bnd (f_X2_forget F s2) fun r3 s4 => wt_bnd (f_X0_held F 1 (0 : Int32) s4) fun r5 s6 => wt_bnd (f_J6_bitCount_0f7a4 F r5 s6) fun r7 s8 => some (r7, s8)) else wt_bnd (f_X3_refuse F e σ) fun r9 s10 => some (r9, s10)) (fun _ z => z 86 = wB (σ 86) (akDays V x)) := fun e he => by
    subst he
    unfold akDays
    refine kq_end (fun _ => ?_)
    have f_σ : fr kW σ σ := fr_rf
    refine pf_bnd (fr_X0_pass hF wt_h1) (kw_X0_pass_1) f_σ (fun r1 s2 f_s2 => ?_)
    refine pf_bnd (fr_X2_forget hF) (kw_X2_forget) f_s2 (fun r3 s4 f_s4 => ?_)
    refine pf_bnd (fr_X0_held hF wt_h1) (fun _ h => h.elim) f_s4 (fun r5 s6 f_s6 => ?_)
    refine pf_bnd (fr_J6_bitCount_0f7a4 hF) (fun _ h => h.elim) f_s6 (fun r7 s8 f_s8 => ?_)
    exact pf_ret f_s8
  by_cases c1 : cN x 1 99 = 0
  · rw [if_pos c1]
    by_cases c2 : V 3 + x ≤ 9999
    · rw [if_pos c2]
      refine key _ ?_
      unfold eDays cF
      have := ti_le c2
      rw [tz_9999] at this
      rw [if_pos c1, if_pos this, c1]
    · rw [if_neg c2]
      refine key _ ?_
      unfold eDays cF
      have := ti_nle c2
      rw [tz_9999] at this
      rw [if_pos c1, if_neg (by omega)]
  · rw [if_neg c1]
    refine key _ ?_
    unfold eDays cF
    rw [if_neg c1]
theorem kx_duels {F : Nat} (hF : 1000 ≤ F) {x1 x2 : Int32} {σ : Mem} {V : Nat → Int32} (h : vH 1 V σ) : pc (f_X3_duels F x1 x2 σ) (fun _ z => z 86 = wB (σ 86) (akDuels V x1 x2)) := by
  rw [f_X3_duels_e]
  refine pc_be (qx_noPair (kX_H h)) ?_
  unfold akDuels
  refine kq_end (fun _ => ?_)
  have f_σ : fr kW σ σ := fr_rf
  refine pf_bnd (fr_X0_reckon hF wt_h1) (kw_X0_reckon_1) f_σ (fun r1 s2 f_s2 => ?_)
  exact gl_X3_duels_30 hF _ _ _ _ f_s2
theorem kx_even {F : Nat} (hF : 1000 ≤ F) {x1 : Int32} {σ : Mem} {V : Nat → Int32} (h : vH 1 V σ) : pc (f_X3_even F x1 σ) (fun _ z => z 86 = wB (σ 86) (akEven V x1)) := by
  have h5 := h.1.2.1
  have n1 := ti_nat (V 1)
  rw [f_X3_even_e]
  refine pc_be ax_outside ?_
  unfold akEven
  refine kq_end (fun _ => ?_)
  have f_σ : fr kW σ σ := fr_rf
  refine pf_bnd (fr_X0_reckon hF wt_h1) (kw_X0_reckon_1) f_σ (fun r1 s2 f_s2 => ?_)
  exact gl_X3_even_31 hF _ _ _ _ f_s2
theorem kx_freeHours {F : Nat} (hF : 1000 ≤ F) {x1 x2 : Int32} {σ : Mem} {V : Nat → Int32} (h : vH 1 V σ) : pc (f_X3_freeHours F x1 x2 σ) (fun _ z => z 86 = wB (σ 86) (akFreeHours V x1 x2)) := by
  have h5 := h.1.2.1.2
  rw [f_X3_freeHours_e, f_X3_noLookerFar_e]
  refine pc_be (by rw [wt_bnd_eq (ax_noLooker (by rw [vH_2 h]; exact h5)), wt_bnd_eq ax_outside, wt_bnd_eq ax_firstOf]) ?_
  rw [vH_2 h]
  unfold akFreeHours
  refine kq_end (fun _ => ?_)
  have f_σ : fr kW σ σ := fr_rf
  refine pf_bnd (fr_X0_reckon hF wt_h1) (kw_X0_reckon_1) f_σ (fun r1 s2 f_s2 => ?_)
  refine pf_bnd (fr_X0_takeFrom hF wt_h24 wt_h1) (kw_X0_takeFrom_24) f_s2 (fun r3 s4 f_s4 => ?_)
  refine pf_bnd (fr_X0_holdings hF wt_h1) (fun _ h => h.elim) f_s4 (fun r5 s6 f_s6 => ?_)
  exact gl_X3_freeHours_52 hF _ _ _ _ f_s6
theorem kx_from {F : Nat} (hF : 1000 ≤ F) {x1 x2 : Int32} {σ : Mem} {V : Nat → Int32} (h : vH 1 V σ) : pc (f_X3_from F x1 x2 σ) (fun _ z => z 86 = wB (σ 86) (akFrom V x1 x2)) := by
  rw [f_X3_from_e]
  refine pc_be (ax_noLooker (by rw [vH_2 h]; exact h.1.2.1.2)) (pc_be ax_noView (pc_be ax_firstOf ?_))
  rw [vH_2 h]
  unfold akFrom
  refine kq_end (fun _ => ?_)
  have f_σ : fr kW σ σ := fr_rf
  refine pf_bnd (fr_X0_reckon hF wt_h1) (kw_X0_reckon_1) f_σ (fun r1 s2 f_s2 => ?_)
  exact gl_X3_from_33 hF _ _ _ f_s2
theorem kx_gap {F : Nat} (hF : 1000 ≤ F) {x1 x2 : Int32} {σ : Mem} {V : Nat → Int32} (h : vH 1 V σ) : pc (f_X3_gap F x1 x2 σ) (fun _ z => z 86 = wB (σ 86) (akGap V x1 x2)) := by
  rw [f_X3_gap_e]
  refine pc_be ax_noView (pc_be ax_outside (pc_be ax_firstOf ?_))
  unfold akGap
  refine kq_end (fun _ => ?_)
  have f_σ : fr kW σ σ := fr_rf
  refine pf_bnd (fr_X0_reckon hF wt_h1) (kw_X0_reckon_1) f_σ (fun r1 s2 f_s2 => ?_)
  exact gl_X3_gap_42 hF _ _ _ _ _ f_s2
theorem kx_heir {F : Nat} (hF : 1000 ≤ F) {x1 x2 x3 : Int32} {σ : Mem} {V : Nat → Int32} (h : vH 1 V σ) : pc (f_X3_heir F x1 x2 x3 σ) (fun _ z => z 86 = wB (σ 86) (akHeir V x1 x2 x3)) := by
  have h5 := h.1.2.1.2
  rw [f_X3_heir_e]
  refine pc_be (ax_noLooker (by rw [vH_2 h]; exact h5)) (pc_be ax_noView (pc_be ax_firstOf (pc_be ax_outside (pc_be ax_firstOf ?_))))
  rw [vH_2 h]
  unfold akHeir
  refine kq_end (fun _ => ?_)
  have f_σ : fr kW σ σ := fr_rf
  refine pf_bnd (fr_X0_takeFrom hF wt_h24 wt_h1) (kw_X0_takeFrom_24) f_σ (fun r1 s2 f_s2 => ?_)
  refine pf_bnd (fr_X0_post hF wt_h24) (kw_X0_post_24) f_s2 (fun r3 s4 f_s4 => ?_)
  exact gl_X3_heir_65 hF _ _ _ f_s4
theorem kx_ill {F : Nat} (hF : 1000 ≤ F) {x1 x2 x3 x4 x5 : Int32} {σ : Mem} {V : Nat → Int32} (h : vH 1 V σ) : pc (f_X3_ill F x1 x2 x3 x4 x5 σ) (fun _ z => z 86 = wB (σ 86) (akIll V x1 x2 x3 x4 x5)) := by
  have h5 := h.1.2.1
  rw [f_X3_ill_e]
  refine pc_be (ax_noLooker (by rw [vH_2 h]; exact h5.2)) (pc_be ax_noView (pc_be ax_firstOf ?_))
  rw [vH_2 h]
  simp only [j_X3_ill_29_e, j_X3_ill_33_e, j_X3_ill_51_e]
  have J : ∀ t : Int32, t = cF (cF (cB (0 ≤ x1.toInt ∧ x1.toInt < (V 1).toInt)) (cB (0 ≤ x2.toInt ∧ x2.toInt ≤ 7))) (kIL x3 x4) → pc (j_X3_ill_55 F x1 x2 x3 x4 x5 t σ) (fun _ z => z 86 = wB (σ 86) (akIll V x1 x2 x3 x4 x5)) := fun t ht => by
    rw [j_X3_ill_55_e]
    refine pc_be ax_notBelow (pc_be ax_firstOf ?_)
    unfold akIll
    rw [← ht]
    refine kqL_end (fun _ => ?_)
    have f_σ : fr kW σ σ := fr_rf
    refine pf_bnd (fr_X0_reckon hF wt_h1) (kw_X0_reckon_1) f_σ (fun r1 s2 f_s2 => ?_)
    refine pf_bnd (fr_X0_takeFrom hF wt_h24 wt_h1) (kw_X0_takeFrom_24) f_s2 (fun r3 s4 f_s4 => ?_)
    refine pf_bnd (fr_X0_reckon hF wt_h24) (kw_X0_reckon_24) f_s4 (fun r5 s6 f_s6 => ?_)
    exact gl_X3_ill_117 hF _ _ _ _ _ _ f_s6
  by_cases c0 : cF (cB (0 ≤ x1.toInt ∧ x1.toInt < (V 1).toInt)) (cB (0 ≤ x2.toInt ∧ x2.toInt ≤ 7)) = 0
  · rw [c0]
    rw [c0, cF_z] at J
    refine pc_ite (fun _ => pc_ite (fun c1 => ?_) (fun c1 => pc_ite (fun c2 => ?_) (fun c2 => ?_))) (fun n => absurd rfl n)
    · exact pc_ite (fun w => absurd w (by decide)) (fun _ => J _ (if_pos (Or.inl c1)).symm)
    · have l : kIL x3 x4 = if 8 < x3 ∨ ¬ x4 ≤ 20 then -6 else 0 := if_neg (fun w => w.elim c1 (fun q => q c2))
      refine pc_ite (fun _ => pc_ite (fun c3 => J _ ?_) (fun c3 => pc_ite (fun c4 => J _ ?_) (fun c4 => J _ ?_))) (fun n => absurd rfl n)
      · rw [l, if_pos (Or.inl c3)]
      · rw [l, if_neg (fun w => w.elim c3 (fun q => q c4))]
      · rw [l, if_pos (Or.inr c4)]
    · exact pc_ite (fun w => absurd w (by decide)) (fun _ => J _ (if_pos (Or.inr c2)).symm)
  · rw [cF_n c0] at J
    exact pc_ite (fun w => absurd w c0) (fun _ => pc_ite (fun w => absurd w c0) (fun _ => J _ rfl))
theorem kx_joint {F : Nat} (hF : 1000 ≤ F) {x1 x2 x3 : Int32} {σ : Mem} {V : Nat → Int32} (h : vH 1 V σ) : pc (f_X3_joint F x1 x2 x3 σ) (fun _ z => z 86 = wB (σ 86) (akStaredOut V x1 x2 x3)) := by
  rw [f_X3_joint_e, f_X3_noPairFar_e]
  refine pc_be (by rw [wt_bnd_eq (qx_noPair (kX_H h)), wt_bnd_eq ax_outside, wt_bnd_eq ax_firstOf]) ?_
  unfold akStaredOut
  refine kq_end (fun _ => ?_)
  have f_σ : fr kW σ σ := fr_rf
  refine pf_bnd (fr_X0_reckon hF wt_h1) (kw_X0_reckon_1) f_σ (fun r1 s2 f_s2 => ?_)
  exact gl_X3_joint_34 hF _ _ _ _ f_s2
theorem kx_judge {F : Nat} (hF : 1000 ≤ F) {x1 : Int32} {σ : Mem} {V : Nat → Int32} (h : vH 1 V σ) (hn : 0 ≤ (σ 0 7).toInt ∧ (σ 0 7).toInt ≤ 12) : pc (f_X3_judge F x1 σ) (fun _ z => z 86 = wB (σ 86) (akJudge V x1 (σ 0 7) (σ 85))) := by
  rw [f_X3_judge_e]
  refine pc_be ax_isView ?_
  unfold akJudge
  have m1 := ti_nat (σ 0 7)
  by_cases c : 0 ≤ x1.toInt ∧ x1.toInt ≤ 7
  · rw [if_pos c, if_neg (by decide), cB_t c, cF_z]
    refine kx_leaf ?_
    have f_σ : fr kW σ σ := fr_rf
    refine pf_bnd (fr_X0_reckon hF wt_h1) (kw_X0_reckon_1) f_σ (fun r1 s2 f_s2 => ?_)
    exact gl_X3_judge_25 hF _ _ _ _ f_s2
  · rw [if_neg c, if_pos rfl, cB_f c]
    exact kx_ref (cF_n (by decide)) (by decide)
theorem kx_lookerOf {F : Nat} (hF : 1000 ≤ F) {x1 x2 : Int32} {σ : Mem} {V : Nat → Int32} (h : vH 1 V σ) : pc (f_X3_lookerOf F x1 x2 σ) (fun _ z => z 86 = wB (σ 86) (akLookerOf V x1 x2)) := by
  have h5 := h.1.2.1.2
  rw [f_X3_lookerOf_e]
  refine pc_be (ax_noLooker (by rw [vH_2 h]; exact h5)) (pc_be ax_notBelow (pc_be ax_firstOf ?_))
  rw [vH_2 h]
  unfold akLookerOf
  refine kq_end (fun _ => ?_)
  have f_σ : fr kW σ σ := fr_rf
  refine pf_ite ?_ ?_
  · refine pf_chk (fun v1 => ?_)
    exact pf_ret f_σ
  · refine pf_ite ?_ ?_
    · refine pf_chk (fun v2 => ?_)
      exact pf_ret f_σ
    · refine pf_ite ?_ ?_
      · refine pf_bnd (fr_X0_hoursOf hF wt_h1) (fun _ h => h.elim) f_σ (fun r3 s4 f_s4 => ?_)
        exact pf_ret f_s4
      · refine pf_bnd (fr_X0_reckon hF wt_h1) (kw_X0_reckon_1) f_σ (fun r5 s6 f_s6 => ?_)
        refine pf_bnd (fr_X0_holdings hF wt_h1) (fun _ h => h.elim) f_s6 (fun r7 s8 f_s8 => ?_)
        exact pf_ret f_s8
theorem kx_lost {F : Nat} (hF : 1000 ≤ F) {x1 : Int32} {σ : Mem} {V : Nat → Int32} (h : vH 1 V σ) : pc (f_X3_lost F x1 σ) (fun _ z => z 86 = wB (σ 86) (akLost V x1)) := by
  rw [f_X3_lost_e]
  refine pc_be ax_isView ?_
  unfold akLost
  by_cases c : 0 ≤ x1.toInt ∧ x1.toInt ≤ 7
  · rw [if_pos c, if_neg (by decide), cB_t c, cF_z]
    have n1 := ti_nat x1
    refine pc_bnd (pc_and (qx_reckon h) (pc_pf (fr_X0_reckon hF wt_h1))) (fun _ s q => pc_bnd (qx_hold q.1 (v := x1.toNatClampNeg) (by omega) (by omega)) (fun r z w => ?_))
    have hb : s 86 = σ 86 := (kW_fr (fr_tr (W := kW) fr_rf q.2 kw_X0_reckon_1)).1
    rw [w.1, w.2]
    refine pc_ite (fun e => kb_ref hb ?_ (by decide)) (fun e => ?_)
    · rw [if_pos e]
    · rw [if_neg e]
      refine kb_leaf hb ?_
      have f_s : fr kW s s := fr_rf
      exact gl_X3_lost_45 hF _ _ _ f_s
  · rw [if_neg c, if_pos rfl, cB_f c]
    exact kx_ref (cF_n (by decide)) (by decide)
theorem kx_lots {F : Nat} (hF : 1000 ≤ F) {x1 x2 x3 : Int32} {σ : Mem} {V : Nat → Int32} (h : vH 1 V σ) : pc (f_X3_lots F x1 x2 x3 σ) (fun _ z => z 86 = wB (σ 86) (akLots V x1 x2 x3)) := by
  rw [f_X3_lots_e]
  refine pc_be ax_outside (pc_be ax_notBelow (pc_be ax_firstOf ?_))
  rw [vH_0 h]
  unfold akLots
  refine kq_end (fun _ => ?_)
  have f_σ : fr kW σ σ := fr_rf
  refine pf_ite ?_ ?_
  · exact pf_ret f_σ
  · refine pf_bnd (fr_X0_takeFrom hF wt_h24 wt_h1) (kw_X0_takeFrom_24) f_σ (fun r1 s2 f_s2 => ?_)
    exact gl_X3_lots_61 hF _ _ _ _ _ f_s2
theorem kx_moreHours {F : Nat} (hF : 1000 ≤ F) {x1 x2 x3 : Int32} {σ : Mem} {V : Nat → Int32} (h : vH 1 V σ) : pc (f_X3_moreHours F x1 x2 x3 σ) (fun _ z => z 86 = wB (σ 86) (akMoreHours V x1 x2 x3)) := by
  have h5 := h.1.2.1.2
  rw [f_X3_moreHours_e]
  refine pc_be (ax_noLooker (by rw [vH_2 h]; exact h5)) (pc_be ax_noView (pc_be ax_firstOf (pc_be ax_outside (pc_be ax_firstOf ?_))))
  rw [vH_2 h]
  simp only [j_X3_moreHours_83_e]
  unfold akMoreHours
  refine kq_end (fun _ => ?_)
  have f_σ : fr kW σ σ := fr_rf
  refine pf_bnd (fr_X0_reckon hF wt_h1) (kw_X0_reckon_1) f_σ (fun r1 s2 f_s2 => ?_)
  refine pf_bnd (fr_X0_holder hF wt_h1) (fun _ h => h.elim) f_s2 (fun r3 s4 f_s4 => ?_)
  refine pf_ite ?_ ?_
  · exact pf_ret f_s4
  · refine pf_bnd (fr_X0_timesShown hF wt_h1) (fun _ h => h.elim) f_s4 (fun r5 s6 f_s6 => ?_)
    refine pf_ite ?_ ?_
    · try rw [j_X3_moreHours_83_e]
      exact pf_ret f_s6
    · refine pf_chk (fun v7 => ?_)
      refine pf_ite ?_ ?_
      · try rw [j_X3_moreHours_83_e]
        exact pf_ret f_s6
      · refine pf_bnd (fr_X3_hoursUntilOwned hF) (kw_X3_hoursUntilOwned) f_s6 (fun r8 s9 f_s9 => ?_)
        exact pf_ret f_s9
theorem kx_mostSeen {F : Nat} (hF : 1000 ≤ F) {x1 : Int32} {σ : Mem} {V : Nat → Int32} (h : vH 1 V σ) : pc (f_X3_mostSeen F x1 σ) (fun _ z => z 86 = wB (σ 86) (akMostSeen V x1)) := by
  rw [f_X3_mostSeen_e]
  refine pc_be ax_notBelow ?_
  unfold akMostSeen
  refine kq_end (fun _ => ?_)
  have f_σ : fr kW σ σ := fr_rf
  refine pf_bnd (fr_X0_reckon hF wt_h1) (kw_X0_reckon_1) f_σ (fun r1 s2 f_s2 => ?_)
  exact gl_X3_mostSeen_31 hF _ _ _ _ _ f_s2
theorem kx_newcomer {F : Nat} (hF : 1000 ≤ F) {x1 x2 x3 : Int32} {σ : Mem} {V : Nat → Int32} (h : vH 1 V σ) : pc (f_X3_newcomer F x1 x2 x3 σ) (fun _ z => z 86 = wB (σ 86) (akNewcomer V x1 x2 x3)) := by
  have h5 := h.1.2.1
  have m1 := ti_nat (V 1)
  have t5 : (5 : Int32).toInt = 5 := rfl
  rw [f_X3_newcomer_e]
  refine pc_be (ax_noPane (by rw [vH_0 h]; exact h.1.1.2)) (pc_be ax_notBelow (pc_be ax_notBelow (pc_be ax_firstOf (pc_be ax_firstOf ?_))))
  rw [vH_0 h, vH_2 h]
  simp only [j_X3_newcomer_44_e]
  have J : ∀ t : Int32, t = cF (cF (cB (0 ≤ x2.toInt ∧ x2.toInt < (V 0).toInt)) (cF (cO x1 6) (cO x3 2))) (kS5 V) → pc (if t = 0 then (wt_bnd (f_X0_takeFrom F 24 1 σ) fun _ s4 => wt_bnd (f_X0_addLooker F 24 x1 5 s4) fun _ s6 => wt_lt ((s6 24 2) - 1) fun z7 => wt_bnd (f_X0_post F 24 z7 0 23 x2 s6) fun _ s9 => wt_bnd (f_X0_reckon F 24 s9) fun _ s11 => lp_X3_newcomer_112 F x3 z7 F 0 s11) else wt_bnd (f_X3_refuse F t σ) fun r s => some (r, s)) (fun _ z => z 86 = wB (σ 86) (akNewcomer V x1 x2 x3)) := fun t ht => by
    subst ht
    unfold akNewcomer
    refine kq_end (fun _ => ?_)
    have f_σ : fr kW σ σ := fr_rf
    refine pf_bnd (fr_X0_takeFrom hF wt_h24 wt_h1) (kw_X0_takeFrom_24) f_σ (fun r1 s2 f_s2 => ?_)
    refine pf_bnd (fr_X0_addLooker hF wt_h24) (kw_X0_addLooker_24) f_s2 (fun r3 s4 f_s4 => ?_)
    refine pf_lt (fun z5 _ => ?_)
    refine pf_bnd (fr_X0_post hF wt_h24) (kw_X0_post_24) f_s4 (fun r6 s7 f_s7 => ?_)
    refine pf_bnd (fr_X0_reckon hF wt_h24) (kw_X0_reckon_24) f_s7 (fun r8 s9 f_s9 => ?_)
    exact gl_X3_newcomer_112 hF _ _ _ f_s9
  have e0 : ∀ t : Int32, t = cF (cB (0 ≤ x2.toInt ∧ x2.toInt < (V 0).toInt)) (cF (cO x1 6) (cO x3 2)) → pc (if t = 0 then (if V 1 < 5 then (if t = 0 then (wt_bnd (f_X0_takeFrom F 24 1 σ) fun _ s4 => wt_bnd (f_X0_addLooker F 24 x1 5 s4) fun _ s6 => wt_lt ((s6 24 2) - 1) fun z7 => wt_bnd (f_X0_post F 24 z7 0 23 x2 s6) fun _ s9 => wt_bnd (f_X0_reckon F 24 s9) fun _ s11 => lp_X3_newcomer_112 F x3 z7 F 0 s11) else wt_bnd (f_X3_refuse F t σ) fun r s => some (r, s)) else (if (-3 : Int32) = 0 then (wt_bnd (f_X0_takeFrom F 24 1 σ) fun _ s4 => wt_bnd (f_X0_addLooker F 24 x1 5 s4) fun _ s6 => wt_lt ((s6 24 2) - 1) fun z7 => wt_bnd (f_X0_post F 24 z7 0 23 x2 s6) fun _ s9 => wt_bnd (f_X0_reckon F 24 s9) fun _ s11 => lp_X3_newcomer_112 F x3 z7 F 0 s11) else wt_bnd (f_X3_refuse F (-3) σ) fun r s => some (r, s))) else (if t = 0 then (wt_bnd (f_X0_takeFrom F 24 1 σ) fun _ s4 => wt_bnd (f_X0_addLooker F 24 x1 5 s4) fun _ s6 => wt_lt ((s6 24 2) - 1) fun z7 => wt_bnd (f_X0_post F 24 z7 0 23 x2 s6) fun _ s9 => wt_bnd (f_X0_reckon F 24 s9) fun _ s11 => lp_X3_newcomer_112 F x3 z7 F 0 s11) else wt_bnd (f_X3_refuse F t σ) fun r s => some (r, s))) (fun _ z => z 86 = wB (σ 86) (akNewcomer V x1 x2 x3)) := fun t ht => by
    refine pc_ite (fun c => pc_ite (fun c5 => J t ?_) (fun c5 => J (-3) ?_)) (fun c => J t ?_)
    · have d := ti_lt c5
      rw [t5] at d
      rw [← ht, c, cF_z, show kS5 V = 0 from if_pos d]
    · have d := ti_nlt c5
      rw [t5] at d
      rw [← ht, c, cF_z, show kS5 V = -3 from if_neg (by omega)]
    · rw [← ht, cF_n c]
  exact e0 _ rfl
theorem kx_nobodys {F : Nat} (hF : 1000 ≤ F) {x1 : Int32} {σ : Mem} {V : Nat → Int32} (h : vH 1 V σ) : pc (f_X3_nobodys F x1 σ) (fun _ z => z 86 = wB (σ 86) (akNobodys V x1)) := by
  rw [f_X3_nobodys_e]
  refine pc_be ax_outside ?_
  unfold akNobodys
  refine kq_end (fun _ => ?_)
  have f_σ : fr kW σ σ := fr_rf
  refine pf_bnd (fr_X0_reckon hF wt_h1) (kw_X0_reckon_1) f_σ (fun r1 s2 f_s2 => ?_)
  refine pf_bnd (fr_X0_held hF wt_h1) (fun _ h => h.elim) f_s2 (fun r3 s4 f_s4 => ?_)
  exact pf_ret f_s4
theorem kx_owner {F : Nat} (hF : 1000 ≤ F) {x1 x2 : Int32} {σ : Mem} {V : Nat → Int32} (h : vH 1 V σ) : pc (f_X3_owner F x1 x2 σ) (fun _ z => z 86 = wB (σ 86) (akOwner V x1 x2)) := by
  rw [f_X3_owner_e]
  refine pc_be ax_noView (pc_be ax_outside (pc_be ax_firstOf ?_))
  unfold akOwner
  refine kq_end (fun _ => ?_)
  have f_σ : fr kW σ σ := fr_rf
  refine pf_bnd (fr_X0_reckon hF wt_h1) (kw_X0_reckon_1) f_σ (fun r1 s2 f_s2 => ?_)
  refine pf_bnd (fr_X0_holder hF wt_h1) (fun _ h => h.elim) f_s2 (fun r3 s4 f_s4 => ?_)
  exact pf_ret f_s4
theorem kx_owns {F : Nat} (hF : 1000 ≤ F) {x1 x2 x3 : Int32} {σ : Mem} {V : Nat → Int32} (h : vH 1 V σ) : pc (f_X3_owns F x1 x2 x3 σ) (fun _ z => z 86 = wB (σ 86) (akOwns V x1 x2 x3)) := by
  rw [f_X3_owns_e, f_X3_noLookerFar_e]
  refine pc_be (by rw [wt_bnd_eq (ax_noLooker (by rw [vH_2 h]; exact h.1.2.1.2)), wt_bnd_eq ax_outside, wt_bnd_eq ax_firstOf]) (pc_be ax_notBelow (pc_be ax_firstOf ?_))
  rw [vH_2 h]
  unfold akOwns
  refine kq_end (fun _ => ?_)
  have f_σ : fr kW σ σ := fr_rf
  refine pf_bnd (fr_X0_reckon hF wt_h1) (kw_X0_reckon_1) f_σ (fun r1 s2 f_s2 => ?_)
  refine pf_ite ?_ ?_
  · refine pf_bnd (fr_X0_holdings hF wt_h1) (fun _ h => h.elim) f_s2 (fun r3 s4 f_s4 => ?_)
    exact pf_ret f_s4
  · refine pf_bnd (fr_X0_wealth hF wt_h1) (fun _ h => h.elim) f_s2 (fun r5 s6 f_s6 => ?_)
    exact pf_ret f_s6
theorem kx_paneOf {F : Nat} (hF : 1000 ≤ F) {x1 x2 : Int32} {σ : Mem} {V : Nat → Int32} (h : vX V σ) : pc (f_X3_paneOf F x1 x2 σ) (fun _ z => z 86 = wB (σ 86) (akPaneOf V x1 x2)) := by
  have e0 : σ 1 0 = V 0 := h.2.1 0 (by decide)
  rw [f_X3_paneOf_e]
  refine pc_be (ax_noPane (by rw [e0]; exact h.1.1.2)) (pc_be ax_notBelow (pc_be ax_firstOf ?_))
  rw [e0]
  unfold akPaneOf
  refine kq_end (fun _ => ?_)
  have f_σ : fr kW σ σ := fr_rf
  refine pf_ite ?_ ?_
  · refine pf_chk (fun v1 => ?_)
    exact pf_ret f_σ
  · refine pf_bnd (fr_X0_hoursAt hF wt_h1) (fun _ h => h.elim) f_σ (fun r2 s3 f_s3 => ?_)
    exact pf_ret f_s3
theorem kx_rank {F : Nat} (hF : 1000 ≤ F) {x1 x2 : Int32} {σ : Mem} {V : Nat → Int32} (h : vH 1 V σ) : pc (f_X3_rank F x1 x2 σ) (fun _ z => z 86 = wB (σ 86) (akRank V x1 x2)) := by
  have h5 := h.1.2.1
  have n1 := ti_nat (V 1)
  rw [f_X3_rank_e]
  refine pc_be ax_noView ?_
  simp only [j_X3_rank_16_e]
  unfold akRank
  have key : ∀ e, e = cF (cB (0 ≤ x1.toInt ∧ x1.toInt ≤ 7)) (kRk x2) → pc (if e = 0 then lp_X3_rank_29 F x1 x2 F 0 σ else wt_bnd (f_X3_refuse F e σ) fun r s => some (r, s)) (fun _ z => z 86 = wB (σ 86) (cF (cF (cB (0 ≤ x1.toInt ∧ x1.toInt ≤ 7)) (kRk x2)) 0)) := fun e he => by
    subst he
    refine kq_end (fun _ => ?_)
    have f_σ : fr kW σ σ := fr_rf
    exact gl_X3_rank_29 hF _ _ _ f_σ
  by_cases c : 0 ≤ x1.toInt ∧ x1.toInt ≤ 7
  · rw [cB_t c]
    rw [cB_t c] at key
    refine pc_ite (fun _ => pc_ite (fun c2 => key _ ?_) (fun c2 => key _ ?_)) (fun q => absurd rfl q)
    · rw [cF_z, show kRk x2 = 0 from if_pos c2]
    · rw [cF_z, show kRk x2 = -4 from if_neg c2]
  · rw [cB_f c]
    rw [cB_f c] at key
    exact pc_ite (fun q => absurd q (by decide)) (fun _ => key _ (cF_n (by decide)).symm)
theorem kx_richest {F : Nat} (hF : 1000 ≤ F) {x1 x2 : Int32} {σ : Mem} {V : Nat → Int32} (h : vH 1 V σ) : pc (f_X3_richest F x1 x2 σ) (fun _ z => z 86 = wB (σ 86) (akRichest V x1 x2)) := by
  rw [f_X3_richest_e]
  refine pc_be ax_outside (pc_be ax_notBelow (pc_be ax_firstOf ?_))
  simp only [j_X3_richest_55_e]
  unfold akRichest
  refine kq_end (fun _ => ?_)
  have f_σ : fr kW σ σ := fr_rf
  refine pf_bnd (fr_X0_reckon hF wt_h1) (kw_X0_reckon_1) f_σ (fun r1 s2 f_s2 => ?_)
  refine pf_bnd (fr_X0_wealthiest hF wt_h1) (fun _ h => h.elim) f_s2 (fun r3 s4 f_s4 => ?_)
  refine pf_ite ?_ ?_
  · try rw [j_X3_richest_55_e]
    exact pf_ret f_s4
  · refine pf_ite ?_ ?_
    · try rw [j_X3_richest_55_e]
      exact pf_ret f_s4
    · refine pf_bnd (fr_X0_wealth hF wt_h1) (fun _ h => h.elim) f_s4 (fun r5 s6 f_s6 => ?_)
      exact pf_ret f_s6
theorem kx_roster {F : Nat} (hF : 1000 ≤ F) {x1 x2 : Int32} {σ : Mem} {V : Nat → Int32} (h : vX V σ) : pc (f_X3_roster F x1 x2 σ) (fun _ z => z 86 = wB (σ 86) (akRoster V x1 x2)) := by
  have e1 : σ 1 2 = V 1 := h.2.1 1 (by decide)
  rw [f_X3_roster_e]
  refine pc_be (ax_noLooker (by rw [e1]; exact h.1.2.1.2)) (pc_be ax_noHour (pc_be ax_firstOf ?_))
  rw [e1]
  unfold akRoster
  refine kq_end (fun _ => ?_)
  have f_σ : fr kW σ σ := fr_rf
  refine pf_chk (fun v1 => ?_)
  refine pf_chk (fun v2 => ?_)
  refine pf_lt (fun z3 _ => ?_)
  refine pf_ite ?_ ?_
  · exact pf_ret f_σ
  · exact pf_ret f_σ
theorem kx_share {F : Nat} (hF : 1000 ≤ F) {x1 x2 x3 : Int32} {σ : Mem} {V : Nat → Int32} (h : vH 1 V σ) : pc (f_X3_share F x1 x2 x3 σ) (fun _ z => z 86 = wB (σ 86) (akShare V x1 x2 x3)) := by
  have h5 := h.1.2.1
  have m1 := ti_nat (V 1)
  rw [f_X3_share_e]
  refine pc_be (ax_noLooker (by rw [vH_2 h]; exact h5.2)) (pc_be ax_noView (pc_be ax_firstOf (pc_be ax_notBelow (pc_be ax_firstOf ?_))))
  rw [vH_2 h]
  unfold akShare
  refine kqL_end (fun _ => ?_)
  have f_σ : fr kW σ σ := fr_rf
  exact gl_X3_share_40 hF _ _ _ _ f_σ
theorem kx_shown {F : Nat} (hF : 1000 ≤ F) {x1 : Int32} {σ : Mem} {V : Nat → Int32} (h : vX V σ) : pc (f_X3_shown F x1 σ) (fun _ z => z 86 = wB (σ 86) (akShown V x1)) := by
  rw [f_X3_shown_e]
  refine pc_be ax_isView ?_
  unfold akShown
  by_cases c : 0 ≤ x1.toInt ∧ x1.toInt ≤ 7
  · rw [if_pos c, if_neg (by decide), cB_t c, cF_z]
    refine kx_leaf ?_
    have f_σ : fr kW σ σ := fr_rf
    refine pf_bnd (fr_X0_timesShown hF wt_h1) (fun _ h => h.elim) f_σ (fun r1 s2 f_s2 => ?_)
    exact pf_ret f_s2
  · rw [if_neg c, if_pos rfl, cB_f c]
    exact kx_ref (cF_n (by decide)) (by decide)
theorem kx_staredOut {F : Nat} (hF : 1000 ≤ F) {x1 x2 x3 : Int32} {σ : Mem} {V : Nat → Int32} (h : vH 1 V σ) : pc (f_X3_staredOut F x1 x2 x3 σ) (fun _ z => z 86 = wB (σ 86) (akStaredOut V x1 x2 x3)) := by
  rw [f_X3_staredOut_e, f_X3_noPairFar_e]
  refine pc_be (by rw [wt_bnd_eq (qx_noPair (kX_H h)), wt_bnd_eq ax_outside, wt_bnd_eq ax_firstOf]) ?_
  unfold akStaredOut
  refine kq_end (fun _ => ?_)
  have f_σ : fr kW σ σ := fr_rf
  refine pf_bnd (fr_X0_reckon hF wt_h1) (kw_X0_reckon_1) f_σ (fun r1 s2 f_s2 => ?_)
  refine pf_bnd (fr_X0_holdings hF wt_h1) (fun _ h => h.elim) f_s2 (fun r3 s4 f_s4 => ?_)
  refine pf_bnd (fr_X0_holdings hF wt_h1) (fun _ h => h.elim) f_s4 (fun r5 s6 f_s6 => ?_)
  exact pf_ret f_s6
theorem kx_swap {F : Nat} (hF : 1000 ≤ F) {x1 : Int32} {σ : Mem} {V : Nat → Int32} (h : vH 1 V σ) : pc (f_X3_swap F x1 σ) (fun _ z => z 86 = wB (σ 86) (akSwap V x1)) := by
  have h5 := h.1.2.1
  have m1 := ti_nat (V 1)
  rw [f_X3_swap_e]
  refine pc_be ax_outside ?_
  unfold akSwap
  refine kq_end (fun _ => ?_)
  have f_σ : fr kW σ σ := fr_rf
  refine pf_bnd (fr_X0_reckon hF wt_h1) (kw_X0_reckon_1) f_σ (fun r1 s2 f_s2 => ?_)
  refine pf_bnd (fr_X0_takeFrom hF wt_h24 wt_h1) (kw_X0_takeFrom_24) f_s2 (fun r3 s4 f_s4 => ?_)
  exact gl_X3_swap_46 hF _ _ _ _ _ f_s4
theorem kx_together {F : Nat} (hF : 1000 ≤ F) {x1 x2 : Int32} {σ : Mem} {V : Nat → Int32} (h : vX V σ) : pc (f_X3_together F x1 x2 σ) (fun _ z => z 86 = wB (σ 86) (akTogether V x1 x2)) := by
  rw [f_X3_together_e]
  refine pc_be (qx_noPair h) ?_
  unfold akTogether
  refine kq_end (fun _ => ?_)
  have f_σ : fr kW σ σ := fr_rf
  exact gl_X3_together_23 hF _ _ _ _ f_σ
theorem kx_two {F : Nat} (hF : 1000 ≤ F) {x1 x2 x3 x4 : Int32} {σ : Mem} {V : Nat → Int32} (h : vH 1 V σ) : pc (f_X3_two F x1 x2 x3 x4 σ) (fun _ z => z 86 = wB (σ 86) (akTwo V x1 x2 x3 x4)) := by
  have h6 := h.1.1
  have m0 := ti_nat (V 0)
  rw [f_X3_two_e]
  refine pc_be (qx_noPair (kX_H h)) (pc_be ax_noHour (pc_be ax_firstOf (pc_be ax_outside (pc_be ax_firstOf ?_))))
  unfold akTwo
  refine kq_end (fun _ => ?_)
  have f_σ : fr kW σ σ := fr_rf
  refine pf_bnd (fr_X3_fillPays hF) (kw_X3_fillPays) f_σ (fun r1 s2 f_s2 => ?_)
  exact gl_X3_two_51 hF _ _ _ f_s2
theorem kx_walls {F : Nat} (hF : 1000 ≤ F) {x1 x2 x3 : Int32} {σ : Mem} {V : Nat → Int32} (h : vH 1 V σ) : pc (f_X3_walls F x1 x2 x3 σ) (fun _ z => z 86 = wB (σ 86) (akWalls V x1 x2 x3)) := by
  have h5 := h.1.2.1.2
  have h6 := h.1.1
  have m0 := ti_nat (V 0)
  rw [f_X3_walls_e, f_X3_noLookerFar_e]
  refine pc_be (by rw [wt_bnd_eq (ax_noLooker (by rw [vH_2 h]; exact h5)), wt_bnd_eq ax_outside, wt_bnd_eq ax_firstOf]) (pc_be ax_notBelow (pc_be ax_firstOf ?_))
  rw [vH_2 h]
  unfold akWalls
  refine kq_end (fun _ => ?_)
  have f_σ : fr kW σ σ := fr_rf
  refine pf_bnd (fr_X0_reckon hF wt_h1) (kw_X0_reckon_1) f_σ (fun r1 s2 f_s2 => ?_)
  refine pf_bnd (fr_X0_takeFrom hF wt_h24 wt_h1) (kw_X0_takeFrom_24) f_s2 (fun r3 s4 f_s4 => ?_)
  refine pf_bnd (fr_X0_wealth hF wt_h1) (fun _ h => h.elim) f_s4 (fun r5 s6 f_s6 => ?_)
  exact gl_X3_walls_67 hF _ _ _ _ _ f_s6
theorem kx_wasted {F : Nat} (hF : 1000 ≤ F) {x1 x2 : Int32} {σ : Mem} {V : Nat → Int32} (h : vH 1 V σ) : pc (f_X3_wasted F x1 x2 σ) (fun _ z => z 86 = wB (σ 86) (akWasted V x1 x2)) := by
  rw [f_X3_wasted_e]
  refine pc_be (ax_noLooker (by rw [vH_2 h]; exact h.1.2.1.2)) (pc_be ax_notBelow (pc_be ax_firstOf ?_))
  rw [vH_2 h]
  unfold akWasted
  refine kq_end (fun _ => ?_)
  have f_σ : fr kW σ σ := fr_rf
  exact gl_X3_wasted_30 hF _ _ _ _ f_σ
theorem kx_whichKind {F : Nat} (hF : 1000 ≤ F) {x1 x2 x3 : Int32} {σ : Mem} {V : Nat → Int32} (h : vH 1 V σ) (hn : 0 ≤ (σ 0 7).toInt ∧ (σ 0 7).toInt ≤ 12) : pc (f_X3_whichKind F x1 x2 x3 σ) (fun _ z => z 86 = wB (σ 86) (akWhichKind V x1 x2 x3 (σ 0 7) (σ 85))) := by
  have h5 := h.1.2.1.2
  rw [f_X3_whichKind_e, f_X3_noLookerFar_e]
  refine pc_be (by rw [wt_bnd_eq (ax_noLooker (by rw [vH_2 h]; exact h5)), wt_bnd_eq ax_outside, wt_bnd_eq ax_firstOf]) (pc_be ax_notBelow (pc_be kx_longRow (pc_be ax_firstOf (pc_be ax_firstOf ?_))))
  rw [vH_2 h]
  unfold akWhichKind
  refine kq_end (fun _ => ?_)
  have f_σ : fr kW σ σ := fr_rf
  refine pf_bnd (fr_X0_takeFrom hF wt_h24 wt_h1) (kw_X0_takeFrom_24) f_σ (fun r1 s2 f_s2 => ?_)
  refine pf_ite ?_ ?_
  · try rw [j_X3_whichKind_59_e]
    exact gl_X3_whichKind_64 hF _ _ _ _ f_s2
  · try rw [j_X3_whichKind_59_e]
    exact gl_X3_whichKind_64 hF _ _ _ _ f_s2
theorem kx_whichLaw {F : Nat} (hF : 1000 ≤ F) {σ : Mem} {V : Nat → Int32} (h : vH 1 V σ) (hn : 0 ≤ (σ 0 7).toInt ∧ (σ 0 7).toInt ≤ 12) : pc (f_X3_whichLaw F σ) (fun _ z => z 86 = wB (σ 86) (akWhichLaw V (σ 0 7) (σ 85))) := by
  rw [f_X3_whichLaw_e]
  refine pc_be kx_longRow ?_
  unfold akWhichLaw
  refine kq_end (fun _ => ?_)
  have f_σ : fr kW σ σ := fr_rf
  refine pf_bnd (fr_X0_takeFrom hF wt_h24 wt_h1) (kw_X0_takeFrom_24) f_σ (fun r1 s2 f_s2 => ?_)
  exact gl_X3_whichLaw_30 hF _ _ _ _ f_s2
