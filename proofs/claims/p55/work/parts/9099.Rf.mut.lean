theorem kx_pane {F : Nat} (hF : 1000 ≤ F) {x : Int32} {σ : Mem} : pc (f_X3_pane F x σ) (fun _ z => z 86 = wB (σ 86) (ePane (σ 1 0) x)) := by
  rw [f_X3_pane_e]
  refine pc_be ax_outside ?_
  simp only [j_X3_pane_28_e]
  have key : ∀ e, e = ePane (σ 1 0) x → pc (if e = 0 then (wt_bnd (f_X0_addPane F 1 x σ) fun r1 s2 => wt_bnd (f_X2_forget F s2) fun r3 s4 => some ((s4 1 0) - (1 : Int32), s4)) else wt_bnd (f_X3_refuse F e σ) fun r5 s6 => some (r5, s6)) (fun _ z => z 86 = wB (σ 86) (ePane (σ 1 0) x)) := fun e he => by
    subst he
    refine kR_end (fun _ => ?_)
    have f_σ : fr kW σ σ := fr_rf
    refine pf_bnd (fr_X0_addPane hF wt_h1) (kw_X0_addPane_1) f_σ (fun r1 s2 f_s2 => ?_)
    refine pf_bnd (fr_X2_forget hF) (kw_X2_forget) f_s2 (fun r3 s4 f_s4 => ?_)
    exact pf_ret f_s4
  by_cases c1 : cN x 0 255 = 0
  · rw [if_pos c1]
    by_cases c2 : σ 1 0 < 6
    · rw [if_pos c2]
      refine key _ ?_
      unfold ePane cF
      have := ti_lt c2
      rw [tz_6] at this
      rw [if_pos c1, if_pos this, c1]
    · rw [if_neg c2]
      refine key _ ?_
      unfold ePane cF
      have := ti_nlt c2
      rw [tz_6] at this
      rw [if_pos c1, if_neg (by omega)]
  · rw [if_neg c1]
    refine key _ ?_
    unfold ePane cF
    rw [if_neg c1]
theorem km_pane {F : Nat} (hF : 1000 ≤ F) {x : Int32} {σ : Mem} {b : Nat → Int32} (bl : (σ 101 1).toInt ≤ 6) (hb : σ 108 = b) : pc (f_X4_pane F x σ) (fun _ z => z 108 = wB b (ePane (σ 101 1) x)) := by
  rw [f_X4_pane_e]
  refine pc_lt (fun s7 h7 => pc_be mx_wrongN ?_)
  simp only [j_X4_pane_32_e, j_X4_pane_33_e]
  have e7 : s7 101 1 = σ 101 1 := by rw [h7, up2_i (by decide)]
  have hb' : s7 108 = b := by rw [h7, up2_k (by decide)]; exact hb
  have hG : ∀ e, e = ePane (σ 101 1) x → pc (if 0 ≤ e then (wt_chk (s7 101 1) 6 (wt_lt (up2 s7 103 (Int32.toNatClampNeg (s7 101 1)) x) fun s2 => wt_lt (up2 s2 101 1 ((s2 101 1) + (1 : Int32))) fun s3 => wt_lt (up2 s3 101 30 (0 : Int32)) fun s4 => some (((s4 101 1) - (1 : Int32)), s4))) else wt_bnd (f_X4_refuse F e s7) fun r s => some (r, s)) (fun _ z => z 108 = wB b (ePane (σ 101 1) x)) := fun e he => by
    subst he
    refine nR_end (sg_cF sg_cN (sg_i (by decide))) hb' (fun _ => ?_)
    have f_s7 : fr kW s7 s7 := fr_rf
    refine pf_chk (fun v1 => ?_)
    refine pf_up2 (c := 103) f_s7 (rfl) (kW_mk (by decide) (by decide)) (fun s2 f_s2 => ?_)
    refine pf_up2 (c := 1001) f_s2 (rfl) (kW_mk (by decide) (by decide)) (fun s3 f_s3 => ?_)
    refine pf_up2 (c := 1030) f_s3 (rfl) (kW_mk (by decide) (by decide)) (fun s4 f_s4 => ?_)
    exact pf_ret f_s4
  by_cases c1 : cN x 0 255 = 0
  · rw [if_pos c1]
    by_cases c2 : s7 101 1 = 6
    · rw [if_pos c2]
      rw [e7] at c2
      refine hG _ ?_
      unfold ePane cF
      have := congrArg Int32.toInt c2
      rw [tz_6] at this
      rw [if_pos c1, if_neg (by omega)]
    · rw [if_neg c2]
      rw [e7] at c2
      refine hG _ ?_
      unfold ePane cF
      have := ti_ne c2
      rw [tz_6] at this
      rw [if_pos c1, if_pos (by omega), c1]
  · rw [if_neg c1]
    refine hG _ ?_
    unfold ePane cF
    rw [if_neg c1]
theorem kx_looker {F : Nat} (hF : 1000 ≤ F) {k f : Int32} {σ : Mem} : pc (f_X3_looker F k f σ) (fun _ z => z 86 = wB (σ 86) (eLooker (σ 1 2) k f)) := by
  rw [f_X3_looker_e]
  refine pc_be ax_notBelow (pc_be ax_outside (pc_be ax_firstOf ?_))
  simp only [j_X3_looker_35_e]
  have key : ∀ e, e = eLooker (σ 1 2) k f → pc (if e = 0 then (wt_bnd (f_X0_addLooker F 1 k f σ) fun r1 s2 => wt_bnd (f_X2_forget F s2) fun r3 s4 => some ((s4 1 2) - (1 : Int32), s4)) else wt_bnd (f_X3_refuse F e σ) fun r5 s6 => some (r5, s6)) (fun _ z => z 86 = wB (σ 86) (eLooker (σ 1 2) k f)) := fun e he => by
    subst he
    refine kR_end (fun _ => ?_)
    have f_σ : fr kW σ σ := fr_rf
    refine pf_bnd (fr_X0_addLooker hF wt_h1) (kw_X0_addLooker_1) f_σ (fun r1 s2 f_s2 => ?_)
    refine pf_bnd (fr_X2_forget hF) (kw_X2_forget) f_s2 (fun r3 s4 f_s4 => ?_)
    exact pf_ret f_s4
  generalize hc : cF (cO k 6) (cN f 0 9) = c at *
  have hE : eLooker (σ 1 2) k f = cF c (if (σ 1 2).toInt < 5 then 0 else -6) := by unfold eLooker; rw [hc]
  by_cases c1 : c = 0
  · rw [if_pos c1]
    by_cases c2 : σ 1 2 < 5
    · rw [if_pos c2]
      refine key _ ?_
      have := ti_lt c2
      rw [tz_5] at this
      rw [hE]
      unfold cF
      rw [if_pos c1, if_pos this, c1]
    · rw [if_neg c2]
      refine key _ ?_
      have := ti_nlt c2
      rw [tz_5] at this
      rw [hE]
      unfold cF
      rw [if_pos c1, if_neg (by omega)]
  · rw [if_neg c1]
    refine key _ ?_
    rw [hE]
    unfold cF
    rw [if_neg c1]
theorem km_looker {F : Nat} (hF : 1000 ≤ F) {k f : Int32} {σ : Mem} {b : Nat → Int32} (bl : (σ 101 3).toInt ≤ 5) (hb : σ 108 = b) : pc (f_X4_looker F k f σ) (fun _ z => z 108 = wB b (eLooker (σ 101 3) k f)) := by
  rw [f_X4_looker_e]
  refine pc_lt (fun s7 h7 => pc_be (mx_in32 (lo := 0) (hi := 5) rfl rfl) ?_)
  simp only [j_X4_looker_29_e, j_X4_looker_47_e, j_X4_looker_48_e]
  have e7 : s7 101 3 = σ 101 3 := by rw [h7, up2_i (by decide)]
  have hb' : s7 108 = b := by rw [h7, up2_k (by decide)]; exact hb
  have hG : ∀ e, e = eLooker (σ 101 3) k f → pc (if 0 ≤ e then (wt_bnd (f_X4_lookerComes F k f s7) fun r1 s2 => wt_lt (up2 s2 101 30 (0 : Int32)) fun s3 => some (((s3 101 3) - (1 : Int32)), s3)) else wt_bnd (f_X4_refuse F e s7) fun r s => some (r, s)) (fun _ z => z 108 = wB b (eLooker (σ 101 3) k f)) := fun e he => by
    subst he
    refine nR_end (sg_cF (sg_cF sg_cO sg_cN) (sg_i (by decide))) hb' (fun _ => ?_)
    have f_s7 : fr kW s7 s7 := fr_rf
    refine pf_bnd (fr_X4_lookerComes hF) (kw_X4_lookerComes) f_s7 (fun r1 s2 f_s2 => ?_)
    refine pf_up2 (c := 1030) f_s2 (rfl) (kW_mk (by decide) (by decide)) (fun s3 f_s3 => ?_)
    exact pf_ret f_s3
  have hE : eLooker (σ 101 3) k f = cF (cF (cO k 6) (cN f 0 9)) (if (σ 101 3).toInt < 5 then 0 else -6) := rfl
  generalize eLooker (σ 101 3) k f = E at *
  have hL2 : ∀ t, E = cF t (if (σ 101 3).toInt < 5 then 0 else -6) → pc (if t = 0 then (if s7 101 3 = 5 then (if (0 : Int32) ≤ -6 then (wt_bnd (f_X4_lookerComes F k f s7) fun r1 s2 => wt_lt (up2 s2 101 30 (0 : Int32)) fun s3 => some (((s3 101 3) - (1 : Int32)), s3)) else wt_bnd (f_X4_refuse F (-6) s7) fun r s => some (r, s)) else (if 0 ≤ t then (wt_bnd (f_X4_lookerComes F k f s7) fun r1 s2 => wt_lt (up2 s2 101 30 (0 : Int32)) fun s3 => some (((s3 101 3) - (1 : Int32)), s3)) else wt_bnd (f_X4_refuse F t s7) fun r s => some (r, s))) else (if 0 ≤ t then (wt_bnd (f_X4_lookerComes F k f s7) fun r1 s2 => wt_lt (up2 s2 101 30 (0 : Int32)) fun s3 => some (((s3 101 3) - (1 : Int32)), s3)) else wt_bnd (f_X4_refuse F t s7) fun r s => some (r, s))) (fun _ z => z 108 = wB b E) := fun t ht => by
    refine pc_ite (fun c => ?_) (fun c => ?_)
    · refine pc_ite (fun c2 => hG (-6) ?_) (fun c2 => hG t ?_)
      · rw [e7] at c2
        have := congrArg Int32.toInt c2
        rw [tz_5] at this
        rw [ht]; unfold cF; rw [if_pos c, if_neg (by omega)]
      · rw [e7] at c2
        have := ti_ne c2
        rw [tz_5] at this
        rw [ht]; unfold cF; rw [if_pos c, if_pos (by omega), c]
    · refine hG t ?_
      rw [ht]; unfold cF; rw [if_neg c]
  refine pc_ite (fun c => ?_) (fun c => pc_be mx_wrongN ?_)
  · have c2 := in_cO.mp c
    have e2 := cO_n c2
    refine hL2 (-2) ?_
    rw [hE, show cF (cO k 6) (cN f 0 9) = -2 by unfold cF; rw [if_neg c2, e2]]
  · have c2 : cO k 6 = 0 := Classical.byContradiction (fun q => c (in_cO.mpr q))
    refine hL2 _ ?_
    rw [hE, show cF (cO k 6) (cN f 0 9) = cN f 0 9 by unfold cF; rw [if_pos c2]]
theorem kx_feed {F : Nat} (hF : 1000 ≤ F) {x : Int32} {σ : Mem} : pc (f_X3_feed F x σ) (fun _ z => z 86 = wB (σ 86) (eFeed (σ 83 1) x)) := by
  rw [f_X3_feed_e]
  refine pc_be ax_outside ?_
  simp only [j_X3_feed_28_e]
  have key : ∀ e, e = eFeed (σ 83 1) x → pc (if e = 0 then (wt_bnd (f_X1_add F x σ) fun r1 s2 => some ((s2 83 1), s2)) else wt_bnd (f_X3_refuse F e σ) fun r5 s6 => some (r5, s6)) (fun _ z => z 86 = wB (σ 86) (eFeed (σ 83 1) x)) := fun e he => by
    subst he
    refine kR_end (fun _ => ?_)
    have f_σ : fr kW σ σ := fr_rf
    refine pf_bnd (fr_X1_add hF) (kw_X1_add) f_σ (fun r1 s2 f_s2 => ?_)
    exact pf_ret f_s2
  by_cases c1 : cN x 0 255 = 0
  · rw [if_pos c1]
    by_cases c2 : σ 83 1 < 96
    · rw [if_pos c2]
      refine key _ ?_
      unfold eFeed cF
      have := ti_lt c2
      rw [tz_96] at this
      rw [if_pos c1, if_pos this, c1]
    · rw [if_neg c2]
      refine key _ ?_
      unfold eFeed cF
      have := ti_nlt c2
      rw [tz_96] at this
      rw [if_pos c1, if_neg (by omega)]
  · rw [if_neg c1]
    refine key _ ?_
    unfold eFeed cF
    rw [if_neg c1]
theorem km_feed {F : Nat} (hF : 1000 ≤ F) {x : Int32} {σ : Mem} {b : Nat → Int32} (bl : (σ 101 15).toInt ≤ 96) (hb : σ 108 = b) : pc (f_X4_feed F x σ) (fun _ z => z 108 = wB b (eFeed (σ 101 15) x)) := by
  rw [f_X4_feed_e]
  simp only [j_X4_feed_32_e]
  refine pc_lt (fun s3 h3 => ?_)
  have hb' : s3 108 = b := by rw [h3, up2_k (by decide)]; exact hb
  have e15 : s3 101 15 = σ 101 15 := by rw [h3, up2_i (by decide)]
  rw [e15]
  refine pc_ite (fun c => ?_) (fun c => ?_)
  · have d := ti_le c
    rw [tz_0] at d
    refine pc_ite (fun c2 => ?_) (fun c2 => ?_)
    · have d2 := ti_lt c2
      rw [tz_255] at d2
      have e : eFeed (σ 101 15) x = -6 := by unfold eFeed; rw [(cN_3 (a := 0) (b := 255)).2 (by rw [tz_0]; exact d) (by rw [tz_255]; exact d2)]; rfl
      rw [e]; exact nq_ref hb' rfl (by decide)
    · have d2 := ti_nlt c2
      rw [tz_255] at d2
      have e0 : cN x 0 255 = 0 := cN_t (by rw [tz_0]; exact d) (by rw [tz_255]; exact d2)
      refine pc_ite (fun c3 => ?_) (fun c3 => ?_)
      · have d3 := ti_eq c3
        rw [tz_96] at d3
        have e : eFeed (σ 101 15) x = -6 := by unfold eFeed cF; rw [if_pos e0, if_neg (by omega)]
        rw [e]; exact nq_ref hb' rfl (by decide)
      · have d3 := ti_ne c3
        rw [tz_96] at d3
        have e : eFeed (σ 101 15) x = 0 := by unfold eFeed cF; rw [if_pos e0, if_pos (by omega)]
        rw [e]
        refine km_leaf hb' ?_
        have f_s3 : fr kW s3 s3 := fr_rf
        refine pf_chk (fun v1 => ?_)
        refine pf_up2 (c := 111) f_s3 (rfl) (kW_mk (by decide) (by decide)) (fun s2 f_s2 => ?_)
        refine pf_up2 (c := 1015) f_s2 (rfl) (kW_mk (by decide) (by decide)) (fun s3 f_s3 => ?_)
        exact pf_ret f_s3
  · have d := ti_nle c
    rw [tz_0] at d
    have e : eFeed (σ 101 15) x = -4 := by unfold eFeed; rw [(cN_3 (a := 0) (b := 255)).1 (by rw [tz_0]; exact d)]; rfl
    rw [e]; exact nq_ref hb' rfl (by decide)
theorem kx_row {F : Nat} (hF : 1000 ≤ F) {x : Int32} {σ : Mem} : pc (f_X3_row F x σ) (fun _ z => z 86 = wB (σ 86) (eRow (σ 0 7) x)) := by
  rw [f_X3_row_e]
  refine pc_be ax_outside ?_
  simp only [j_X3_row_24_e]
  have key : ∀ e, e = eRow (σ 0 7) x → pc (if e = 0 then (wt_chk (σ 0 7) 12 (wt_lt (up2 σ 85 (Int32.toNatClampNeg (σ 0 7)) x) fun s2 => wt_lt (up2 s2 0 7 ((s2 0 7) + (1 : Int32))) fun s3 => some ((s3 0 7), s3))) else wt_bnd (f_X3_refuse F e σ) fun r5 s6 => some (r5, s6)) (fun _ z => z 86 = wB (σ 86) (eRow (σ 0 7) x)) := fun e he => by
    subst he
    refine kR_end (fun _ => ?_)
    have f_σ : fr kW σ σ := fr_rf
    refine pf_chk (fun v1 => ?_)
    refine pf_up2 (c := 85) f_σ (rfl) (kW_mk (by decide) (by decide)) (fun s2 f_s2 => ?_)
    refine pf_up2 (c := 2007) f_s2 (rfl) (kW_mk (by decide) (by decide)) (fun s3 f_s3 => ?_)
    exact pf_ret f_s3
  by_cases c1 : cN x 0 99 = 0
  · rw [if_pos c1]
    by_cases c2 : σ 0 7 < 12
    · rw [if_pos c2]
      refine key _ ?_
      unfold eRow cF
      have := ti_lt c2
      rw [tz_12] at this
      rw [if_pos c1, if_pos this, c1]
    · rw [if_neg c2]
      refine key _ ?_
      unfold eRow cF
      have := ti_nlt c2
      rw [tz_12] at this
      rw [if_pos c1, if_neg (by omega)]
  · rw [if_neg c1]
    refine key _ ?_
    unfold eRow cF
    rw [if_neg c1]
theorem km_row {F : Nat} (hF : 1000 ≤ F) {x : Int32} {σ : Mem} {b : Nat → Int32} (bl : (σ 101 34).toInt ≤ 12) (hb : σ 108 = b) : pc (f_X4_row F x σ) (fun _ z => z 108 = wB b (eRow (σ 101 34) x)) := by
  rw [f_X4_row_e]
  simp only [j_X4_row_31_e]
  refine pc_lt (fun s3 h3 => ?_)
  have hb' : s3 108 = b := by rw [h3, up2_k (by decide)]; exact hb
  have e15 : s3 101 34 = σ 101 34 := by rw [h3, up2_i (by decide)]
  rw [e15]
  refine pc_ite (fun c => ?_) (fun c => ?_)
  · have d := ti_le c
    rw [tz_0] at d
    refine pc_ite (fun c2 => ?_) (fun c2 => ?_)
    · have d2 := ti_lt c2
      rw [tz_99] at d2
      have e : eRow (σ 101 34) x = -6 := by unfold eRow; rw [(cN_3 (a := 0) (b := 99)).2 (by rw [tz_0]; exact d) (by rw [tz_99]; exact d2)]; rfl
      rw [e]; exact nq_ref hb' rfl (by decide)
    · have d2 := ti_nlt c2
      rw [tz_99] at d2
      have e0 : cN x 0 99 = 0 := cN_t (by rw [tz_0]; exact d) (by rw [tz_99]; exact d2)
      refine pc_ite (fun c3 => ?_) (fun c3 => ?_)
      · have d3 := ti_eq c3
        rw [tz_12] at d3
        have e : eRow (σ 101 34) x = -6 := by unfold eRow cF; rw [if_pos e0, if_neg (by omega)]
        rw [e]; exact nq_ref hb' rfl (by decide)
      · have d3 := ti_ne c3
        rw [tz_12] at d3
        have e : eRow (σ 101 34) x = 0 := by unfold eRow cF; rw [if_pos e0, if_pos (by omega)]
        rw [e]
        refine km_leaf hb' ?_
        have f_s3 : fr kW s3 s3 := fr_rf
        refine pf_chk (fun v1 => ?_)
        refine pf_up2 (c := 121) f_s3 (rfl) (kW_mk (by decide) (by decide)) (fun s2 f_s2 => ?_)
        refine pf_up2 (c := 1034) f_s2 (rfl) (kW_mk (by decide) (by decide)) (fun s3 f_s3 => ?_)
        exact pf_ret f_s3
  · have d := ti_nle c
    rw [tz_0] at d
    have e : eRow (σ 101 34) x = -4 := by unfold eRow; rw [(cN_3 (a := 0) (b := 99)).1 (by rw [tz_0]; exact d)]; rfl
    rw [e]; exact nq_ref hb' rfl (by decide)
theorem kx_law {F : Nat} (hF : 1000 ≤ F) {x : Int32} {σ : Mem} : pc (f_X3_law F x σ) (fun _ z => z 86 = wB (σ 86) (cO x 3)) := by
  rw [f_X3_law_e]
  refine pc_be ax_notBelow (kR_end (fun _ => ?_))
  have f_σ : fr kW σ σ := fr_rf
  refine pf_bnd (fr_X2_keep hF) (kw_X2_keep) f_σ (fun r1 s2 f_s2 => ?_)
  refine pf_bnd (fr_X0_rule hF wt_h1) (kw_X0_rule_1) f_s2 (fun r3 s4 f_s4 => ?_)
  exact pf_ret f_s4
theorem kx_worth {F : Nat} (hF : 1000 ≤ F) {x1 x2 : Int32} {σ : Mem} : pc (f_X3_worth F x1 x2 σ) (fun _ z => z 86 = wB (σ 86) (cF (cB (0 ≤ x1.toInt ∧ x1.toInt ≤ 7)) (cN x2 0 9))) := by
  rw [f_X3_worth_e]
  refine pc_be ax_noView (pc_be ax_outside (pc_be ax_firstOf (kR_end (fun _ => ?_))))
  have f_σ : fr kW σ σ := fr_rf
  refine pf_chk (fun v1 => ?_)
  refine pf_lt (fun z2 _ => ?_)
  refine pf_bnd (fr_X2_keep hF) (kw_X2_keep) f_σ (fun r3 s4 f_s4 => ?_)
  refine pf_bnd (fr_X0_price hF wt_h1) (kw_X0_price_1) f_s4 (fun r5 s6 f_s6 => ?_)
  exact pf_ret f_s6
theorem kx_wall {F : Nat} (hF : 1000 ≤ F) {x1 x2 : Int32} {σ : Mem} (b : (σ 1 0).toInt ≤ 6) : pc (f_X3_wall F x1 x2 σ) (fun _ z => z 86 = wB (σ 86) (cF (cB (0 ≤ x1.toInt ∧ x1.toInt < (σ 1 0).toInt)) (cB (0 ≤ x2.toInt ∧ x2.toInt ≤ 7)))) := by
  rw [f_X3_wall_e]
  refine pc_be (ax_noPane b) (pc_be ax_noView (pc_be ax_firstOf (kR_end (fun _ => ?_))))
  have f_σ : fr kW σ σ := fr_rf
  refine pf_chk (fun v1 => ?_)
  refine pf_bnd (fr_X2_keep hF) (kw_X2_keep) f_σ (fun r2 s3 f_s3 => ?_)
  refine pf_bnd (fr_X0_flip hF wt_h1) (kw_X0_flip_1) f_s3 (fun r4 s5 f_s5 => ?_)
  refine pf_bnd (fr_X0_shows hF wt_h1) (fun _ h => h.elim) f_s5 (fun r6 s7 f_s7 => ?_)
  refine pf_ite ?_ ?_
  · exact pf_ret f_s7
  · exact pf_ret f_s7
theorem kx_back {F : Nat} (hF : 1000 ≤ F) {σ : Mem} : pc (f_X3_back F σ) (fun _ z => z 86 = wB (σ 86) (if (σ 70 5).toInt = 0 then -3 else 0)) := by
  rw [f_X3_back_e]
  refine pc_ite (fun c => ?_) (fun c => ?_)
  · have d := ti_eq c
    rw [tz_0] at d
    rw [if_pos d]
    exact kx_ref rfl (by decide)
  · have d := ti_ne c
    rw [tz_0] at d
    rw [if_neg d]
    refine kx_leaf ?_
    have f_σ : fr kW σ σ := fr_rf
    refine pf_bnd (fr_X2_undoLatest hF wt_h1) (kw_X2_undoLatest_1) f_σ (fun r1 s2 f_s2 => ?_)
    exact pf_ret f_s2
theorem kx_restore {F : Nat} (hF : 1000 ≤ F) {σ : Mem} : pc (f_X3_restore F σ) (fun _ z => z 86 = wB (σ 86) (if σ 0 3 = 0 then -3 else 0)) := by
  rw [f_X3_restore_e]
  refine pc_ite (fun c => ?_) (fun c => ?_)
  · rw [if_pos c]
    exact kx_ref rfl (by decide)
  · rw [if_neg c]
    refine kx_leaf ?_
    have f_σ : fr kW σ σ := fr_rf
    refine pf_bnd (fr_X0_takeFrom hF wt_h1 wt_h47) (kw_X0_takeFrom_1) f_σ (fun r1 s2 f_s2 => ?_)
    refine pf_bnd (fr_X2_forget hF) (kw_X2_forget) f_s2 (fun r3 s4 f_s4 => ?_)
    exact pf_ret f_s4
/-! the reference's carrying to and fro leaves the refusals -/
theorem kW_86 {i : Nat} : ¬ kW (wcid 86 i) := fun h => h.1 rfl
theorem kW_108 {i : Nat} : ¬ kW (wcid 108 i) := fun h => h.2 rfl
theorem fr_kW {τ s : Mem} (h : s 86 = τ 86 ∧ s 108 = τ 108) : fr kW τ s := fun k i hn => by
  have e := wcid_or k i
  by_cases a : k = 86
  · subst a; rw [h.1]
  · by_cases c : k = 108
    · subst c; rw [h.2]
    · exfalso
      refine hn (kW_mk ?_ ?_)
      · rcases wcid_or k i with e | e
        · rw [e]; exact a
        · omega
      · rcases wcid_or k i with e | e
        · rw [e]; exact c
        · omega
theorem kf_keepTurn {F : Nat} (hF : 2000 ≤ F) {τ : Mem} (hM : wiM τ) : pf kW (f_X4_keepTurn F τ) τ := by
  refine pf_sf (wt_keepTurn hF hM) (fun _ s q => ?_)
  have old : ∀ t d, wtKeep τ s t d → fr kW τ s := fun t d w => fr_kW ⟨funext fun i => w.2.1 86 i (by decide) (by decide) (fun q => by have := q.1; omega) (by omega), funext fun i => w.2.1 108 i (by decide) (by decide) (fun q => by have := q.1; omega) (by omega)⟩
  by_cases c : (τ 101 30).toInt = 8
  · rw [if_pos c] at q; exact old _ _ q
  · rw [if_neg c] at q; exact old _ _ q
theorem kf_carryAll {F : Nat} (hF : 1000 ≤ F) {k : Nat} (hk : wiK k) {τ : Mem} : pf kW (f_X4_carryAll F k 0 τ) τ := pf_mono (pf_sf (wt_carryAll hF (Or.inl rfl) hk) (fun _ s hC => wt_Car_fr0 hC)) (fun c h => kW_mk (by omega) (by omega))
theorem kf_think {F : Nat} (hF : 1000 ≤ F) {k : Nat} (hk : k = 116) {τ : Mem} : pf kW (f_X4_carryAll F k 1 τ) τ := pf_mono (pf_sf (wt_carryAll hF (Or.inr rfl) (by unfold wiK; omega)) (fun _ s hC => wt_Car_fr1 (by unfold wiK; omega) (by decide) hC)) (fun c h => kW_mk (by omega) (by omega))
theorem km_law {F : Nat} (hF : 2000 ≤ F) {x : Int32} {σ : Mem} (hM : wiM σ) {b : Nat → Int32} (hb : σ 108 = b) : pc (f_X4_law F x σ) (fun _ z => z 108 = wB b (cO x 3)) := by
  rw [f_X4_law_e]
  refine pc_lt (fun s1 h1 => pc_be (mx_in32 (lo := 0) (hi := 2) rfl rfl) ?_)
  have hb' : s1 108 = b := by rw [h1, up2_k (by decide)]; exact hb
  have hM1 : wiM s1 := by rw [h1]; exact wm_fld hM (by decide) (by decide) (by decide) (by decide) (by decide) (by decide) (by decide)
  refine pc_ite (fun c => ?_) (fun c => ?_)
  · have e : cO x 3 = -2 := by
      unfold cO
      rw [tz_3]
      refine if_neg (fun q => ?_)
      rw [if_pos (by omega)] at c
      exact absurd c (by decide)
    rw [e]
    exact nq_ref hb' rfl (by decide)
  · have e : cO x 3 = 0 := by
      unfold cO
      rw [tz_3]
      refine if_pos ?_
      by_cases q : 0 ≤ x.toInt ∧ x.toInt ≤ 2
      · omega
      · rw [if_neg q] at c; exact absurd rfl c
    rw [e]
    refine km_leaf hb' ?_
    have f_s1 : fr kW s1 s1 := fr_rf
    refine pf_bnd (kf_keepTurn hF hM1) (fun _ h => h) f_s1 (fun r1 s2 f_s2 => ?_)
    refine pf_up2 (c := 1008) f_s2 (rfl) (kW_mk (by decide) (by decide)) (fun s3 f_s3 => ?_)
    exact pf_ret f_s3
theorem km_worth {F : Nat} (hF : 2000 ≤ F) {x1 x2 : Int32} {σ : Mem} (hM : wiM σ) {b : Nat → Int32} (hb : σ 108 = b) : pc (f_X4_worth F x1 x2 σ) (fun _ z => z 108 = wB b (cF (cB (0 ≤ x1.toInt ∧ x1.toInt ≤ 7)) (cN x2 0 9))) := by
  rw [f_X4_worth_e]
  refine pc_lt (fun s1 h1 => pc_be mx_isView ?_)
  simp only [j_X4_worth_23_e]
  have hb' : s1 108 = b := by rw [h1, up2_k (by decide)]; exact hb
  have hM1 : wiM s1 := by rw [h1]; exact wm_fld hM (by decide) (by decide) (by decide) (by decide) (by decide) (by decide) (by decide)
  by_cases c : 0 ≤ x1.toInt ∧ x1.toInt ≤ 7
  · rw [if_pos c, if_neg (by decide), cB_t c]
    refine pc_be mx_wrongN (nR_end sg_cN hb' (fun _ => ?_))
    have f_s1 : fr kW s1 s1 := fr_rf
    refine pf_bnd (kf_keepTurn hF hM1) (fun _ h => h) f_s1 (fun r1 s2 f_s2 => ?_)
    refine pf_chk (fun v3 => ?_)
    refine pf_lt (fun z4 _ => ?_)
    refine pf_up2 (c := 102) f_s2 (rfl) (kW_mk (by decide) (by decide)) (fun s5 f_s5 => ?_)
    exact pf_ret f_s5
  · rw [if_neg c, if_pos rfl, cB_f c]
    exact nR_end (e := -1) (Or.inr (by decide)) hb' (fun e => absurd e (by decide))
theorem km_wall {F : Nat} (hF : 2000 ≤ F) {x1 x2 : Int32} {σ : Mem} (hM : wiM σ) {b : Nat → Int32} (hb : σ 108 = b) : pc (f_X4_wall F x1 x2 σ) (fun _ z => z 108 = wB b (cF (cB (0 ≤ x1.toInt ∧ x1.toInt < (σ 101 1).toInt)) (cB (0 ≤ x2.toInt ∧ x2.toInt ≤ 7)))) := by
  rw [f_X4_wall_e]
  have bp := wx_X4_1 hM
  refine pc_lt (fun s1 h1 => ?_)
  have e7 : s1 101 1 = σ 101 1 := by rw [h1, up2_i (by decide)]
  have hb' : s1 108 = b := by rw [h1, up2_k (by decide)]; exact hb
  have hM1 : wiM s1 := by rw [h1]; exact wm_fld hM (by decide) (by decide) (by decide) (by decide) (by decide) (by decide) (by decide)
  refine pc_be (mx_isPane (by rw [e7]; exact bp.1)) ?_
  simp only [j_X4_wall_20_e]
  rw [e7]
  by_cases c : 0 ≤ x1.toInt ∧ x1.toInt < (σ 101 1).toInt
  · rw [if_pos c, if_neg (by decide), cB_t c]
    refine pc_be mx_isView ?_
    by_cases c2 : 0 ≤ x2.toInt ∧ x2.toInt ≤ 7
    · rw [if_pos c2, if_neg (by decide), cB_t c2]
      refine km_leaf hb' ?_
      have f_s1 : fr kW s1 s1 := fr_rf
      refine pf_bnd (kf_keepTurn hF hM1) (fun _ h => h) f_s1 (fun r1 s2 f_s2 => ?_)
      refine pf_chk (fun v3 => ?_)
      refine pf_up2 (c := 103) f_s2 (rfl) (kW_mk (by decide) (by decide)) (fun s4 f_s4 => ?_)
      exact pf_ret f_s4
    · rw [if_neg c2, if_pos rfl, cB_f c2]
      exact nq_ref hb' rfl (by decide)
  · rw [if_neg c, if_pos rfl, cB_f c]
    exact nq_ref hb' rfl (by decide)
theorem km_restore {F : Nat} (hF : 1000 ≤ F) {σ : Mem} {b : Nat → Int32} (hb : σ 108 = b) : pc (f_X4_restore F σ) (fun _ z => z 108 = wB b (if σ 101 24 = 0 then -3 else 0)) := by
  rw [f_X4_restore_e]
  refine pc_lt (fun s1 h1 => ?_)
  have hb' : s1 108 = b := by rw [h1, up2_k (by decide)]; exact hb
  rw [show s1 101 24 = σ 101 24 by rw [h1, up2_i (by decide)]]
  refine pc_ite (fun c => ?_) (fun c => ?_)
  · rw [if_pos c]; exact nq_ref hb' rfl (by decide)
  · rw [if_neg c]
    refine km_leaf hb' ?_
    have f_s1 : fr kW s1 s1 := fr_rf
    refine pf_bnd (kf_carryAll hF (by unfold wiK; omega)) (fun _ h => h) f_s1 (fun r2 s2 f_s2 => ?_)
    refine pf_up2 (c := 1030) f_s2 rfl (kW_mk (by decide) (by decide)) (fun s3 f_s3 => ?_)
    exact pf_ret f_s3
theorem kl_back {F : Nat} (hF : 1000 ≤ F) {τ : Mem} : ∀ (N : Nat) (x1 : Int32) (σ : Mem), fr kW τ σ → pf kW (lp_X4_back_31 F N x1 σ) τ := by
  intro N
  induction N with
  | zero => intro _ _ _; exact pf_none rfl
  | succ N ih =>
    intro x1 σ f_σ
    rw [lp_X4_back_31_s]
    refine pf_ite ?_ ?_
    · refine pf_bnd (kf_carryAll hF (by unfold wiK; omega)) (fun _ h => h) f_σ (fun r2 s2 f_s2 => ?_)
      exact pf_ret f_s2
    · refine pf_chk (fun v1 => ?_)
      refine pf_chk (fun v2 => ?_)
      refine pf_up2 (c := 118) f_σ rfl (kW_mk (by decide) (by decide)) (fun s3 f_s3 => ?_)
      exact ih _ _ f_s3
theorem km_back {F : Nat} (hF : 1000 ≤ F) {σ : Mem} {b : Nat → Int32} (hb : σ 108 = b) : pc (f_X4_back F σ) (fun _ z => z 108 = wB b (if (σ 101 30).toInt = 0 then -3 else 0)) := by
  rw [f_X4_back_e]
  refine pc_lt (fun s6 h6 => ?_)
  have hb' : s6 108 = b := by rw [h6, up2_k (by decide)]; exact hb
  have u6 : s6 101 30 = σ 101 30 := by rw [h6, up2_i (by decide)]
  refine pc_ite (fun c => ?_) (fun c => ?_)
  · have d := ti_eq c
    rw [u6, tz_0] at d
    rw [if_pos d]; exact nq_ref hb' rfl (by decide)
  have d := ti_ne c
  rw [u6, tz_0] at d
  rw [if_neg d]
  refine km_leaf hb' ?_
  have f_s6 : fr kW s6 s6 := fr_rf
  refine pf_up2 (c := 1030) f_s6 rfl (kW_mk (by decide) (by decide)) (fun s3 f_s3 => ?_)
  exact kl_back hF _ _ _ f_s3
theorem kx_stands {F : Nat} (hF : 1000 ≤ F) {x1 x2 x3 x4 : Int32} {σ : Mem} (hv : wvV (wvX 1 σ)) : pc (f_X3_stands F x1 x2 x3 x4 σ) (fun _ z => z 86 = wB (σ 86) (eStands (σ 1 0).toInt (σ 1 2).toInt x1 x2 x3 x4)) := by
  have bP : (σ 1 0).toInt ≤ 6 := hv.1.2
  have bL : (σ 1 2).toInt ≤ 5 := hv.2.1.2
  rw [f_X3_stands_e]
  refine pc_be (ax_noLooker bL) (pc_be ax_noHour (pc_be ax_noHour (pc_be ax_firstOf (pc_be ax_firstOf ?_))))
  simp only [j_X3_stands_41_e, j_X3_stands_55_e]
  have key : ∀ e, e = eStands (σ 1 0).toInt (σ 1 2).toInt x1 x2 x3 x4 → pc (if e = 0 then (wt_chk x1 5 (wt_bnd (f_X2_keepRoster F x1 (1 + 5 + Int32.toNatClampNeg x1) σ) fun r2 s3 => wt_bnd (f_X0_post F 1 x1 x2 x3 x4 s3) fun r4 s5 => wt_bnd (f_X0_hoursOf F 1 x1 s5) fun r6 s7 => some (r6, s7))) else wt_bnd (f_X3_refuse F e σ) fun r8 s9 => some (r8, s9)) (fun _ z => z 86 = wB (σ 86) (eStands (σ 1 0).toInt (σ 1 2).toInt x1 x2 x3 x4)) := fun e he => by
    subst he
    refine kR_end (fun _ => ?_)
    have f_σ : fr kW σ σ := fr_rf
    refine pf_chk (fun v1 => ?_)
    refine pf_bnd (fr_X2_keepRoster hF) (kw_X2_keepRoster) f_σ (fun r2 s3 f_s3 => ?_)
    refine pf_bnd (fr_X0_post hF wt_h1) (kw_X0_post_1) f_s3 (fun r4 s5 f_s5 => ?_)
    refine pf_bnd (fr_X0_hoursOf hF wt_h1) (fun _ h => h.elim) f_s5 (fun r6 s7 f_s7 => ?_)
    exact pf_ret f_s7
  have hE : eStands (σ 1 0).toInt (σ 1 2).toInt x1 x2 x3 x4 = cF (cF (cF (cB (0 ≤ x1.toInt ∧ x1.toInt < (σ 1 2).toInt)) (cF (cB (0 ≤ x2.toInt ∧ x2.toInt ≤ 23)) (cB (0 ≤ x3.toInt ∧ x3.toInt ≤ 23)))) (if x4 = 9 then 0 else cB (0 ≤ x4.toInt ∧ x4.toInt < (σ 1 0).toInt))) (if x2.toInt ≤ x3.toInt then 0 else -3) := rfl
  generalize eStands (σ 1 0).toInt (σ 1 2).toInt x1 x2 x3 x4 = E at *
  generalize cF (cB (0 ≤ x1.toInt ∧ x1.toInt < (σ 1 2).toInt)) (cF (cB (0 ≤ x2.toInt ∧ x2.toInt ≤ 23)) (cB (0 ≤ x3.toInt ∧ x3.toInt ≤ 23))) = a at *
  have last : ∀ b, E = cF b (if x2.toInt ≤ x3.toInt then 0 else -3) → pc (if b = 0 then (if x2 ≤ x3 then (if b = 0 then (wt_chk x1 5 (wt_bnd (f_X2_keepRoster F x1 (1 + 5 + Int32.toNatClampNeg x1) σ) fun r2 s3 => wt_bnd (f_X0_post F 1 x1 x2 x3 x4 s3) fun r4 s5 => wt_bnd (f_X0_hoursOf F 1 x1 s5) fun r6 s7 => some (r6, s7))) else wt_bnd (f_X3_refuse F b σ) fun r8 s9 => some (r8, s9)) else (if (-3 : Int32) = 0 then (wt_chk x1 5 (wt_bnd (f_X2_keepRoster F x1 (1 + 5 + Int32.toNatClampNeg x1) σ) fun r2 s3 => wt_bnd (f_X0_post F 1 x1 x2 x3 x4 s3) fun r4 s5 => wt_bnd (f_X0_hoursOf F 1 x1 s5) fun r6 s7 => some (r6, s7))) else wt_bnd (f_X3_refuse F (-3) σ) fun r8 s9 => some (r8, s9))) else (if b = 0 then (wt_chk x1 5 (wt_bnd (f_X2_keepRoster F x1 (1 + 5 + Int32.toNatClampNeg x1) σ) fun r2 s3 => wt_bnd (f_X0_post F 1 x1 x2 x3 x4 s3) fun r4 s5 => wt_bnd (f_X0_hoursOf F 1 x1 s5) fun r6 s7 => some (r6, s7))) else wt_bnd (f_X3_refuse F b σ) fun r8 s9 => some (r8, s9))) (fun _ z => z 86 = wB (σ 86) E) := fun b hb => by
    refine pc_ite (fun c => ?_) (fun c => ?_)
    · refine pc_ite (fun c2 => key b ?_) (fun c2 => key (-3) ?_)
      · rw [hb]; unfold cF; rw [if_pos c, if_pos (ti_le c2), c]
      · rw [hb]; unfold cF; rw [if_pos c, if_neg (Int.not_le.mpr (ti_nle c2))]
    · refine key b ?_
      rw [hb]; unfold cF; rw [if_neg c]
  refine pc_ite (fun c => ?_) (fun c => last a ?_)
  · refine pc_ite (fun c9 => last a ?_) (fun c9 => pc_be (ax_noPane bP) (last _ ?_))
    · rw [hE, if_pos c9]
      show _ = cF a _
      unfold cF
      rw [if_pos c, if_pos c]
      by_cases q : x2.toInt ≤ x3.toInt
      · rw [if_pos q]; rfl
      · rw [if_neg q]; rfl
    · rw [hE, if_neg c9]
      unfold cF
      rw [if_pos c]
  · rw [hE]
    unfold cF
    rw [if_neg c, if_neg c]
theorem km_stands {F : Nat} (hF : 2000 ≤ F) {x1 x2 x3 x4 : Int32} {σ : Mem} (hM : wiM σ) {b : Nat → Int32} (hb : σ 108 = b) : pc (f_X4_stands F x1 x2 x3 x4 σ) (fun _ z => z 108 = wB b (eStands (σ 101 1).toInt (σ 101 3).toInt x1 x2 x3 x4)) := by
  have bp := wx_X4_1 hM
  have bl := wx_X4_3 hM
  rw [f_X4_stands_e]
  refine pc_lt (fun s1 h1 => ?_)
  simp only [j_X4_stands_57_e, j_X4_stands_43_e, j_X4_stands_58_e]
  have k7 : ∀ k i, ¬ (k = 101 ∧ i = 10) → s1 k i = σ k i := by rw [h1]; exact th_k
  have hb' : s1 108 = b := by rw [h1, up2_k (by decide)]; exact hb
  have hM1 : wiM s1 := by rw [h1]; exact wm_fld hM (by decide) (by decide) (by decide) (by decide) (by decide) (by decide) (by decide)
  have e1 : s1 101 1 = σ 101 1 := k7 _ _ (by omega)
  have e3 : s1 101 3 = σ 101 3 := k7 _ _ (by omega)
  have hG : ∀ e, e = eStands (σ 101 1).toInt (σ 101 3).toInt x1 x2 x3 x4 → pc (if 0 ≤ e then (wt_bnd (f_X4_keepTurn F s1) fun r1 s2 => wt_bnd (f_X4_stand F x1 x2 x3 x4 s2) fun r3 s4 => wt_bnd (f_X4_hoursOf F x1 s4) fun r5 s6 => some (r5, s6)) else wt_bnd (f_X4_refuse F e s1) fun r s => some (r, s)) (fun _ z => z 108 = wB b (eStands (σ 101 1).toInt (σ 101 3).toInt x1 x2 x3 x4)) := fun e he => by
    subst he
    refine nR_end (sg_cF (sg_cF (sg_cF sg_cB (sg_cF sg_cB sg_cB)) ?_) (sg_i (by decide))) hb' (fun _ => ?_)
    · by_cases q : x4 = 9
      · rw [if_pos q]; exact Or.inl rfl
      · rw [if_neg q]; exact sg_cB
    have f_s1 : fr kW s1 s1 := fr_rf
    refine pf_bnd (kf_keepTurn hF hM1) (fun _ h => h) f_s1 (fun r1 s2 f_s2 => ?_)
    refine pf_bnd (fr_X4_stand (by omega)) (kw_X4_stand) f_s2 (fun r3 s4 f_s4 => ?_)
    refine pf_bnd (fr_X4_hoursOf (by omega)) (fun _ h => h.elim) f_s4 (fun r5 s6 f_s6 => ?_)
    exact pf_ret f_s6
  have hE : eStands (σ 101 1).toInt (σ 101 3).toInt x1 x2 x3 x4 = cF (cF (cF (cB (0 ≤ x1.toInt ∧ x1.toInt < (σ 101 3).toInt)) (cF (cB (0 ≤ x2.toInt ∧ x2.toInt ≤ 23)) (cB (0 ≤ x3.toInt ∧ x3.toInt ≤ 23)))) (if x4 = 9 then 0 else cB (0 ≤ x4.toInt ∧ x4.toInt < (σ 101 1).toInt))) (if x2.toInt ≤ x3.toInt then 0 else -3) := rfl
  generalize eStands (σ 101 1).toInt (σ 101 3).toInt x1 x2 x3 x4 = E at *
  have m1 : cF (-1 : Int32) (if x2.toInt ≤ x3.toInt then 0 else -3) = -1 := rfl
  refine pc_be (mx_isLooker (by rw [e3]; exact bl.1)) ?_
  rw [e3]
  by_cases c : 0 ≤ x1.toInt ∧ x1.toInt < (σ 101 3).toInt
  rotate_left
  · rw [if_neg c, if_pos rfl]
    refine hG (-1) ?_
    rw [hE, cB_f c]; rfl
  rw [if_pos c, if_neg (by decide)]
  refine pc_be mx_isHour ?_
  by_cases c2 : 0 ≤ x2.toInt ∧ x2.toInt ≤ 23
  rotate_left
  · rw [if_neg c2, if_pos rfl]
    refine hG (-1) ?_
    rw [hE, cB_t c, cB_f c2]; rfl
  rw [if_pos c2, if_neg (by decide)]
  refine pc_be mx_isHour ?_
  by_cases c3 : 0 ≤ x3.toInt ∧ x3.toInt ≤ 23
  rotate_left
  · rw [if_neg c3, if_pos rfl]
    refine hG (-1) ?_
    rw [hE, cB_t c, cB_t c2, cB_f c3]; rfl
  rw [if_pos c3, if_neg (by decide)]
  rw [cB_t c, cB_t c2, cB_t c3] at hE
  have fin : E = (if x2.toInt ≤ x3.toInt then 0 else -3) → pc (if x2 ≤ x3 then (if (0 : Int32) ≤ 0 then (wt_bnd (f_X4_keepTurn F s1) fun r1 s2 => wt_bnd (f_X4_stand F x1 x2 x3 x4 s2) fun r3 s4 => wt_bnd (f_X4_hoursOf F x1 s4) fun r5 s6 => some (r5, s6)) else wt_bnd (f_X4_refuse F 0 s1) fun r s => some (r, s)) else (if (0 : Int32) ≤ -3 then (wt_bnd (f_X4_keepTurn F s1) fun r1 s2 => wt_bnd (f_X4_stand F x1 x2 x3 x4 s2) fun r3 s4 => wt_bnd (f_X4_hoursOf F x1 s4) fun r5 s6 => some (r5, s6)) else wt_bnd (f_X4_refuse F (-3) s1) fun r s => some (r, s))) (fun _ z => z 108 = wB b E) := fun h => by
    refine pc_ite (fun c => hG 0 ?_) (fun c => hG (-3) ?_)
    · rw [h, if_pos (ti_le c)]
    · rw [h, if_neg (Int.not_le.mpr (ti_nle c))]
  refine pc_ite (fun c9 => fin ?_) (fun c9 => ?_)
  · rw [hE, if_pos c9]; rfl
  refine pc_be (mx_isPane (by rw [e1]; exact bp.1)) ?_
  rw [e1]
  by_cases c4 : 0 ≤ x4.toInt ∧ x4.toInt < (σ 101 1).toInt
  · rw [if_pos c4, if_neg (by decide)]
    refine fin ?_
    rw [hE, if_neg c9, cB_t c4]; rfl
  · rw [if_neg c4, if_pos rfl]
    refine hG (-1) ?_
    rw [hE, if_neg c9, cB_f c4]; rfl
