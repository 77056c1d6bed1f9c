theorem km_ahead {F : Nat} (hF : 1000 ≤ F) {x1 x2 : Int32} {s : Mem} {V : Nat → Int32} {b : Nat → Int32} (h : vM V s) (hb : s 108 = b) : pc (f_X4_ahead F x1 x2 s) (fun _ z => z 108 = wB b (akAhead V x1 x2)) := by
  rw [f_X4_ahead_e]
  refine pc_lt (fun s6 h6 => ?_)
  have h' : vM V s6 := vM_up h h6
  have hb' : s6 108 = b := by rw [h6, up2_k (by decide)]; exact hb
  clear h6
  refine pc_be (qm_areTwo h') ?_
  unfold akAhead
  by_cases c : (0 ≤ x1.toInt ∧ x1.toInt < (V 1).toInt) ∧ (0 ≤ x2.toInt ∧ x2.toInt < (V 1).toInt) ∧ ¬ x1 = x2
  · rw [if_pos c, if_neg (by decide), cB_t c, cF_z]
    refine km_leaf hb' ?_
    have f_s6 : fr kW s6 s6 := fr_rf
    refine pf_bnd (fr_X4_layBrings hF) (kw_X4_layBrings) f_s6 (fun r1 s2 f_s2 => ?_)
    exact gl_X4_ahead_26 hF _ _ _ f_s2
  · rw [if_neg c, if_pos rfl, cB_f c]
    exact nq_ref hb' (cF_n (by decide)) (by decide)
theorem km_bestLaw {F : Nat} (hF : 1000 ≤ F) {x1 x2 : Int32} {s : Mem} {V : Nat → Int32} {b : Nat → Int32} (h : vM V s) (hb : s 108 = b) : pc (f_X4_bestLaw F x1 x2 s) (fun _ z => z 108 = wB b (akBestLaw V x1 x2)) := by
  rw [f_X4_bestLaw_e]
  refine pc_lt (fun s6 h6 => ?_)
  have h' : vM V s6 := vM_up h h6
  have hb' : s6 108 = b := by rw [h6, up2_k (by decide)]; exact hb
  clear h6
  simp only [j_X4_bestLaw_25_e]
  refine pc_be (mx_isLooker (by rw [vM_L h']; exact h.1.2.1.1)) ?_
  rw [vM_L h']
  unfold akBestLaw
  by_cases c : 0 ≤ x1.toInt ∧ x1.toInt < (V 1).toInt
  · rw [if_pos c, if_neg (by decide), cB_t c, cF_z]
    refine pc_be mx_wrongN ?_
    refine nq_end hb' sg_cN (fun _ => ?_)
    have f_s6 : fr kW s6 s6 := fr_rf
    refine pf_bnd (fr_X4_layBrings hF) (kw_X4_layBrings) f_s6 (fun r1 s2 f_s2 => ?_)
    exact gl_X4_bestLaw_55 hF _ _ _ _ _ f_s2
  · rw [if_neg c, if_pos rfl, cB_f c, cF_n (a := -1) (by decide), if_neg (by decide)]
    exact nq_ref hb' (cF_n (by decide)) (by decide)
theorem km_bestPane {F : Nat} (hF : 1000 ≤ F) {x1 x2 x3 x4 : Int32} {s : Mem} {V : Nat → Int32} {b : Nat → Int32} (h : vM V s) (hb : s 108 = b) : pc (f_X4_bestPane F x1 x2 x3 x4 s) (fun _ z => z 108 = wB b (akBestPane V x1 x2 x3 x4)) := by
  have h5 := h.1.2.1
  have h6 := h.1.1
  rw [f_X4_bestPane_e]
  refine pc_lt (fun s5 g5 => ?_)
  have h' : vM V s5 := vM_up h g5
  have hb' : s5 108 = b := by rw [g5, up2_k (by decide)]; exact hb
  clear g5
  simp only [j_X4_bestPane_31_e]
  have n1 := ti_nat x1
  have n2 := ti_nat x2
  have m0 := ti_nat (V 0)
  have J : ∀ t : Int32, t = cF (cF (cB (0 ≤ x1.toInt ∧ x1.toInt < (V 1).toInt)) (cB (0 ≤ x2.toInt ∧ x2.toInt ≤ 23))) (cN x3 0 999) → pc (j_X4_bestPane_32 F x1 x2 x3 x4 t s5) (fun _ z => z 108 = wB b (akBestPane V x1 x2 x3 x4)) := fun t ht => by
    rw [j_X4_bestPane_32_e]
    refine pc_be mx_wrongBit ?_
    unfold akBestPane
    rw [← ht]
    refine nq_end hb' (sg_cF (by rw [ht]; exact sg_cF (sg_cF sg_cB sg_cB) sg_cN) sg_cO) (fun _ => ?_)
    have f_s5 : fr kW s5 s5 := fr_rf
    refine pf_chk (fun v1 => ?_)
    refine pf_lt (fun z2 _ => ?_)
    exact gl_X4_bestPane_74 hF _ _ _ _ _ f_s5
  refine pc_be (mx_isLooker (by rw [vM_L h']; exact h.1.2.1.1)) ?_
  rw [vM_L h']
  by_cases c : 0 ≤ x1.toInt ∧ x1.toInt < (V 1).toInt
  · rw [if_pos c, if_neg (by decide)]
    refine pc_be mx_isHour ?_
    by_cases c2 : 0 ≤ x2.toInt ∧ x2.toInt ≤ 23
    · rw [if_pos c2, if_neg (by decide)]
      refine pc_be mx_wrongN ?_
      exact J _ (by rw [cB_t c, cB_t c2, cF_z, cF_z])
    · rw [if_neg c2, if_pos rfl]
      exact J _ (by rw [cB_t c, cB_f c2, cF_z, cF_n (a := -1) (by decide)])
  · rw [if_neg c, if_pos rfl]
    exact J _ (by rw [cB_f c, cF_n (a := -1) (by decide), cF_n (a := -1) (by decide)])
theorem km_busy {F : Nat} (hF : 1000 ≤ F) {x1 : Int32} {s : Mem} {V : Nat → Int32} {b : Nat → Int32} (h : vM V s) (hb : s 108 = b) : pc (f_X4_busy F x1 s) (fun _ z => z 108 = wB b (akBusy V x1)) := by
  rw [f_X4_busy_e]
  refine pc_lt (fun s7 h7 => ?_)
  have h' : vM V s7 := vM_up h h7
  have hb' : s7 108 = b := by rw [h7, up2_k (by decide)]; exact hb
  clear h7
  refine pc_be (mx_in32 (lo := 0) (hi := 1) rfl rfl) ?_
  unfold akBusy
  by_cases c2 : 0 ≤ x1.toInt ∧ x1.toInt ≤ 1
  · have hO : cO x1 2 = 0 := if_pos ⟨c2.1, by rw [tz_2]; omega⟩
    rw [if_pos c2, if_neg (by decide), hO, cF_z]
    refine km_leaf hb' ?_
    have f_s7 : fr kW s7 s7 := fr_rf
    exact gl_X4_busy_26 hF _ _ _ _ f_s7
  · have hO : cO x1 2 = -2 := if_neg (fun q => c2 ⟨q.1, by have := q.2; rw [tz_2] at this; omega⟩)
    rw [if_neg c2, if_pos rfl, hO]
    exact nq_ref hb' (cF_n (by decide)) (by decide)
theorem km_counts {F : Nat} (hF : 1000 ≤ F) {x1 x2 x3 : Int32} {s : Mem} {V : Nat → Int32} {b : Nat → Int32} (h : vM V s) (hb : s 108 = b) : pc (f_X4_counts F x1 x2 x3 s) (fun _ z => z 108 = wB b (akCounts V x1 x2 x3)) := by
  rw [f_X4_counts_e]
  refine pc_lt (fun s6 h6 => ?_)
  have h' : vM V s6 := vM_up h h6
  have hb' : s6 108 = b := by rw [h6, up2_k (by decide)]; exact hb
  clear h6
  simp only [j_X4_counts_29_e, j_X4_counts_30_e]
  refine pc_be (mx_isLooker (by rw [vM_L h']; exact h.1.2.1.1)) ?_
  rw [vM_L h']
  unfold akCounts
  have h5 := h.1.2.1.2
  by_cases c : 0 ≤ x1.toInt ∧ x1.toInt < (V 1).toInt
  · rw [if_pos c, if_neg (by decide), cB_t c, cF_z]
    refine pc_be mx_isView ?_
    by_cases c2 : 0 ≤ x2.toInt ∧ x2.toInt ≤ 7
    · rw [if_pos c2, if_neg (by decide), cB_t c2, cF_z]
      have n1 := ti_nat x1
      have n2 := ti_nat x2
      refine pc_be mx_wrongBit ?_
      rw [cF_z]
      refine nq_end hb' sg_cO (fun _ => ?_)
      have f_s6 : fr kW s6 s6 := fr_rf
      refine pf_ite ?_ ?_
      · refine pf_chk (fun v1 => ?_)
        exact pf_ret f_s6
      · refine pf_bnd (fr_X4_bringsOf hF) (fun _ h => h.elim) f_s6 (fun r2 s3 f_s3 => ?_)
        exact pf_ret f_s3
    · rw [if_neg c2, if_pos rfl, cB_f c2, cF_n (a := -1) (by decide)]
      exact nq_end hb' (Or.inr (by decide)) (fun q => absurd q (by decide))
  · rw [if_neg c, if_pos rfl, cB_f c, cF_n (a := -1) (by decide), cF_n (a := -1) (by decide)]
    exact nq_end hb' (Or.inr (by decide)) (fun q => absurd q (by decide))
theorem km_days {F : Nat} (hF : 1000 ≤ F) {x : Int32} {s : Mem} {V : Nat → Int32} {b : Nat → Int32} (h : vM V s) (hb : s 108 = b) : pc (f_X4_days F x s) (fun _ z => z 108 = wB b (akDays V x)) := by
  rw [f_X4_days_e]
  refine pc_lt (fun s7 h7 => pc_be mx_wrongN ?_)
  have h' : vM V s7 := vM_up h h7
  have hb' : s7 108 = b := by rw [h7, up2_k (by decide)]; exact hb
  clear h7
  simp only [j_X4_days_34_e, j_X4_days_35_e]
  rw [vM_D h']
  have hG : ∀ e, e = eDays (V 3) x → pc (if 0 ≤ e then (wt_bnd (f_X4_goDays F x s7) fun r1 s2 => wt_lt (up2 s2 101 30 (0 : Int32)) fun s3 => wt_bnd (f_X4_owned F s3) fun r4 s5 => some (r4, s5)) else wt_bnd (f_X4_refuse F e s7) fun r s => some (r, s)) (fun _ z => z 108 = wB b (akDays V x)) := fun e he => by
    subst he
    refine nq_end hb' (sg_cF sg_cN (sg_i (by decide))) (fun _ => ?_)
    have f_s7 : fr kW s7 s7 := fr_rf
    refine pf_bnd (fr_X4_goDays hF) (kw_X4_goDays) f_s7 (fun r1 s2 f_s2 => ?_)
    refine pf_up2 (c := 1030) f_s2 (rfl) (kW_mk (by decide) (by decide)) (fun s3 f_s3 => ?_)
    refine pf_bnd (fr_X4_owned hF) (kw_X4_owned) f_s3 (fun r4 s5 f_s5 => ?_)
    exact pf_ret f_s5
  by_cases c1 : cN x 1 99 = 0
  · rw [if_pos c1]
    by_cases c2 : V 3 + x ≤ 9999
    · rw [if_pos c2]
      refine hG _ ?_
      unfold eDays cF
      have := ti_le c2
      rw [tz_9999] at this
      rw [if_pos c1, if_pos this, c1]
    · rw [if_neg c2]
      refine hG _ ?_
      unfold eDays cF
      have := ti_nle c2
      rw [tz_9999] at this
      rw [if_pos c1, if_neg (by omega)]
  · rw [if_neg c1]
    refine hG _ ?_
    unfold eDays cF
    rw [if_neg c1]
theorem km_duels {F : Nat} (hF : 1000 ≤ F) {x1 x2 : Int32} {s : Mem} {V : Nat → Int32} {b : Nat → Int32} (h : vM V s) (hb : s 108 = b) : pc (f_X4_duels F x1 x2 s) (fun _ z => z 108 = wB b (akDuels V x1 x2)) := by
  rw [f_X4_duels_e]
  refine pc_lt (fun s4 h4 => ?_)
  have h' : vM V s4 := vM_up h h4
  have hb' : s4 108 = b := by rw [h4, up2_k (by decide)]; exact hb
  clear h4
  refine pc_be (qm_areTwo h') ?_
  unfold akDuels
  by_cases c : ((0 ≤ x1.toInt ∧ x1.toInt < (V 1).toInt) ∧ (0 ≤ x2.toInt ∧ x2.toInt < (V 1).toInt) ∧ ¬ x1 = x2)
  · rw [if_pos c, if_neg (by decide), cB_t c, cF_z]
    refine km_leaf hb' ?_
    have f_s4 : fr kW s4 s4 := fr_rf
    exact gl_X4_duels_25 hF _ _ _ _ f_s4
  · rw [if_neg c, if_pos rfl, cB_f c]
    exact nq_ref hb' (cF_n (by decide)) (by decide)
theorem km_even {F : Nat} (hF : 1000 ≤ F) {x1 : Int32} {s : Mem} {V : Nat → Int32} {b : Nat → Int32} (h : vM V s) (hb : s 108 = b) : pc (f_X4_even F x1 s) (fun _ z => z 108 = wB b (akEven V x1)) := by
  have n1 := ti_nat (V 1)
  have h5 := h.1.2.1
  rw [f_X4_even_e]
  refine pc_lt (fun s6 h6 => ?_)
  have h' : vM V s6 := vM_up h h6
  have hb' : s6 108 = b := by rw [h6, up2_k (by decide)]; exact hb
  clear h6
  refine pc_be mx_wrongN ?_
  unfold akEven
  rw [wt_bnd_eq mx_wrongN]
  refine nq_end hb' sg_cN (fun _ => ?_)
  have f_s6 : fr kW s6 s6 := fr_rf
  refine pf_bnd (fr_X4_layBrings hF) (kw_X4_layBrings) f_s6 (fun r1 s2 f_s2 => ?_)
  exact gl_X4_even_37 hF _ _ _ _ f_s2
theorem km_freeHours {F : Nat} (hF : 1000 ≤ F) {x1 x2 : Int32} {s : Mem} {V : Nat → Int32} {b : Nat → Int32} (h : vM V s) (hb : s 108 = b) : pc (f_X4_freeHours F x1 x2 s) (fun _ z => z 108 = wB b (akFreeHours V x1 x2)) := by
  have h5 := h.1.2.1
  rw [f_X4_freeHours_e]
  refine pc_lt (fun s6 h6 => ?_)
  have h' : vM V s6 := vM_up h h6
  have hb' : s6 108 = b := by rw [h6, up2_k (by decide)]; exact hb
  clear h6
  simp only [j_X4_freeHours_25_e]
  refine pc_be (mx_isLooker (by rw [vM_L h']; exact h.1.2.1.1)) ?_
  rw [vM_L h']
  unfold akFreeHours
  by_cases c : 0 ≤ x1.toInt ∧ x1.toInt < (V 1).toInt
  · rw [if_pos c, if_neg (by decide), cB_t c, cF_z]
    have n1 := ti_nat x1
    have hl : x1.toInt = (x1.toNatClampNeg : Int) := by omega
    have hl5 : (x1.toNatClampNeg : Int) < (V 1).toInt := by omega
    refine pc_be mx_wrongN (nq_end hb' sg_cN (fun _ => ?_))
    have f_s6 : fr kW s6 s6 := fr_rf
    refine pf_bnd (fr_X4_layBrings hF) (kw_X4_layBrings) f_s6 (fun r1 s2 f_s2 => ?_)
    refine pf_bnd (fr_X4_viewsIn hF) (kw_X4_viewsIn) f_s2 (fun r3 s4 f_s4 => ?_)
    exact gl_X4_freeHours_54 hF _ _ _ _ f_s4
  · rw [if_neg c, if_pos rfl, cB_f c, cF_n (a := -1) (by decide), if_neg (by decide)]
    exact nq_ref hb' (cF_n (by decide)) (by decide)
theorem km_from {F : Nat} (hF : 1000 ≤ F) {x1 x2 : Int32} {s : Mem} {V : Nat → Int32} {b : Nat → Int32} (h : vM V s) (hb : s 108 = b) : pc (f_X4_from F x1 x2 s) (fun _ z => z 108 = wB b (akFrom V x1 x2)) := by
  rw [f_X4_from_e]
  refine pc_lt (fun s5 h5 => ?_)
  have h' : vM V s5 := vM_up h h5
  have hb' : s5 108 = b := by rw [h5, up2_k (by decide)]; exact hb
  clear h5
  simp only [j_X4_from_20_e]
  refine pc_be (mx_isLooker (by rw [vM_L h']; exact h.1.2.1.1)) ?_
  rw [vM_L h']
  unfold akFrom
  by_cases c : 0 ≤ x1.toInt ∧ x1.toInt < (V 1).toInt
  · rw [if_pos c, if_neg (by decide), cB_t c, cF_z]
    refine pc_be mx_isView ?_
    by_cases c2 : 0 ≤ x2.toInt ∧ x2.toInt ≤ 7
    · rw [if_pos c2, if_neg (by decide), cB_t c2, cF_z]
      refine km_leaf hb' ?_
      have f_s5 : fr kW s5 s5 := fr_rf
      refine pf_bnd (fr_X4_layBrings hF) (kw_X4_layBrings) f_s5 (fun r1 s2 f_s2 => ?_)
      exact gl_X4_from_32 hF _ _ _ f_s2
    · rw [if_neg c2, if_pos rfl, cB_f c2]
      exact nq_ref hb' (cF_n (by decide)) (by decide)
  · rw [if_neg c, if_pos rfl, cB_f c]
    exact nq_ref hb' (by rw [cF_n (a := -1) (by decide), cF_n (by decide)]) (by decide)
theorem km_gap {F : Nat} (hF : 1000 ≤ F) {x1 x2 : Int32} {s : Mem} {V : Nat → Int32} {b : Nat → Int32} (h : vM V s) (hb : s 108 = b) : pc (f_X4_gap F x1 x2 s) (fun _ z => z 108 = wB b (akGap V x1 x2)) := by
  rw [f_X4_gap_e]
  refine pc_lt (fun s6 h6 => ?_)
  have h' : vM V s6 := vM_up h h6
  have hb' : s6 108 = b := by rw [h6, up2_k (by decide)]; exact hb
  clear h6
  simp only [j_X4_gap_24_e]
  refine pc_be mx_isView ?_
  unfold akGap
  by_cases c : 0 ≤ x1.toInt ∧ x1.toInt ≤ 7
  · rw [if_pos c, if_neg (by decide), cB_t c, cF_z]
    have n1 := ti_nat x1
    refine pc_be mx_wrongN (nq_end hb' sg_cN (fun _ => ?_))
    have f_s6 : fr kW s6 s6 := fr_rf
    refine pf_bnd (fr_X4_layBrings hF) (kw_X4_layBrings) f_s6 (fun r1 s2 f_s2 => ?_)
    exact gl_X4_gap_48 hF _ _ _ _ _ f_s2
  · rw [if_neg c, if_pos rfl, cB_f c, cF_n (a := -1) (by decide)]
    exact nq_end hb' (Or.inr (by decide)) (fun q => absurd q (by decide))
theorem km_heir {F : Nat} (hF : 1000 ≤ F) {x1 x2 x3 : Int32} {s : Mem} {V : Nat → Int32} {b : Nat → Int32} (h : vM V s) (hb : s 108 = b) : pc (f_X4_heir F x1 x2 x3 s) (fun _ z => z 108 = wB b (akHeir V x1 x2 x3)) := by
  rw [f_X4_heir_e]
  refine pc_lt (fun s5 g5 => ?_)
  have h' : vM V s5 := vM_up h g5
  have hb' : s5 108 = b := by rw [g5, up2_k (by decide)]; exact hb
  clear g5
  have h5 := h.1.2.1.2
  simp only [j_X4_heir_31_e, j_X4_heir_32_e]
  refine pc_be (mx_isLooker (by rw [vM_L h']; exact h.1.2.1.1)) ?_
  rw [vM_L h']
  unfold akHeir
  by_cases c : 0 ≤ x1.toInt ∧ x1.toInt < (V 1).toInt
  · rw [if_pos c, if_neg (by decide), cB_t c, cF_z]
    refine pc_be mx_isView ?_
    by_cases c2 : 0 ≤ x2.toInt ∧ x2.toInt ≤ 7
    · rw [if_pos c2, if_neg (by decide), cB_t c2, cF_z]
      have n1 := ti_nat x1
      have n2 := ti_nat x2
      refine pc_be mx_wrongN ?_
      refine nq_end hb' sg_cN (fun _ => ?_)
      have f_s5 : fr kW s5 s5 := fr_rf
      refine pf_bnd (fr_X4_think hF) (kw_X4_think) f_s5 (fun r1 s2 f_s2 => ?_)
      refine pf_bnd (fr_X4_stand hF) (kw_X4_stand) f_s2 (fun r3 s4 f_s4 => ?_)
      exact gl_X4_heir_63 hF _ _ _ f_s4
    · rw [if_neg c2, if_pos rfl, cB_f c2, cF_n (a := -1) (by decide), if_neg (by decide)]
      exact nq_ref hb' (cF_n (by decide)) (by decide)
  · rw [if_neg c, if_pos rfl, cB_f c, cF_n (a := -1) (by decide), cF_n (a := -1) (by decide), if_neg (by decide)]
    exact nq_ref hb' (cF_n (by decide)) (by decide)
theorem km_ill {F : Nat} (hF : 1000 ≤ F) {x1 x2 x3 x4 x5 : Int32} {s : Mem} {V : Nat → Int32} {b : Nat → Int32} (h : vM V s) (hb : s 108 = b) : pc (f_X4_ill F x1 x2 x3 x4 x5 s) (fun _ z => z 108 = wB b (akIll V x1 x2 x3 x4 x5)) := by
  have h5 := h.1.2.1
  rw [f_X4_ill_e]
  refine pc_lt (fun s6 g6 => ?_)
  have h' : vM V s6 := vM_up h g6
  have hb' : s6 108 = b := by rw [g6, up2_k (by decide)]; exact hb
  clear g6
  simp only [j_X4_ill_23_e, j_X4_ill_39_e, j_X4_ill_59_e]
  have J : ∀ t : Int32, t = cF (cF (cB (0 ≤ x1.toInt ∧ x1.toInt < (V 1).toInt)) (cB (0 ≤ x2.toInt ∧ x2.toInt ≤ 7))) (kIL x3 x4) → pc (j_X4_ill_63 F x1 x2 x3 x4 x5 t s6) (fun _ z => z 108 = wB b (akIll V x1 x2 x3 x4 x5)) := fun t ht => by
    rw [j_X4_ill_63_e]
    refine pc_be mx_wrongBit ?_
    unfold akIll
    rw [← ht]
    have st : sg (cF t (cO x5 2)) := sg_cF (by rw [ht]; exact sg_cF (sg_cF sg_cB sg_cB) (by
      unfold kIL
      by_cases c : x3 < 0 ∨ ¬ 2 ≤ x4
      · rw [if_pos c]; exact Or.inr (by decide)
      · rw [if_neg c]
        by_cases d : 8 < x3 ∨ ¬ x4 ≤ 20
        · rw [if_pos d]; exact Or.inr (by decide)
        · rw [if_neg d]; exact Or.inl rfl)) sg_cO
    by_cases e : cF t (cO x5 2) = 0
    rotate_left
    · rw [if_neg (fun c => by
        have d := ti_le c
        rw [tz_0] at d
        rcases st with q | q
        · exact e q
        · omega)]
      exact nqL_ref hb' (cF_n e) e
    rw [e, if_pos (by decide), cF_z]
    refine km_leaf hb' ?_
    have f_s6 : fr kW s6 s6 := fr_rf
    refine pf_bnd (fr_X4_layBrings hF) (kw_X4_layBrings) f_s6 (fun r1 s2 f_s2 => ?_)
    exact gl_X4_ill_103 hF _ _ _ _ f_s2
  refine pc_be (mx_isLooker (by rw [vM_L h']; exact h5.1)) ?_
  rw [vM_L h']
  by_cases c : 0 ≤ x1.toInt ∧ x1.toInt < (V 1).toInt
  · rw [if_pos c, if_neg (by decide)]
    refine pc_be mx_isView ?_
    by_cases c2 : 0 ≤ x2.toInt ∧ x2.toInt ≤ 7
    · rw [if_pos c2, if_neg (by decide)]
      rw [cB_t c, cB_t c2, cF_z, cF_z] at J
      refine pc_ite (fun c3 => J _ (if_pos (Or.inl c3)).symm) (fun c3 => pc_ite (fun c4 => ?_) (fun c4 => J _ (if_pos (Or.inr c4)).symm))
      have l : kIL x3 x4 = if 8 < x3 ∨ ¬ x4 ≤ 20 then -6 else 0 := if_neg (fun w => w.elim c3 (fun q => q c4))
      refine pc_ite (fun c5 => J _ ?_) (fun c5 => pc_ite (fun c6 => J _ ?_) (fun c6 => J _ ?_))
      · rw [l, if_pos (Or.inl c5)]
      · rw [l, if_neg (fun w => w.elim c5 (fun q => q c6))]
      · rw [l, if_pos (Or.inr c6)]
    · rw [if_neg c2, if_pos rfl]
      exact J _ (by rw [cB_t c, cB_f c2, cF_z, cF_n (a := -1) (by decide)])
  · rw [if_neg c, if_pos rfl]
    exact J _ (by rw [cB_f c, cF_n (a := -1) (by decide), cF_n (a := -1) (by decide)])
theorem km_joint {F : Nat} (hF : 1000 ≤ F) {x1 x2 x3 : Int32} {s : Mem} {V : Nat → Int32} {b : Nat → Int32} (h : vM V s) (hb : s 108 = b) : pc (f_X4_joint F x1 x2 x3 s) (fun _ z => z 108 = wB b (akStaredOut V x1 x2 x3)) := by
  rw [f_X4_joint_e]
  refine pc_lt (fun s6 h6 => ?_)
  have h' : vM V s6 := vM_up h h6
  have hb' : s6 108 = b := by rw [h6, up2_k (by decide)]; exact hb
  clear h6
  simp only [j_X4_joint_26_e]
  refine pc_be (qm_areTwo h') ?_
  unfold akStaredOut
  by_cases c : (0 ≤ x1.toInt ∧ x1.toInt < (V 1).toInt) ∧ (0 ≤ x2.toInt ∧ x2.toInt < (V 1).toInt) ∧ ¬ x1 = x2
  · rw [if_pos c, if_neg (by decide), cB_t c, cF_z]
    refine pc_be mx_wrongN (nq_end hb' sg_cN (fun _ => ?_))
    have f_s6 : fr kW s6 s6 := fr_rf
    refine pf_bnd (fr_X4_layBrings hF) (kw_X4_layBrings) f_s6 (fun r1 s2 f_s2 => ?_)
    exact gl_X4_joint_50 hF _ _ _ _ f_s2
  · rw [if_neg c, if_pos rfl, cB_f c, cF_n (a := -1) (by decide)]
    exact nq_end hb' (Or.inr (by decide)) (fun q => absurd q (by decide))
theorem km_judge {F : Nat} (hF : 1000 ≤ F) {x1 : Int32} {n : Int32} {row : Nat → Int32} {s : Mem} {V : Nat → Int32} {b : Nat → Int32} (h : vM V s) (hb : s 108 = b) (hn : 0 ≤ n.toInt ∧ n.toInt ≤ 12) (h34 : s 101 34 = n) (hr : ∀ i, i < n.toNatClampNeg → s 121 i = row i) : pc (f_X4_judge F x1 s) (fun _ z => z 108 = wB b (akJudge V x1 n row)) := by
  rw [f_X4_judge_e]
  refine pc_lt (fun s5 g5 => ?_)
  have h' : vM V s5 := vM_up h g5
  have hb' : s5 108 = b := by rw [g5, up2_k (by decide)]; exact hb
  have e34 : s5 101 34 = n := by rw [g5, up2_i (by decide)]; exact h34
  have er : ∀ i, i < n.toNatClampNeg → s5 121 i = row i := fun i hi => by rw [g5, up2_k (by decide)]; exact hr i hi
  clear g5
  refine pc_be mx_isView ?_
  unfold akJudge
  have m1 := ti_nat n
  by_cases c : 0 ≤ x1.toInt ∧ x1.toInt ≤ 7
  · rw [if_pos c, if_neg (by decide), cB_t c, cF_z]
    refine km_leaf hb' ?_
    have f_s5 : fr kW s5 s5 := fr_rf
    refine pf_up2 (c := 1034) f_s5 (rfl) (kW_mk (by decide) (by decide)) (fun s1 f_s1 => ?_)
    refine pf_bnd (fr_X4_layBrings hF) (kw_X4_layBrings) f_s1 (fun r2 s3 f_s3 => ?_)
    exact gl_X4_judge_34 hF _ _ _ f_s3
  · rw [if_neg c, if_pos rfl, cB_f c]
    exact nq_ref hb' (cF_n (by decide)) (by decide)
theorem km_lookerOf {F : Nat} (hF : 1000 ≤ F) {x1 x2 : Int32} {s : Mem} {V : Nat → Int32} {b : Nat → Int32} (h : vM V s) (hb : s 108 = b) : pc (f_X4_lookerOf F x1 x2 s) (fun _ z => z 108 = wB b (akLookerOf V x1 x2)) := by
  rw [f_X4_lookerOf_e]
  refine pc_lt (fun s6 h6 => ?_)
  have h' : vM V s6 := vM_up h h6
  have hb' : s6 108 = b := by rw [h6, up2_k (by decide)]; exact hb
  clear h6
  have h5 := h.1.2.1.2
  have hL : f_X4_isLooker F x1 s6 = some (if 0 ≤ x1.toInt ∧ x1.toInt < (V 1).toInt then 1 else 0, s6) := by
    rw [mx_isLooker (by rw [vM_L h']; exact h.1.2.1.1), vM_L h']
  simp only [j_X4_lookerOf_25_e, j_X4_lookerOf_40_e]
  refine pc_be hL ?_
  unfold akLookerOf
  by_cases c : 0 ≤ x1.toInt ∧ x1.toInt < (V 1).toInt
  · rw [if_pos c, if_neg (by decide), cB_t c, cF_z]
    have n1 := ti_nat x1
    refine pc_be (mx_in32 (lo := 0) (hi := 3) rfl rfl) ?_
    by_cases c2 : 0 ≤ x2.toInt ∧ x2.toInt ≤ 3
    · have hO : cO x2 4 = 0 := if_pos ⟨c2.1, by rw [tz_4]; omega⟩
      rw [if_pos c2, if_neg (by decide), hO, cF_z]
      refine km_leaf hb' ?_
      have f_s6 : fr kW s6 s6 := fr_rf
      refine pf_bnd (fr_X4_layBrings hF) (kw_X4_layBrings) f_s6 (fun r1 s2 f_s2 => ?_)
      refine pf_ite ?_ ?_
      · refine pf_chk (fun v3 => ?_)
        exact pf_ret f_s2
      · refine pf_ite ?_ ?_
        · refine pf_chk (fun v4 => ?_)
          exact pf_ret f_s2
        · refine pf_ite ?_ ?_
          · refine pf_bnd (fr_X4_hoursOf hF) (fun _ h => h.elim) f_s2 (fun r5 s6 f_s6 => ?_)
            exact pf_ret f_s6
          · refine pf_bnd (fr_X4_viewsIn hF) (kw_X4_viewsIn) f_s2 (fun r7 s8 f_s8 => ?_)
            exact pf_ret f_s8
    · have hO : cO x2 4 = -2 := if_neg (fun q => c2 ⟨q.1, by have := q.2; rw [tz_4] at this; omega⟩)
      rw [if_neg c2, if_pos rfl, hO]
      refine pc_be hL ?_
      rw [if_pos c, if_neg (by decide)]
      exact nq_ref hb' (cF_n (by decide)) (by decide)
  · rw [if_neg c, if_pos rfl, cB_f c]
    refine pc_be hL ?_
    rw [if_neg c, if_pos rfl]
    exact nq_ref hb' (by rw [cF_n (a := -1) (by decide), cF_n (by decide)]) (by decide)
theorem km_lost {F : Nat} (hF : 1000 ≤ F) {x1 : Int32} {s : Mem} {V : Nat → Int32} {b : Nat → Int32} (h : vM V s) (hb : s 108 = b) : pc (f_X4_lost F x1 s) (fun _ z => z 108 = wB b (akLost V x1)) := by
  rw [f_X4_lost_e]
  refine pc_lt (fun s3 h3 => ?_)
  have h' : vM V s3 := vM_up h h3
  have hb' : s3 108 = b := by rw [h3, up2_k (by decide)]; exact hb
  clear h3
  refine pc_be mx_isView ?_
  unfold akLost
  by_cases c : 0 ≤ x1.toInt ∧ x1.toInt ≤ 7
  · rw [if_pos c, if_neg (by decide), cB_t c, cF_z]
    have n1 := ti_nat x1
    refine pc_bnd (pc_and (qm_lay h') (pc_pf (fr_X4_layBrings hF))) (fun _ z q => pc_bnd (pc_and (qm_own (x2 := 0) (by decide) (v := x1.toNatClampNeg) (by omega) (by omega) q.1) (pc_pf (fr_X4_ownerIn hF))) (fun r y w => ?_))
    have hy : y 108 = b := (kW_fr (fr_tr (fr_tr (W := kW) fr_rf q.2 kw_X4_layBrings) w.2 kw_X4_ownerIn)).2.trans hb'
    rw [w.1.1]
    have h0 := aHold_0 h.1 (x := 0) (by decide) (v := x1.toNatClampNeg) (by omega)
    refine pc_ite (fun e => ?_) (fun e => nq_ref hy ?_ (by decide))
    · rw [if_neg (h0.mp e)]
      refine km_leaf hy ?_
      have f_y : fr kW y y := fr_rf
      exact gl_X4_lost_42 hF _ _ _ f_y
    · rw [if_pos (Classical.byContradiction (fun n => e (h0.mpr n)))]
  · rw [if_neg c, if_pos rfl, cB_f c]
    exact nq_ref hb' (cF_n (by decide)) (by decide)
theorem km_lots {F : Nat} (hF : 1000 ≤ F) {x1 x2 x3 : Int32} {s : Mem} {V : Nat → Int32} {b : Nat → Int32} (h : vM V s) (hb : s 108 = b) : pc (f_X4_lots F x1 x2 x3 s) (fun _ z => z 108 = wB b (akLots V x1 x2 x3)) := by
  have h6 := h.1.1
  rw [f_X4_lots_e]
  refine pc_lt (fun s5 g5 => ?_)
  have h' : vM V s5 := vM_up h g5
  have hb' : s5 108 = b := by rw [g5, up2_k (by decide)]; exact hb
  clear g5
  refine pc_be mx_wrongN (pc_be mx_wrongBit ?_)
  unfold akLots
  refine nq_end hb' (sg_cF sg_cN sg_cO) (fun _ => ?_)
  have f_s5 : fr kW s5 s5 := fr_rf
  refine pf_up2 (c := 1035) f_s5 (rfl) (kW_mk (by decide) (by decide)) (fun s1 f_s1 => ?_)
  refine pf_bnd (fr_X4_think hF) (kw_X4_think) f_s1 (fun r2 s3 f_s3 => ?_)
  exact gl_X4_lots_46 hF _ _ _ _ f_s3
theorem km_moreHours {F : Nat} (hF : 1000 ≤ F) {x1 x2 x3 : Int32} {s : Mem} {V : Nat → Int32} {b : Nat → Int32} (h : vM V s) (hb : s 108 = b) : pc (f_X4_moreHours F x1 x2 x3 s) (fun _ z => z 108 = wB b (akMoreHours V x1 x2 x3)) := by
  have h5 := h.1.2.1.2
  have m0 := ti_nat (V 0)
  have h6 := h.1.1
  rw [f_X4_moreHours_e]
  refine pc_lt (fun s5 g5 => ?_)
  have h' : vM V s5 := vM_up h g5
  have hb' : s5 108 = b := by rw [g5, up2_k (by decide)]; exact hb
  clear g5
  simp only [j_X4_moreHours_31_e, j_X4_moreHours_32_e, j_X4_moreHours_83_e]
  refine pc_be (mx_isLooker (by rw [vM_L h']; exact h.1.2.1.1)) ?_
  rw [vM_L h']
  unfold akMoreHours
  by_cases c : 0 ≤ x1.toInt ∧ x1.toInt < (V 1).toInt
  · rw [if_pos c, if_neg (by decide), cB_t c, cF_z]
    refine pc_be mx_isView ?_
    by_cases c2 : 0 ≤ x2.toInt ∧ x2.toInt ≤ 7
    · rw [if_pos c2, if_neg (by decide), cB_t c2, cF_z]
      have n1 := ti_nat x1
      have n2 := ti_nat x2
      refine pc_be mx_wrongN ?_
      refine nq_end hb' sg_cN (fun _ => ?_)
      have f_s5 : fr kW s5 s5 := fr_rf
      refine pf_bnd (fr_X4_layBrings hF) (kw_X4_layBrings) f_s5 (fun r1 s2 f_s2 => ?_)
      refine pf_bnd (fr_X4_ownerIn hF) (kw_X4_ownerIn) f_s2 (fun r3 s4 f_s4 => ?_)
      refine pf_ite ?_ ?_
      · exact pf_ret f_s4
      · refine pf_chk (fun v5 => ?_)
        refine pf_ite ?_ ?_
        · try rw [j_X4_moreHours_83_e]
          exact pf_ret f_s4
        · refine pf_bnd (fr_X4_allShown hF) (fun _ h => h.elim) f_s4 (fun r6 s7 f_s7 => ?_)
          refine pf_bnd (fr_X4_hasBit hF) (fun _ h => h.elim) f_s7 (fun r8 s9 f_s9 => ?_)
          refine pf_ite ?_ ?_
          · try rw [j_X4_moreHours_83_e]
            exact pf_ret f_s9
          · exact gl_X4_moreHours_93 hF _ _ _ _ f_s9
    · rw [if_neg c2, if_pos rfl, cB_f c2, cF_n (a := -1) (by decide), if_neg (by decide)]
      exact nq_ref hb' (cF_n (by decide)) (by decide)
  · rw [if_neg c, if_pos rfl, cB_f c, cF_n (a := -1) (by decide), cF_n (a := -1) (by decide), if_neg (by decide)]
    exact nq_ref hb' (cF_n (by decide)) (by decide)
theorem km_mostSeen {F : Nat} (hF : 1000 ≤ F) {x1 : Int32} {s : Mem} {V : Nat → Int32} {b : Nat → Int32} (h : vM V s) (hb : s 108 = b) : pc (f_X4_mostSeen F x1 s) (fun _ z => z 108 = wB b (akMostSeen V x1)) := by
  rw [f_X4_mostSeen_e]
  refine pc_lt (fun s7 h7 => ?_)
  have h' : vM V s7 := vM_up h h7
  have hb' : s7 108 = b := by rw [h7, up2_k (by decide)]; exact hb
  clear h7
  refine pc_be (mx_in32 (lo := 0) (hi := 1) rfl rfl) ?_
  unfold akMostSeen
  by_cases c2 : 0 ≤ x1.toInt ∧ x1.toInt ≤ 1
  · have hO : cO x1 2 = 0 := if_pos ⟨c2.1, by rw [tz_2]; omega⟩
    rw [if_pos c2, if_neg (by decide), hO, cF_z]
    refine km_leaf hb' ?_
    have f_s7 : fr kW s7 s7 := fr_rf
    refine pf_bnd (fr_X4_layBrings hF) (kw_X4_layBrings) f_s7 (fun r1 s2 f_s2 => ?_)
    exact gl_X4_mostSeen_30 hF _ _ _ _ f_s2
  · have hO : cO x1 2 = -2 := if_neg (fun q => c2 ⟨q.1, by have := q.2; rw [tz_2] at this; omega⟩)
    rw [if_neg c2, if_pos rfl, hO]
    exact nq_ref hb' (cF_n (by decide)) (by decide)
theorem km_newcomer {F : Nat} (hF : 1000 ≤ F) {x1 x2 x3 : Int32} {s : Mem} {V : Nat → Int32} {b : Nat → Int32} (h : vM V s) (hb : s 108 = b) : pc (f_X4_newcomer F x1 x2 x3 s) (fun _ z => z 108 = wB b (akNewcomer V x1 x2 x3)) := by
  have h5 := h.1.2.1
  have m1 := ti_nat (V 1)
  have t5 : (5 : Int32).toInt = 5 := rfl
  rw [f_X4_newcomer_e]
  refine pc_lt (fun s5 g5 => ?_)
  have h' : vM V s5 := vM_up h g5
  have hb' : s5 108 = b := by rw [g5, up2_k (by decide)]; exact hb
  clear g5
  simp only [j_X4_newcomer_39_e]
  have J : ∀ t : Int32, t = cF (cF (cB (0 ≤ x2.toInt ∧ x2.toInt < (V 0).toInt)) (cF (cO x1 6) (cO x3 2))) (kS5 V) → pc (j_X4_newcomer_58 F x1 x2 x3 t s5) (fun _ z => z 108 = wB b (akNewcomer V x1 x2 x3)) := fun t ht => by
    rw [j_X4_newcomer_58_e]
    unfold akNewcomer
    rw [← ht]
    refine nq_end hb' (by rw [ht]; exact sg_cF (sg_cF sg_cB (sg_cF sg_cO sg_cO)) (sg_i (by decide))) (fun _ => ?_)
    have f_s5 : fr kW s5 s5 := fr_rf
    refine pf_bnd (fr_X4_think hF) (kw_X4_think) f_s5 (fun r1 s2 f_s2 => ?_)
    refine pf_bnd (fr_X4_lookerComes hF) (kw_X4_lookerComes) f_s2 (fun r3 s4 f_s4 => ?_)
    refine pf_bnd (fr_X4_stand hF) (kw_X4_stand) f_s4 (fun r5 s6 f_s6 => ?_)
    refine pf_bnd (fr_X4_layBrings hF) (kw_X4_layBrings) f_s6 (fun r7 s8 f_s8 => ?_)
    exact gl_X4_newcomer_113 hF _ _ _ _ _ f_s8
  refine pc_be (mx_isPane (by rw [vM_P h']; exact h.1.1.1)) ?_
  rw [vM_P h']
  by_cases c : 0 ≤ x2.toInt ∧ x2.toInt < (V 0).toInt
  · rw [if_pos c, if_neg (by decide)]
    refine pc_be (mx_in32 (lo := 0) (hi := 5) rfl rfl) ?_
    by_cases c1 : 0 ≤ x1.toInt ∧ x1.toInt ≤ 5
    · have hO : cO x1 6 = 0 := if_pos ⟨c1.1, by have t6 : (6 : Int32).toInt = 6 := rfl; rw [t6]; omega⟩
      rw [if_pos c1, if_neg (by decide)]
      refine pc_be (mx_in32 (lo := 0) (hi := 1) rfl rfl) ?_
      by_cases c3 : 0 ≤ x3.toInt ∧ x3.toInt ≤ 1
      · have hO3 : cO x3 2 = 0 := if_pos ⟨c3.1, by rw [tz_2]; omega⟩
        rw [if_pos c3, if_neg (by decide), vM_L h']
        refine pc_ite (fun c5 => J (-3) ?_) (fun c5 => J 0 ?_)
        · have d := congrArg Int32.toInt c5
          rw [t5] at d
          rw [cB_t c, hO, hO3, cF_z, cF_z, cF_z, show kS5 V = -3 from if_neg (by omega)]
        · have d := ti_ne c5
          rw [t5] at d
          rw [cB_t c, hO, hO3, cF_z, cF_z, cF_z, show kS5 V = 0 from if_pos (by omega)]
      · have hO3 : cO x3 2 = -2 := if_neg (fun q => c3 ⟨q.1, by have := q.2; rw [tz_2] at this; omega⟩)
        rw [if_neg c3, if_pos rfl]
        exact J (-2) (by rw [cB_t c, hO, hO3, cF_z, cF_z, cF_n (a := -2) (by decide)])
    · have hO : cO x1 6 = -2 := if_neg (fun q => c1 ⟨q.1, by have := q.2; have t6 : (6 : Int32).toInt = 6 := rfl; rw [t6] at this; omega⟩)
      rw [if_neg c1, if_pos rfl]
      exact J (-2) (by rw [cB_t c, hO, cF_z, cF_n (a := -2) (b := cO x3 2) (by decide), cF_n (a := -2) (by decide)])
  · rw [if_neg c, if_pos rfl]
    exact J (-1) (by rw [cB_f c, cF_n (a := -1) (by decide), cF_n (a := -1) (by decide)])
theorem km_nobodys {F : Nat} (hF : 1000 ≤ F) {x1 : Int32} {s : Mem} {V : Nat → Int32} {b : Nat → Int32} (h : vM V s) (hb : s 108 = b) : pc (f_X4_nobodys F x1 s) (fun _ z => z 108 = wB b (akNobodys V x1)) := by
  rw [f_X4_nobodys_e]
  refine pc_lt (fun s6 h6 => ?_)
  have h' : vM V s6 := vM_up h h6
  have hb' : s6 108 = b := by rw [h6, up2_k (by decide)]; exact hb
  clear h6
  refine pc_be mx_wrongN ?_
  unfold akNobodys
  rw [wt_bnd_eq mx_wrongN]
  refine nq_end hb' sg_cN (fun _ => ?_)
  have f_s6 : fr kW s6 s6 := fr_rf
  refine pf_bnd (fr_X4_layBrings hF) (kw_X4_layBrings) f_s6 (fun r1 s2 f_s2 => ?_)
  refine pf_bnd (fr_X4_viewsIn hF) (kw_X4_viewsIn) f_s2 (fun r3 s4 f_s4 => ?_)
  exact pf_ret f_s4
theorem km_owner {F : Nat} (hF : 1000 ≤ F) {x1 x2 : Int32} {s : Mem} {V : Nat → Int32} {b : Nat → Int32} (h : vM V s) (hb : s 108 = b) : pc (f_X4_owner F x1 x2 s) (fun _ z => z 108 = wB b (akOwner V x1 x2)) := by
  rw [f_X4_owner_e]
  refine pc_lt (fun s7 h7 => ?_)
  have h' : vM V s7 := vM_up h h7
  have hb' : s7 108 = b := by rw [h7, up2_k (by decide)]; exact hb
  clear h7
  simp only [j_X4_owner_24_e]
  refine pc_be mx_isView ?_
  unfold akOwner
  by_cases c : 0 ≤ x1.toInt ∧ x1.toInt ≤ 7
  · rw [if_pos c, if_neg (by decide), cB_t c, cF_z]
    refine pc_be mx_wrongN ?_
    refine nq_end hb' sg_cN (fun _ => ?_)
    have f_s7 : fr kW s7 s7 := fr_rf
    refine pf_bnd (fr_X4_layBrings hF) (kw_X4_layBrings) f_s7 (fun r1 s2 f_s2 => ?_)
    refine pf_bnd (fr_X4_ownerIn hF) (kw_X4_ownerIn) f_s2 (fun r3 s4 f_s4 => ?_)
    exact pf_ret f_s4
  · rw [if_neg c, if_pos rfl, cB_f c, cF_n (a := -1) (by decide)]
    exact nq_end hb' (Or.inr (by decide)) (fun q => absurd q (by decide))
theorem km_owns {F : Nat} (hF : 1000 ≤ F) {x1 x2 x3 : Int32} {s : Mem} {V : Nat → Int32} {b : Nat → Int32} (h : vM V s) (hb : s 108 = b) : pc (f_X4_owns F x1 x2 x3 s) (fun _ z => z 108 = wB b (akOwns V x1 x2 x3)) := by
  rw [f_X4_owns_e]
  refine pc_lt (fun s6 h6 => ?_)
  have h' : vM V s6 := vM_up h h6
  have hb' : s6 108 = b := by rw [h6, up2_k (by decide)]; exact hb
  clear h6
  simp only [j_X4_owns_25_e]
  refine pc_be (mx_isLooker (by rw [vM_L h']; exact h.1.2.1.1)) ?_
  rw [vM_L h']
  unfold akOwns
  by_cases c : 0 ≤ x1.toInt ∧ x1.toInt < (V 1).toInt
  · rw [if_pos c, if_neg (by decide), cB_t c, cF_z]
    refine pc_be mx_wrongN (pc_be mx_wrongBit ?_)
    refine nq_end hb' (sg_cF sg_cN sg_cO) (fun _ => ?_)
    have f_s6 : fr kW s6 s6 := fr_rf
    refine pf_bnd (fr_X4_layBrings hF) (kw_X4_layBrings) f_s6 (fun r1 s2 f_s2 => ?_)
    refine pf_ite ?_ ?_
    · refine pf_bnd (fr_X4_viewsIn hF) (kw_X4_viewsIn) f_s2 (fun r3 s4 f_s4 => ?_)
      exact pf_ret f_s4
    · refine pf_bnd (fr_X4_worthIn hF) (kw_X4_worthIn) f_s2 (fun r5 s6 f_s6 => ?_)
      exact pf_ret f_s6
  · rw [if_neg c, if_pos rfl, cB_f c, cF_n (a := -1) (by decide)]
    refine pc_be mx_wrongBit ?_
    rw [cF_n (a := -1) (by decide)]
    exact nq_end hb' (Or.inr (by decide)) (fun q => absurd q (by decide))
theorem km_paneOf {F : Nat} (hF : 1000 ≤ F) {x1 x2 : Int32} {s : Mem} {V : Nat → Int32} {b : Nat → Int32} (h : vM V s) (hb : s 108 = b) : pc (f_X4_paneOf F x1 x2 s) (fun _ z => z 108 = wB b (akPaneOf V x1 x2)) := by
  rw [f_X4_paneOf_e]
  refine pc_lt (fun s7 h7 => ?_)
  have h' : vM V s7 := vM_up h h7
  have hb' : s7 108 = b := by rw [h7, up2_k (by decide)]; exact hb
  clear h7
  have e0 : s7 101 1 = V 0 := h'.2 0 (by decide)
  have hP : f_X4_isPane F x1 s7 = some (if 0 ≤ x1.toInt ∧ x1.toInt < (V 0).toInt then 1 else 0, s7) := by
    rw [mx_isPane (by rw [e0]; exact h.1.1.1), e0]
  simp only [j_X4_paneOf_23_e, j_X4_paneOf_38_e]
  refine pc_be hP ?_
  unfold akPaneOf
  by_cases c : 0 ≤ x1.toInt ∧ x1.toInt < (V 0).toInt
  · rw [if_pos c, if_neg (by decide), cB_t c, cF_z]
    refine pc_be (mx_in32 (lo := 0) (hi := 1) rfl rfl) ?_
    by_cases c2 : 0 ≤ x2.toInt ∧ x2.toInt ≤ 1
    · have hO : cO x2 2 = 0 := if_pos ⟨c2.1, by rw [tz_2]; omega⟩
      rw [if_pos c2, if_neg (by decide), hO, cF_z]
      refine km_leaf hb' ?_
      have f_s7 : fr kW s7 s7 := fr_rf
      exact gl_X4_paneOf_47 hF _ _ _ _ f_s7
    · have hO : cO x2 2 = -2 := if_neg (fun q => c2 ⟨q.1, by have := q.2; rw [tz_2] at this; omega⟩)
      rw [if_neg c2, if_pos rfl, hO]
      refine pc_be hP ?_
      rw [if_pos c, if_neg (by decide)]
      exact nq_ref hb' (cF_n (by decide)) (by decide)
  · rw [if_neg c, if_pos rfl, cB_f c]
    refine pc_be hP ?_
    rw [if_neg c, if_pos rfl]
    exact nq_ref hb' (by rw [cF_n (a := -1) (by decide), cF_n (by decide)]) (by decide)
theorem km_rank {F : Nat} (hF : 1000 ≤ F) {x1 x2 : Int32} {s : Mem} {V : Nat → Int32} {b : Nat → Int32} (h : vM V s) (hb : s 108 = b) : pc (f_X4_rank F x1 x2 s) (fun _ z => z 108 = wB b (akRank V x1 x2)) := by
  have h5 := h.1.2.1
  have n1 := ti_nat (V 1)
  rw [f_X4_rank_e]
  refine pc_lt (fun s6 h6 => ?_)
  have h' : vM V s6 := vM_up h h6
  have hb' : s6 108 = b := by rw [h6, up2_k (by decide)]; exact hb
  clear h6
  simp only [j_X4_rank_26_e]
  refine pc_be mx_isView ?_
  unfold akRank
  by_cases c : 0 ≤ x1.toInt ∧ x1.toInt ≤ 7
  · rw [if_pos c, if_neg (by decide), cB_t c, cF_z]
    have m1 := ti_nat x1
    refine pc_ite (fun c2 => ?_) (fun c2 => ?_)
    · rw [show kRk x2 = 0 from if_pos c2, cF_z, if_pos (by decide)]
      refine km_leaf hb' ?_
      have f_s6 : fr kW s6 s6 := fr_rf
      exact gl_X4_rank_40 hF _ _ _ f_s6
    · rw [show kRk x2 = -4 from if_neg c2, if_neg (by decide)]
      exact nq_ref hb' (cF_n (by decide)) (by decide)
  · rw [if_neg c, if_pos rfl, cB_f c, cF_n (a := -1) (by decide), if_neg (by decide)]
    exact nq_ref hb' (cF_n (by decide)) (by decide)
theorem km_richest {F : Nat} (hF : 1000 ≤ F) {x1 x2 : Int32} {s : Mem} {V : Nat → Int32} {b : Nat → Int32} (h : vM V s) (hb : s 108 = b) : pc (f_X4_richest F x1 x2 s) (fun _ z => z 108 = wB b (akRichest V x1 x2)) := by
  rw [f_X4_richest_e]
  refine pc_lt (fun s6 h6 => ?_)
  have h' : vM V s6 := vM_up h h6
  have hb' : s6 108 = b := by rw [h6, up2_k (by decide)]; exact hb
  clear h6
  simp only [j_X4_richest_49_e]
  refine pc_be mx_wrongN (pc_be mx_wrongBit ?_)
  unfold akRichest
  refine nq_end hb' (sg_cF sg_cN sg_cO) (fun _ => ?_)
  have f_s6 : fr kW s6 s6 := fr_rf
  refine pf_bnd (fr_X4_layBrings hF) (kw_X4_layBrings) f_s6 (fun r1 s2 f_s2 => ?_)
  refine pf_bnd (fr_X4_richestIn hF) (kw_X4_richestIn) f_s2 (fun r3 s4 f_s4 => ?_)
  refine pf_ite ?_ ?_
  · try rw [j_X4_richest_49_e]
    exact pf_ret f_s4
  · refine pf_ite ?_ ?_
    · refine pf_bnd (fr_X4_worthIn hF) (kw_X4_worthIn) f_s4 (fun r5 s6 f_s6 => ?_)
      exact pf_ret f_s6
    · try rw [j_X4_richest_49_e]
      exact pf_ret f_s4
theorem km_roster {F : Nat} (hF : 1000 ≤ F) {x1 x2 : Int32} {s : Mem} {V : Nat → Int32} {b : Nat → Int32} (h : vM V s) (hb : s 108 = b) : pc (f_X4_roster F x1 x2 s) (fun _ z => z 108 = wB b (akRoster V x1 x2)) := by
  rw [f_X4_roster_e]
  refine pc_lt (fun s3 h3 => ?_)
  have h' : vM V s3 := vM_up h h3
  have hb' : s3 108 = b := by rw [h3, up2_k (by decide)]; exact hb
  clear h3
  have e1 : s3 101 3 = V 1 := h'.2 1 (by decide)
  have h5 := h.1.2.1.2
  simp only [j_X4_roster_34_e]
  refine pc_be (mx_isLooker (by rw [e1]; exact h.1.2.1.1)) ?_
  rw [e1]
  unfold akRoster
  by_cases c : 0 ≤ x1.toInt ∧ x1.toInt < (V 1).toInt
  · rw [if_pos c, if_neg (by decide), cB_t c]
    refine pc_be mx_isHour ?_
    by_cases c2 : 0 ≤ x2.toInt ∧ x2.toInt ≤ 23
    · rw [if_pos c2, if_neg (by decide), cB_t c2, cF_z, cF_z]
      refine km_leaf hb' ?_
      have f_s3 : fr kW s3 s3 := fr_rf
      refine pf_chk (fun v1 => ?_)
      exact pf_ret f_s3
    · rw [if_neg c2, if_pos rfl, cB_f c2, cF_z]
      exact nq_ref hb' (cF_n (by decide)) (by decide)
  · rw [if_neg c, if_pos rfl, cB_f c]
    exact nq_ref hb' (by rw [cF_n (a := -1) (by decide), cF_n (by decide)]) (by decide)
theorem km_share {F : Nat} (hF : 1000 ≤ F) {x1 x2 x3 : Int32} {s : Mem} {V : Nat → Int32} {b : Nat → Int32} (h : vM V s) (hb : s 108 = b) : pc (f_X4_share F x1 x2 x3 s) (fun _ z => z 108 = wB b (akShare V x1 x2 x3)) := by
  have h5 := h.1.2.1
  have m1 := ti_nat (V 1)
  rw [f_X4_share_e]
  refine pc_lt (fun s6 g6 => ?_)
  have h' : vM V s6 := vM_up h g6
  have hb' : s6 108 = b := by rw [g6, up2_k (by decide)]; exact hb
  clear g6
  simp only [j_X4_share_29_e, j_X4_share_30_e]
  refine pc_be (mx_isLooker (by rw [vM_L h']; exact h5.1)) ?_
  rw [vM_L h']
  unfold akShare
  by_cases c : 0 ≤ x1.toInt ∧ x1.toInt < (V 1).toInt
  · rw [if_pos c, if_neg (by decide), cB_t c, cF_z]
    refine pc_be mx_isView ?_
    by_cases c2 : 0 ≤ x2.toInt ∧ x2.toInt ≤ 7
    · rw [if_pos c2, if_neg (by decide), cB_t c2, cF_z]
      have n1 := ti_nat x1
      have n2 := ti_nat x2
      refine pc_be mx_wrongBit ?_
      rw [cF_z]
      by_cases c3 : cO x3 2 = 0
      · rw [c3, cF_z, if_pos (by decide)]
        refine km_leaf hb' ?_
        have f_s6 : fr kW s6 s6 := fr_rf
        exact gl_X4_share_55 hF _ _ _ _ f_s6
      · have e3 := cO_n c3
        rw [e3, if_neg (by decide)]
        exact nqL_ref hb' (cF_n (by decide)) (by decide)
    · rw [if_neg c2, if_pos rfl, cB_f c2, cF_n (a := -1) (by decide), if_neg (by decide)]
      exact nqL_ref hb' (cF_n (by decide)) (by decide)
  · rw [if_neg c, if_pos rfl, cB_f c, cF_n (a := -1) (by decide), cF_n (a := -1) (by decide), if_neg (by decide)]
    exact nqL_ref hb' (cF_n (by decide)) (by decide)
theorem km_shown {F : Nat} (hF : 1000 ≤ F) {x1 : Int32} {s : Mem} {V : Nat → Int32} {b : Nat → Int32} (h : vM V s) (hb : s 108 = b) : pc (f_X4_shown F x1 s) (fun _ z => z 108 = wB b (akShown V x1)) := by
  rw [f_X4_shown_e]
  refine pc_lt (fun s4 h4 => ?_)
  have h' : vM V s4 := vM_up h h4
  have hb' : s4 108 = b := by rw [h4, up2_k (by decide)]; exact hb
  clear h4
  refine pc_be mx_isView ?_
  unfold akShown
  by_cases c : 0 ≤ x1.toInt ∧ x1.toInt ≤ 7
  · rw [if_pos c, if_neg (by decide), cB_t c, cF_z]
    refine km_leaf hb' ?_
    have f_s4 : fr kW s4 s4 := fr_rf
    exact gl_X4_shown_22 hF _ _ _ _ f_s4
  · rw [if_neg c, if_pos rfl, cB_f c]
    exact nq_ref hb' (cF_n (by decide)) (by decide)
theorem km_staredOut {F : Nat} (hF : 1000 ≤ F) {x1 x2 x3 : Int32} {s : Mem} {V : Nat → Int32} {b : Nat → Int32} (h : vM V s) (hb : s 108 = b) : pc (f_X4_staredOut F x1 x2 x3 s) (fun _ z => z 108 = wB b (akStaredOut V x1 x2 x3)) := by
  rw [f_X4_staredOut_e]
  refine pc_lt (fun s6 h6 => ?_)
  have h' : vM V s6 := vM_up h h6
  have hb' : s6 108 = b := by rw [h6, up2_k (by decide)]; exact hb
  clear h6
  simp only [j_X4_staredOut_26_e]
  refine pc_be (qm_areTwo h') ?_
  unfold akStaredOut
  by_cases c : (0 ≤ x1.toInt ∧ x1.toInt < (V 1).toInt) ∧ (0 ≤ x2.toInt ∧ x2.toInt < (V 1).toInt) ∧ ¬ x1 = x2
  · rw [if_pos c, if_neg (by decide), cB_t c, cF_z]
    refine pc_be mx_wrongN (nq_end hb' sg_cN (fun _ => ?_))
    have f_s6 : fr kW s6 s6 := fr_rf
    refine pf_bnd (fr_X4_layBrings hF) (kw_X4_layBrings) f_s6 (fun r1 s2 f_s2 => ?_)
    refine pf_bnd (fr_X4_viewsIn hF) (kw_X4_viewsIn) f_s2 (fun r3 s4 f_s4 => ?_)
    refine pf_bnd (fr_X4_viewsIn hF) (kw_X4_viewsIn) f_s4 (fun r5 s6 f_s6 => ?_)
    exact pf_ret f_s6
  · rw [if_neg c, if_pos rfl, cB_f c, cF_n (a := -1) (by decide)]
    exact nq_end hb' (Or.inr (by decide)) (fun q => absurd q (by decide))
theorem km_swap {F : Nat} (hF : 1000 ≤ F) {x1 : Int32} {s : Mem} {V : Nat → Int32} {b : Nat → Int32} (h : vM V s) (hb : s 108 = b) : pc (f_X4_swap F x1 s) (fun _ z => z 108 = wB b (akSwap V x1)) := by
  have h5 := h.1.2.1
  have m1 := ti_nat (V 1)
  rw [f_X4_swap_e]
  refine pc_lt (fun s6 g6 => ?_)
  have h' : vM V s6 := vM_up h g6
  have hb' : s6 108 = b := by rw [g6, up2_k (by decide)]; exact hb
  clear g6
  refine pc_be mx_wrongN ?_
  unfold akSwap
  rw [wt_bnd_eq mx_wrongN]
  refine nq_end hb' sg_cN (fun _ => ?_)
  have f_s6 : fr kW s6 s6 := fr_rf
  exact gl_X4_swap_37 hF _ _ _ _ _ f_s6
theorem km_together {F : Nat} (hF : 1000 ≤ F) {x1 x2 : Int32} {s : Mem} {V : Nat → Int32} {b : Nat → Int32} (h : vM V s) (hb : s 108 = b) : pc (f_X4_together F x1 x2 s) (fun _ z => z 108 = wB b (akTogether V x1 x2)) := by
  rw [f_X4_together_e]
  refine pc_lt (fun s4 h4 => ?_)
  have h' : vM V s4 := vM_up h h4
  have hb' : s4 108 = b := by rw [h4, up2_k (by decide)]; exact hb
  clear h4
  refine pc_be (qm_areTwo h') ?_
  unfold akTogether
  by_cases c : ((0 ≤ x1.toInt ∧ x1.toInt < (V 1).toInt) ∧ (0 ≤ x2.toInt ∧ x2.toInt < (V 1).toInt) ∧ ¬ x1 = x2)
  · rw [if_pos c, if_neg (by decide), cB_t c, cF_z]
    refine km_leaf hb' ?_
    have f_s4 : fr kW s4 s4 := fr_rf
    exact gl_X4_together_25 hF _ _ _ _ f_s4
  · rw [if_neg c, if_pos rfl, cB_f c]
    exact nq_ref hb' (cF_n (by decide)) (by decide)
theorem km_two {F : Nat} (hF : 1000 ≤ F) {x1 x2 x3 x4 : Int32} {s : Mem} {V : Nat → Int32} {b : Nat → Int32} (v : vM V s) (hb : s 108 = b) : pc (f_X4_two F x1 x2 x3 x4 s) (fun _ z => z 108 = wB b (akTwo V x1 x2 x3 x4)) := by
  have h5 := v.1.2.1.2
  have h6 := v.1.1
  have m0 := ti_nat (V 0)
  rw [f_X4_two_e]
  refine pc_lt (fun s5 g5 => ?_)
  have v' : vM V s5 := vM_up v g5
  have hb' : s5 108 = b := by rw [g5, up2_k (by decide)]; exact hb
  clear g5
  simp only [j_X4_two_33_e]
  refine pc_be (qm_areTwo v') ?_
  unfold akTwo
  by_cases c : ((0 ≤ x1.toInt ∧ x1.toInt < (V 1).toInt) ∧ (0 ≤ x2.toInt ∧ x2.toInt < (V 1).toInt) ∧ ¬ x1 = x2)
  · rw [if_pos c, if_neg (by decide), cB_t c, cF_z]
    refine pc_be mx_isHour ?_
    by_cases c2 : 0 ≤ x3.toInt ∧ x3.toInt ≤ 23
    · rw [if_pos c2, if_neg (by decide), cB_t c2, cF_z]
      refine pc_be mx_wrongN ?_
      simp only [j_X4_two_34_e]
      refine nq_end hb' sg_cN (fun _ => ?_)
      have f_s5 : fr kW s5 s5 := fr_rf
      refine pf_chk (fun v1 => ?_)
      refine pf_lt (fun z2 _ => ?_)
      refine pf_chk (fun v3 => ?_)
      refine pf_lt (fun z4 _ => ?_)
      exact gl_X4_two_77 hF _ _ _ f_s5
    · rw [if_neg c2, if_pos rfl, cB_f c2, cF_n (a := -1) (by decide)]
      simp only [j_X4_two_34_e]
      rw [if_neg (by decide)]
      exact nq_ref hb' (cF_n (by decide)) (by decide)
  · rw [if_neg c, if_pos rfl, cB_f c, cF_n (a := -1) (by decide), cF_n (a := -1) (by decide)]
    simp only [j_X4_two_34_e]
    rw [if_neg (by decide)]
    exact nq_ref hb' (cF_n (by decide)) (by decide)
theorem km_walls {F : Nat} (hF : 1000 ≤ F) {x1 x2 x3 : Int32} {s : Mem} {V : Nat → Int32} {b : Nat → Int32} (h : vM V s) (hb : s 108 = b) : pc (f_X4_walls F x1 x2 x3 s) (fun _ z => z 108 = wB b (akWalls V x1 x2 x3)) := by
  have h5 := h.1.2.1
  have h6 := h.1.1
  have m0 := ti_nat (V 0)
  rw [f_X4_walls_e]
  refine pc_lt (fun s6 g6 => ?_)
  have h' : vM V s6 := vM_up h g6
  have hb' : s6 108 = b := by rw [g6, up2_k (by decide)]; exact hb
  clear g6
  simp only [j_X4_walls_25_e]
  refine pc_be (mx_isLooker (by rw [vM_L h']; exact h.1.2.1.1)) ?_
  rw [vM_L h']
  unfold akWalls
  by_cases c : 0 ≤ x1.toInt ∧ x1.toInt < (V 1).toInt
  · rw [if_pos c, if_neg (by decide), cB_t c, cF_z]
    refine pc_be mx_wrongN (pc_be mx_wrongBit ?_)
    refine nq_end hb' (sg_cF sg_cN sg_cO) (fun _ => ?_)
    have f_s6 : fr kW s6 s6 := fr_rf
    refine pf_bnd (fr_X4_worthAnew hF) (kw_X4_worthAnew) f_s6 (fun r1 s2 f_s2 => ?_)
    exact gl_X4_walls_62 hF _ _ _ _ _ f_s2
  · rw [if_neg c, if_pos rfl, cB_f c, cF_n (a := -1) (by decide)]
    refine pc_be mx_wrongBit ?_
    rw [cF_n (a := -1) (by decide), if_neg (by decide)]
    exact nq_ref hb' (cF_n (by decide)) (by decide)
theorem km_wasted {F : Nat} (hF : 1000 ≤ F) {x1 x2 : Int32} {s : Mem} {V : Nat → Int32} {b : Nat → Int32} (h : vM V s) (hb : s 108 = b) : pc (f_X4_wasted F x1 x2 s) (fun _ z => z 108 = wB b (akWasted V x1 x2)) := by
  rw [f_X4_wasted_e]
  refine pc_lt (fun s6 h6 => ?_)
  have h' : vM V s6 := vM_up h h6
  have hb' : s6 108 = b := by rw [h6, up2_k (by decide)]; exact hb
  clear h6
  simp only [j_X4_wasted_23_e]
  refine pc_be (mx_isLooker (by rw [vM_L h']; exact h.1.2.1.1)) ?_
  rw [vM_L h']
  unfold akWasted
  by_cases c : 0 ≤ x1.toInt ∧ x1.toInt < (V 1).toInt
  · rw [if_pos c, if_neg (by decide), cB_t c, cF_z]
    have n1 := ti_nat x1
    refine pc_be mx_wrongBit ?_
    rw [cF_z]
    refine nq_end hb' sg_cO (fun _ => ?_)
    have f_s6 : fr kW s6 s6 := fr_rf
    exact gl_X4_wasted_40 hF _ _ _ _ f_s6
  · rw [if_neg c, if_pos rfl, cB_f c, cF_n (a := -1) (by decide), if_neg (by decide)]
    exact nq_ref hb' (cF_n (by decide)) (by decide)
theorem km_whichKind {F : Nat} (hF : 1000 ≤ F) {x1 x2 x3 : Int32} {n : Int32} {row : Nat → Int32} {s : Mem} {V : Nat → Int32} {b : Nat → Int32} (h : vM V s) (hb : s 108 = b) (hn : 0 ≤ n.toInt ∧ n.toInt ≤ 12) (h34 : s 101 34 = n) (hr : ∀ i, i < n.toNatClampNeg → s 121 i = row i) : pc (f_X4_whichKind F x1 x2 x3 s) (fun _ z => z 108 = wB b (akWhichKind V x1 x2 x3 n row)) := by
  rw [f_X4_whichKind_e]
  refine pc_lt (fun s5 g5 => ?_)
  have h' : vM V s5 := vM_up h g5
  have hb' : s5 108 = b := by rw [g5, up2_k (by decide)]; exact hb
  have e34 : s5 101 34 = n := by rw [g5, up2_i (by decide)]; exact h34
  have er : ∀ i, i < n.toNatClampNeg → s5 121 i = row i := fun i hi => by rw [g5, up2_k (by decide)]; exact hr i hi
  clear g5
  have h5 := h.1.2.1.2
  have n1 := ti_nat n
  have m1 := ti_nat x1
  simp only [j_X4_whichKind_25_e, j_X4_whichKind_51_e]
  have J : ∀ t : Int32, t = cF (cF (cB (0 ≤ x1.toInt ∧ x1.toInt < (V 1).toInt)) (cN x2 0 999)) (cF (cO x3 2) (kLR n)) → pc (j_X4_whichKind_53 F x1 x2 x3 t s5) (fun _ z => z 108 = wB b (akWhichKind V x1 x2 x3 n row)) := fun t ht => by
    rw [j_X4_whichKind_53_e]
    unfold akWhichKind
    rw [← ht]
    refine pc_ite (fun c => ?_) (fun c => nq_ref hb' (cF_n (fun q => c (by rw [q]; decide))) (fun q => c (by rw [q]; decide)))
    have d := ti_le c
    rw [tz_0] at d
    have st : sg t := by rw [ht]; exact sg_cF (sg_cF sg_cB sg_cN) (sg_cF sg_cO (sg_i (by decide)))
    have e0 : t = 0 := by
      rcases st with q | q
      · exact q
      · omega
    have e := ht.symm.trans e0
    rw [e0, cF_z]
    refine km_leaf hb' ?_
    have f_s5 : fr kW s5 s5 := fr_rf
    refine pf_bnd (fr_X4_think hF) (kw_X4_think) f_s5 (fun r1 s2 f_s2 => ?_)
    exact gl_X4_whichKind_77 hF _ _ _ _ f_s2
  refine pc_be (mx_isLooker (by rw [vM_L h']; exact h.1.2.1.1)) ?_
  rw [vM_L h']
  have K : ∀ t : Int32, t = cF (cF (cB (0 ≤ x1.toInt ∧ x1.toInt < (V 1).toInt)) (cN x2 0 999)) (cO x3 2) → pc (if t = 0 then (if s5 101 34 ≤ 8 then j_X4_whichKind_53 F x1 x2 x3 t s5 else j_X4_whichKind_53 F x1 x2 x3 (-3) s5) else j_X4_whichKind_53 F x1 x2 x3 t s5) (fun _ z => z 108 = wB b (akWhichKind V x1 x2 x3 n row)) := fun t ht => by
    rw [e34]
    refine pc_ite (fun c => pc_ite (fun c8 => J t ?_) (fun c8 => J (-3) ?_)) (fun c => J t ?_)
    · rw [← kF_as, ← ht, c, cF_z, show kLR n = 0 from if_pos c8]
    · rw [← kF_as, ← ht, c, cF_z, show kLR n = -3 from if_neg c8]
    · rw [← kF_as, ← ht, cF_n c]
  by_cases c : 0 ≤ x1.toInt ∧ x1.toInt < (V 1).toInt
  · rw [if_pos c, if_neg (by decide)]
    refine pc_be mx_wrongN (pc_be mx_wrongBit ?_)
    exact K _ (by rw [cB_t c, cF_z])
  · rw [if_neg c, if_pos rfl]
    refine pc_be mx_wrongBit ?_
    exact K _ (by rw [cB_f c, cF_n (a := -1) (b := cN x2 0 999) (by decide)])
theorem km_whichLaw {F : Nat} (hF : 1000 ≤ F) {n : Int32} {row : Nat → Int32} {s : Mem} {V : Nat → Int32} {b : Nat → Int32} (h : vM V s) (hb : s 108 = b) (hn : 0 ≤ n.toInt ∧ n.toInt ≤ 12) (h34 : s 101 34 = n) (hr : ∀ i, i < n.toNatClampNeg → s 121 i = row i) : pc (f_X4_whichLaw F s) (fun _ z => z 108 = wB b (akWhichLaw V n row)) := by
  rw [f_X4_whichLaw_e]
  refine pc_lt (fun s5 g5 => ?_)
  have h' : vM V s5 := vM_up h g5
  have hb' : s5 108 = b := by rw [g5, up2_k (by decide)]; exact hb
  have e34 : s5 101 34 = n := by rw [g5, up2_i (by decide)]; exact h34
  have er : ∀ i, i < n.toNatClampNeg → s5 121 i = row i := fun i hi => by rw [g5, up2_k (by decide)]; exact hr i hi
  clear g5
  rw [e34]
  unfold akWhichLaw
  have n1 := ti_nat n
  refine pc_ite (fun c8 => ?_) (fun c8 => ?_)
  · have d8 := ti_le c8
    rw [tz_8] at d8
    rw [show kLR n = 0 from if_pos c8, cF_z]
    refine km_leaf hb' ?_
    have f_s5 : fr kW s5 s5 := fr_rf
    exact gl_X4_whichLaw_30 hF _ _ _ _ f_s5
  · rw [show kLR n = -3 from if_neg c8]
    exact nq_ref hb' (cF_n (by decide)) (by decide)
