/-! questions of who holds what -/
def cRdy (V : Nat → Int32) (s : Mem) : Prop := vH 1 V s ∧ vG 1 V s
def mRdy (V : Nat → Int32) (s : Mem) : Prop := vM V s ∧ vB V s
theorem qx_reckon {F : Nat} {σ : Mem} {V : Nat → Int32} (a : vH 1 V σ) : pc (f_X0_reckon F 1 σ) (fun _ s => cRdy V s) := pc_mono (ax_reckon a) (fun _ _ q => ⟨vH_k a q.1, q.2⟩)
theorem qm_lay {F : Nat} {s : Mem} {V : Nat → Int32} (h : vM V s) : pc (f_X4_layBrings F s) (fun _ z => mRdy V z) := pc_mono (mx_layBrings h) (fun _ _ q => ⟨vM_109 h (fun k a _ => q.1 k a), q.2⟩)
theorem qx_hold {F : Nat} {x1 x2 : Int32} {v : Nat} {σ : Mem} {V : Nat → Int32} (a : cRdy V σ) (hv : x1.toInt = (v : Int)) (hv8 : v < 8) : pc (f_X0_holder F 1 x1 x2 σ) (fun r s => r = aHold V x2 v ∧ s = σ) := qx_holder a.1 a.2 hv hv8
theorem qm_own {F : Nat} {x1 x2 : Int32} (hx : 0 ≤ x2.toInt ∧ x2.toInt ≤ 9999) {v : Nat} (hv : x1.toInt = (v : Int)) (hv8 : v < 8) {s : Mem} {V : Nat → Int32} (h : mRdy V s) : pc (f_X4_ownerIn F x1 x2 s) (fun r z => r = aHold V x2 v ∧ mRdy V z) := pc_mono (qm_ownerIn hx hv hv8 h.1 h.2) (fun r z q => ⟨q.1, vM_109 h.1 (fun k _ b => q.2 k b), fun m hm w hw => by rw [q.2 109 (by decide)]; exact h.2 m hm w hw⟩)
theorem aHold_b {V : Nat → Int32} (hv : wvV V) {x : Int32} (hx : 0 ≤ x.toInt ∧ x.toInt ≤ 9999) {v : Nat} (hv8 : v < 8) : aHold V x v = -9 ∨ (0 ≤ (aHold V x v).toInt ∧ (aHold V x v).toInt < (V 1).toInt) := by
  have n1 := ti_nat (V 1)
  have h1 := hv.2.1.1
  have b := (aTop_b hv hx hv8 (V 1).toNatClampNeg (by omega)).1
  have b' : (aTop V x v (V 1).toNatClampNeg).1 = -9 ∨ (0 ≤ (aTop V x v (V 1).toNatClampNeg).1.toInt ∧ (aTop V x v (V 1).toNatClampNeg).1.toInt < (V 1).toInt) := b.imp id (fun q => ⟨q.1, by omega⟩)
  unfold aHold
  by_cases c1 : V 2 = 1
  · rw [if_pos c1]
    by_cases c2 : (aTop V x v (V 1).toNatClampNeg).2.2.2 = 0
    · rw [if_pos c2]; exact b'
    · rw [if_neg c2]; exact Or.inl rfl
  · rw [if_neg c1]
    by_cases c2 : V 2 = 2
    · rw [if_pos c2]
      by_cases c3 : (aTop V x v (V 1).toNatClampNeg).2.2.1 - (aTop V x v (V 1).toNatClampNeg).2.1 < (aTop V x v (V 1).toNatClampNeg).2.1
      · rw [if_pos c3]; exact b'
      · rw [if_neg c3]; exact Or.inl rfl
    · rw [if_neg c2]; exact b'
theorem aHold_0 {V : Nat → Int32} (hv : wvV V) {x : Int32} (hx : 0 ≤ x.toInt ∧ x.toInt ≤ 9999) {v : Nat} (hv8 : v < 8) : 0 ≤ aHold V x v ↔ ¬ aHold V x v = -9 := by
  rcases aHold_b hv hx hv8 with b | b
  · rw [b]; exact ⟨fun q => absurd q (by decide), fun q => absurd rfl q⟩
  · exact ⟨fun _ q => by rw [q] at b; exact absurd b.1 (by decide), fun _ => Int32.le_iff_toInt_le.mpr (by rw [tz_0]; exact b.1)⟩
theorem mq_end {F : Nat} {e val : Int32} (he : sg e) {s : Mem} {A : Option (Int32 × Mem)} (h : e = 0 → pc A (fun r _ => r = val)) : pc (if 0 ≤ e then A else wt_bnd (f_X4_refuse F e s) fun r z => some (r, z)) (fun r _ => r = cF e val) := by
  refine pc_ite (fun c => ?_) (fun c => mq_ref (cF_n (fun q => c (by rw [q]; decide))))
  have d := ti_le c
  rw [tz_0] at d
  have e0 : e = 0 := by
    rcases he with q | q
    · exact q
    · omega
  exact pc_mono (h e0) (fun a s g => by rw [g, e0, cF_z])
theorem mx_wrongBit {F : Nat} {x0 x1 : Int32} {σ : Mem} : f_X4_wrongBit F x0 x1 (1 : Int32) σ = some (cF x0 (cO x1 2), σ) := by
  rw [f_X4_wrongBit_e]
  simp only [j_X4_wrongBit_20_e]
  by_cases c : x0 = 0
  · rw [if_pos c, wt_bnd_eq (mx_in32 (lo := 0) (hi := 1) rfl rfl), c, cF_z]
    by_cases d : 0 ≤ x1.toInt ∧ x1.toInt ≤ 1
    · have hO : cO x1 2 = 0 := if_pos ⟨d.1, by rw [tz_2]; omega⟩
      rw [if_pos d, if_neg (by decide), hO]
    · have hO : cO x1 2 = -2 := if_neg (fun q => d ⟨q.1, by have := q.2; rw [tz_2] at this; omega⟩)
      rw [if_neg d, if_pos rfl, hO]
  · rw [if_neg c, cF_n c]
theorem tz_999' : (999 : Int32).toInt = 999 := rfl
/-! owner -/
def anOwner (V : Nat → Int32) (x1 x2 : Int32) : Int32 := cF (cF (cB (0 ≤ x1.toInt ∧ x1.toInt ≤ 7)) (cN x2 0 999)) (aHold V x2 x1.toNatClampNeg)
theorem qx_owner {F : Nat} {x1 x2 : Int32} {σ : Mem} {V : Nat → Int32} (h : vH 1 V σ) : pc (f_X3_owner F x1 x2 σ) (fun r _ => r = anOwner V x1 x2) := by
  rw [f_X3_owner_e]
  refine pc_be ax_noView (pc_be ax_outside (pc_be ax_firstOf ?_))
  unfold anOwner
  refine cq_end (fun e => pc_bnd (qx_reckon h) (fun _ s q => ?_))
  have d1 := cB_0 (cF_0 e).1
  have n1 := ti_nat x1
  exact pc_bnd (qx_hold q (v := x1.toNatClampNeg) (by omega) (by omega)) (fun r z w => pc_ret w.1)
theorem qm_owner {F : Nat} {x1 x2 : Int32} {s : Mem} {V : Nat → Int32} (h : vM V s) : pc (f_X4_owner F x1 x2 s) (fun r _ => r = anOwner V x1 x2) := by
  rw [f_X4_owner_e]
  refine pc_lt (fun s7 h7 => ?_)
  have h' : vM V s7 := vM_up h h7
  clear h7
  simp only [j_X4_owner_24_e]
  refine pc_be mx_isView ?_
  unfold anOwner
  by_cases c : 0 ≤ x1.toInt ∧ x1.toInt ≤ 7
  · rw [if_pos c, if_neg (by decide), cB_t c, cF_z]
    refine pc_be mx_wrongN ?_
    refine mq_end sg_cN (fun e => pc_bnd (qm_lay h') (fun _ z q => ?_))
    have d2 := cN_0 e
    rw [tz_0, tz_999'] at d2
    have n1 := ti_nat x1
    exact pc_bnd (qm_own ⟨d2.1, by omega⟩ (v := x1.toNatClampNeg) (by omega) (by omega) q) (fun r z w => pc_ret w.1)
  · rw [if_neg c, if_pos rfl, cB_f c, cF_n (a := -1) (by decide)]
    exact mq_end (Or.inr (by decide)) (fun q => absurd q (by decide))
/-! from -/
def anFrom1 (V : Nat → Int32) (x1 : Int32) (v : Nat) : Nat → Int32 → Int32
  | 0, _ => -9
  | k + 1, x => if aHold V x v = x1 then x else anFrom1 V x1 v k (x + 1)
def anFrom (V : Nat → Int32) (x1 x2 : Int32) : Int32 := cF (cF (cB (0 ≤ x1.toInt ∧ x1.toInt < (V 1).toInt)) (cB (0 ≤ x2.toInt ∧ x2.toInt ≤ 7))) (anFrom1 V x1 x2.toNatClampNeg 1000 0)
theorem qx_from_33 {F : Nat} {x1 x2 : Int32} {v : Nat} {σ : Mem} {V : Nat → Int32} (a : cRdy V σ) (hv : x2.toInt = (v : Int)) (hv8 : v < 8) : ∀ (N k i : Nat) (x4 : Int32), x4.toInt = (i : Int) → i + k = 1000 → pc (lp_X3_from_33 F x1 x2 N x4 σ) (fun r _ => r = anFrom1 V x1 v k x4) := by
  intro N
  induction N with
  | zero => intro k i x4 h1 h2; exact pc_none rfl
  | succ N ih =>
    intro k i x4 h1 h2
    rw [lp_X3_from_33_s]
    refine pc_ite (fun c => ?_) (fun c => pc_bnd (qx_hold a hv hv8) (fun r s q => ?_))
    · have d := ti_lt c
      rw [tz_999'] at d
      rw [show k = 0 by omega]
      exact pc_ret rfl
    · have d := ti_nlt c
      rw [tz_999'] at d
      obtain ⟨k', rfl⟩ : ∃ k', k = k' + 1 := ⟨k - 1, by omega⟩
      rw [q.2, q.1]
      refine pc_ite (fun e => pc_ret ?_) (fun e => pc_mono (ih k' (i + 1) _ (ti_nx h1 (by omega)) (by omega)) (fun r s w => ?_))
      · show x4 = if aHold V x4 v = x1 then x4 else _
        rw [if_pos e]
      · show r = if aHold V x4 v = x1 then x4 else _
        rw [if_neg e]; exact w
theorem qx_from {F : Nat} {x1 x2 : Int32} {σ : Mem} {V : Nat → Int32} (h : vH 1 V σ) : pc (f_X3_from F x1 x2 σ) (fun r _ => r = anFrom V x1 x2) := by
  rw [f_X3_from_e]
  refine pc_be (ax_noLooker (by rw [vH_2 h]; exact h.1.2.1.2)) (pc_be ax_noView (pc_be ax_firstOf ?_))
  rw [vH_2 h]
  unfold anFrom
  refine cq_end (fun e => pc_bnd (qx_reckon h) (fun _ s q => ?_))
  have d2 := cB_0 (cF_0 e).2
  have n2 := ti_nat x2
  exact qx_from_33 q (v := x2.toNatClampNeg) (by omega) (by omega) F 1000 0 0 rfl rfl
theorem qm_from_32 {F : Nat} {x1 x2 : Int32} {v : Nat} {V : Nat → Int32} (hv : x2.toInt = (v : Int)) (hv8 : v < 8) : ∀ (N k i : Nat) (x4 : Int32) (s : Mem), mRdy V s → x4.toInt = (i : Int) → i + k = 1000 → pc (lp_X4_from_32 F x1 x2 N x4 s) (fun r _ => r = anFrom1 V x1 v k x4) := by
  intro N
  induction N with
  | zero => intro k i x4 s a h1 h2; exact pc_none rfl
  | succ N ih =>
    intro k i x4 s a h1 h2
    rw [lp_X4_from_32_s]
    refine pc_ite (fun c => ?_) (fun c => ?_)
    · have d := ti_lt c
      rw [tz_999'] at d
      rw [show k = 0 by omega]
      exact pc_ret rfl
    · have d := ti_nlt c
      rw [tz_999'] at d
      obtain ⟨k', rfl⟩ : ∃ k', k = k' + 1 := ⟨k - 1, by omega⟩
      refine pc_bnd (qm_own ⟨by omega, by omega⟩ hv hv8 a) (fun r s q => ?_)
      rw [q.1]
      refine pc_ite (fun e => pc_ret ?_) (fun e => pc_mono (ih k' (i + 1) _ _ q.2 (ti_nx h1 (by omega)) (by omega)) (fun r s w => ?_))
      · show x4 = if aHold V x4 v = x1 then x4 else _
        rw [if_pos e]
      · show r = if aHold V x4 v = x1 then x4 else _
        rw [if_neg e]; exact w
theorem qm_from {F : Nat} {x1 x2 : Int32} {s : Mem} {V : Nat → Int32} (h : vM V s) : pc (f_X4_from F x1 x2 s) (fun r _ => r = anFrom V x1 x2) := by
  rw [f_X4_from_e]
  refine pc_lt (fun s5 h5 => ?_)
  have h' : vM V s5 := vM_up h h5
  clear h5
  simp only [j_X4_from_20_e]
  refine pc_be (mx_isLooker (by rw [vM_L h']; exact h.1.2.1.1)) ?_
  rw [vM_L h']
  unfold anFrom
  by_cases c : 0 ≤ x1.toInt ∧ x1.toInt < (V 1).toInt
  · rw [if_pos c, if_neg (by decide), cB_t c, cF_z]
    refine pc_be mx_isView ?_
    by_cases c2 : 0 ≤ x2.toInt ∧ x2.toInt ≤ 7
    · rw [if_pos c2, if_neg (by decide), cB_t c2, cF_z]
      have n2 := ti_nat x2
      exact pc_bnd (qm_lay h') (fun _ z q => qm_from_32 (v := x2.toNatClampNeg) (by omega) (by omega) F 1000 0 0 z q rfl rfl)
    · rw [if_neg c2, if_pos rfl, cB_f c2]
      exact mq_ref (cF_n (by decide))
  · rw [if_neg c, if_pos rfl, cB_f c]
    exact mq_ref (by rw [cF_n (a := -1) (by decide), cF_n (by decide)])
/-! lost -/
def anLost1 (V : Nat → Int32) (x1 : Int32) (v : Nat) : Nat → Int32 → Int32
  | 0, _ => -9
  | k + 1, x => if aHold V x v = x1 then anLost1 V x1 v k (x + 1) else x
def anLost (V : Nat → Int32) (x1 : Int32) : Int32 := cF (cB (0 ≤ x1.toInt ∧ x1.toInt ≤ 7)) (if aHold V 0 x1.toNatClampNeg = -9 then -3 else anLost1 V (aHold V 0 x1.toNatClampNeg) x1.toNatClampNeg 999 1)
theorem qx_lost_45 {F : Nat} {x1 x2 : Int32} {v : Nat} {σ : Mem} {V : Nat → Int32} (a : cRdy V σ) (hv : x1.toInt = (v : Int)) (hv8 : v < 8) : ∀ (N k i : Nat) (x4 : Int32), x4.toInt = (i : Int) → i + k = 1000 → pc (lp_X3_lost_45 F x1 x2 N x4 σ) (fun r _ => r = anLost1 V x2 v k x4) := by
  intro N
  induction N with
  | zero => intro k i x4 h1 h2; exact pc_none rfl
  | succ N ih =>
    intro k i x4 h1 h2
    rw [lp_X3_lost_45_s]
    refine pc_ite (fun c => ?_) (fun c => pc_bnd (qx_hold a hv hv8) (fun r s q => ?_))
    · have d := ti_lt c
      rw [tz_999'] at d
      rw [show k = 0 by omega]
      exact pc_ret rfl
    · have d := ti_nlt c
      rw [tz_999'] at d
      obtain ⟨k', rfl⟩ : ∃ k', k = k' + 1 := ⟨k - 1, by omega⟩
      rw [q.2, q.1]
      refine pc_ite (fun e => pc_mono (ih k' (i + 1) _ (ti_nx h1 (by omega)) (by omega)) (fun r s w => ?_)) (fun e => pc_ret ?_)
      · show r = if aHold V x4 v = x2 then _ else x4
        rw [if_pos e]; exact w
      · show x4 = if aHold V x4 v = x2 then _ else x4
        rw [if_neg e]
theorem qx_lost {F : Nat} {x1 : Int32} {σ : Mem} {V : Nat → Int32} (h : vH 1 V σ) : pc (f_X3_lost F x1 σ) (fun r _ => r = anLost V x1) := by
  rw [f_X3_lost_e]
  refine pc_be ax_isView ?_
  unfold anLost
  by_cases c : 0 ≤ x1.toInt ∧ x1.toInt ≤ 7
  · rw [if_pos c, if_neg (by decide), cB_t c, cF_z]
    have n1 := ti_nat x1
    refine pc_bnd (qx_reckon h) (fun _ s q => pc_bnd (qx_hold q (v := x1.toNatClampNeg) (by omega) (by omega)) (fun r z w => ?_))
    rw [w.1, w.2]
    refine pc_ite (fun e => pc_bnd ax_refuse (fun r y u => pc_ret ?_)) (fun e => ?_)
    · rw [u.1, if_pos e]
    · rw [if_neg e]
      exact qx_lost_45 q (by omega) (by omega) F 999 1 1 rfl rfl
  · rw [if_neg c, if_pos rfl, cB_f c]
    exact pc_bnd ax_refuse (fun r y u => pc_ret (by rw [u.1, cF_n (by decide)]))
theorem qm_lost_42 {F : Nat} {x1 x2 : Int32} {v : Nat} {V : Nat → Int32} (hv : x1.toInt = (v : Int)) (hv8 : v < 8) : ∀ (N k i : Nat) (x4 : Int32) (s : Mem), mRdy V s → x4.toInt = (i : Int) → i + k = 1000 → pc (lp_X4_lost_42 F x1 x2 N x4 s) (fun r _ => r = anLost1 V x2 v k x4) := by
  intro N
  induction N with
  | zero => intro k i x4 s a h1 h2; exact pc_none rfl
  | succ N ih =>
    intro k i x4 s a h1 h2
    rw [lp_X4_lost_42_s]
    refine pc_ite (fun c => ?_) (fun c => ?_)
    · have d := ti_lt c
      rw [tz_999'] at d
      rw [show k = 0 by omega]
      exact pc_ret rfl
    · have d := ti_nlt c
      rw [tz_999'] at d
      obtain ⟨k', rfl⟩ : ∃ k', k = k' + 1 := ⟨k - 1, by omega⟩
      refine pc_bnd (qm_own ⟨by omega, by omega⟩ hv hv8 a) (fun r s q => ?_)
      rw [q.1]
      refine pc_ite (fun e => pc_mono (ih k' (i + 1) _ _ q.2 (ti_nx h1 (by omega)) (by omega)) (fun r s w => ?_)) (fun e => pc_ret ?_)
      · show r = if aHold V x4 v = x2 then _ else x4
        rw [if_pos e]; exact w
      · show x4 = if aHold V x4 v = x2 then _ else x4
        rw [if_neg e]
theorem qm_lost {F : Nat} {x1 : Int32} {s : Mem} {V : Nat → Int32} (h : vM V s) : pc (f_X4_lost F x1 s) (fun r _ => r = anLost V x1) := by
  rw [f_X4_lost_e]
  refine pc_lt (fun s3 h3 => ?_)
  have h' : vM V s3 := vM_up h h3
  clear h3
  refine pc_be mx_isView ?_
  unfold anLost
  by_cases c : 0 ≤ x1.toInt ∧ x1.toInt ≤ 7
  · rw [if_pos c, if_neg (by decide), cB_t c, cF_z]
    have n1 := ti_nat x1
    refine pc_bnd (qm_lay h') (fun _ z q => pc_bnd (qm_own (x2 := 0) (by decide) (v := x1.toNatClampNeg) (by omega) (by omega) q) (fun r y w => ?_))
    rw [w.1]
    have h0 := aHold_0 h.1 (x := 0) (by decide) (v := x1.toNatClampNeg) (by omega)
    refine pc_ite (fun e => ?_) (fun e => mq_ref ?_)
    · rw [if_neg (h0.mp e)]
      exact qm_lost_42 (by omega) (by omega) F 999 1 1 y w.2 rfl rfl
    · rw [if_pos (Classical.byContradiction (fun n => e (h0.mpr n)))]
  · rw [if_neg c, if_pos rfl, cB_f c]
    exact mq_ref (cF_n (by decide))
/-! counts -/
def anCounts (V : Nat → Int32) (x1 x2 x3 : Int32) : Int32 := cF (cF (cF (cB (0 ≤ x1.toInt ∧ x1.toInt < (V 1).toInt)) (cB (0 ≤ x2.toInt ∧ x2.toInt ≤ 7))) (cO x3 2)) (if x3 = 0 then V (148 + 8 * x1.toNatClampNeg + x2.toNatClampNeg) else aGain V x1.toNatClampNeg x2.toNatClampNeg 24)
theorem qx_counts {F : Nat} {x1 x2 x3 : Int32} {σ : Mem} {V : Nat → Int32} (h : vH 1 V σ) : pc (f_X3_counts F x1 x2 x3 σ) (fun r _ => r = anCounts V x1 x2 x3) := by
  rw [f_X3_counts_e]
  refine pc_be (ax_noLooker (by rw [vH_2 h]; exact h.1.2.1.2)) (pc_be ax_noView (pc_be ax_firstOf (pc_be ax_notBelow (pc_be ax_firstOf ?_))))
  rw [vH_2 h]
  unfold anCounts
  refine cq_end (fun e => pc_bnd (qx_reckon h) (fun _ s q => ?_))
  have d1 := cB_0 (cF_0 (cF_0 e).1).1
  have d2 := cB_0 (cF_0 (cF_0 e).1).2
  have n1 := ti_nat x1
  have n2 := ti_nat x2
  refine pc_ite (fun c => pc_chk (fun _ => pc_chk (fun _ => pc_ret ?_))) (fun c => pc_chk (fun _ => pc_chk (fun _ => pc_ret ?_)))
  · rw [if_pos c]; exact vH_n q.1 (by omega) (by omega)
  · rw [if_neg c]; exact q.2 _ (by omega) _ (by omega)
theorem qm_counts {F : Nat} {x1 x2 x3 : Int32} {s : Mem} {V : Nat → Int32} (h : vM V s) : pc (f_X4_counts F x1 x2 x3 s) (fun r _ => r = anCounts V x1 x2 x3) := by
  rw [f_X4_counts_e]
  refine pc_lt (fun s6 h6 => ?_)
  have h' : vM V s6 := vM_up h h6
  clear h6
  simp only [j_X4_counts_29_e, j_X4_counts_30_e]
  refine pc_be (mx_isLooker (by rw [vM_L h']; exact h.1.2.1.1)) ?_
  rw [vM_L h']
  unfold anCounts
  have h5 := h.1.2.1.2
  by_cases c : 0 ≤ x1.toInt ∧ x1.toInt < (V 1).toInt
  · rw [if_pos c, if_neg (by decide), cB_t c, cF_z]
    refine pc_be mx_isView ?_
    by_cases c2 : 0 ≤ x2.toInt ∧ x2.toInt ≤ 7
    · rw [if_pos c2, if_neg (by decide), cB_t c2, cF_z]
      have n1 := ti_nat x1
      have n2 := ti_nat x2
      refine pc_be mx_wrongBit ?_
      rw [cF_z]
      refine mq_end sg_cO (fun e => pc_ite (fun c3 => pc_chk (fun _ => pc_ret ?_)) (fun c3 => pc_bnd (mx_bringsOf h' (l := x1.toNatClampNeg) (v := x2.toNatClampNeg) (by omega) (by omega) (by omega) (by omega)) (fun r z q => pc_ret ?_)))
      · rw [if_pos c3, tn_8 (l := x1.toNatClampNeg) (k := x2.toNatClampNeg) (by omega) (by omega) (by omega) (by omega), vM_107 h' (by omega), show 148 + (8 * x1.toNatClampNeg + x2.toNatClampNeg) = 148 + 8 * x1.toNatClampNeg + x2.toNatClampNeg by omega]
      · rw [if_neg c3]; exact q.1
    · rw [if_neg c2, if_pos rfl, cB_f c2, cF_n (a := -1) (by decide)]
      exact mq_end (Or.inr (by decide)) (fun q => absurd q (by decide))
  · rw [if_neg c, if_pos rfl, cB_f c, cF_n (a := -1) (by decide), cF_n (a := -1) (by decide)]
    exact mq_end (Or.inr (by decide)) (fun q => absurd q (by decide))
