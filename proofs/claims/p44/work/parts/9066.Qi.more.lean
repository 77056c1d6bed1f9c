/-! worth within bounds; who leads -/
theorem aWealth_b {V : Nat → Int32} (hv : wvV V) {who n : Int32} : ∀ v, v ≤ 8 → 0 ≤ (aWealth V who n v).toInt ∧ (aWealth V who n v).toInt ≤ 9 * (v : Int) := fun v => by
  induction v with
  | zero => intro _; exact ⟨Int.le_refl 0, Int.le_refl 0⟩
  | succ v ih =>
    intro h
    have b := ih (by omega)
    have w := hv.2.2.2.1 (4 + v) (by omega) (by omega)
    show 0 ≤ (aWealth V who n v + (if aHold V n v = who then V (4 + v) else 0)).toInt ∧ (aWealth V who n v + (if aHold V n v = who then V (4 + v) else 0)).toInt ≤ 9 * ((v + 1 : Nat) : Int)
    by_cases c : aHold V n v = who
    · rw [if_pos c, ti_add (by omega) (by omega)]; omega
    · rw [if_neg c, Int32.add_zero]; omega
theorem aWealth_t {V : Nat → Int32} (hv : wvV V) {who n : Int32} {v : Nat} (h8 : v < 8) (c : aHold V n v = who) : (aWealth V who n (v + 1)).toInt = (aWealth V who n v).toInt + (V (4 + v)).toInt := by
  have b := aWealth_b hv (who := who) (n := n) v (by omega)
  have w := hv.2.2.2.1 (4 + v) (by omega) (by omega)
  show (aWealth V who n v + (if aHold V n v = who then V (4 + v) else 0)).toInt = _
  rw [if_pos c, ti_add (by omega) (by omega)]
theorem aWealth_f {V : Nat → Int32} {who n : Int32} {v : Nat} (c : ¬ aHold V n v = who) : aWealth V who n (v + 1) = aWealth V who n v := by
  show aWealth V who n v + (if aHold V n v = who then V (4 + v) else 0) = _
  rw [if_neg c, Int32.add_zero]
theorem qx_lead {F : Nat} {x1 x2 x3 : Int32} (hne : ¬ x1 = x2) {σ : Mem} {V : Nat → Int32} (a : cRdy V σ) : pc (f_X0_lead F 1 x1 x2 x3 σ) (fun r s => r.toInt = (aWealth V x1 x3 8).toInt - (aWealth V x2 x3 8).toInt ∧ s = σ) := by
  have key : ∀ (N v : Nat) (x4 x5 : Int32), x5.toInt = (v : Int) → v ≤ 8 → x4.toInt = (aWealth V x1 x3 v).toInt - (aWealth V x2 x3 v).toInt → pc (lp_X0_lead_6 F 1 x1 x2 x3 N x4 x5 σ) (fun r s => r.toInt = (aWealth V x1 x3 8).toInt - (aWealth V x2 x3 8).toInt ∧ s = σ) := by
    intro N
    induction N with
    | zero => intro v x4 x5 h1 h2 h3; exact pc_none rfl
    | succ N ih =>
      intro v x4 x5 h1 h2 h3
      rw [lp_X0_lead_6_s]
      simp only [j_X0_lead_61_e]
      refine pc_ite (fun c => ?_) (fun c => ?_)
      · have d := ti_le c
        rw [tz_8] at d
        have e8 : v = 8 := by omega
        subst e8
        exact pc_ret ⟨h3, rfl⟩
      have d := ti_nle c
      rw [tz_8] at d
      have b1 := aWealth_b a.1.1 (who := x1) (n := x3) v (by omega)
      have b2 := aWealth_b a.1.1 (who := x2) (n := x3) v (by omega)
      have w := a.1.1.2.2.2.1 (4 + v) (by omega) (by omega)
      refine pc_bnd (qx_hold a h1 (by omega)) (fun r s q => ?_)
      rw [q.2, q.1]
      refine pc_ite (fun e => pc_chk (fun _ => pc_lt (fun z6 hz => ih (v + 1) _ _ (ti_nx h1 (by omega)) (by omega) ?_))) (fun e => pc_ite (fun e2 => pc_chk (fun _ => pc_lt (fun z4 hz => ih (v + 1) _ _ (ti_nx h1 (by omega)) (by omega) ?_))) (fun e2 => ih (v + 1) _ _ (ti_nx h1 (by omega)) (by omega) ?_))
      · rw [tn_int h1, vH_w a.1 (by omega)] at hz
        rw [hz, ti_add (by omega) (by omega), aWealth_t a.1.1 (by omega) e, aWealth_f (fun q => hne (e.symm.trans q))]
        omega
      · rw [tn_int h1, vH_w a.1 (by omega)] at hz
        rw [hz, ti_sub (by omega) (by omega), aWealth_t a.1.1 (by omega) e2, aWealth_f e]
        omega
      · rw [aWealth_f e, aWealth_f e2]; exact h3
  rw [f_X0_lead_e]
  exact key F 0 0 0 rfl (by omega) rfl
/-! staredOut -/
def anStaredOut (V : Nat → Int32) (x1 x2 x3 : Int32) : Int32 := cF (cF (cB ((0 ≤ x1.toInt ∧ x1.toInt < (V 1).toInt) ∧ (0 ≤ x2.toInt ∧ x2.toInt < (V 1).toInt) ∧ ¬ x1 = x2)) (cN x3 0 999)) (aBits V x1 0 8 &&& aBits V x2 x3 8)
theorem vX_H {V : Nat → Int32} {σ : Mem} (a : vH 1 V σ) : vX V σ := ⟨a.1, fun p hp => vH_lo a hp, fun l t hl ht => vH_c a hl ht⟩
theorem qx_staredOut {F : Nat} {x1 x2 x3 : Int32} {σ : Mem} {V : Nat → Int32} (h : vH 1 V σ) : pc (f_X3_staredOut F x1 x2 x3 σ) (fun r _ => r = anStaredOut V x1 x2 x3) := by
  rw [f_X3_staredOut_e, f_X3_noPairFar_e]
  refine pc_be (by rw [wt_bnd_eq (qx_noPair (vX_H h)), wt_bnd_eq ax_outside, wt_bnd_eq ax_firstOf]) ?_
  unfold anStaredOut
  refine cq_end (fun e => pc_bnd (qx_reckon h) (fun _ s q => pc_bnd (qx_holdings q) (fun r z w => ?_)))
  rw [w.2]
  exact pc_bnd (qx_holdings q) (fun r' y u => pc_ret (by rw [w.1, u.1]))
theorem qm_staredOut {F : Nat} {x1 x2 x3 : Int32} {s : Mem} {V : Nat → Int32} (h : vM V s) : pc (f_X4_staredOut F x1 x2 x3 s) (fun r _ => r = anStaredOut V x1 x2 x3) := by
  rw [f_X4_staredOut_e]
  refine pc_lt (fun s6 h6 => ?_)
  have h' : vM V s6 := vM_up h h6
  clear h6
  simp only [j_X4_staredOut_26_e]
  refine pc_be (qm_areTwo h') ?_
  unfold anStaredOut
  by_cases c : (0 ≤ x1.toInt ∧ x1.toInt < (V 1).toInt) ∧ (0 ≤ x2.toInt ∧ x2.toInt < (V 1).toInt) ∧ ¬ x1 = x2
  · rw [if_pos c, if_neg (by decide), cB_t c, cF_z]
    refine pc_be mx_wrongN (mq_end sg_cN (fun e => pc_bnd (qm_lay h') (fun _ z q => pc_bnd (qm_viewsIn (x2 := 0) (by decide) q) (fun r y w => ?_))))
    have d2 := cN_0 e
    rw [tz_0, tz_999'] at d2
    exact pc_bnd (qm_viewsIn ⟨d2.1, by omega⟩ w.2) (fun r' y u => pc_ret (by rw [w.1, u.1]))
  · rw [if_neg c, if_pos rfl, cB_f c, cF_n (a := -1) (by decide)]
    exact mq_end (Or.inr (by decide)) (fun q => absurd q (by decide))
/-! ahead -/
def anAhead1 (V : Nat → Int32) (x1 x2 : Int32) : Nat → Int32 → Int32
  | 0, _ => -9
  | k + 1, x => if aWealth V x1 x 8 ≤ aWealth V x2 x 8 then anAhead1 V x1 x2 k (x + 1) else x
def anAhead (V : Nat → Int32) (x1 x2 : Int32) : Int32 := cF (cB ((0 ≤ x1.toInt ∧ x1.toInt < (V 1).toInt) ∧ (0 ≤ x2.toInt ∧ x2.toInt < (V 1).toInt) ∧ ¬ x1 = x2)) (anAhead1 V x1 x2 1000 0)
theorem qx_ahead_27 {F : Nat} {x1 x2 : Int32} (hne : ¬ x1 = x2) {σ : Mem} {V : Nat → Int32} (a : cRdy V σ) : ∀ (N k i : Nat) (x4 : Int32), x4.toInt = (i : Int) → i + k = 1000 → pc (lp_X3_ahead_27 F x1 x2 N x4 σ) (fun r _ => r = anAhead1 V x1 x2 k x4) := by
  intro N
  induction N with
  | zero => intro k i x4 h1 h2; exact pc_none rfl
  | succ N ih =>
    intro k i x4 h1 h2
    rw [lp_X3_ahead_27_s]
    refine pc_ite (fun c => ?_) (fun c => pc_bnd (qx_lead hne a) (fun r s q => ?_))
    · have d := ti_lt c
      rw [tz_999'] at d
      rw [show k = 0 by omega]
      exact pc_ret rfl
    · have d := ti_nlt c
      rw [tz_999'] at d
      obtain ⟨k', rfl⟩ : ∃ k', k = k' + 1 := ⟨k - 1, by omega⟩
      rw [q.2]
      have q1 := q.1
      refine pc_ite (fun e => pc_mono (ih k' (i + 1) _ (ti_nx h1 (by omega)) (by omega)) (fun r s w => ?_)) (fun e => pc_ret ?_)
      · have e' := ti_le e
        rw [tz_0] at e'
        show r = if aWealth V x1 x4 8 ≤ aWealth V x2 x4 8 then _ else x4
        rw [if_pos (Int32.le_iff_toInt_le.mpr (by omega))]; exact w
      · have e' := ti_nle e
        rw [tz_0] at e'
        show x4 = if aWealth V x1 x4 8 ≤ aWealth V x2 x4 8 then _ else x4
        rw [if_neg (fun w => by have := ti_le w; omega)]
theorem qx_ahead {F : Nat} {x1 x2 : Int32} {σ : Mem} {V : Nat → Int32} (h : vH 1 V σ) : pc (f_X3_ahead F x1 x2 σ) (fun r _ => r = anAhead V x1 x2) := by
  rw [f_X3_ahead_e]
  refine pc_be (qx_noPair (vX_H h)) ?_
  unfold anAhead
  exact cq_end (fun e => pc_bnd (qx_reckon h) (fun _ s q => qx_ahead_27 (cB_0 e).2.2 q F 1000 0 0 rfl rfl))
theorem qm_ahead_26 {F : Nat} {x1 x2 : Int32} {V : Nat → Int32} : ∀ (N k i : Nat) (x4 : Int32) (s : Mem), mRdy V s → x4.toInt = (i : Int) → i + k = 1000 → pc (lp_X4_ahead_26 F x1 x2 N x4 s) (fun r _ => r = anAhead1 V x1 x2 k x4) := by
  intro N
  induction N with
  | zero => intro k i x4 s a h1 h2; exact pc_none rfl
  | succ N ih =>
    intro k i x4 s a h1 h2
    rw [lp_X4_ahead_26_s]
    refine pc_ite (fun c => ?_) (fun c => ?_)
    · have d := ti_lt c
      rw [tz_999'] at d
      rw [show k = 0 by omega]
      exact pc_ret rfl
    · have d := ti_nlt c
      rw [tz_999'] at d
      obtain ⟨k', rfl⟩ : ∃ k', k = k' + 1 := ⟨k - 1, by omega⟩
      refine pc_bnd (qm_worthIn ⟨by omega, by omega⟩ a) (fun r1 s2 q => pc_bnd (qm_worthIn ⟨by omega, by omega⟩ q.2) (fun r3 s4 q3 => ?_))
      rw [q.1, q3.1]
      refine pc_ite (fun e => pc_mono (ih k' (i + 1) _ _ q3.2 (ti_nx h1 (by omega)) (by omega)) (fun r s w => ?_)) (fun e => pc_ret ?_)
      · show r = if aWealth V x1 x4 8 ≤ aWealth V x2 x4 8 then _ else x4
        rw [if_pos e]; exact w
      · show x4 = if aWealth V x1 x4 8 ≤ aWealth V x2 x4 8 then _ else x4
        rw [if_neg e]
theorem qm_ahead {F : Nat} {x1 x2 : Int32} {s : Mem} {V : Nat → Int32} (h : vM V s) : pc (f_X4_ahead F x1 x2 s) (fun r _ => r = anAhead V x1 x2) := by
  rw [f_X4_ahead_e]
  refine pc_lt (fun s6 h6 => ?_)
  have h' : vM V s6 := vM_up h h6
  clear h6
  refine pc_be (qm_areTwo h') ?_
  unfold anAhead
  by_cases c : (0 ≤ x1.toInt ∧ x1.toInt < (V 1).toInt) ∧ (0 ≤ x2.toInt ∧ x2.toInt < (V 1).toInt) ∧ ¬ x1 = x2
  · rw [if_pos c, if_neg (by decide), cB_t c, cF_z]
    exact pc_bnd (qm_lay h') (fun _ z q => qm_ahead_26 F 1000 0 0 z q rfl rfl)
  · rw [if_neg c, if_pos rfl, cB_f c]
    exact mq_ref (cF_n (by decide))
/-! gap -/
def aTwoTop (V : Nat → Int32) (n : Int32) (v : Nat) : Nat → Int32 × Int32
  | 0 => (0, 0)
  | l + 1 => if aBehind V n l v ≤ (aTwoTop V n v l).1 then (if aBehind V n l v ≤ (aTwoTop V n v l).2 then aTwoTop V n v l else ((aTwoTop V n v l).1, aBehind V n l v)) else (aBehind V n l v, (aTwoTop V n v l).1)
theorem aTwoTop_s {V : Nat → Int32} {n : Int32} {v l : Nat} : aTwoTop V n v (l + 1) = if aBehind V n l v ≤ (aTwoTop V n v l).1 then (if aBehind V n l v ≤ (aTwoTop V n v l).2 then aTwoTop V n v l else ((aTwoTop V n v l).1, aBehind V n l v)) else (aBehind V n l v, (aTwoTop V n v l).1) := rfl
def anGap (V : Nat → Int32) (x1 x2 : Int32) : Int32 := cF (cF (cB (0 ≤ x1.toInt ∧ x1.toInt ≤ 7)) (cN x2 0 999)) ((aTwoTop V x2 x1.toNatClampNeg (V 1).toNatClampNeg).1 - (aTwoTop V x2 x1.toNatClampNeg (V 1).toNatClampNeg).2)
theorem qx_gap_42 {F : Nat} {x1 x2 : Int32} {v : Nat} {σ : Mem} {V : Nat → Int32} (a : cRdy V σ) (hv : x1.toInt = (v : Int)) (hv8 : v < 8) : ∀ (N l : Nat) (x4 x5 x6 : Int32), x6.toInt = (l : Int) → (l : Int) ≤ (V 1).toInt → (x4, x5) = aTwoTop V x2 v l → pc (lp_X3_gap_42 F x1 x2 N x4 x5 x6 σ) (fun r _ => r = (aTwoTop V x2 v (V 1).toNatClampNeg).1 - (aTwoTop V x2 v (V 1).toNatClampNeg).2) := by
  have h5 := a.1.1.2.1.2
  have n1 := ti_nat (V 1)
  intro N
  induction N with
  | zero => intro l x4 x5 x6 h1 h2 h3; exact pc_none rfl
  | succ N ih =>
    intro l x4 x5 x6 h1 h2 h3
    have e4 : x4 = (aTwoTop V x2 v l).1 := congrArg Prod.fst h3
    have e5 : x5 = (aTwoTop V x2 v l).2 := congrArg Prod.snd h3
    rw [lp_X3_gap_42_s, vH_2 a.1]
    simp only [j_X3_gap_96_e]
    refine pc_ite (fun c => ?_) (fun c => pc_bnd (qx_behind a.1 a.2 h1 (by have d := ti_nle c; omega) hv hv8) (fun r s q => ?_))
    · have d := ti_le c
      exact pc_ret (by rw [e4, e5, show (V 1).toNatClampNeg = l by omega])
    · have d := ti_nle c
      rw [q.2, q.1]
      refine pc_ite (fun c1 => pc_ite (fun c2 => ih (l + 1) _ _ _ (ti_nx h1 (by omega)) (by omega) ?_) (fun c2 => ih (l + 1) _ _ _ (ti_nx h1 (by omega)) (by omega) ?_)) (fun c1 => ih (l + 1) _ _ _ (ti_nx h1 (by omega)) (by omega) ?_)
      · rw [e4] at c1
        rw [e5] at c2
        rw [aTwoTop_s, if_pos c1, if_pos c2]; exact h3
      · rw [e4] at c1
        rw [e5] at c2
        rw [aTwoTop_s, if_pos c1, if_neg c2, e4]
      · rw [e4] at c1
        rw [aTwoTop_s, if_neg c1, e4]
theorem qx_gap {F : Nat} {x1 x2 : Int32} {σ : Mem} {V : Nat → Int32} (h : vH 1 V σ) : pc (f_X3_gap F x1 x2 σ) (fun r _ => r = anGap V x1 x2) := by
  rw [f_X3_gap_e]
  refine pc_be ax_noView (pc_be ax_outside (pc_be ax_firstOf ?_))
  unfold anGap
  refine cq_end (fun e => pc_bnd (qx_reckon h) (fun _ s q => ?_))
  have d1 := cB_0 (cF_0 e).1
  have n1 := ti_nat x1
  exact qx_gap_42 q (by omega) (by omega) F 0 0 0 0 rfl h.1.2.1.1 rfl
theorem qm_countIn {F : Nat} {x1 x2 x3 : Int32} {l v : Nat} {s : Mem} {V : Nat → Int32} (a : mRdy V s) (hl : x1.toInt = (l : Int)) (hl5 : (l : Int) < (V 1).toInt) (hv : x2.toInt = (v : Int)) (hv8 : v < 8) : pc (f_X4_countIn F x1 x2 x3 s) (fun r z => r = aBehind V x3 l v ∧ z = s) := by
  have h5 := a.1.1.2.1.2
  rw [f_X4_countIn_e]
  refine pc_chk (fun _ => pc_be mx_held (pc_ret ⟨?_, rfl⟩))
  rw [tn_8 hl hv (by omega) hv8, vM_107 a.1 (by omega), a.2 l hl5 v hv8, show 148 + (8 * l + v) = 148 + 8 * l + v by omega]
  rfl
theorem qm_gap_48 {F : Nat} {x1 x2 : Int32} {v : Nat} {s : Mem} {V : Nat → Int32} (a : mRdy V s) (hv : x1.toInt = (v : Int)) (hv8 : v < 8) : ∀ (N l : Nat) (x4 x5 x6 : Int32), x6.toInt = (l : Int) → (l : Int) ≤ (V 1).toInt → (x4, x5) = aTwoTop V x2 v l → pc (lp_X4_gap_48 F x1 x2 N x4 x5 x6 s) (fun r _ => r = (aTwoTop V x2 v (V 1).toNatClampNeg).1 - (aTwoTop V x2 v (V 1).toNatClampNeg).2) := by
  have h5 := a.1.1.2.1.2
  have n1 := ti_nat (V 1)
  intro N
  induction N with
  | zero => intro l x4 x5 x6 h1 h2 h3; exact pc_none rfl
  | succ N ih =>
    intro l x4 x5 x6 h1 h2 h3
    have e4 : x4 = (aTwoTop V x2 v l).1 := congrArg Prod.fst h3
    have e5 : x5 = (aTwoTop V x2 v l).2 := congrArg Prod.snd h3
    rw [lp_X4_gap_48_s, vM_L a.1]
    simp only [j_X4_gap_93_e, j_X4_gap_109_e]
    refine pc_ite (fun c => ?_) (fun c => pc_bnd (qm_countIn a h1 (by have d := ti_nle c; omega) hv hv8) (fun r z q => ?_))
    · have d := ti_le c
      exact pc_ret (by rw [e4, e5, show (V 1).toNatClampNeg = l by omega])
    · have d := ti_nle c
      rw [q.2, q.1]
      refine pc_ite (fun c1 => pc_ite (fun c2 => ?_) (fun c2 => ?_)) (fun c1 => ?_)
      · rw [if_pos c1]
        refine ih (l + 1) _ _ _ (ti_nx h1 (by omega)) (by omega) ?_
        rw [e4] at c1
        rw [e5] at c2
        rw [aTwoTop_s, if_pos c1, if_pos c2]; exact h3
      · rw [if_pos c1]
        refine ih (l + 1) _ _ _ (ti_nx h1 (by omega)) (by omega) ?_
        rw [e4] at c1
        rw [e5] at c2
        rw [aTwoTop_s, if_pos c1, if_neg c2, e4]
      · rw [if_neg c1]
        refine ih (l + 1) _ _ _ (ti_nx h1 (by omega)) (by omega) ?_
        rw [e4] at c1
        rw [aTwoTop_s, if_neg c1, e4]
theorem qm_gap {F : Nat} {x1 x2 : Int32} {s : Mem} {V : Nat → Int32} (h : vM V s) : pc (f_X4_gap F x1 x2 s) (fun r _ => r = anGap V x1 x2) := by
  rw [f_X4_gap_e]
  refine pc_lt (fun s6 h6 => ?_)
  have h' : vM V s6 := vM_up h h6
  clear h6
  simp only [j_X4_gap_24_e]
  refine pc_be mx_isView ?_
  unfold anGap
  by_cases c : 0 ≤ x1.toInt ∧ x1.toInt ≤ 7
  · rw [if_pos c, if_neg (by decide), cB_t c, cF_z]
    have n1 := ti_nat x1
    refine pc_be mx_wrongN (mq_end sg_cN (fun e => pc_bnd (qm_lay h') (fun _ z q => ?_)))
    exact qm_gap_48 q (by omega) (by omega) F 0 0 0 0 rfl h.1.2.1.1 rfl
  · rw [if_neg c, if_pos rfl, cB_f c, cF_n (a := -1) (by decide)]
    exact mq_end (Or.inr (by decide)) (fun q => absurd q (by decide))
