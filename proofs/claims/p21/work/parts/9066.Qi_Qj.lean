section
/-! worth within bounds; who leads -/
theorem aWealth_b {V : Nat → Int32} (hv : wvV V) {who n : Int32} : ∀ v, v ≤ 8 → 0 ≤ (aWealth V who n v).toInt ∧ (aWealth V who n v).toInt ≤ 9 * (v : Int) := fun v => by
  induction v with
  | zero => intro _; exact ⟨Int.le_refl 0, Int.le_refl 0⟩
  | succ v ih =>
    intro h
    have b := ih (by omega)
    have w := hv.2.2.2.1 (4 + v) (by omega) (by omega)
    show 0 ≤ (aWealth V who n v + (if aHold V n v = who then V (4 + v) else 0)).toInt ∧ (aWealth V who n v + (if aHold V n v = who then V (4 + v) else 0)).toInt ≤ 9 * ((v + 1 : Nat) : Int)
    by_cases c : aHold V n v = who
    · rw [if_pos c, ti_add (by omega) (by omega)]; omega
    · rw [if_neg c, Int32.add_zero]; omega
theorem aWealth_t {V : Nat → Int32} (hv : wvV V) {who n : Int32} {v : Nat} (h8 : v < 8) (c : aHold V n v = who) : (aWealth V who n (v + 1)).toInt = (aWealth V who n v).toInt + (V (4 + v)).toInt := by
  have b := aWealth_b hv (who := who) (n := n) v (by omega)
  have w := hv.2.2.2.1 (4 + v) (by omega) (by omega)
  show (aWealth V who n v + (if aHold V n v = who then V (4 + v) else 0)).toInt = _
  rw [if_pos c, ti_add (by omega) (by omega)]
theorem aWealth_f {V : Nat → Int32} {who n : Int32} {v : Nat} (c : ¬ aHold V n v = who) : aWealth V who n (v + 1) = aWealth V who n v := by
  show aWealth V who n v + (if aHold V n v = who then V (4 + v) else 0) = _
  rw [if_neg c, Int32.add_zero]
theorem qx_lead {F : Nat} {x1 x2 x3 : Int32} (hne : ¬ x1 = x2) {σ : Mem} {V : Nat → Int32} (a : cRdy V σ) : pc (f_X0_lead F 1 x1 x2 x3 σ) (fun r s => r.toInt = (aWealth V x1 x3 8).toInt - (aWealth V x2 x3 8).toInt ∧ s = σ) := by
  have key : ∀ (N v : Nat) (x4 x5 : Int32), x5.toInt = (v : Int) → v ≤ 8 → x4.toInt = (aWealth V x1 x3 v).toInt - (aWealth V x2 x3 v).toInt → pc (lp_X0_lead_6 F 1 x1 x2 x3 N x4 x5 σ) (fun r s => r.toInt = (aWealth V x1 x3 8).toInt - (aWealth V x2 x3 8).toInt ∧ s = σ) := by
    intro N
    induction N with
    | zero => intro v x4 x5 h1 h2 h3; exact pc_none rfl
    | succ N ih =>
      intro v x4 x5 h1 h2 h3
      rw [lp_X0_lead_6_s]
      simp only [j_X0_lead_61_e]
      refine pc_ite (fun c => ?_) (fun c => ?_)
      · have d := ti_le c
        rw [tz_8] at d
        have e8 : v = 8 := by omega
        subst e8
        exact pc_ret ⟨h3, rfl⟩
      have d := ti_nle c
      rw [tz_8] at d
      have b1 := aWealth_b a.1.1 (who := x1) (n := x3) v (by omega)
      have b2 := aWealth_b a.1.1 (who := x2) (n := x3) v (by omega)
      have w := a.1.1.2.2.2.1 (4 + v) (by omega) (by omega)
      refine pc_bnd (qx_hold a h1 (by omega)) (fun r s q => ?_)
      rw [q.2, q.1]
      refine pc_ite (fun e => pc_chk (fun _ => pc_lt (fun z6 hz => ih (v + 1) _ _ (ti_nx h1 (by omega)) (by omega) ?_))) (fun e => pc_ite (fun e2 => pc_chk (fun _ => pc_lt (fun z4 hz => ih (v + 1) _ _ (ti_nx h1 (by omega)) (by omega) ?_))) (fun e2 => ih (v + 1) _ _ (ti_nx h1 (by omega)) (by omega) ?_))
      · rw [tn_int h1, vH_w a.1 (by omega)] at hz
        rw [hz, ti_add (by omega) (by omega), aWealth_t a.1.1 (by omega) e, aWealth_f (fun q => hne (e.symm.trans q))]
        omega
      · rw [tn_int h1, vH_w a.1 (by omega)] at hz
        rw [hz, ti_sub (by omega) (by omega), aWealth_t a.1.1 (by omega) e2, aWealth_f e]
        omega
      · rw [aWealth_f e, aWealth_f e2]; exact h3
  rw [f_X0_lead_e]
  exact key F 0 0 0 rfl (by omega) rfl
/-! staredOut -/
def anStaredOut (V : Nat → Int32) (x1 x2 x3 : Int32) : Int32 := cF (cF (cB ((0 ≤ x1.toInt ∧ x1.toInt < (V 1).toInt) ∧ (0 ≤ x2.toInt ∧ x2.toInt < (V 1).toInt) ∧ ¬ x1 = x2)) (cN x3 0 999)) (aBits V x1 0 8 &&& aBits V x2 x3 8)
theorem vX_H {V : Nat → Int32} {σ : Mem} (a : vH 1 V σ) : vX V σ := ⟨a.1, fun p hp => vH_lo a hp, fun l t hl ht => vH_c a hl ht⟩
theorem qx_staredOut {F : Nat} {x1 x2 x3 : Int32} {σ : Mem} {V : Nat → Int32} (h : vH 1 V σ) : pc (f_X3_staredOut F x1 x2 x3 σ) (fun r _ => r = anStaredOut V x1 x2 x3) := by
  rw [f_X3_staredOut_e, f_X3_noPairFar_e]
  refine pc_be (by rw [wt_bnd_eq (qx_noPair (vX_H h)), wt_bnd_eq ax_outside, wt_bnd_eq ax_firstOf]) ?_
  unfold anStaredOut
  refine cq_end (fun e => pc_bnd (qx_reckon h) (fun _ s q => pc_bnd (qx_holdings q) (fun r z w => ?_)))
  rw [w.2]
  exact pc_bnd (qx_holdings q) (fun r' y u => pc_ret (by rw [w.1, u.1]))
theorem qm_staredOut {F : Nat} {x1 x2 x3 : Int32} {s : Mem} {V : Nat → Int32} (h : vM V s) : pc (f_X4_staredOut F x1 x2 x3 s) (fun r _ => r = anStaredOut V x1 x2 x3) := by
  rw [f_X4_staredOut_e]
  refine pc_lt (fun s6 h6 => ?_)
  have h' : vM V s6 := vM_up h h6
  clear h6
  simp only [j_X4_staredOut_26_e]
  refine pc_be (qm_areTwo h') ?_
  unfold anStaredOut
  by_cases c : (0 ≤ x1.toInt ∧ x1.toInt < (V 1).toInt) ∧ (0 ≤ x2.toInt ∧ x2.toInt < (V 1).toInt) ∧ ¬ x1 = x2
  · rw [if_pos c, if_neg (by decide), cB_t c, cF_z]
    refine pc_be mx_wrongN (mq_end sg_cN (fun e => pc_bnd (qm_lay h') (fun _ z q => pc_bnd (qm_viewsIn (x2 := 0) (by decide) q) (fun r y w => ?_))))
    have d2 := cN_0 e
    rw [tz_0, tz_999'] at d2
    exact pc_bnd (qm_viewsIn ⟨d2.1, by omega⟩ w.2) (fun r' y u => pc_ret (by rw [w.1, u.1]))
  · rw [if_neg c, if_pos rfl, cB_f c, cF_n (a := -1) (by decide)]
    exact mq_end (Or.inr (by decide)) (fun q => absurd q (by decide))
/-! ahead -/
def anAhead1 (V : Nat → Int32) (x1 x2 : Int32) : Nat → Int32 → Int32
  | 0, _ => -9
  | k + 1, x => if aWealth V x1 x 8 ≤ aWealth V x2 x 8 then anAhead1 V x1 x2 k (x + 1) else x
def anAhead (V : Nat → Int32) (x1 x2 : Int32) : Int32 := cF (cB ((0 ≤ x1.toInt ∧ x1.toInt < (V 1).toInt) ∧ (0 ≤ x2.toInt ∧ x2.toInt < (V 1).toInt) ∧ ¬ x1 = x2)) (anAhead1 V x1 x2 1000 0)
theorem qx_ahead_27 {F : Nat} {x1 x2 : Int32} (hne : ¬ x1 = x2) {σ : Mem} {V : Nat → Int32} (a : cRdy V σ) : ∀ (N k i : Nat) (x4 : Int32), x4.toInt = (i : Int) → i + k = 1000 → pc (lp_X3_ahead_27 F x1 x2 N x4 σ) (fun r _ => r = anAhead1 V x1 x2 k x4) := by
  intro N
  induction N with
  | zero => intro k i x4 h1 h2; exact pc_none rfl
  | succ N ih =>
    intro k i x4 h1 h2
    rw [lp_X3_ahead_27_s]
    refine pc_ite (fun c => ?_) (fun c => pc_bnd (qx_lead hne a) (fun r s q => ?_))
    · have d := ti_lt c
      rw [tz_999'] at d
      rw [show k = 0 by omega]
      exact pc_ret rfl
    · have d := ti_nlt c
      rw [tz_999'] at d
      obtain ⟨k', rfl⟩ : ∃ k', k = k' + 1 := ⟨k - 1, by omega⟩
      rw [q.2]
      have q1 := q.1
      refine pc_ite (fun e => pc_mono (ih k' (i + 1) _ (ti_nx h1 (by omega)) (by omega)) (fun r s w => ?_)) (fun e => pc_ret ?_)
      · have e' := ti_le e
        rw [tz_0] at e'
        show r = if aWealth V x1 x4 8 ≤ aWealth V x2 x4 8 then _ else x4
        rw [if_pos (Int32.le_iff_toInt_le.mpr (by omega))]; exact w
      · have e' := ti_nle e
        rw [tz_0] at e'
        show x4 = if aWealth V x1 x4 8 ≤ aWealth V x2 x4 8 then _ else x4
        rw [if_neg (fun w => by have := ti_le w; omega)]
theorem qx_ahead {F : Nat} {x1 x2 : Int32} {σ : Mem} {V : Nat → Int32} (h : vH 1 V σ) : pc (f_X3_ahead F x1 x2 σ) (fun r _ => r = anAhead V x1 x2) := by
  rw [f_X3_ahead_e]
  refine pc_be (qx_noPair (vX_H h)) ?_
  unfold anAhead
  exact cq_end (fun e => pc_bnd (qx_reckon h) (fun _ s q => qx_ahead_27 (cB_0 e).2.2 q F 1000 0 0 rfl rfl))
theorem qm_ahead_26 {F : Nat} {x1 x2 : Int32} {V : Nat → Int32} : ∀ (N k i : Nat) (x4 : Int32) (s : Mem), mRdy V s → x4.toInt = (i : Int) → i + k = 1000 → pc (lp_X4_ahead_26 F x1 x2 N x4 s) (fun r _ => r = anAhead1 V x1 x2 k x4) := by
  intro N
  induction N with
  | zero => intro k i x4 s a h1 h2; exact pc_none rfl
  | succ N ih =>
    intro k i x4 s a h1 h2
    rw [lp_X4_ahead_26_s]
    refine pc_ite (fun c => ?_) (fun c => ?_)
    · have d := ti_lt c
      rw [tz_999'] at d
      rw [show k = 0 by omega]
      exact pc_ret rfl
    · have d := ti_nlt c
      rw [tz_999'] at d
      obtain ⟨k', rfl⟩ : ∃ k', k = k' + 1 := ⟨k - 1, by omega⟩
      refine pc_bnd (qm_worthIn ⟨by omega, by omega⟩ a) (fun r1 s2 q => pc_bnd (qm_worthIn ⟨by omega, by omega⟩ q.2) (fun r3 s4 q3 => ?_))
      rw [q.1, q3.1]
      refine pc_ite (fun e => pc_mono (ih k' (i + 1) _ _ q3.2 (ti_nx h1 (by omega)) (by omega)) (fun r s w => ?_)) (fun e => pc_ret ?_)
      · show r = if aWealth V x1 x4 8 ≤ aWealth V x2 x4 8 then _ else x4
        rw [if_pos e]; exact w
      · show x4 = if aWealth V x1 x4 8 ≤ aWealth V x2 x4 8 then _ else x4
        rw [if_neg e]
theorem qm_ahead {F : Nat} {x1 x2 : Int32} {s : Mem} {V : Nat → Int32} (h : vM V s) : pc (f_X4_ahead F x1 x2 s) (fun r _ => r = anAhead V x1 x2) := by
  rw [f_X4_ahead_e]
  refine pc_lt (fun s6 h6 => ?_)
  have h' : vM V s6 := vM_up h h6
  clear h6
  refine pc_be (qm_areTwo h') ?_
  unfold anAhead
  by_cases c : (0 ≤ x1.toInt ∧ x1.toInt < (V 1).toInt) ∧ (0 ≤ x2.toInt ∧ x2.toInt < (V 1).toInt) ∧ ¬ x1 = x2
  · rw [if_pos c, if_neg (by decide), cB_t c, cF_z]
    exact pc_bnd (qm_lay h') (fun _ z q => qm_ahead_26 F 1000 0 0 z q rfl rfl)
  · rw [if_neg c, if_pos rfl, cB_f c]
    exact mq_ref (cF_n (by decide))
/-! gap -/
def aTwoTop (V : Nat → Int32) (n : Int32) (v : Nat) : Nat → Int32 × Int32
  | 0 => (0, 0)
  | l + 1 => if aBehind V n l v ≤ (aTwoTop V n v l).1 then (if aBehind V n l v ≤ (aTwoTop V n v l).2 then aTwoTop V n v l else ((aTwoTop V n v l).1, aBehind V n l v)) else (aBehind V n l v, (aTwoTop V n v l).1)
theorem aTwoTop_s {V : Nat → Int32} {n : Int32} {v l : Nat} : aTwoTop V n v (l + 1) = if aBehind V n l v ≤ (aTwoTop V n v l).1 then (if aBehind V n l v ≤ (aTwoTop V n v l).2 then aTwoTop V n v l else ((aTwoTop V n v l).1, aBehind V n l v)) else (aBehind V n l v, (aTwoTop V n v l).1) := rfl
def anGap (V : Nat → Int32) (x1 x2 : Int32) : Int32 := cF (cF (cB (0 ≤ x1.toInt ∧ x1.toInt ≤ 7)) (cN x2 0 999)) ((aTwoTop V x2 x1.toNatClampNeg (V 1).toNatClampNeg).1 - (aTwoTop V x2 x1.toNatClampNeg (V 1).toNatClampNeg).2)
theorem qx_gap_42 {F : Nat} {x1 x2 : Int32} {v : Nat} {σ : Mem} {V : Nat → Int32} (a : cRdy V σ) (hv : x1.toInt = (v : Int)) (hv8 : v < 8) : ∀ (N l : Nat) (x4 x5 x6 : Int32), x6.toInt = (l : Int) → (l : Int) ≤ (V 1).toInt → (x4, x5) = aTwoTop V x2 v l → pc (lp_X3_gap_42 F x1 x2 N x4 x5 x6 σ) (fun r _ => r = (aTwoTop V x2 v (V 1).toNatClampNeg).1 - (aTwoTop V x2 v (V 1).toNatClampNeg).2) := by
  have h5 := a.1.1.2.1.2
  have n1 := ti_nat (V 1)
  intro N
  induction N with
  | zero => intro l x4 x5 x6 h1 h2 h3; exact pc_none rfl
  | succ N ih =>
    intro l x4 x5 x6 h1 h2 h3
    have e4 : x4 = (aTwoTop V x2 v l).1 := congrArg Prod.fst h3
    have e5 : x5 = (aTwoTop V x2 v l).2 := congrArg Prod.snd h3
    rw [lp_X3_gap_42_s, vH_2 a.1]
    simp only [j_X3_gap_96_e]
    refine pc_ite (fun c => ?_) (fun c => pc_bnd (qx_behind a.1 a.2 h1 (by have d := ti_nle c; omega) hv hv8) (fun r s q => ?_))
    · have d := ti_le c
      exact pc_ret (by rw [e4, e5, show (V 1).toNatClampNeg = l by omega])
    · have d := ti_nle c
      rw [q.2, q.1]
      refine pc_ite (fun c1 => pc_ite (fun c2 => ih (l + 1) _ _ _ (ti_nx h1 (by omega)) (by omega) ?_) (fun c2 => ih (l + 1) _ _ _ (ti_nx h1 (by omega)) (by omega) ?_)) (fun c1 => ih (l + 1) _ _ _ (ti_nx h1 (by omega)) (by omega) ?_)
      · rw [e4] at c1
        rw [e5] at c2
        rw [aTwoTop_s, if_pos c1, if_pos c2]; exact h3
      · rw [e4] at c1
        rw [e5] at c2
        rw [aTwoTop_s, if_pos c1, if_neg c2, e4]
      · rw [e4] at c1
        rw [aTwoTop_s, if_neg c1, e4]
theorem qx_gap {F : Nat} {x1 x2 : Int32} {σ : Mem} {V : Nat → Int32} (h : vH 1 V σ) : pc (f_X3_gap F x1 x2 σ) (fun r _ => r = anGap V x1 x2) := by
  rw [f_X3_gap_e]
  refine pc_be ax_noView (pc_be ax_outside (pc_be ax_firstOf ?_))
  unfold anGap
  refine cq_end (fun e => pc_bnd (qx_reckon h) (fun _ s q => ?_))
  have d1 := cB_0 (cF_0 e).1
  have n1 := ti_nat x1
  exact qx_gap_42 q (by omega) (by omega) F 0 0 0 0 rfl h.1.2.1.1 rfl
theorem qm_countIn {F : Nat} {x1 x2 x3 : Int32} {l v : Nat} {s : Mem} {V : Nat → Int32} (a : mRdy V s) (hl : x1.toInt = (l : Int)) (hl5 : (l : Int) < (V 1).toInt) (hv : x2.toInt = (v : Int)) (hv8 : v < 8) : pc (f_X4_countIn F x1 x2 x3 s) (fun r z => r = aBehind V x3 l v ∧ z = s) := by
  have h5 := a.1.1.2.1.2
  rw [f_X4_countIn_e]
  refine pc_chk (fun _ => pc_be mx_held (pc_ret ⟨?_, rfl⟩))
  rw [tn_8 hl hv (by omega) hv8, vM_107 a.1 (by omega), a.2 l hl5 v hv8, show 148 + (8 * l + v) = 148 + 8 * l + v by omega]
  rfl
theorem qm_gap_48 {F : Nat} {x1 x2 : Int32} {v : Nat} {s : Mem} {V : Nat → Int32} (a : mRdy V s) (hv : x1.toInt = (v : Int)) (hv8 : v < 8) : ∀ (N l : Nat) (x4 x5 x6 : Int32), x6.toInt = (l : Int) → (l : Int) ≤ (V 1).toInt → (x4, x5) = aTwoTop V x2 v l → pc (lp_X4_gap_48 F x1 x2 N x4 x5 x6 s) (fun r _ => r = (aTwoTop V x2 v (V 1).toNatClampNeg).1 - (aTwoTop V x2 v (V 1).toNatClampNeg).2) := by
  have h5 := a.1.1.2.1.2
  have n1 := ti_nat (V 1)
  intro N
  induction N with
  | zero => intro l x4 x5 x6 h1 h2 h3; exact pc_none rfl
  | succ N ih =>
    intro l x4 x5 x6 h1 h2 h3
    have e4 : x4 = (aTwoTop V x2 v l).1 := congrArg Prod.fst h3
    have e5 : x5 = (aTwoTop V x2 v l).2 := congrArg Prod.snd h3
    rw [lp_X4_gap_48_s, vM_L a.1]
    simp only [j_X4_gap_93_e, j_X4_gap_109_e]
    refine pc_ite (fun c => ?_) (fun c => pc_bnd (qm_countIn a h1 (by have d := ti_nle c; omega) hv hv8) (fun r z q => ?_))
    · have d := ti_le c
      exact pc_ret (by rw [e4, e5, show (V 1).toNatClampNeg = l by omega])
    · have d := ti_nle c
      rw [q.2, q.1]
      refine pc_ite (fun c1 => pc_ite (fun c2 => ?_) (fun c2 => ?_)) (fun c1 => ?_)
      · rw [if_pos c1]
        refine ih (l + 1) _ _ _ (ti_nx h1 (by omega)) (by omega) ?_
        rw [e4] at c1
        rw [e5] at c2
        rw [aTwoTop_s, if_pos c1, if_pos c2]; exact h3
      · rw [if_pos c1]
        refine ih (l + 1) _ _ _ (ti_nx h1 (by omega)) (by omega) ?_
        rw [e4] at c1
        rw [e5] at c2
        rw [aTwoTop_s, if_pos c1, if_neg c2, e4]
      · rw [if_neg c1]
        refine ih (l + 1) _ _ _ (ti_nx h1 (by omega)) (by omega) ?_
        rw [e4] at c1
        rw [aTwoTop_s, if_neg c1, e4]
theorem qm_gap {F : Nat} {x1 x2 : Int32} {s : Mem} {V : Nat → Int32} (h : vM V s) : pc (f_X4_gap F x1 x2 s) (fun r _ => r = anGap V x1 x2) := by
  rw [f_X4_gap_e]
  refine pc_lt (fun s6 h6 => ?_)
  have h' : vM V s6 := vM_up h h6
  clear h6
  simp only [j_X4_gap_24_e]
  refine pc_be mx_isView ?_
  unfold anGap
  by_cases c : 0 ≤ x1.toInt ∧ x1.toInt ≤ 7
  · rw [if_pos c, if_neg (by decide), cB_t c, cF_z]
    have n1 := ti_nat x1
    refine pc_be mx_wrongN (mq_end sg_cN (fun e => pc_bnd (qm_lay h') (fun _ z q => ?_)))
    exact qm_gap_48 q (by omega) (by omega) F 0 0 0 0 rfl h.1.2.1.1 rfl
  · rw [if_neg c, if_pos rfl, cB_f c, cF_n (a := -1) (by decide)]
    exact mq_end (Or.inr (by decide)) (fun q => absurd q (by decide))
end
section
/-! richest -/
def aRich (V : Nat → Int32) (n : Int32) : Nat → Int32 × Int32
  | 0 => (-9, -1)
  | l + 1 => if aWealth V (Int32.ofNat l) n 8 ≤ (aRich V n l).2 then aRich V n l else (Int32.ofNat l, aWealth V (Int32.ofNat l) n 8)
theorem aRich_s {V : Nat → Int32} {n : Int32} {l : Nat} : aRich V n (l + 1) = if aWealth V (Int32.ofNat l) n 8 ≤ (aRich V n l).2 then aRich V n l else (Int32.ofNat l, aWealth V (Int32.ofNat l) n 8) := rfl
theorem aRich_b {V : Nat → Int32} (hv : wvV V) {n : Int32} : ∀ l, l ≤ 5 → (l = 0 ∧ aRich V n l = (-9, -1)) ∨ (0 < l ∧ ∃ b : Nat, b < l ∧ aRich V n l = (Int32.ofNat b, aWealth V (Int32.ofNat b) n 8)) := fun l => by
  induction l with
  | zero => intro _; exact Or.inl ⟨rfl, rfl⟩
  | succ l ih =>
    intro hl
    right
    refine ⟨Nat.succ_pos l, ?_⟩
    have w := aWealth_b hv (who := Int32.ofNat l) (n := n) 8 (by omega)
    rw [aRich_s]
    rcases ih (by omega) with ⟨h0, e⟩ | ⟨h0, b, hb, e⟩
    · have c : ¬ aWealth V (Int32.ofNat l) n 8 ≤ (aRich V n l).2 := fun q => by
        have := ti_le q
        rw [e] at this
        have em : (((-9 : Int32), (-1 : Int32)).2).toInt = -1 := rfl
        rw [em] at this
        omega
      rw [if_neg c]
      exact ⟨l, by omega, rfl⟩
    · by_cases c : aWealth V (Int32.ofNat l) n 8 ≤ (aRich V n l).2
      · rw [if_pos c]; exact ⟨b, by omega, e⟩
      · rw [if_neg c]; exact ⟨l, by omega, rfl⟩
theorem qx_wealthiest {F h : Nat} {x1 : Int32} {σ : Mem} {V : Nat → Int32} (a : vH h V σ ∧ vG h V σ) : pc (f_X0_wealthiest F h x1 σ) (fun r s => r = (aRich V x1 (V 1).toNatClampNeg).1 ∧ s = σ) := by
  have h5 := a.1.1.2.1
  have n1 := ti_nat (V 1)
  have key : ∀ (N l : Nat) (x2 x3 x4 : Int32), x4.toInt = (l : Int) → (l : Int) ≤ (V 1).toInt → (x2, x3) = aRich V x1 l → pc (lp_X0_wealthiest_8 F h x1 N x2 x3 x4 σ) (fun r s => r = (aRich V x1 (V 1).toNatClampNeg).1 ∧ s = σ) := by
    intro N
    induction N with
    | zero => intro l x2 x3 x4 h1 h2 h3; exact pc_none rfl
    | succ N ih =>
      intro l x2 x3 x4 h1 h2 h3
      have e2 : x2 = (aRich V x1 l).1 := congrArg Prod.fst h3
      have e3 : x3 = (aRich V x1 l).2 := congrArg Prod.snd h3
      rw [lp_X0_wealthiest_8_s, vH_2 a.1]
      simp only [j_X0_wealthiest_38_e]
      refine pc_ite (fun c => ?_) (fun c => pc_bnd (qx_wealth a) (fun r s q => ?_))
      · have d := ti_le c
        exact pc_ret ⟨by rw [e2, show (V 1).toNatClampNeg = l by omega], rfl⟩
      · have d := ti_nle c
        have e4 := io_eq h1 (by omega)
        rw [q.2, q.1]
        refine pc_ite (fun c1 => ih (l + 1) _ _ _ (ti_nx h1 (by omega)) (by omega) ?_) (fun c1 => ih (l + 1) _ _ _ (ti_nx h1 (by omega)) (by omega) ?_)
        · rw [e3, e4] at c1
          rw [aRich_s, if_pos c1]; exact h3
        · rw [e3, e4] at c1
          rw [aRich_s, if_neg c1, e4]
  rw [f_X0_wealthiest_e]
  exact key F 0 _ _ 0 rfl h5.1 rfl
theorem qm_richestIn {F : Nat} {x1 : Int32} (hx : 0 ≤ x1.toInt ∧ x1.toInt ≤ 9999) {s : Mem} {V : Nat → Int32} (a : mRdy V s) : pc (f_X4_richestIn F x1 s) (fun r z => r = (aRich V x1 (V 1).toNatClampNeg).1 ∧ mRdy V z) := by
  have h5 := a.1.1.2.1
  have n1 := ti_nat (V 1)
  have hv := a.1.1
  have key : ∀ (N l : Nat) (x2 x3 : Int32) (s : Mem), mRdy V s → x3.toInt = (l : Int) → (l : Int) ≤ (V 1).toInt → x2 = (aRich V x1 l).1 → pc (lp_X4_richestIn_5 F x1 N x2 x3 s) (fun r z => r = (aRich V x1 (V 1).toNatClampNeg).1 ∧ mRdy V z) := by
    intro N
    induction N with
    | zero => intro l x2 x3 s a h1 h2 h3; exact pc_none rfl
    | succ N ih =>
      intro l x2 x3 s a h1 h2 h3
      rw [lp_X4_richestIn_5_s, vM_L a.1]
      simp only [j_X4_richestIn_37_e, j_X4_richestIn_32_e]
      refine pc_ite (fun c => ?_) (fun c => ?_)
      · have d := ti_le c
        exact pc_ret ⟨by rw [h3, show (V 1).toNatClampNeg = l by omega], a⟩
      have d := ti_nle c
      have e4 := io_eq h1 (by omega)
      have w := aWealth_b hv (who := Int32.ofNat l) (n := x1) 8 (by omega)
      rcases aRich_b hv (n := x1) l (by omega) with ⟨h0, e⟩ | ⟨h0, b, hb, e⟩
      · have c9 : x2 < 0 := by rw [h3, e]; decide
        rw [if_pos c9]
        refine ih (l + 1) _ _ _ a (ti_nx h1 (by omega)) (by omega) ?_
        have c1 : ¬ aWealth V (Int32.ofNat l) x1 8 ≤ (aRich V x1 l).2 := fun q => by
          have := ti_le q
          rw [e] at this
          have em : (((-9 : Int32), (-1 : Int32)).2).toInt = -1 := rfl
          rw [em] at this
          omega
        rw [aRich_s, if_neg c1, e4]
      · have e2 : x2 = Int32.ofNat b := by rw [h3, e]
        have c9 : ¬ x2 < 0 := fun q => by
          have := ti_lt q
          rw [tz_0, e2, io_nat b (by omega)] at this
          omega
        rw [if_neg c9]
        refine pc_bnd (qm_worthIn hx a) (fun r1 s2 q => pc_bnd (qm_worthIn hx q.2) (fun r3 s4 q3 => ?_))
        rw [q.1, q3.1, e4, e2]
        refine pc_ite (fun c1 => ?_) (fun c1 => ?_)
        · refine ih (l + 1) _ _ _ q3.2 (by rw [← e4]; exact ti_nx h1 (by omega)) (by omega) ?_
          rw [aRich_s, if_pos (by rw [e]; exact c1), e]
        · refine ih (l + 1) _ _ _ q3.2 (by rw [← e4]; exact ti_nx h1 (by omega)) (by omega) ?_
          rw [aRich_s, if_neg (by rw [e]; exact c1)]
  rw [f_X4_richestIn_e]
  exact key F 0 _ 0 s a rfl h5.1 rfl
def anRichest (V : Nat → Int32) (x1 x2 : Int32) : Int32 := cF (cF (cN x1 0 999) (cO x2 2)) (if x2 = 0 then (aRich V x1 (V 1).toNatClampNeg).1 else if (aRich V x1 (V 1).toNatClampNeg).1 = -9 then -9 else aWealth V (aRich V x1 (V 1).toNatClampNeg).1 x1 8)
theorem qx_richest {F : Nat} {x1 x2 : Int32} {σ : Mem} {V : Nat → Int32} (h : vH 1 V σ) : pc (f_X3_richest F x1 x2 σ) (fun r _ => r = anRichest V x1 x2) := by
  rw [f_X3_richest_e]
  refine pc_be ax_outside (pc_be ax_notBelow (pc_be ax_firstOf ?_))
  simp only [j_X3_richest_55_e]
  unfold anRichest
  refine cq_end (fun e => pc_bnd (qx_reckon h) (fun _ s q => pc_bnd (qx_wealthiest q) (fun r z w => ?_)))
  rw [w.2, w.1]
  refine pc_ite (fun c => pc_ret (by rw [if_pos c])) (fun c => ?_)
  rw [if_neg c]
  refine pc_ite (fun c2 => pc_ret ?_) (fun c2 => pc_bnd (qx_wealth q) (fun r' y u => pc_ret ?_))
  · rw [if_pos c2]; exact c2
  · rw [if_neg c2]; exact u.1
theorem qm_richest {F : Nat} {x1 x2 : Int32} {s : Mem} {V : Nat → Int32} (h : vM V s) : pc (f_X4_richest F x1 x2 s) (fun r _ => r = anRichest V x1 x2) := by
  rw [f_X4_richest_e]
  refine pc_lt (fun s6 h6 => ?_)
  have h' : vM V s6 := vM_up h h6
  clear h6
  simp only [j_X4_richest_49_e]
  refine pc_be mx_wrongN (pc_be mx_wrongBit ?_)
  unfold anRichest
  refine mq_end (sg_cF sg_cN sg_cO) (fun e => pc_bnd (qm_lay h') (fun _ z q => ?_))
  have d2 := cN_0 (cF_0 e).1
  rw [tz_0, tz_999'] at d2
  have hx : 0 ≤ x1.toInt ∧ x1.toInt ≤ 9999 := ⟨d2.1, by omega⟩
  have n1 := ti_nat (V 1)
  have h5 := h.1.2.1
  refine pc_bnd (qm_richestIn hx q) (fun r y w => ?_)
  rw [w.1]
  refine pc_ite (fun c => pc_ret (by rw [if_pos c])) (fun c => ?_)
  rw [if_neg c]
  rcases aRich_b h.1 (n := x1) (V 1).toNatClampNeg (by omega) with ⟨h0, e⟩ | ⟨h0, b, hb, e⟩
  · rw [e]
    refine pc_ite (fun c2 => absurd c2 (by decide)) (fun _ => pc_ret ?_)
    exact (if_pos rfl).symm
  · rw [e]
    have hb0 : 0 ≤ Int32.ofNat b := Int32.le_iff_toInt_le.mpr (by rw [tz_0, io_nat b (by omega)]; omega)
    have hb9 : ¬ Int32.ofNat b = -9 := fun q => by
      have := congrArg Int32.toInt q
      rw [io_nat b (by omega)] at this
      have em : (-9 : Int32).toInt = -9 := rfl
      rw [em] at this
      omega
    refine pc_ite (fun _ => pc_bnd (qm_worthIn hx w.2) (fun r' y' u => pc_ret ?_)) (fun c2 => absurd hb0 c2)
    rw [u.1]
    exact (if_neg hb9).symm
end
