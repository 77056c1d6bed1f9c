section
/-! worth within bounds; who leads -/
theorem aWealth_b {V : Nat → Int32} (hv : wvV V) {who n : Int32} : ∀ v, v ≤ 8 → 0 ≤ (aWealth V who n v).toInt ∧ (aWealth V who n v).toInt ≤ 9 * (v : Int) := fun v => by
  induction v with
  | zero => intro _; exact ⟨Int.le_refl 0, Int.le_refl 0⟩
  | succ v ih =>
    intro h
    have b := ih (by omega)
    have w := hv.2.2.2.1 (4 + v) (by omega) (by omega)
    show 0 ≤ (aWealth V who n v + (if aHold V n v = who then V (4 + v) else 0)).toInt ∧ (aWealth V who n v + (if aHold V n v = who then V (4 + v) else 0)).toInt ≤ 9 * ((v + 1 : Nat) : Int)
    by_cases c : aHold V n v = who
    · rw [if_pos c, ti_add (by omega) (by omega)]; omega
    · rw [if_neg c, Int32.add_zero]; omega
theorem aWealth_t {V : Nat → Int32} (hv : wvV V) {who n : Int32} {v : Nat} (h8 : v < 8) (c : aHold V n v = who) : (aWealth V who n (v + 1)).toInt = (aWealth V who n v).toInt + (V (4 + v)).toInt := by
  have b := aWealth_b hv (who := who) (n := n) v (by omega)
  have w := hv.2.2.2.1 (4 + v) (by omega) (by omega)
  show (aWealth V who n v + (if aHold V n v = who then V (4 + v) else 0)).toInt = _
  rw [if_pos c, ti_add (by omega) (by omega)]
theorem aWealth_f {V : Nat → Int32} {who n : Int32} {v : Nat} (c : ¬ aHold V n v = who) : aWealth V who n (v + 1) = aWealth V who n v := by
  show aWealth V who n v + (if aHold V n v = who then V (4 + v) else 0) = _
  rw [if_neg c, Int32.add_zero]
theorem qx_lead {F : Nat} {x1 x2 x3 : Int32} (hne : ¬ x1 = x2) {σ : Mem} {V : Nat → Int32} (a : cRdy V σ) : pc (f_X0_lead F 1 x1 x2 x3 σ) (fun r s => r.toInt = (aWealth V x1 x3 8).toInt - (aWealth V x2 x3 8).toInt ∧ s = σ) := by
  have key : ∀ (N v : Nat) (x4 x5 : Int32), x5.toInt = (v : Int) → v ≤ 8 → x4.toInt = (aWealth V x1 x3 v).toInt - (aWealth V x2 x3 v).toInt → pc (lp_X0_lead_6 F 1 x1 x2 x3 N x4 x5 σ) (fun r s => r.toInt = (aWealth V x1 x3 8).toInt - (aWealth V x2 x3 8).toInt ∧ s = σ) := by
    intro N
    induction N with
    | zero => intro v x4 x5 h1 h2 h3; exact pc_none rfl
    | succ N ih =>
      intro v x4 x5 h1 h2 h3
      rw [lp_X0_lead_6_s]
      simp only [j_X0_lead_61_e]
      refine pc_ite (fun c => ?_) (fun c => ?_)
      · have d := ti_le c
        rw [tz_8] at d
        have e8 : v = 8 := by omega
        subst e8
        exact pc_ret ⟨h3, rfl⟩
      have d := ti_nle c
      rw [tz_8] at d
      have b1 := aWealth_b a.1.1 (who := x1) (n := x3) v (by omega)
      have b2 := aWealth_b a.1.1 (who := x2) (n := x3) v (by omega)
      have w := a.1.1.2.2.2.1 (4 + v) (by omega) (by omega)
      refine pc_bnd (qx_hold a h1 (by omega)) (fun r s q => ?_)
      rw [q.2, q.1]
      refine pc_ite (fun e => pc_chk (fun _ => pc_lt (fun z6 hz => ih (v + 1) _ _ (ti_nx h1 (by omega)) (by omega) ?_))) (fun e => pc_ite (fun e2 => pc_chk (fun _ => pc_lt (fun z4 hz => ih (v + 1) _ _ (ti_nx h1 (by omega)) (by omega) ?_))) (fun e2 => ih (v + 1) _ _ (ti_nx h1 (by omega)) (by omega) ?_))
      · rw [tn_int h1, vH_w a.1 (by omega)] at hz
        rw [hz, ti_add (by omega) (by omega), aWealth_t a.1.1 (by omega) e, aWealth_f (fun q => hne (e.symm.trans q))]
        omega
      · rw [tn_int h1, vH_w a.1 (by omega)] at hz
        rw [hz, ti_sub (by omega) (by omega), aWealth_t a.1.1 (by omega) e2, aWealth_f e]
        omega
      · rw [aWealth_f e, aWealth_f e2]; exact h3
  rw [f_X0_lead_e]
  exact key F 0 0 0 rfl (by omega) rfl
/-! staredOut -/
def anStaredOut (V : Nat → Int32) (x1 x2 x3 : Int32) : Int32 := cF (cF (cB ((0 ≤ x1.toInt ∧ x1.toInt < (V 1).toInt) ∧ (0 ≤ x2.toInt ∧ x2.toInt < (V 1).toInt) ∧ ¬ x1 = x2)) (cN x3 0 999)) (aBits V x1 0 8 &&& aBits V x2 x3 8)
theorem vX_H {V : Nat → Int32} {σ : Mem} (a : vH 1 V σ) : vX V σ := ⟨a.1, fun p hp => vH_lo a hp, fun l t hl ht => vH_c a hl ht⟩
theorem qx_staredOut {F : Nat} {x1 x2 x3 : Int32} {σ : Mem} {V : Nat → Int32} (h : vH 1 V σ) : pc (f_X3_staredOut F x1 x2 x3 σ) (fun r _ => r = anStaredOut V x1 x2 x3) := by
  rw [f_X3_staredOut_e, f_X3_noPairFar_e]
  refine pc_be (by rw [wt_bnd_eq (qx_noPair (vX_H h)), wt_bnd_eq ax_outside, wt_bnd_eq ax_firstOf]) ?_
  unfold anStaredOut
  refine cq_end (fun e => pc_bnd (qx_reckon h) (fun _ s q => pc_bnd (qx_holdings q) (fun r z w => ?_)))
  rw [w.2]
  exact pc_bnd (qx_holdings q) (fun r' y u => pc_ret (by rw [w.1, u.1]))
theorem qm_staredOut {F : Nat} {x1 x2 x3 : Int32} {s : Mem} {V : Nat → Int32} (h : vM V s) : pc (f_X4_staredOut F x1 x2 x3 s) (fun r _ => r = anStaredOut V x1 x2 x3) := by
  rw [f_X4_staredOut_e]
  refine pc_lt (fun s6 h6 => ?_)
  have h' : vM V s6 := vM_up h h6
  clear h6
  simp only [j_X4_staredOut_26_e]
  refine pc_be (qm_areTwo h') ?_
  unfold anStaredOut
  by_cases c : (0 ≤ x1.toInt ∧ x1.toInt < (V 1).toInt) ∧ (0 ≤ x2.toInt ∧ x2.toInt < (V 1).toInt) ∧ ¬ x1 = x2
  · rw [if_pos c, if_neg (by decide), cB_t c, cF_z]
    refine pc_be mx_wrongN (mq_end sg_cN (fun e => pc_bnd (qm_lay h') (fun _ z q => pc_bnd (qm_viewsIn (x2 := 0) (by decide) q) (fun r y w => ?_))))
    have d2 := cN_0 e
    rw [tz_0, tz_999'] at d2
    exact pc_bnd (qm_viewsIn ⟨d2.1, by omega⟩ w.2) (fun r' y u => pc_ret (by rw [w.1, u.1]))
  · rw [if_neg c, if_pos rfl, cB_f c, cF_n (a := -1) (by decide)]
    exact mq_end (Or.inr (by decide)) (fun q => absurd q (by decide))
/-! ahead -/
def anAhead1 (V : Nat → Int32) (x1 x2 : Int32) : Nat → Int32 → Int32
  | 0, _ => -9
  | k + 1, x => if aWealth V x1 x 8 ≤ aWealth V x2 x 8 then anAhead1 V x1 x2 k (x + 1) else x
def anAhead (V : Nat → Int32) (x1 x2 : Int32) : Int32 := cF (cB ((0 ≤ x1.toInt ∧ x1.toInt < (V 1).toInt) ∧ (0 ≤ x2.toInt ∧ x2.toInt < (V 1).toInt) ∧ ¬ x1 = x2)) (anAhead1 V x1 x2 1000 0)
theorem qx_ahead_27 {F : Nat} {x1 x2 : Int32} (hne : ¬ x1 = x2) {σ : Mem} {V : Nat → Int32} (a : cRdy V σ) : ∀ (N k i : Nat) (x4 : Int32), x4.toInt = (i : Int) → i + k = 1000 → pc (lp_X3_ahead_27 F x1 x2 N x4 σ) (fun r _ => r = anAhead1 V x1 x2 k x4) := by
  intro N
  induction N with
  | zero => intro k i x4 h1 h2; exact pc_none rfl
  | succ N ih =>
    intro k i x4 h1 h2
    rw [lp_X3_ahead_27_s]
    refine pc_ite (fun c => ?_) (fun c => pc_bnd (qx_lead hne a) (fun r s q => ?_))
    · have d := ti_lt c
      rw [tz_999'] at d
      rw [show k = 0 by omega]
      exact pc_ret rfl
    · have d := ti_nlt c
      rw [tz_999'] at d
      obtain ⟨k', rfl⟩ : ∃ k', k = k' + 1 := ⟨k - 1, by omega⟩
      rw [q.2]
      have q1 := q.1
      refine pc_ite (fun e => pc_mono (ih k' (i + 1) _ (ti_nx h1 (by omega)) (by omega)) (fun r s w => ?_)) (fun e => pc_ret ?_)
      · have e' := ti_le e
        rw [tz_0] at e'
        show r = if aWealth V x1 x4 8 ≤ aWealth V x2 x4 8 then _ else x4
        rw [if_pos (Int32.le_iff_toInt_le.mpr (by omega))]; exact w
      · have e' := ti_nle e
        rw [tz_0] at e'
        show x4 = if aWealth V x1 x4 8 ≤ aWealth V x2 x4 8 then _ else x4
        rw [if_neg (fun w => by have := ti_le w; omega)]
theorem qx_ahead {F : Nat} {x1 x2 : Int32} {σ : Mem} {V : Nat → Int32} (h : vH 1 V σ) : pc (f_X3_ahead F x1 x2 σ) (fun r _ => r = anAhead V x1 x2) := by
  rw [f_X3_ahead_e]
  refine pc_be (qx_noPair (vX_H h)) ?_
  unfold anAhead
  exact cq_end (fun e => pc_bnd (qx_reckon h) (fun _ s q => qx_ahead_27 (cB_0 e).2.2 q F 1000 0 0 rfl rfl))
theorem qm_ahead_26 {F : Nat} {x1 x2 : Int32} {V : Nat → Int32} : ∀ (N k i : Nat) (x4 : Int32) (s : Mem), mRdy V s → x4.toInt = (i : Int) → i + k = 1000 → pc (lp_X4_ahead_26 F x1 x2 N x4 s) (fun r _ => r = anAhead1 V x1 x2 k x4) := by
  intro N
  induction N with
  | zero => intro k i x4 s a h1 h2; exact pc_none rfl
  | succ N ih =>
    intro k i x4 s a h1 h2
    rw [lp_X4_ahead_26_s]
    refine pc_ite (fun c => ?_) (fun c => ?_)
    · have d := ti_lt c
      rw [tz_999'] at d
      rw [show k = 0 by omega]
      exact pc_ret rfl
    · have d := ti_nlt c
      rw [tz_999'] at d
      obtain ⟨k', rfl⟩ : ∃ k', k = k' + 1 := ⟨k - 1, by omega⟩
      refine pc_bnd (qm_worthIn ⟨by omega, by omega⟩ a) (fun r1 s2 q => pc_bnd (qm_worthIn ⟨by omega, by omega⟩ q.2) (fun r3 s4 q3 => ?_))
      rw [q.1, q3.1]
      refine pc_ite (fun e => pc_mono (ih k' (i + 1) _ _ q3.2 (ti_nx h1 (by omega)) (by omega)) (fun r s w => ?_)) (fun e => pc_ret ?_)
      · show r = if aWealth V x1 x4 8 ≤ aWealth V x2 x4 8 then _ else x4
        rw [if_pos e]; exact w
      · show x4 = if aWealth V x1 x4 8 ≤ aWealth V x2 x4 8 then _ else x4
        rw [if_neg e]
theorem qm_ahead {F : Nat} {x1 x2 : Int32} {s : Mem} {V : Nat → Int32} (h : vM V s) : pc (f_X4_ahead F x1 x2 s) (fun r _ => r = anAhead V x1 x2) := by
  rw [f_X4_ahead_e]
  refine pc_lt (fun s6 h6 => ?_)
  have h' : vM V s6 := vM_up h h6
  clear h6
  refine pc_be (qm_areTwo h') ?_
  unfold anAhead
  by_cases c : (0 ≤ x1.toInt ∧ x1.toInt < (V 1).toInt) ∧ (0 ≤ x2.toInt ∧ x2.toInt < (V 1).toInt) ∧ ¬ x1 = x2
  · rw [if_pos c, if_neg (by decide), cB_t c, cF_z]
    exact pc_bnd (qm_lay h') (fun _ z q => qm_ahead_26 F 1000 0 0 z q rfl rfl)
  · rw [if_neg c, if_pos rfl, cB_f c]
    exact mq_ref (cF_n (by decide))
/-! gap -/
def aTwoTop (V : Nat → Int32) (n : Int32) (v : Nat) : Nat → Int32 × Int32
  | 0 => (0, 0)
  | l + 1 => if aBehind V n l v ≤ (aTwoTop V n v l).1 then (if aBehind V n l v ≤ (aTwoTop V n v l).2 then aTwoTop V n v l else ((aTwoTop V n v l).1, aBehind V n l v)) else (aBehind V n l v, (aTwoTop V n v l).1)
theorem aTwoTop_s {V : Nat → Int32} {n : Int32} {v l : Nat} : aTwoTop V n v (l + 1) = if aBehind V n l v ≤ (aTwoTop V n v l).1 then (if aBehind V n l v ≤ (aTwoTop V n v l).2 then aTwoTop V n v l else ((aTwoTop V n v l).1, aBehind V n l v)) else (aBehind V n l v, (aTwoTop V n v l).1) := rfl
def anGap (V : Nat → Int32) (x1 x2 : Int32) : Int32 := cF (cF (cB (0 ≤ x1.toInt ∧ x1.toInt ≤ 7)) (cN x2 0 999)) ((aTwoTop V x2 x1.toNatClampNeg (V 1).toNatClampNeg).1 - (aTwoTop V x2 x1.toNatClampNeg (V 1).toNatClampNeg).2)
theorem qx_gap_42 {F : Nat} {x1 x2 : Int32} {v : Nat} {σ : Mem} {V : Nat → Int32} (a : cRdy V σ) (hv : x1.toInt = (v : Int)) (hv8 : v < 8) : ∀ (N l : Nat) (x4 x5 x6 : Int32), x6.toInt = (l : Int) → (l : Int) ≤ (V 1).toInt → (x4, x5) = aTwoTop V x2 v l → pc (lp_X3_gap_42 F x1 x2 N x4 x5 x6 σ) (fun r _ => r = (aTwoTop V x2 v (V 1).toNatClampNeg).1 - (aTwoTop V x2 v (V 1).toNatClampNeg).2) := by
  have h5 := a.1.1.2.1.2
  have n1 := ti_nat (V 1)
  intro N
  induction N with
  | zero => intro l x4 x5 x6 h1 h2 h3; exact pc_none rfl
  | succ N ih =>
    intro l x4 x5 x6 h1 h2 h3
    have e4 : x4 = (aTwoTop V x2 v l).1 := congrArg Prod.fst h3
    have e5 : x5 = (aTwoTop V x2 v l).2 := congrArg Prod.snd h3
    rw [lp_X3_gap_42_s, vH_2 a.1]
    simp only [j_X3_gap_96_e]
    refine pc_ite (fun c => ?_) (fun c => pc_bnd (qx_behind a.1 a.2 h1 (by have d := ti_nle c; omega) hv hv8) (fun r s q => ?_))
    · have d := ti_le c
      exact pc_ret (by rw [e4, e5, show (V 1).toNatClampNeg = l by omega])
    · have d := ti_nle c
      rw [q.2, q.1]
      refine pc_ite (fun c1 => pc_ite (fun c2 => ih (l + 1) _ _ _ (ti_nx h1 (by omega)) (by omega) ?_) (fun c2 => ih (l + 1) _ _ _ (ti_nx h1 (by omega)) (by omega) ?_)) (fun c1 => ih (l + 1) _ _ _ (ti_nx h1 (by omega)) (by omega) ?_)
      · rw [e4] at c1
        rw [e5] at c2
        rw [aTwoTop_s, if_pos c1, if_pos c2]; exact h3
      · rw [e4] at c1
        rw [e5] at c2
        rw [aTwoTop_s, if_pos c1, if_neg c2, e4]
      · rw [e4] at c1
        rw [aTwoTop_s, if_neg c1, e4]
theorem qx_gap {F : Nat} {x1 x2 : Int32} {σ : Mem} {V : Nat → Int32} (h : vH 1 V σ) : pc (f_X3_gap F x1 x2 σ) (fun r _ => r = anGap V x1 x2) := by
  rw [f_X3_gap_e]
  refine pc_be ax_noView (pc_be ax_outside (pc_be ax_firstOf ?_))
  unfold anGap
  refine cq_end (fun e => pc_bnd (qx_reckon h) (fun _ s q => ?_))
  have d1 := cB_0 (cF_0 e).1
  have n1 := ti_nat x1
  exact qx_gap_42 q (by omega) (by omega) F 0 0 0 0 rfl h.1.2.1.1 rfl
theorem qm_countIn {F : Nat} {x1 x2 x3 : Int32} {l v : Nat} {s : Mem} {V : Nat → Int32} (a : mRdy V s) (hl : x1.toInt = (l : Int)) (hl5 : (l : Int) < (V 1).toInt) (hv : x2.toInt = (v : Int)) (hv8 : v < 8) : pc (f_X4_countIn F x1 x2 x3 s) (fun r z => r = aBehind V x3 l v ∧ z = s) := by
  have h5 := a.1.1.2.1.2
  rw [f_X4_countIn_e]
  refine pc_chk (fun _ => pc_be mx_held (pc_ret ⟨?_, rfl⟩))
  rw [tn_8 hl hv (by omega) hv8, vM_107 a.1 (by omega), a.2 l hl5 v hv8, show 148 + (8 * l + v) = 148 + 8 * l + v by omega]
  rfl
theorem qm_gap_48 {F : Nat} {x1 x2 : Int32} {v : Nat} {s : Mem} {V : Nat → Int32} (a : mRdy V s) (hv : x1.toInt = (v : Int)) (hv8 : v < 8) : ∀ (N l : Nat) (x4 x5 x6 : Int32), x6.toInt = (l : Int) → (l : Int) ≤ (V 1).toInt → (x4, x5) = aTwoTop V x2 v l → pc (lp_X4_gap_48 F x1 x2 N x4 x5 x6 s) (fun r _ => r = (aTwoTop V x2 v (V 1).toNatClampNeg).1 - (aTwoTop V x2 v (V 1).toNatClampNeg).2) := by
  have h5 := a.1.1.2.1.2
  have n1 := ti_nat (V 1)
  intro N
  induction N with
  | zero => intro l x4 x5 x6 h1 h2 h3; exact pc_none rfl
  | succ N ih =>
    intro l x4 x5 x6 h1 h2 h3
    have e4 : x4 = (aTwoTop V x2 v l).1 := congrArg Prod.fst h3
    have e5 : x5 = (aTwoTop V x2 v l).2 := congrArg Prod.snd h3
    rw [lp_X4_gap_48_s, vM_L a.1]
    simp only [j_X4_gap_93_e, j_X4_gap_109_e]
    refine pc_ite (fun c => ?_) (fun c => pc_bnd (qm_countIn a h1 (by have d := ti_nle c; omega) hv hv8) (fun r z q => ?_))
    · have d := ti_le c
      exact pc_ret (by rw [e4, e5, show (V 1).toNatClampNeg = l by omega])
    · have d := ti_nle c
      rw [q.2, q.1]
      refine pc_ite (fun c1 => pc_ite (fun c2 => ?_) (fun c2 => ?_)) (fun c1 => ?_)
      · rw [if_pos c1]
        refine ih (l + 1) _ _ _ (ti_nx h1 (by omega)) (by omega) ?_
        rw [e4] at c1
        rw [e5] at c2
        rw [aTwoTop_s, if_pos c1, if_pos c2]; exact h3
      · rw [if_pos c1]
        refine ih (l + 1) _ _ _ (ti_nx h1 (by omega)) (by omega) ?_
        rw [e4] at c1
        rw [e5] at c2
        rw [aTwoTop_s, if_pos c1, if_neg c2, e4]
      · rw [if_neg c1]
        refine ih (l + 1) _ _ _ (ti_nx h1 (by omega)) (by omega) ?_
        rw [e4] at c1
        rw [aTwoTop_s, if_neg c1, e4]
theorem qm_gap {F : Nat} {x1 x2 : Int32} {s : Mem} {V : Nat → Int32} (h : vM V s) : pc (f_X4_gap F x1 x2 s) (fun r _ => r = anGap V x1 x2) := by
  rw [f_X4_gap_e]
  refine pc_lt (fun s6 h6 => ?_)
  have h' : vM V s6 := vM_up h h6
  clear h6
  simp only [j_X4_gap_24_e]
  refine pc_be mx_isView ?_
  unfold anGap
  by_cases c : 0 ≤ x1.toInt ∧ x1.toInt ≤ 7
  · rw [if_pos c, if_neg (by decide), cB_t c, cF_z]
    have n1 := ti_nat x1
    refine pc_be mx_wrongN (mq_end sg_cN (fun e => pc_bnd (qm_lay h') (fun _ z q => ?_)))
    exact qm_gap_48 q (by omega) (by omega) F 0 0 0 0 rfl h.1.2.1.1 rfl
  · rw [if_neg c, if_pos rfl, cB_f c, cF_n (a := -1) (by decide)]
    exact mq_end (Or.inr (by decide)) (fun q => absurd q (by decide))
end
section
/-! even -/
def aEv1 (V : Nat → Int32) (n : Int32) (a : Nat) : Nat → Nat → Int32 → Int32
  | 0, _, c => c
  | k + 1, b, c => aEv1 V n a k (b + 1) (c + (if aWealth V (Int32.ofNat a) n 8 = aWealth V (Int32.ofNat b) n 8 then 1 else 0))
theorem aEv1_t {V : Nat → Int32} {n : Int32} {a k b : Nat} {c : Int32} (e : aWealth V (Int32.ofNat a) n 8 = aWealth V (Int32.ofNat b) n 8) : aEv1 V n a (k + 1) b c = aEv1 V n a k (b + 1) (c + 1) := by
  show aEv1 V n a k (b + 1) (c + (if aWealth V (Int32.ofNat a) n 8 = aWealth V (Int32.ofNat b) n 8 then 1 else 0)) = _
  rw [if_pos e]
theorem aEv1_f {V : Nat → Int32} {n : Int32} {a k b : Nat} {c : Int32} (e : ¬ aWealth V (Int32.ofNat a) n 8 = aWealth V (Int32.ofNat b) n 8) : aEv1 V n a (k + 1) b c = aEv1 V n a k (b + 1) c := by
  show aEv1 V n a k (b + 1) (c + (if aWealth V (Int32.ofNat a) n 8 = aWealth V (Int32.ofNat b) n 8 then 1 else 0)) = _
  rw [if_neg e, Int32.add_zero]
def aEv (V : Nat → Int32) (n : Int32) : Nat → Nat → Int32 → Int32
  | 0, _, c => c
  | k + 1, a, c => aEv V n k (a + 1) (aEv1 V n a k (a + 1) c)
def anEven (V : Nat → Int32) (x1 : Int32) : Int32 := cF (cN x1 0 999) (aEv V x1 (V 1).toNatClampNeg 0 0)
theorem qx_even_49 {F : Nat} {x1 x4 : Int32} {a : Nat} {σ : Mem} {V : Nat → Int32} (h : cRdy V σ) (ha : x4.toInt = (a : Int)) (ha5 : a < 5) {k31 : Int32 → Int32 → Mem → Option (Int32 × Mem)} {Q : Int32 → Mem → Prop} : ∀ (N k b : Nat) (x3 x5 : Int32), x5.toInt = (b : Int) → a < b → b + k = (V 1).toNatClampNeg → pc (k31 (aEv1 V x1 a k b x3) (x4 + 1) σ) Q → pc (lp_X3_even_49 F k31 x1 x4 N x3 x5 σ) Q := by
  have h5 := h.1.1.2.1
  have n1 := ti_nat (V 1)
  intro N
  induction N with
  | zero => intro k b x3 x5 h1 h2 h3 hk; exact pc_none rfl
  | succ N ih =>
    intro k b x3 x5 h1 h2 h3 hk
    rw [lp_X3_even_49_s, vH_2 h.1]
    simp only [j_X3_even_79_e]
    refine pc_ite (fun c => ?_) (fun c => ?_)
    · have d := ti_le c
      have k0 : k = 0 := by omega
      subst k0
      exact hk
    · have d := ti_nle c
      obtain ⟨k', rfl⟩ : ∃ k', k = k' + 1 := ⟨k - 1, by omega⟩
      have e4 := io_eq ha (by omega)
      have e5 := io_eq h1 (by omega)
      have hne : ¬ x4 = x5 := fun q => by rw [q] at ha; omega
      refine pc_bnd (qx_lead hne h) (fun r s q => ?_)
      rw [q.2]
      have q1 := q.1
      rw [e4, e5] at q1
      refine pc_ite (fun e => ih k' (b + 1) _ _ (ti_nx h1 (by omega)) (by omega) (by omega) ?_) (fun e => ih k' (b + 1) _ _ (ti_nx h1 (by omega)) (by omega) (by omega) ?_)
      · rw [e, tz_0] at q1
        rw [aEv1_t (Int32.toInt_inj.mp (by omega))] at hk
        exact hk
      · have e' := ti_ne e
        rw [tz_0] at e'
        rw [aEv1_f (fun w => by rw [w] at q1; omega)] at hk
        exact hk
theorem qx_even_31 {F : Nat} {x1 : Int32} {σ : Mem} {V : Nat → Int32} (h : cRdy V σ) : ∀ (N k a : Nat) (x3 x4 : Int32), x4.toInt = (a : Int) → a + k = (V 1).toNatClampNeg → pc (lp_X3_even_31 F x1 N x3 x4 σ) (fun r _ => r = aEv V x1 k a x3) := by
  have h5 := h.1.1.2.1
  have n1 := ti_nat (V 1)
  intro N
  induction N with
  | zero => intro k a x3 x4 h1 h2; exact pc_none rfl
  | succ N ih =>
    intro k a x3 x4 h1 h2
    rw [lp_X3_even_31_s, vH_2 h.1]
    refine pc_ite (fun c => ?_) (fun c => ?_)
    · have d := ti_le c
      have k0 : k = 0 := by omega
      subst k0
      exact pc_ret rfl
    · have d := ti_nle c
      obtain ⟨k', rfl⟩ : ∃ k', k = k' + 1 := ⟨k - 1, by omega⟩
      exact qx_even_49 h h1 (by omega) F k' (a + 1) _ _ (ti_nx h1 (by omega)) (by omega) (by omega) (ih k' (a + 1) _ _ (ti_nx h1 (by omega)) (by omega))
theorem qx_even {F : Nat} {x1 : Int32} {σ : Mem} {V : Nat → Int32} (h : vH 1 V σ) : pc (f_X3_even F x1 σ) (fun r _ => r = anEven V x1) := by
  have h5 := h.1.2.1
  have n1 := ti_nat (V 1)
  rw [f_X3_even_e]
  refine pc_be ax_outside ?_
  unfold anEven
  exact cq_end (fun e => pc_bnd (qx_reckon h) (fun _ s q => qx_even_31 q F _ 0 0 0 rfl (by omega)))
theorem qm_even_50 {F : Nat} {x1 x3 : Int32} (hx : 0 ≤ x1.toInt ∧ x1.toInt ≤ 9999) {a : Nat} {V : Nat → Int32} (ha : x3.toInt = (a : Int)) (ha5 : a < 5) {k37 : Int32 → Int32 → Mem → Option (Int32 × Mem)} {Q : Int32 → Mem → Prop} : ∀ (N k b : Nat) (x2 x4 : Int32) (s : Mem), mRdy V s → x4.toInt = (b : Int) → b + k = (V 1).toNatClampNeg → (∀ z, mRdy V z → pc (k37 (aEv1 V x1 a k b x2) (x3 + 1) z) Q) → pc (lp_X4_even_50 F k37 x1 x3 N x2 x4 s) Q := by
  have n1 := ti_nat (V 1)
  intro N
  induction N with
  | zero => intro k b x2 x4 s h h1 h3 hk; exact pc_none rfl
  | succ N ih =>
    intro k b x2 x4 s h h1 h3 hk
    have h5 := h.1.1.2.1
    rw [lp_X4_even_50_s, vM_L h.1]
    simp only [j_X4_even_81_e]
    refine pc_ite (fun c => ?_) (fun c => ?_)
    · have d := ti_le c
      have k0 : k = 0 := by omega
      subst k0
      exact hk s h
    · have d := ti_nle c
      obtain ⟨k', rfl⟩ : ∃ k', k = k' + 1 := ⟨k - 1, by omega⟩
      have e3 := io_eq ha (by omega)
      have e4 := io_eq h1 (by omega)
      refine pc_bnd (qm_worthIn hx h) (fun r1 s2 q => pc_bnd (qm_worthIn hx q.2) (fun r3 s4 q3 => ?_))
      rw [q.1, q3.1]
      refine pc_ite (fun e => ih k' (b + 1) _ _ _ q3.2 (ti_nx h1 (by omega)) (by omega) (fun z hz => ?_)) (fun e => ih k' (b + 1) _ _ _ q3.2 (ti_nx h1 (by omega)) (by omega) (fun z hz => ?_))
      · have w := hk z hz
        rw [aEv1_t (by rw [← e3, ← e4]; exact e)] at w
        exact w
      · have w := hk z hz
        rw [aEv1_f (by rw [← e3, ← e4]; exact e)] at w
        rw [Int32.add_zero]
        exact w
theorem qm_even_37 {F : Nat} {x1 : Int32} (hx : 0 ≤ x1.toInt ∧ x1.toInt ≤ 9999) {V : Nat → Int32} : ∀ (N k a : Nat) (x2 x3 : Int32) (s : Mem), mRdy V s → x3.toInt = (a : Int) → a + k = (V 1).toNatClampNeg → pc (lp_X4_even_37 F x1 N x2 x3 s) (fun r _ => r = aEv V x1 k a x2) := by
  have n1 := ti_nat (V 1)
  intro N
  induction N with
  | zero => intro k a x2 x3 s h h1 h2; exact pc_none rfl
  | succ N ih =>
    intro k a x2 x3 s h h1 h2
    have h5 := h.1.1.2.1
    rw [lp_X4_even_37_s, vM_L h.1]
    refine pc_ite (fun c => ?_) (fun c => ?_)
    · have d := ti_le c
      have k0 : k = 0 := by omega
      subst k0
      exact pc_ret rfl
    · have d := ti_nle c
      obtain ⟨k', rfl⟩ : ∃ k', k = k' + 1 := ⟨k - 1, by omega⟩
      exact qm_even_50 hx h1 (by omega) F k' (a + 1) _ _ s h (ti_nx h1 (by omega)) (by omega) (fun z hz => ih k' (a + 1) _ _ z hz (ti_nx h1 (by omega)) (by omega))
theorem qm_even {F : Nat} {x1 : Int32} {s : Mem} {V : Nat → Int32} (h : vM V s) : pc (f_X4_even F x1 s) (fun r _ => r = anEven V x1) := by
  have n1 := ti_nat (V 1)
  have h5 := h.1.2.1
  rw [f_X4_even_e]
  refine pc_lt (fun s6 h6 => ?_)
  have h' : vM V s6 := vM_up h h6
  clear h6
  refine pc_be mx_wrongN ?_
  unfold anEven
  rw [wt_bnd_eq mx_wrongN]
  refine mq_end sg_cN (fun e => pc_bnd (qm_lay h') (fun _ z q => ?_))
  have d2 := cN_0 e
  rw [tz_0, tz_999'] at d2
  exact qm_even_37 ⟨d2.1, by omega⟩ F _ 0 0 0 z q rfl (by omega)
/-! rank -/
def aPlace (V : Nat → Int32) (v l : Nat) : Nat → Int32
  | 0 => 0
  | o + 1 => aPlace V v l o + (if (V (148 + 8 * l + v)).toInt < (V (148 + 8 * o + v)).toInt ∨ ((V (148 + 8 * o + v)).toInt = (V (148 + 8 * l + v)).toInt ∧ o < l) then 1 else 0)
theorem aPlace_t {V : Nat → Int32} {v l o : Nat} (e : (V (148 + 8 * l + v)).toInt < (V (148 + 8 * o + v)).toInt ∨ ((V (148 + 8 * o + v)).toInt = (V (148 + 8 * l + v)).toInt ∧ o < l)) : aPlace V v l (o + 1) = aPlace V v l o + 1 := by
  show aPlace V v l o + (if (V (148 + 8 * l + v)).toInt < (V (148 + 8 * o + v)).toInt ∨ ((V (148 + 8 * o + v)).toInt = (V (148 + 8 * l + v)).toInt ∧ o < l) then 1 else 0) = _
  rw [if_pos e]
theorem aPlace_f {V : Nat → Int32} {v l o : Nat} (e : ¬ ((V (148 + 8 * l + v)).toInt < (V (148 + 8 * o + v)).toInt ∨ ((V (148 + 8 * o + v)).toInt = (V (148 + 8 * l + v)).toInt ∧ o < l))) : aPlace V v l (o + 1) = aPlace V v l o := by
  show aPlace V v l o + (if (V (148 + 8 * l + v)).toInt < (V (148 + 8 * o + v)).toInt ∨ ((V (148 + 8 * o + v)).toInt = (V (148 + 8 * l + v)).toInt ∧ o < l) then 1 else 0) = _
  rw [if_neg e, Int32.add_zero]
def aRank (V : Nat → Int32) (i : Int32) (v : Nat) : Nat → Nat → Int32
  | 0, _ => -9
  | k + 1, l => if aPlace V v l (V 1).toNatClampNeg = i then Int32.ofNat l else aRank V i v k (l + 1)
theorem aRank_t {V : Nat → Int32} {i : Int32} {v k l : Nat} (e : aPlace V v l (V 1).toNatClampNeg = i) : aRank V i v (k + 1) l = Int32.ofNat l := by
  show (if aPlace V v l (V 1).toNatClampNeg = i then Int32.ofNat l else aRank V i v k (l + 1)) = _
  rw [if_pos e]
theorem aRank_f {V : Nat → Int32} {i : Int32} {v k l : Nat} (e : ¬ aPlace V v l (V 1).toNatClampNeg = i) : aRank V i v (k + 1) l = aRank V i v k (l + 1) := by
  show (if aPlace V v l (V 1).toNatClampNeg = i then Int32.ofNat l else aRank V i v k (l + 1)) = _
  rw [if_neg e]
def cRk (x : Int32) : Int32 := if 0 ≤ x then 0 else -4
def anRank (V : Nat → Int32) (x1 x2 : Int32) : Int32 := cF (cF (cB (0 ≤ x1.toInt ∧ x1.toInt ≤ 7)) (cRk x2)) (aRank V x2 x1.toNatClampNeg (V 1).toNatClampNeg 0)
theorem qx_placeOf {F : Nat} {x1 x2 : Int32} {l v : Nat} {σ : Mem} {V : Nat → Int32} (a : vH 1 V σ) (hl : x1.toInt = (l : Int)) (hl5 : (l : Int) < (V 1).toInt) (hv : x2.toInt = (v : Int)) (hv8 : v < 8) : pc (f_X0_placeOf F 1 x1 x2 σ) (fun r s => r = aPlace V v l (V 1).toNatClampNeg ∧ s = σ) := by
  have h5 := a.1.2.1
  have n1 := ti_nat (V 1)
  rw [f_X0_placeOf_e]
  refine pc_chk (fun _ => pc_chk (fun _ => pc_lt (fun z6 hz => ?_)))
  rw [tn_int hl, tn_int hv, vH_n a hl5 hv8] at hz
  have key : ∀ (N o : Nat) (x3 x5 : Int32), x5.toInt = (o : Int) → (o : Int) ≤ (V 1).toInt → x3 = aPlace V v l o → pc (lp_X0_placeOf_15 F 1 x1 x2 z6 N x3 x5 σ) (fun r s => r = aPlace V v l (V 1).toNatClampNeg ∧ s = σ) := by
    intro N
    induction N with
    | zero => intro o x3 x5 h1 h2 h3; exact pc_none rfl
    | succ N ih =>
      intro o x3 x5 h1 h2 h3
      rw [lp_X0_placeOf_15_s, vH_2 a]
      simp only [j_X0_placeOf_58_e, j_X0_placeOf_55_e]
      refine pc_ite (fun c => ?_) (fun c => pc_chk (fun _ => pc_chk (fun _ => pc_lt (fun z3 hz3 => ?_))))
      · have d := ti_le c
        exact pc_ret ⟨by rw [h3, show (V 1).toNatClampNeg = o by omega], rfl⟩
      have d := ti_nle c
      rw [tn_int h1, tn_int hv, vH_n a (by omega) hv8] at hz3
      refine pc_ite (fun c1 => ih (o + 1) _ _ (ti_nx h1 (by omega)) (by omega) ?_) (fun c1 => pc_ite (fun c2 => pc_ite (fun c3 => ih (o + 1) _ _ (ti_nx h1 (by omega)) (by omega) ?_) (fun c3 => ih (o + 1) _ _ (ti_nx h1 (by omega)) (by omega) ?_)) (fun c2 => ih (o + 1) _ _ (ti_nx h1 (by omega)) (by omega) ?_))
      · have k1 := ti_lt c1
        rw [hz, hz3] at k1
        rw [aPlace_t (Or.inl k1), h3]
      · have k1 := ti_nlt c1
        have k2 := congrArg Int32.toInt c2
        have k3 := ti_le c3
        rw [hz, hz3] at k1 k2
        rw [aPlace_f (by omega)]
        exact h3
      · have k1 := ti_nlt c1
        have k2 := congrArg Int32.toInt c2
        have k3 := ti_nle c3
        rw [hz, hz3] at k1 k2
        rw [aPlace_t (by omega), h3]
      · have k1 := ti_nlt c1
        have k2 := ti_ne c2
        rw [hz, hz3] at k1 k2
        rw [aPlace_f (by omega)]
        exact h3
  exact key F 0 0 0 rfl h5.1 rfl
theorem qx_rank_29 {F : Nat} {x1 x2 : Int32} {v : Nat} {σ : Mem} {V : Nat → Int32} (a : vH 1 V σ) (hv : x1.toInt = (v : Int)) (hv8 : v < 8) : ∀ (N k l : Nat) (x4 : Int32), x4.toInt = (l : Int) → l + k = (V 1).toNatClampNeg → pc (lp_X3_rank_29 F x1 x2 N x4 σ) (fun r _ => r = aRank V x2 v k l) := by
  have h5 := a.1.2.1
  have n1 := ti_nat (V 1)
  intro N
  induction N with
  | zero => intro k l x4 h1 h2; exact pc_none rfl
  | succ N ih =>
    intro k l x4 h1 h2
    rw [lp_X3_rank_29_s, vH_2 a]
    refine pc_ite (fun c => ?_) (fun c => pc_bnd (qx_placeOf a h1 (by have d := ti_nle c; omega) hv hv8) (fun r s q => ?_))
    · have d := ti_le c
      have k0 : k = 0 := by omega
      subst k0
      exact pc_ret rfl
    · have d := ti_nle c
      obtain ⟨k', rfl⟩ : ∃ k', k = k' + 1 := ⟨k - 1, by omega⟩
      rw [q.2, q.1]
      refine pc_ite (fun e => pc_ret ?_) (fun e => ?_)
      · rw [aRank_t e]; exact io_eq h1 (by omega)
      · rw [aRank_f e]
        exact ih k' (l + 1) _ (ti_nx h1 (by omega)) (by omega)
theorem qx_rank {F : Nat} {x1 x2 : Int32} {σ : Mem} {V : Nat → Int32} (h : vH 1 V σ) : pc (f_X3_rank F x1 x2 σ) (fun r _ => r = anRank V x1 x2) := by
  have h5 := h.1.2.1
  have n1 := ti_nat (V 1)
  rw [f_X3_rank_e]
  refine pc_be ax_noView ?_
  simp only [j_X3_rank_16_e]
  unfold anRank
  have key : ∀ e, e = cF (cB (0 ≤ x1.toInt ∧ x1.toInt ≤ 7)) (cRk x2) → pc (if e = 0 then lp_X3_rank_29 F x1 x2 F 0 σ else wt_bnd (f_X3_refuse F e σ) fun r s => some (r, s)) (fun r _ => r = cF (cF (cB (0 ≤ x1.toInt ∧ x1.toInt ≤ 7)) (cRk x2)) (aRank V x2 x1.toNatClampNeg (V 1).toNatClampNeg 0)) := fun e he => by
    subst he
    refine cq_end (fun e => ?_)
    have d1 := cB_0 (cF_0 e).1
    have m1 := ti_nat x1
    exact qx_rank_29 h (by omega) (by omega) F _ 0 0 rfl (by omega)
  by_cases c : 0 ≤ x1.toInt ∧ x1.toInt ≤ 7
  · rw [cB_t c]
    rw [cB_t c] at key
    refine pc_ite (fun _ => pc_ite (fun c2 => key _ ?_) (fun c2 => key _ ?_)) (fun q => absurd rfl q)
    · rw [cF_z, show cRk x2 = 0 from if_pos c2]
    · rw [cF_z, show cRk x2 = -4 from if_neg c2]
  · rw [cB_f c]
    rw [cB_f c] at key
    exact pc_ite (fun q => absurd q (by decide)) (fun _ => key _ (cF_n (by decide)).symm)
theorem qm_rank_55 {F : Nat} {x1 x2 x4 : Int32} {l v : Nat} {s : Mem} {V : Nat → Int32} (h : vM V s) (hv : x1.toInt = (v : Int)) (hv8 : v < 8) (hl : x4.toInt = (l : Int)) (hl5 : (l : Int) < (V 1).toInt) {k40 : Int32 → Mem → Option (Int32 × Mem)} {Q : Int32 → Mem → Prop} (hk1 : aPlace V v l (V 1).toNatClampNeg = x2 → Q x4 s) (hk2 : ¬ aPlace V v l (V 1).toNatClampNeg = x2 → pc (k40 (x4 + 1) s) Q) : ∀ (N o : Nat) (x5 x6 : Int32), x6.toInt = (o : Int) → (o : Int) ≤ (V 1).toInt → x5 = aPlace V v l o → pc (lp_X4_rank_55 F k40 x1 x2 x4 N x5 x6 s) Q := by
  have h5 := h.1.2.1
  have n1 := ti_nat (V 1)
  have B := vV_n h.1 (l := l) (by omega) hv8
  intro N
  induction N with
  | zero => intro o x5 x6 h1 h2 h3; exact pc_none rfl
  | succ N ih =>
    intro o x5 x6 h1 h2 h3
    rw [lp_X4_rank_55_s, vM_L h]
    simp only [j_X4_rank_115_e, j_X4_rank_110_e, j_X4_rank_114_e]
    refine pc_ite (fun c => ?_) (fun c => pc_chk (fun _ => pc_chk (fun _ => pc_lt (fun z3 hz => ?_))))
    · have d := ti_le c
      rw [show o = (V 1).toNatClampNeg by omega] at h3
      rw [h3]
      exact pc_ite (fun e => pc_ret (hk1 e)) (fun e => hk2 e)
    have d := ti_nle c
    have A := vV_n h.1 (l := o) (by omega) hv8
    rw [tn_8 h1 hv (by omega) hv8, tn_8 hl hv (by omega) hv8, vM_107 h (by omega), vM_107 h (by omega), show 148 + (8 * o + v) = 148 + 8 * o + v by omega, show 148 + (8 * l + v) = 148 + 8 * l + v by omega] at hz
    have ez : z3.toInt = (V (148 + 8 * o + v)).toInt - (V (148 + 8 * l + v)).toInt := by rw [hz, ti_sub (by omega) (by omega)]
    refine pc_ite (fun c1 => ih (o + 1) _ _ (ti_nx h1 (by omega)) (by omega) ?_) (fun c1 => pc_ite (fun c2 => pc_ite (fun c3 => ih (o + 1) _ _ (ti_nx h1 (by omega)) (by omega) ?_) (fun c3 => ih (o + 1) _ _ (ti_nx h1 (by omega)) (by omega) ?_)) (fun c2 => ih (o + 1) _ _ (ti_nx h1 (by omega)) (by omega) ?_))
    · have k1 := ti_lt c1
      rw [tz_0, ez] at k1
      rw [aPlace_t (Or.inl (by omega)), h3]
    · have k2 := congrArg Int32.toInt c2
      have k3 := ti_le c3
      rw [tz_0, ez] at k2
      rw [Int32.add_zero, aPlace_f (by omega)]
      exact h3
    · have k2 := congrArg Int32.toInt c2
      have k3 := ti_nle c3
      rw [tz_0, ez] at k2
      rw [aPlace_t (Or.inr ⟨by omega, by omega⟩), h3]
    · have k1 := ti_nlt c1
      have k2 := ti_ne c2
      rw [tz_0, ez] at k1 k2
      rw [Int32.add_zero, aPlace_f (by omega)]
      exact h3
theorem qm_rank_40 {F : Nat} {x1 x2 : Int32} {v : Nat} {s : Mem} {V : Nat → Int32} (h : vM V s) (hv : x1.toInt = (v : Int)) (hv8 : v < 8) : ∀ (N k l : Nat) (x4 : Int32), x4.toInt = (l : Int) → l + k = (V 1).toNatClampNeg → pc (lp_X4_rank_40 F x1 x2 N x4 s) (fun r _ => r = aRank V x2 v k l) := by
  have h5 := h.1.2.1
  have n1 := ti_nat (V 1)
  intro N
  induction N with
  | zero => intro k l x4 h1 h2; exact pc_none rfl
  | succ N ih =>
    intro k l x4 h1 h2
    rw [lp_X4_rank_40_s, vM_L h]
    refine pc_ite (fun c => ?_) (fun c => ?_)
    · have d := ti_le c
      have k0 : k = 0 := by omega
      subst k0
      exact pc_ret rfl
    · have d := ti_nle c
      obtain ⟨k', rfl⟩ : ∃ k', k = k' + 1 := ⟨k - 1, by omega⟩
      refine qm_rank_55 h hv hv8 h1 (by omega) (fun e => ?_) (fun e => ?_) F 0 0 0 rfl h5.1 rfl
      · rw [aRank_t e]; exact io_eq h1 (by omega)
      · rw [aRank_f e]
        exact ih k' (l + 1) _ (ti_nx h1 (by omega)) (by omega)
theorem qm_rank {F : Nat} {x1 x2 : Int32} {s : Mem} {V : Nat → Int32} (h : vM V s) : pc (f_X4_rank F x1 x2 s) (fun r _ => r = anRank V x1 x2) := by
  have h5 := h.1.2.1
  have n1 := ti_nat (V 1)
  rw [f_X4_rank_e]
  refine pc_lt (fun s6 h6 => ?_)
  have h' : vM V s6 := vM_up h h6
  clear h6
  simp only [j_X4_rank_26_e]
  refine pc_be mx_isView ?_
  unfold anRank
  by_cases c : 0 ≤ x1.toInt ∧ x1.toInt ≤ 7
  · rw [if_pos c, if_neg (by decide), cB_t c, cF_z]
    have m1 := ti_nat x1
    refine pc_ite (fun c2 => ?_) (fun c2 => ?_)
    · rw [show cRk x2 = 0 from if_pos c2, cF_z, if_pos (by decide)]
      exact qm_rank_40 h' (by omega) (by omega) F _ 0 0 rfl (by omega)
    · rw [show cRk x2 = -4 from if_neg c2, if_neg (by decide)]
      exact mq_ref (cF_n (by decide))
  · rw [if_neg c, if_pos rfl, cB_f c, cF_n (a := -1) (by decide), if_neg (by decide)]
    exact mq_ref (cF_n (by decide))
/-! most seen -/
def aGA (V : Nat → Int32) (v : Nat) : Nat → Int32
  | 0 => 0
  | l + 1 => aGA V v l + aGain V l v 24
theorem aGA_b {V : Nat → Int32} (h : wvV V) {v : Nat} : ∀ l : Nat, (l : Int) ≤ (V 1).toInt → 0 ≤ (aGA V v l).toInt ∧ (aGA V v l).toInt ≤ 240 * (l : Int) := fun l => by
  induction l with
  | zero => intro _; exact ⟨Int.le_refl 0, Int.le_refl 0⟩
  | succ l ih =>
    intro hl
    have b := ih (by omega)
    have g := aGain_b h (l := l) (v := v) (by omega) 24 (by omega)
    have h5 := h.2.1.2
    show 0 ≤ (aGA V v l + aGain V l v 24).toInt ∧ (aGA V v l + aGain V l v 24).toInt ≤ _
    rw [ti_add (by omega) (by omega)]
    omega
def aGT (V : Nat → Int32) (v : Nat) : Int32 := aGA V v (V 1).toNatClampNeg
def aMS (V : Nat → Int32) : Nat → Nat
  | 0 => 0
  | v + 1 => if aGT V (v + 1) ≤ aGT V (aMS V v) then aMS V v else v + 1
theorem aMS_le {V : Nat → Int32} : ∀ n, aMS V n ≤ n := fun n => by
  induction n with
  | zero => exact Nat.le_refl _
  | succ n ih =>
    show (if aGT V (n + 1) ≤ aGT V (aMS V n) then aMS V n else n + 1) ≤ n + 1
    by_cases c : aGT V (n + 1) ≤ aGT V (aMS V n)
    · rw [if_pos c]; omega
    · rw [if_neg c]; omega
def anMostSeen (V : Nat → Int32) (x1 : Int32) : Int32 := cF (cO x1 2) (if x1 = 0 then Int32.ofNat (aMS V 7) else aGT V (aMS V 7))
theorem qx_gainOfAll {F : Nat} {x1 : Int32} {v : Nat} {σ : Mem} {V : Nat → Int32} (a : cRdy V σ) (hv : x1.toInt = (v : Int)) (hv8 : v < 8) : pc (f_X0_gainOfAll F 1 x1 σ) (fun r s => r = aGT V v ∧ s = σ) := by
  have n1 := ti_nat (V 1)
  have key : ∀ (N l : Nat) (x2 x3 : Int32), x3.toInt = (l : Int) → (l : Int) ≤ (V 1).toInt → x2 = aGA V v l → pc (lp_X0_gainOfAll_4 F 1 x1 N x2 x3 σ) (fun r s => r = aGT V v ∧ s = σ) := by
    intro N
    induction N with
    | zero => intro l x2 x3 h1 h2 h3; exact pc_none rfl
    | succ N ih =>
      intro l x2 x3 h1 h2 h3
      have h5 := a.1.1.2.1
      rw [lp_X0_gainOfAll_4_s, vH_2 a.1]
      refine pc_ite (fun c => ?_) (fun c => pc_chk (fun _ => pc_chk (fun _ => pc_lt (fun z3 hz => ?_))))
      · have d := ti_le c
        exact pc_ret ⟨by rw [h3, show l = (V 1).toNatClampNeg by omega]; rfl, rfl⟩
      · have d := ti_nle c
        rw [tn_int h1, tn_int hv, a.2 l (by omega) v hv8] at hz
        refine ih (l + 1) _ _ (ti_nx h1 (by omega)) (by omega) ?_
        rw [hz, h3]
        rfl
  rw [f_X0_gainOfAll_e]
  exact key F 0 0 0 rfl a.1.1.2.1.1 rfl
theorem qx_mostSeen_31 {F : Nat} {x1 : Int32} {σ : Mem} {V : Nat → Int32} (a : cRdy V σ) : ∀ (N t : Nat) (x3 x4 x5 : Int32), x5.toInt = (t : Int) → t ≤ 8 → ((t = 0 ∧ x3 = 0 ∧ x4 = 0) ∨ (1 ≤ t ∧ x3 = Int32.ofNat (aMS V (t - 1)) ∧ x4 = aGT V (aMS V (t - 1)))) → pc (lp_X3_mostSeen_31 F x1 N x3 x4 x5 σ) (fun r _ => r = if x1 = 0 then Int32.ofNat (aMS V 7) else aGT V (aMS V 7)) := by
  intro N
  induction N with
  | zero => intro t x3 x4 x5 h1 h2 h3; exact pc_none rfl
  | succ N ih =>
    intro t x3 x4 x5 h1 h2 h3
    rw [lp_X3_mostSeen_31_s]
    simp only [j_X3_mostSeen_63_e]
    refine pc_ite (fun c => ?_) (fun c => ?_)
    · have d := ti_le c
      rw [tz_8] at d
      have t8 : t = 8 := by omega
      subst t8
      rcases h3 with h3 | ⟨-, g3, g4⟩
      · exact absurd h3.1 (by decide)
      · exact pc_ite (fun c0 => pc_ret (by rw [if_pos c0]; exact g3)) (fun c0 => pc_ret (by rw [if_neg c0]; exact g4))
    · have d := ti_nle c
      rw [tz_8] at d
      refine pc_bnd (qx_gainOfAll a h1 (by omega)) (fun r s q => ?_)
      obtain ⟨q1, q2⟩ := q
      rw [q2]
      rcases h3 with ⟨g0, g3, g4⟩ | ⟨g0, g3, g4⟩
      · subst g0
        have n1 := ti_nat (V 1)
        have h5 := a.1.1.2.1
        have hn : 0 ≤ (aGT V 0).toInt := (aGA_b a.1.1 (V 1).toNatClampNeg (by omega)).1
        refine pc_ite (fun c9 => ih 1 _ _ _ (ti_nx h1 (by omega)) (by omega) (Or.inr ⟨by omega, g3, ?_⟩)) (fun c9 => ih 1 _ _ _ (ti_nx h1 (by omega)) (by omega) (Or.inr ⟨by omega, ?_, q1⟩))
        · have e := ti_le c9
          rw [g4, tz_0, q1] at e
          rw [g4]
          exact Int32.toInt_inj.mp (by rw [tz_0]; show 0 = (aGT V 0).toInt; omega)
        · exact Int32.toInt_inj.mp (by rw [h1]; rfl)
      · have hb : aMS V (t + 1 - 1) = if aGT V t ≤ aGT V (aMS V (t - 1)) then aMS V (t - 1) else t := by
          obtain ⟨u, rfl⟩ : ∃ u, t = u + 1 := ⟨t - 1, by omega⟩
          rfl
        rw [q1, g4]
        refine pc_ite (fun c9 => ih (t + 1) _ _ _ (ti_nx h1 (by omega)) (by omega) (Or.inr ⟨by omega, ?_, ?_⟩)) (fun c9 => ih (t + 1) _ _ _ (ti_nx h1 (by omega)) (by omega) (Or.inr ⟨by omega, ?_, ?_⟩))
        · rw [hb, if_pos c9]; exact g3
        · rw [hb, if_pos c9]
        · rw [hb, if_neg c9]; exact io_eq h1 (by omega)
        · rw [hb, if_neg c9]
theorem qx_mostSeen {F : Nat} {x1 : Int32} {σ : Mem} {V : Nat → Int32} (h : vH 1 V σ) : pc (f_X3_mostSeen F x1 σ) (fun r _ => r = anMostSeen V x1) := by
  rw [f_X3_mostSeen_e]
  refine pc_be ax_notBelow ?_
  unfold anMostSeen
  exact cq_end (fun _ => pc_bnd (qx_reckon h) (fun _ s q => qx_mostSeen_31 q F 0 0 0 0 rfl (by omega) (Or.inl ⟨rfl, rfl, rfl⟩)))
theorem qm_brought {F : Nat} {x1 : Int32} {v : Nat} {s : Mem} {V : Nat → Int32} (h : mRdy V s) (hv : x1.toInt = (v : Int)) (hv8 : v < 8) : pc (f_X4_broughtToAll F x1 s) (fun r z => r = aGT V v ∧ z = s) := by
  have n1 := ti_nat (V 1)
  have key : ∀ (N l : Nat) (x2 x3 : Int32), x3.toInt = (l : Int) → (l : Int) ≤ (V 1).toInt → x2 = aGA V v l → pc (lp_X4_broughtToAll_4 F x1 N x2 x3 s) (fun r z => r = aGT V v ∧ z = s) := by
    intro N
    induction N with
    | zero => intro l x2 x3 h1 h2 h3; exact pc_none rfl
    | succ N ih =>
      intro l x2 x3 h1 h2 h3
      have h5 := h.1.1.2.1
      rw [lp_X4_broughtToAll_4_s, vM_L h.1]
      refine pc_ite (fun c => ?_) (fun c => pc_chk (fun _ => pc_lt (fun z2 hz => ?_)))
      · have d := ti_le c
        exact pc_ret ⟨by rw [h3, show l = (V 1).toNatClampNeg by omega]; rfl, rfl⟩
      · have d := ti_nle c
        rw [tn_8 h1 hv (by omega) hv8, h.2 l (by omega) v hv8] at hz
        refine ih (l + 1) _ _ (ti_nx h1 (by omega)) (by omega) ?_
        rw [hz, h3]
        rfl
  rw [f_X4_broughtToAll_e]
  exact key F 0 0 0 rfl h.1.1.2.1.1 rfl
theorem qm_mostSeen_30 {F : Nat} {x1 : Int32} {s : Mem} {V : Nat → Int32} (h : mRdy V s) : ∀ (N t : Nat) (x2 x3 : Int32), x3.toInt = ((t + 1 : Nat) : Int) → t + 1 ≤ 8 → x2 = Int32.ofNat (aMS V t) → pc (lp_X4_mostSeen_30 F x1 N x2 x3 s) (fun r _ => r = if x1 = 0 then Int32.ofNat (aMS V 7) else aGT V (aMS V 7)) := by
  intro N
  induction N with
  | zero => intro t x2 x3 h1 h2 h3; exact pc_none rfl
  | succ N ih =>
    intro t x2 x3 h1 h2 h3
    have hle := aMS_le (V := V) t
    have hx2 : x2.toInt = (aMS V t : Int) := by rw [h3]; exact io_nat _ (by omega)
    rw [lp_X4_mostSeen_30_s]
    simp only [j_X4_mostSeen_54_e]
    refine pc_ite (fun c => ?_) (fun c => ?_)
    · have d := ti_le c
      rw [tz_8] at d
      have t8 : t = 7 := by omega
      subst t8
      refine pc_ite (fun c0 => pc_ret (by rw [if_pos c0]; exact h3)) (fun c0 => pc_bnd (qm_brought h hx2 (by omega)) (fun r z q => pc_ret ?_))
      rw [if_neg c0]
      exact q.1
    · have d := ti_nle c
      rw [tz_8] at d
      refine pc_bnd (qm_brought h h1 (by omega)) (fun r z q => ?_)
      obtain ⟨q1, q2⟩ := q
      rw [q2]
      refine pc_bnd (qm_brought h hx2 (by omega)) (fun r' z' q' => ?_)
      obtain ⟨q3, q4⟩ := q'
      rw [q4, q1, q3]
      have hb : aMS V (t + 1) = if aGT V (t + 1) ≤ aGT V (aMS V t) then aMS V t else t + 1 := rfl
      refine pc_ite (fun c9 => ih (t + 1) _ _ (ti_nx h1 (by omega)) (by omega) ?_) (fun c9 => ih (t + 1) _ _ (ti_nx h1 (by omega)) (by omega) ?_)
      · rw [hb, if_pos c9]; exact h3
      · rw [hb, if_neg c9]; exact io_eq h1 (by omega)
theorem qm_mostSeen {F : Nat} {x1 : Int32} {s : Mem} {V : Nat → Int32} (h : vM V s) : pc (f_X4_mostSeen F x1 s) (fun r _ => r = anMostSeen V x1) := by
  rw [f_X4_mostSeen_e]
  refine pc_lt (fun s7 h7 => ?_)
  have h' : vM V s7 := vM_up h h7
  clear h7
  refine pc_be (mx_in32 (lo := 0) (hi := 1) rfl rfl) ?_
  unfold anMostSeen
  by_cases c2 : 0 ≤ x1.toInt ∧ x1.toInt ≤ 1
  · have hO : cO x1 2 = 0 := if_pos ⟨c2.1, by rw [tz_2]; omega⟩
    rw [if_pos c2, if_neg (by decide), hO, cF_z]
    exact pc_bnd (qm_lay h') (fun _ z q => qm_mostSeen_30 q F 0 0 1 rfl (by omega) rfl)
  · have hO : cO x1 2 = -2 := if_neg (fun q => c2 ⟨q.1, by have := q.2; rw [tz_2] at this; omega⟩)
    rw [if_neg c2, if_pos rfl, hO]
    exact mq_ref (cF_n (by decide))
/-! duels -/
def aDu (V : Nat → Int32) (a b : Nat) : Nat → Int32
  | 0 => 0
  | v + 1 => aDu V a b v + (if aGain V a v 24 ≤ 0 then 0 else if aGain V b v 24 ≤ 0 then 0 else 1)
theorem aDu_s {V : Nat → Int32} {a b v : Nat} : aDu V a b (v + 1) = aDu V a b v + (if aGain V a v 24 ≤ 0 then 0 else if aGain V b v 24 ≤ 0 then 0 else 1) := rfl
def anDuels (V : Nat → Int32) (x1 x2 : Int32) : Int32 := cF (cB ((0 ≤ x1.toInt ∧ x1.toInt < (V 1).toInt) ∧ (0 ≤ x2.toInt ∧ x2.toInt < (V 1).toInt) ∧ ¬ x1 = x2)) (aDu V x1.toNatClampNeg x2.toNatClampNeg 8)
theorem qx_duels_30 {F : Nat} {x1 x2 : Int32} {a b : Nat} {σ : Mem} {V : Nat → Int32} (h : cRdy V σ) (ha : x1.toInt = (a : Int)) (hb : x2.toInt = (b : Int)) (ha5 : (a : Int) < (V 1).toInt) (hb5 : (b : Int) < (V 1).toInt) : ∀ (N v : Nat) (x4 x5 : Int32), x5.toInt = (v : Int) → v ≤ 8 → x4 = aDu V a b v → pc (lp_X3_duels_30 F x1 x2 N x4 x5 σ) (fun r _ => r = aDu V a b 8) := by
  intro N
  induction N with
  | zero => intro v x4 x5 h1 h2 h3; exact pc_none rfl
  | succ N ih =>
    intro v x4 x5 h1 h2 h3
    rw [lp_X3_duels_30_s]
    simp only [j_X3_duels_70_e]
    refine pc_ite (fun c => ?_) (fun c => pc_chk (fun _ => pc_chk (fun _ => ?_)))
    · have d := ti_le c
      rw [tz_8] at d
      exact pc_ret (by rw [h3, show v = 8 by omega])
    have d := ti_nle c
    rw [tz_8] at d
    rw [tn_int ha, tn_int hb, tn_int h1, h.2 a ha5 v (by omega), h.2 b hb5 v (by omega)]
    refine pc_ite (fun e1 => ih (v + 1) _ _ (ti_nx h1 (by omega)) (by omega) ?_) (fun e1 => pc_chk (fun _ => pc_ite (fun e2 => ih (v + 1) _ _ (ti_nx h1 (by omega)) (by omega) ?_) (fun e2 => ih (v + 1) _ _ (ti_nx h1 (by omega)) (by omega) ?_)))
    · rw [aDu_s, if_pos e1, Int32.add_zero]; exact h3
    · rw [aDu_s, if_neg e1, if_pos e2, Int32.add_zero]; exact h3
    · rw [aDu_s, if_neg e1, if_neg e2, h3]
theorem qx_duels {F : Nat} {x1 x2 : Int32} {σ : Mem} {V : Nat → Int32} (h : vH 1 V σ) : pc (f_X3_duels F x1 x2 σ) (fun r _ => r = anDuels V x1 x2) := by
  rw [f_X3_duels_e]
  refine pc_be (qx_noPair (vX_H h)) ?_
  unfold anDuels
  refine cq_end (fun e => pc_bnd (qx_reckon h) (fun _ s q => ?_))
  obtain ⟨c1, c2, c3⟩ := cB_0 e
  have n1 := ti_nat x1
  have n2 := ti_nat x2
  exact qx_duels_30 q (by omega) (by omega) (by omega) (by omega) F 0 0 0 rfl (by omega) rfl
theorem qm_duels_25 {F : Nat} {x1 x2 : Int32} {a b : Nat} {s : Mem} {V : Nat → Int32} (h : vM V s) (ha : x1.toInt = (a : Int)) (hb : x2.toInt = (b : Int)) (ha5 : (a : Int) < (V 1).toInt) (hb5 : (b : Int) < (V 1).toInt) : ∀ (N v : Nat) (x3 x4 : Int32), x4.toInt = (v : Int) → v ≤ 8 → x3 = aDu V a b v → pc (lp_X4_duels_25 F x1 x2 N x3 x4 s) (fun r _ => r = aDu V a b 8) := by
  intro N
  induction N with
  | zero => intro v x3 x4 h1 h2 h3; exact pc_none rfl
  | succ N ih =>
    intro v x3 x4 h1 h2 h3
    rw [lp_X4_duels_25_s]
    simp only [j_X4_duels_57_e, j_X4_duels_58_e]
    refine pc_ite (fun c => ?_) (fun c => pc_bnd (mx_bringsOf h ha h1 ha5 (by have d := ti_nle c; rw [tz_8] at d; omega)) (fun r z q => ?_))
    · have d := ti_le c
      rw [tz_8] at d
      exact pc_ret (by rw [h3, show v = 8 by omega])
    have d := ti_nle c
    rw [tz_8] at d
    rw [q.2, q.1]
    refine pc_ite (fun e1 => ih (v + 1) _ _ (ti_nx h1 (by omega)) (by omega) ?_) (fun e1 => pc_bnd (mx_bringsOf h hb h1 hb5 (by omega)) (fun r' z' q' => ?_))
    · rw [aDu_s, if_pos e1, h3]
    rw [q'.2, q'.1]
    refine pc_ite (fun e2 => ih (v + 1) _ _ (ti_nx h1 (by omega)) (by omega) ?_) (fun e2 => ih (v + 1) _ _ (ti_nx h1 (by omega)) (by omega) ?_)
    · rw [aDu_s, if_neg e1, if_pos e2, h3]
    · rw [aDu_s, if_neg e1, if_neg e2, h3]
theorem qm_duels {F : Nat} {x1 x2 : Int32} {s : Mem} {V : Nat → Int32} (h : vM V s) : pc (f_X4_duels F x1 x2 s) (fun r _ => r = anDuels V x1 x2) := by
  rw [f_X4_duels_e]
  refine pc_lt (fun s4 h4 => ?_)
  have h' : vM V s4 := vM_up h h4
  clear h4
  refine pc_be (qm_areTwo h') ?_
  unfold anDuels
  by_cases c : ((0 ≤ x1.toInt ∧ x1.toInt < (V 1).toInt) ∧ (0 ≤ x2.toInt ∧ x2.toInt < (V 1).toInt) ∧ ¬ x1 = x2)
  · rw [if_pos c, if_neg (by decide), cB_t c, cF_z]
    obtain ⟨c1, c2, c3⟩ := c
    have n1 := ti_nat x1
    have n2 := ti_nat x2
    exact qm_duels_25 h' (a := x1.toNatClampNeg) (b := x2.toNatClampNeg) (by omega) (by omega) (by omega) (by omega) F 0 0 0 rfl (by omega) rfl
  · rw [if_neg c, if_pos rfl, cB_f c]
    exact mq_ref (cF_n (by decide))
/-! wasted -/
def aWa (V : Nat → Int32) (l : Nat) (x2 : Int32) : Nat → Int32
  | 0 => 0
  | t + 1 => aWa V l x2 t ||| (if ((V (28 + 24 * l + t)).toInt < 0 ↔ ¬ x2 = 0) ∧ (aPull V l (Int32.ofNat t) ≤ 0 ↔ x2 = 0) then (1 : Int32) <<< (Int32.ofNat t &&& 31) else 0)
theorem aWa_t {V : Nat → Int32} {l t : Nat} {x2 : Int32} (e : ((V (28 + 24 * l + t)).toInt < 0 ↔ ¬ x2 = 0) ∧ (aPull V l (Int32.ofNat t) ≤ 0 ↔ x2 = 0)) : aWa V l x2 (t + 1) = aWa V l x2 t ||| (1 : Int32) <<< (Int32.ofNat t &&& 31) := by
  show aWa V l x2 t ||| (if ((V (28 + 24 * l + t)).toInt < 0 ↔ ¬ x2 = 0) ∧ (aPull V l (Int32.ofNat t) ≤ 0 ↔ x2 = 0) then (1 : Int32) <<< (Int32.ofNat t &&& 31) else 0) = _
  rw [if_pos e]
theorem aWa_f {V : Nat → Int32} {l t : Nat} {x2 : Int32} (e : ¬ (((V (28 + 24 * l + t)).toInt < 0 ↔ ¬ x2 = 0) ∧ (aPull V l (Int32.ofNat t) ≤ 0 ↔ x2 = 0))) : aWa V l x2 (t + 1) = aWa V l x2 t := by
  show aWa V l x2 t ||| (if ((V (28 + 24 * l + t)).toInt < 0 ↔ ¬ x2 = 0) ∧ (aPull V l (Int32.ofNat t) ≤ 0 ↔ x2 = 0) then (1 : Int32) <<< (Int32.ofNat t &&& 31) else 0) = _
  rw [if_neg e, Int32.or_zero]
def anWasted (V : Nat → Int32) (x1 x2 : Int32) : Int32 := cF (cF (cB (0 ≤ x1.toInt ∧ x1.toInt < (V 1).toInt)) (cO x2 2)) (aWa V x1.toNatClampNeg x2 24)
theorem qx_wasted_30 {F : Nat} {x1 x2 : Int32} {l : Nat} {σ : Mem} {V : Nat → Int32} (h : vH 1 V σ) (hl : x1.toInt = (l : Int)) (hl5 : (l : Int) < (V 1).toInt) : ∀ (N t : Nat) (x4 x5 : Int32), x5.toInt = (t : Int) → t ≤ 24 → x4 = aWa V l x2 t → pc (lp_X3_wasted_30 F x1 x2 N x4 x5 σ) (fun r _ => r = aWa V l x2 24) := by
  intro N
  induction N with
  | zero => intro t x4 x5 h1 h2 h3; exact pc_none rfl
  | succ N ih =>
    intro t x4 x5 h1 h2 h3
    rw [lp_X3_wasted_30_s]
    simp only [j_X3_wasted_59_e]
    refine pc_ite (fun c => ?_) (fun c => pc_chk (fun _ => pc_chk (fun _ => ?_)))
    · have d := ti_le c
      rw [tz_24] at d
      exact pc_ret (by rw [h3, show t = 24 by omega])
    have d := ti_nle c
    rw [tz_24] at d
    rw [tn_int hl, tn_int h1, vH_c h hl5 (by omega)]
    have hv := wvN_9 (vH_b h (l := l) (t := t) hl5 (by omega))
    have e5 := io_eq h1 (by omega)
    have keep : ¬ (((V (28 + 24 * l + t)).toInt < 0 ↔ ¬ x2 = 0) ∧ (aPull V l (Int32.ofNat t) ≤ 0 ↔ x2 = 0)) → pc (lp_X3_wasted_30 F x1 x2 N x4 (x5 + 1) σ) (fun r _ => r = aWa V l x2 24) := fun e => ih (t + 1) _ _ (ti_nx h1 (by omega)) (by omega) (by rw [aWa_f e]; exact h3)
    have take : ((V (28 + 24 * l + t)).toInt < 0 ↔ ¬ x2 = 0) ∧ (aPull V l (Int32.ofNat t) ≤ 0 ↔ x2 = 0) → pc (wt_lt (x4 ||| ((1 : Int32) <<< (x5 &&& 31))) fun z1 => lp_X3_wasted_30 F x1 x2 N z1 (x5 + 1) σ) (fun r _ => r = aWa V l x2 24) := fun e => pc_lt (fun z1 hz => ih (t + 1) _ _ (ti_nx h1 (by omega)) (by omega) (by rw [aWa_t e, hz, h3, e5]))
    refine pc_ite (fun c9 => pc_bnd (ax_pull h hl hl5) (fun r s q => ?_)) (fun c9 => pc_bnd (ax_pull h hl hl5) (fun r s q => ?_))
    · have c9' := hv.mp c9
      rw [q.2, q.1]
      simp only [j_X3_wasted_79_e, j_X3_wasted_108_e, j_X3_wasted_117_e, ↓reduceIte, (eq_false (by decide) : ((1 : Int32) = 0) = False)]
      rw [← e5] at keep take
      refine pc_ite (fun p => pc_ite (fun e => keep (fun w => ?_)) (fun e => keep (fun w => ?_))) (fun p => pc_ite (fun e => keep (fun w => ?_)) (fun e => take ⟨⟨fun _ => e, fun _ => c9'⟩, ⟨fun w => absurd w p, fun w => absurd w e⟩⟩))
      · exact w.1.mp c9' e
      · exact e (w.2.mp p)
      · exact w.1.mp c9' e
    · have c9' : ¬ (V (28 + 24 * l + t)).toInt < 0 := fun w => c9 (hv.mpr w)
      rw [q.2, q.1]
      simp only [j_X3_wasted_79_e, j_X3_wasted_108_e, j_X3_wasted_117_e, ↓reduceIte, (eq_false (by decide) : ((1 : Int32) = 0) = False)]
      rw [← e5] at keep take
      refine pc_ite (fun p => pc_ite (fun e => take ⟨⟨fun w => absurd w c9', fun w => absurd e w⟩, ⟨fun _ => e, fun _ => p⟩⟩) (fun e => keep (fun w => ?_))) (fun p => pc_ite (fun e => keep (fun w => ?_)) (fun e => keep (fun w => ?_)))
      · exact c9' (w.1.mpr e)
      · exact p (w.2.mpr e)
      · exact c9' (w.1.mpr e)
theorem qx_wasted {F : Nat} {x1 x2 : Int32} {σ : Mem} {V : Nat → Int32} (h : vH 1 V σ) : pc (f_X3_wasted F x1 x2 σ) (fun r _ => r = anWasted V x1 x2) := by
  rw [f_X3_wasted_e]
  refine pc_be (ax_noLooker (by rw [vH_2 h]; exact h.1.2.1.2)) (pc_be ax_notBelow (pc_be ax_firstOf ?_))
  rw [vH_2 h]
  unfold anWasted
  refine cq_end (fun e => ?_)
  have d1 := cB_0 (cF_0 e).1
  have n1 := ti_nat x1
  exact qx_wasted_30 h (by omega) (by omega) F 0 0 0 rfl (by omega) rfl
theorem qm_wasted_40 {F : Nat} {x1 x2 : Int32} (hx2 : x2 = 0 ∨ x2 = 1) {l : Nat} {s : Mem} {V : Nat → Int32} (h : vM V s) (hl : x1.toInt = (l : Int)) (hl5 : (l : Int) < (V 1).toInt) : ∀ (N t : Nat) (x4 x5 : Int32), x5.toInt = (t : Int) → t ≤ 24 → x4 = aWa V l x2 t → pc (lp_X4_wasted_40 F x1 x2 N x4 x5 s) (fun r _ => r = aWa V l x2 24) := by
  have h5 := h.1.2.1.2
  intro N
  induction N with
  | zero => intro t x4 x5 h1 h2 h3; exact pc_none rfl
  | succ N ih =>
    intro t x4 x5 h1 h2 h3
    rw [lp_X4_wasted_40_s]
    simp only [j_X4_wasted_67_e]
    refine pc_ite (fun c => ?_) (fun c => pc_chk (fun _ => ?_))
    · have d := ti_le c
      rw [tz_24] at d
      exact pc_ret (by rw [h3, show t = 24 by omega])
    have d := ti_nle c
    rw [tz_24] at d
    rw [tn_24 hl h1 (by omega) (by omega), vM_106 h (by omega), show 28 + (24 * l + t) = 28 + 24 * l + t by omega]
    have e5 := io_eq h1 (by omega)
    have keep : ¬ (((V (28 + 24 * l + t)).toInt < 0 ↔ ¬ x2 = 0) ∧ (aPull V l (Int32.ofNat t) ≤ 0 ↔ x2 = 0)) → pc (lp_X4_wasted_40 F x1 x2 N (x4 ||| 0) (x5 + 1) s) (fun r _ => r = aWa V l x2 24) := fun e => ih (t + 1) _ _ (ti_nx h1 (by omega)) (by omega) (by rw [aWa_f e, Int32.or_zero]; exact h3)
    have take : ((V (28 + 24 * l + t)).toInt < 0 ↔ ¬ x2 = 0) ∧ (aPull V l (Int32.ofNat t) ≤ 0 ↔ x2 = 0) → pc (lp_X4_wasted_40 F x1 x2 N (x4 ||| ((1 : Int32) <<< (x5 &&& 31))) (x5 + 1) s) (fun r _ => r = aWa V l x2 24) := fun e => ih (t + 1) _ _ (ti_nx h1 (by omega)) (by omega) (by rw [aWa_t e, h3, e5])
    rw [← e5] at keep take
    refine pc_ite (fun c9 => pc_bnd (mx_pullOf h hl hl5) (fun r z q => ?_)) (fun c9 => pc_bnd (mx_pullOf h hl hl5) (fun r z q => ?_))
    · have c9' := ti_lt c9
      rw [tz_0] at c9'
      rw [q.2, q.1]
      simp only [j_X4_wasted_84_e, j_X4_wasted_99_e, j_X4_wasted_114_e, j_X4_wasted_124_e, j_X4_wasted_125_e]
      rcases hx2 with e | e
      · subst e
        simp only [↓reduceIte, (eq_false (by decide) : ((0 : Int32) = 1) = False), (eq_false (by decide) : ((1 : Int32) = 0) = False)]
        exact pc_ite (fun p => keep (fun w => w.1.mp c9' rfl)) (fun p => keep (fun w => w.1.mp c9' rfl))
      · subst e
        simp only [↓reduceIte, (eq_false (by decide) : ((0 : Int32) = 1) = False), (eq_false (by decide) : ((1 : Int32) = 0) = False)]
        exact pc_ite (fun p => keep (fun w => absurd (w.2.mp p) (by decide))) (fun p => take ⟨⟨fun _ => by decide, fun _ => c9'⟩, ⟨fun w => absurd w p, fun w => absurd w (by decide)⟩⟩)
    · have c9' := ti_nlt c9
      rw [tz_0] at c9'
      have c9n : ¬ (V (28 + 24 * l + t)).toInt < 0 := by omega
      rw [q.2, q.1]
      simp only [j_X4_wasted_84_e, j_X4_wasted_99_e, j_X4_wasted_114_e, j_X4_wasted_124_e, j_X4_wasted_125_e]
      rcases hx2 with e | e
      · subst e
        simp only [↓reduceIte, (eq_false (by decide) : ((0 : Int32) = 1) = False), (eq_false (by decide) : ((1 : Int32) = 0) = False)]
        exact pc_ite (fun p => take ⟨⟨fun w => absurd w c9n, fun w => absurd rfl w⟩, ⟨fun _ => rfl, fun _ => p⟩⟩) (fun p => keep (fun w => p (w.2.mpr rfl)))
      · subst e
        simp only [↓reduceIte, (eq_false (by decide) : ((0 : Int32) = 1) = False), (eq_false (by decide) : ((1 : Int32) = 0) = False)]
        exact pc_ite (fun p => keep (fun w => c9n (w.1.mpr (by decide)))) (fun p => keep (fun w => c9n (w.1.mpr (by decide))))
theorem qm_wasted {F : Nat} {x1 x2 : Int32} {s : Mem} {V : Nat → Int32} (h : vM V s) : pc (f_X4_wasted F x1 x2 s) (fun r _ => r = anWasted V x1 x2) := by
  rw [f_X4_wasted_e]
  refine pc_lt (fun s6 h6 => ?_)
  have h' : vM V s6 := vM_up h h6
  clear h6
  simp only [j_X4_wasted_23_e]
  refine pc_be (mx_isLooker (by rw [vM_L h']; exact h.1.2.1.1)) ?_
  rw [vM_L h']
  unfold anWasted
  by_cases c : 0 ≤ x1.toInt ∧ x1.toInt < (V 1).toInt
  · rw [if_pos c, if_neg (by decide), cB_t c, cF_z]
    have n1 := ti_nat x1
    refine pc_be mx_wrongBit ?_
    rw [cF_z]
    refine mq_end sg_cO (fun e => ?_)
    have d2 := cO_0 e
    rw [tz_2] at d2
    have hx2 : x2 = 0 ∨ x2 = 1 := by
      by_cases w : x2 = 0
      · exact Or.inl w
      · have w' := ti_ne w
        rw [tz_0] at w'
        exact Or.inr (Int32.toInt_inj.mp (by rw [tz_1]; omega))
    exact qm_wasted_40 hx2 h' (by omega) (by omega) F 0 0 0 rfl (by omega) rfl
  · rw [if_neg c, if_pos rfl, cB_f c, cF_n (a := -1) (by decide), if_neg (by decide)]
    exact mq_ref (cF_n (by decide))
end
