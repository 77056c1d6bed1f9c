/-! views as bits: who holds which -/
def orB (b : Nat → Bool) : Nat → Int32
  | 0 => 0
  | v + 1 => orB b v ||| (if b v = true then (1 : Int32) <<< (Int32.ofNat v &&& 31) else 0)
theorem orB_cg {a b : Nat → Bool} : ∀ n, (∀ v, v < n → a v = b v) → orB a n = orB b n := fun n => by
  induction n with
  | zero => intro _; rfl
  | succ n ih => intro h; show orB a n ||| _ = orB b n ||| _; rw [ih (fun v hv => h v (by omega)), h n (by omega)]
def fB (b0 b1 b2 b3 b4 b5 b6 b7 : Bool) (v : Nat) : Bool := if v = 0 then b0 else if v = 1 then b1 else if v = 2 then b2 else if v = 3 then b3 else if v = 4 then b4 else if v = 5 then b5 else if v = 6 then b6 else b7
theorem fB_of (b : Nat → Bool) : ∀ v, v < 8 → b v = fB (b 0) (b 1) (b 2) (b 3) (b 4) (b 5) (b 6) (b 7) v := fun v hv => by
  rcases (show v = 0 ∨ v = 1 ∨ v = 2 ∨ v = 3 ∨ v = 4 ∨ v = 5 ∨ v = 6 ∨ v = 7 by omega) with rfl | rfl | rfl | rfl | rfl | rfl | rfl | rfl <;> rfl
theorem orB_bit0 : ∀ b0 b1 b2 b3 b4 b5 b6 b7 : Bool, ∀ v, v < 8 → (((orB (fB b0 b1 b2 b3 b4 b5 b6 b7) 8 >>> (Int32.ofNat v &&& 31)) &&& (1 : Int32) = 1) ↔ fB b0 b1 b2 b3 b4 b5 b6 b7 v = true) := by decide +kernel
theorem orB_bit (b : Nat → Bool) {v : Nat} (hv : v < 8) : (orB b 8 >>> (Int32.ofNat v &&& 31)) &&& (1 : Int32) = 1 ↔ b v = true := by
  rw [orB_cg 8 (fB_of b), fB_of b v hv]
  exact orB_bit0 _ _ _ _ _ _ _ _ v hv
theorem orB_sub0 : ∀ b0 b1 b2 b3 b4 b5 b6 b7 : Bool, (255 : Int32) - ((255 : Int32) - orB (fB b0 b1 b2 b3 b4 b5 b6 b7) 8) = orB (fB b0 b1 b2 b3 b4 b5 b6 b7) 8 := by decide +kernel
theorem orB_sub (b : Nat → Bool) : (255 : Int32) - ((255 : Int32) - orB b 8) = orB b 8 := by
  rw [orB_cg 8 (fB_of b)]
  exact orB_sub0 _ _ _ _ _ _ _ _
/-- the views that `who` holds after n days -/
def aBits (V : Nat → Int32) (who n : Int32) : Nat → Int32 := orB (fun v => decide (aHold V n v = who))
theorem aBits_t {V : Nat → Int32} {who n : Int32} {v : Nat} (h : aHold V n v = who) : aBits V who n (v + 1) = aBits V who n v ||| (1 : Int32) <<< (Int32.ofNat v &&& 31) := by
  show orB _ v ||| (if decide (aHold V n v = who) = true then _ else _) = _
  rw [if_pos (decide_eq_true h)]
  rfl
theorem aBits_f {V : Nat → Int32} {who n : Int32} {v : Nat} (h : ¬ aHold V n v = who) : aBits V who n (v + 1) = aBits V who n v := by
  show orB _ v ||| (if decide (aHold V n v = who) = true then _ else _) = _
  rw [if_neg (by rw [decide_eq_true_eq]; exact h), Int32.or_zero]
  rfl
/-- and what they are worth -/
def aWealth (V : Nat → Int32) (who n : Int32) : Nat → Int32
  | 0 => 0
  | v + 1 => aWealth V who n v + (if aHold V n v = who then V (4 + v) else 0)
theorem qx_holdings {F h : Nat} {x1 x2 : Int32} {σ : Mem} {V : Nat → Int32} (a : vH h V σ ∧ vG h V σ) : pc (f_X0_holdings F h x1 x2 σ) (fun r s => r = aBits V x1 x2 8 ∧ s = σ) := by
  have key : ∀ (N v : Nat) (x3 x4 : Int32), x4.toInt = (v : Int) → v ≤ 8 → x3 = aBits V x1 x2 v → pc (lp_X0_holdings_5 F h x1 x2 N x3 x4 σ) (fun r s => r = aBits V x1 x2 8 ∧ s = σ) := by
    intro N
    induction N with
    | zero => intro v x3 x4 h1 h2 h3; exact pc_none rfl
    | succ N ih =>
      intro v x3 x4 h1 h2 h3
      rw [lp_X0_holdings_5_s]
      simp only [j_X0_holdings_30_e]
      refine pc_ite (fun c => ?_) (fun c => ?_)
      · have d := ti_le c
        rw [tz_8] at d
        exact pc_ret ⟨by rw [h3, show v = 8 by omega], rfl⟩
      have d := ti_nle c
      rw [tz_8] at d
      refine pc_bnd (qx_holder a.1 a.2 h1 (by omega)) (fun r s q => ?_)
      rw [q.2, q.1]
      refine pc_ite (fun e => pc_lt (fun z3 hz => ih (v + 1) _ _ (ti_nx h1 (by omega)) (by omega) ?_)) (fun e => ih (v + 1) _ _ (ti_nx h1 (by omega)) (by omega) ?_)
      · rw [hz, aBits_t e, h3, io_eq h1 (by omega)]
      · rw [aBits_f e, h3]
  rw [f_X0_holdings_e]
  exact key F 0 0 0 rfl (by omega) rfl
theorem qx_wealth {F h : Nat} {x1 x2 : Int32} {σ : Mem} {V : Nat → Int32} (a : vH h V σ ∧ vG h V σ) : pc (f_X0_wealth F h x1 x2 σ) (fun r s => r = aWealth V x1 x2 8 ∧ s = σ) := by
  have key : ∀ (N v : Nat) (x3 x4 : Int32), x4.toInt = (v : Int) → v ≤ 8 → x3 = aWealth V x1 x2 v → pc (lp_X0_wealth_5 F h x1 x2 N x3 x4 σ) (fun r s => r = aWealth V x1 x2 8 ∧ s = σ) := by
    intro N
    induction N with
    | zero => intro v x3 x4 h1 h2 h3; exact pc_none rfl
    | succ N ih =>
      intro v x3 x4 h1 h2 h3
      rw [lp_X0_wealth_5_s]
      simp only [j_X0_wealth_33_e]
      refine pc_ite (fun c => ?_) (fun c => ?_)
      · have d := ti_le c
        rw [tz_8] at d
        exact pc_ret ⟨by rw [h3, show v = 8 by omega], rfl⟩
      have d := ti_nle c
      rw [tz_8] at d
      refine pc_bnd (qx_holder a.1 a.2 h1 (by omega)) (fun r s q => ?_)
      rw [q.2, q.1]
      have hs : aWealth V x1 x2 (v + 1) = aWealth V x1 x2 v + (if aHold V x2 v = x1 then V (4 + v) else 0) := rfl
      refine pc_ite (fun e => pc_chk (fun _ => pc_lt (fun z4 hz => ih (v + 1) _ _ (ti_nx h1 (by omega)) (by omega) ?_))) (fun e => ih (v + 1) _ _ (ti_nx h1 (by omega)) (by omega) ?_)
      · rw [hz, hs, if_pos e, h3, tn_int h1, vH_w a.1 (by omega)]
      · rw [hs, if_neg e, h3, Int32.add_zero]
  rw [f_X0_wealth_e]
  exact key F 0 0 0 rfl (by omega) rfl
theorem qm_viewsIn {F : Nat} {x1 x2 : Int32} (hx : 0 ≤ x2.toInt ∧ x2.toInt ≤ 9999) {s : Mem} {V : Nat → Int32} (h : mRdy V s) : pc (f_X4_viewsIn F x1 x2 s) (fun r z => r = aBits V x1 x2 8 ∧ mRdy V z) := by
  have key : ∀ (N v : Nat) (x3 x4 : Int32) (s : Mem), mRdy V s → x4.toInt = (v : Int) → v ≤ 8 → x3 = aBits V x1 x2 v → pc (lp_X4_viewsIn_5 F x1 x2 N x3 x4 s) (fun r z => r = aBits V x1 x2 8 ∧ mRdy V z) := by
    intro N
    induction N with
    | zero => intro v x3 x4 s h h1 h2 h3; exact pc_none rfl
    | succ N ih =>
      intro v x3 x4 s h h1 h2 h3
      rw [lp_X4_viewsIn_5_s]
      simp only [j_X4_viewsIn_32_e]
      refine pc_ite (fun c => ?_) (fun c => ?_)
      · have d := ti_le c
        rw [tz_8] at d
        exact pc_ret ⟨by rw [h3, show v = 8 by omega], h⟩
      have d := ti_nle c
      rw [tz_8] at d
      refine pc_bnd (qm_own hx h1 (by omega) h) (fun r s q => ?_)
      rw [q.1]
      refine pc_ite (fun e => ih (v + 1) _ _ _ q.2 (ti_nx h1 (by omega)) (by omega) ?_) (fun e => ih (v + 1) _ _ _ q.2 (ti_nx h1 (by omega)) (by omega) ?_)
      · rw [aBits_t e, h3, io_eq h1 (by omega)]
      · rw [aBits_f e, h3, Int32.or_zero]
  rw [f_X4_viewsIn_e]
  exact key F 0 0 0 s h rfl (by omega) rfl
theorem qm_worthBy {F : Nat} {x1 n : Int32} {who : Int32} {s : Mem} {V : Nat → Int32} (h : mRdy V s) (hb : x1 = aBits V who n 8) : pc (f_X4_worthBy F x1 s) (fun r z => r = aWealth V who n 8 ∧ mRdy V z) := by
  have key : ∀ (N v : Nat) (x2 x3 : Int32), x3.toInt = (v : Int) → v ≤ 8 → x2 = aWealth V who n v → pc (lp_X4_worthBy_4 F x1 N x2 x3 s) (fun r z => r = aWealth V who n 8 ∧ mRdy V z) := by
    intro N
    induction N with
    | zero => intro v x2 x3 h1 h2 h3; exact pc_none rfl
    | succ N ih =>
      intro v x2 x3 h1 h2 h3
      rw [lp_X4_worthBy_4_s]
      simp only [j_X4_worthBy_29_e]
      refine pc_ite (fun c => ?_) (fun c => ?_)
      · have d := ti_le c
        rw [tz_8] at d
        exact pc_ret ⟨by rw [h3, show v = 8 by omega], h⟩
      have d := ti_nle c
      rw [tz_8] at d
      have ev := io_eq h1 (by omega)
      have bit := orB_bit (fun v => decide (aHold V n v = who)) (v := v) (by omega)
      rw [decide_eq_true_eq] at bit
      have bit' : (x1 >>> (x3 &&& 31)) &&& (1 : Int32) = 1 ↔ aHold V n v = who := by rw [hb, ev]; exact bit
      have hs : aWealth V who n (v + 1) = aWealth V who n v + (if aHold V n v = who then V (4 + v) else 0) := rfl
      rw [f_X4_hasBit_e]
      by_cases e : aHold V n v = who
      · rw [if_pos (bit'.mpr e)]
        refine pc_be rfl ?_
        rw [if_neg (by decide)]
        refine pc_chk (fun _ => ih (v + 1) _ _ (ti_nx h1 (by omega)) (by omega) ?_)
        rw [hs, if_pos e, h3, tn_int h1, vM_102 h.1 (by omega)]
      · rw [if_neg (fun q => e (bit'.mp q))]
        refine pc_be rfl ?_
        rw [if_pos rfl]
        refine ih (v + 1) _ _ (ti_nx h1 (by omega)) (by omega) ?_
        rw [hs, if_neg e, h3]
  rw [f_X4_worthBy_e]
  exact key F 0 0 0 rfl (by omega) rfl
theorem qm_worthIn {F : Nat} {x1 x2 : Int32} (hx : 0 ≤ x2.toInt ∧ x2.toInt ≤ 9999) {s : Mem} {V : Nat → Int32} (h : mRdy V s) : pc (f_X4_worthIn F x1 x2 s) (fun r z => r = aWealth V x1 x2 8 ∧ mRdy V z) := by
  rw [f_X4_worthIn_e]
  exact pc_bnd (qm_viewsIn hx h) (fun r s q => pc_bnd (qm_worthBy q.2 q.1) (fun r z w => pc_ret w))
/-! owns -/
def anOwns (V : Nat → Int32) (x1 x2 x3 : Int32) : Int32 := cF (cF (cF (cB (0 ≤ x1.toInt ∧ x1.toInt < (V 1).toInt)) (cN x2 0 999)) (cO x3 2)) (if x3 = 0 then aBits V x1 x2 8 else aWealth V x1 x2 8)
theorem qx_owns {F : Nat} {x1 x2 x3 : Int32} {σ : Mem} {V : Nat → Int32} (h : vH 1 V σ) : pc (f_X3_owns F x1 x2 x3 σ) (fun r _ => r = anOwns V x1 x2 x3) := by
  rw [f_X3_owns_e, f_X3_noLookerFar_e]
  refine pc_be (by rw [wt_bnd_eq (ax_noLooker (by rw [vH_2 h]; exact h.1.2.1.2)), wt_bnd_eq ax_outside, wt_bnd_eq ax_firstOf]) (pc_be ax_notBelow (pc_be ax_firstOf ?_))
  rw [vH_2 h]
  unfold anOwns
  refine cq_end (fun e => pc_bnd (qx_reckon h) (fun _ s q => ?_))
  refine pc_ite (fun c => pc_bnd (qx_holdings q) (fun r z w => pc_ret ?_)) (fun c => pc_bnd (qx_wealth q) (fun r z w => pc_ret ?_))
  · rw [if_pos c]; exact w.1
  · rw [if_neg c]; exact w.1
theorem qm_owns {F : Nat} {x1 x2 x3 : Int32} {s : Mem} {V : Nat → Int32} (h : vM V s) : pc (f_X4_owns F x1 x2 x3 s) (fun r _ => r = anOwns V x1 x2 x3) := by
  rw [f_X4_owns_e]
  refine pc_lt (fun s6 h6 => ?_)
  have h' : vM V s6 := vM_up h h6
  clear h6
  simp only [j_X4_owns_25_e]
  refine pc_be (mx_isLooker (by rw [vM_L h']; exact h.1.2.1.1)) ?_
  rw [vM_L h']
  unfold anOwns
  by_cases c : 0 ≤ x1.toInt ∧ x1.toInt < (V 1).toInt
  · rw [if_pos c, if_neg (by decide), cB_t c, cF_z]
    refine pc_be mx_wrongN (pc_be mx_wrongBit ?_)
    refine mq_end (sg_cF sg_cN sg_cO) (fun e => pc_bnd (qm_lay h') (fun _ z q => ?_))
    have d2 := cN_0 (cF_0 e).1
    rw [tz_0, tz_999'] at d2
    refine pc_ite (fun c => pc_bnd (qm_viewsIn ⟨d2.1, by omega⟩ q) (fun r y w => pc_ret ?_)) (fun c => pc_bnd (qm_worthIn ⟨d2.1, by omega⟩ q) (fun r y w => pc_ret ?_))
    · rw [if_pos c]; exact w.1
    · rw [if_neg c]; exact w.1
  · rw [if_neg c, if_pos rfl, cB_f c, cF_n (a := -1) (by decide)]
    refine pc_be mx_wrongBit ?_
    rw [cF_n (a := -1) (by decide)]
    exact mq_end (Or.inr (by decide)) (fun q => absurd q (by decide))
/-! nobodys -/
def anNobodys (V : Nat → Int32) (x1 : Int32) : Int32 := cF (cN x1 0 999) (aBits V (-9) x1 8)
theorem qx_nobodys {F : Nat} {x1 : Int32} {σ : Mem} {V : Nat → Int32} (h : vH 1 V σ) : pc (f_X3_nobodys F x1 σ) (fun r _ => r = anNobodys V x1) := by
  rw [f_X3_nobodys_e]
  refine pc_be ax_outside ?_
  unfold anNobodys
  refine cq_end (fun e => pc_bnd (qx_reckon h) (fun _ s q => ?_))
  rw [f_X0_held_e]
  refine pc_bnd (P := fun r z => r = 255 - aBits V (-9) x1 8) (pc_bnd (qx_holdings q) (fun r z w => pc_ret (by rw [w.1]))) (fun r z w => pc_ret ?_)
  rw [w]
  exact orB_sub _
theorem qm_nobodys {F : Nat} {x1 : Int32} {s : Mem} {V : Nat → Int32} (h : vM V s) : pc (f_X4_nobodys F x1 s) (fun r _ => r = anNobodys V x1) := by
  rw [f_X4_nobodys_e]
  refine pc_lt (fun s6 h6 => ?_)
  have h' : vM V s6 := vM_up h h6
  clear h6
  refine pc_be mx_wrongN ?_
  unfold anNobodys
  rw [wt_bnd_eq mx_wrongN]
  refine mq_end sg_cN (fun e => pc_bnd (qm_lay h') (fun _ z q => ?_))
  have d2 := cN_0 e
  rw [tz_0, tz_999'] at d2
  exact pc_bnd (qm_viewsIn ⟨d2.1, by omega⟩ q) (fun r y w => pc_ret w.1)
/-! lookerOf -/
theorem aHours_l {A B : Nat → Int32} {l : Nat} : ∀ t, t ≤ 24 → (∀ t, t < 24 → A (28 + 24 * l + t) = B (28 + 24 * l + t)) → aHours A l t = aHours B l t := fun t => by
  induction t with
  | zero => intro _ _; rfl
  | succ t ih => intro ht h; show aHours A l t + _ = aHours B l t + _; rw [ih (by omega) h, h t (by omega)]
def anLookerOf (V : Nat → Int32) (x1 x2 : Int32) : Int32 := cF (cF (cB (0 ≤ x1.toInt ∧ x1.toInt < (V 1).toInt)) (cO x2 4)) (if x2 = 0 then V (18 + 2 * x1.toNatClampNeg) else if x2 = 1 then V (19 + 2 * x1.toNatClampNeg) else if x2 = 2 then aHours V x1.toNatClampNeg 24 else aBits V x1 0 8)
theorem qx_lookerOf {F : Nat} {x1 x2 : Int32} {σ : Mem} {V : Nat → Int32} (h : vH 1 V σ) : pc (f_X3_lookerOf F x1 x2 σ) (fun r _ => r = anLookerOf V x1 x2) := by
  have h5 := h.1.2.1.2
  rw [f_X3_lookerOf_e]
  refine pc_be (ax_noLooker (by rw [vH_2 h]; exact h5)) (pc_be ax_notBelow (pc_be ax_firstOf ?_))
  rw [vH_2 h]
  unfold anLookerOf
  refine cq_end (fun e => ?_)
  have d1 := cB_0 (cF_0 e).1
  have n1 := ti_nat x1
  have hl : x1.toInt = (x1.toNatClampNeg : Int) := by omega
  refine pc_ite (fun c => pc_chk (fun w => pc_ret ?_)) (fun c => ?_)
  · rw [if_pos c]; exact vH_k2 h w.2.2
  rw [if_neg c]
  refine pc_ite (fun c => pc_chk (fun w => pc_ret ?_)) (fun c => ?_)
  · rw [if_pos c]; exact vH_k3 h w.2.2
  rw [if_neg c]
  refine pc_ite (fun c => ?_) (fun c => ?_)
  · rw [if_pos c]
    have ec : ∀ t, t < 24 → wvX 1 σ (28 + 24 * x1.toNatClampNeg + t) = V (28 + 24 * x1.toNatClampNeg + t) := fun t ht => h.2 _ (by omega) (live_c (by omega) ht h5)
    refine pc_bnd (ax_hoursOf hl (by omega) (fun t ht => ?_)) (fun r z w => pc_ret ?_)
    · rw [ec t ht]
      exact (vV_c h.1 (by omega) ht).imp id (fun q => q.1)
    · rw [w.1]
      exact aHours_l 24 (by omega) ec
  · rw [if_neg c]
    exact pc_bnd (qx_reckon h) (fun _ s q => pc_bnd (qx_holdings q) (fun r z w => pc_ret w.1))
theorem qm_lookerOf {F : Nat} {x1 x2 : Int32} {s : Mem} {V : Nat → Int32} (h : vM V s) : pc (f_X4_lookerOf F x1 x2 s) (fun r _ => r = anLookerOf V x1 x2) := by
  rw [f_X4_lookerOf_e]
  refine pc_lt (fun s6 h6 => ?_)
  have h' : vM V s6 := vM_up h h6
  clear h6
  have h5 := h.1.2.1.2
  have hL : f_X4_isLooker F x1 s6 = some (if 0 ≤ x1.toInt ∧ x1.toInt < (V 1).toInt then 1 else 0, s6) := by
    rw [mx_isLooker (by rw [vM_L h']; exact h.1.2.1.1), vM_L h']
  simp only [j_X4_lookerOf_25_e, j_X4_lookerOf_40_e]
  refine pc_be hL ?_
  unfold anLookerOf
  by_cases c : 0 ≤ x1.toInt ∧ x1.toInt < (V 1).toInt
  · rw [if_pos c, if_neg (by decide), cB_t c, cF_z]
    have n1 := ti_nat x1
    refine pc_be (mx_in32 (lo := 0) (hi := 3) rfl rfl) ?_
    by_cases c2 : 0 ≤ x2.toInt ∧ x2.toInt ≤ 3
    · have hO : cO x2 4 = 0 := if_pos ⟨c2.1, by rw [tz_4]; omega⟩
      rw [if_pos c2, if_neg (by decide), hO, cF_z]
      refine pc_bnd (qm_lay h') (fun _ z q => ?_)
      refine pc_ite (fun c => pc_chk (fun w => pc_ret ?_)) (fun c => ?_)
      · rw [if_pos c]; exact vM_104 q.1 w.2.2
      rw [if_neg c]
      refine pc_ite (fun c => pc_chk (fun w => pc_ret ?_)) (fun c => ?_)
      · rw [if_pos c]; exact vM_105 q.1 w.2.2
      rw [if_neg c]
      refine pc_ite (fun c => ?_) (fun c => ?_)
      · rw [if_pos c]
        refine pc_bnd (mx_hoursOf (l := x1.toNatClampNeg) (by omega) (by omega)) (fun r y w => pc_ret ?_)
        rw [w.1]
        exact aHours_l 24 (by omega) (fun t ht => q.1.2 _ (by omega))
      · rw [if_neg c]
        exact pc_bnd (qm_viewsIn (x2 := 0) (by decide) q) (fun r y w => pc_ret w.1)
    · have hO : cO x2 4 = -2 := if_neg (fun q => c2 ⟨q.1, by have := q.2; rw [tz_4] at this; omega⟩)
      rw [if_neg c2, if_pos rfl, hO]
      refine pc_be hL ?_
      rw [if_pos c, if_neg (by decide)]
      exact mq_ref (cF_n (by decide))
  · rw [if_neg c, if_pos rfl, cB_f c]
    refine pc_be hL ?_
    rw [if_neg c, if_pos rfl]
    exact mq_ref (by rw [cF_n (a := -1) (by decide), cF_n (by decide)])
