/-! days: how many views have a holder then -/
def cntB (b : Nat → Bool) : Nat → Int32
  | 0 => 0
  | v + 1 => cntB b v + (if b v = true then 0 else 1)
theorem cntB_cg {a b : Nat → Bool} : ∀ n, (∀ v, v < n → a v = b v) → cntB a n = cntB b n := fun n => by
  induction n with
  | zero => intro _; rfl
  | succ n ih => intro h; show cntB a n + _ = cntB b n + _; rw [ih (fun v hv => h v (by omega)), h n (by omega)]
def aPop1 (x : Int32) : Int32 := x - ((wt_ushr x (1 : Int32)) &&& (1431655765 : Int32))
def aPop2 (x : Int32) : Int32 := (x &&& (858993459 : Int32)) + ((wt_ushr x (2 : Int32)) &&& (858993459 : Int32))
def aPop3 (x : Int32) : Int32 := (x + (wt_ushr x (4 : Int32))) &&& (252645135 : Int32)
def aPop4 (x : Int32) : Int32 := x + (wt_ushr x (8 : Int32))
def aPop5 (x : Int32) : Int32 := x + (wt_ushr x (16 : Int32))
def aPop (x : Int32) : Int32 := aPop5 (aPop4 (aPop3 (aPop2 (aPop1 x)))) &&& (63 : Int32)
theorem aPop_f {F : Nat} {x : Int32} {σ : Mem} : f_J6_bitCount_0f7a4 F x σ = some (aPop x, σ) := by
  rw [f_J6_bitCount_0f7a4_e]; rfl
theorem aPop_0 : ∀ b0 b1 b2 b3 b4 b5 b6 b7 : Bool, aPop ((255 : Int32) - orB (fB b0 b1 b2 b3 b4 b5 b6 b7) 8) = cntB (fB b0 b1 b2 b3 b4 b5 b6 b7) 8 := by decide +kernel
theorem aPop_b (b : Nat → Bool) : aPop ((255 : Int32) - orB b 8) = cntB b 8 := by
  rw [orB_cg 8 (fB_of b), cntB_cg 8 (fB_of b)]
  exact aPop_0 _ _ _ _ _ _ _ _
/-- of how many views nobody is the holder after n days; the others are counted -/
def aOwned (V : Nat → Int32) (n : Int32) : Nat → Int32 := cntB (fun v => decide (aHold V n v = -9))
theorem aOwned_s {V : Nat → Int32} {n : Int32} {v : Nat} : aOwned V n (v + 1) = aOwned V n v + (if aHold V n v = -9 then 0 else 1) := by
  show cntB _ v + (if decide (aHold V n v = -9) = true then (0 : Int32) else 1) = _
  by_cases c : aHold V n v = -9
  · rw [if_pos (decide_eq_true c), if_pos c]; rfl
  · rw [if_neg (by rw [decide_eq_true_eq]; exact c), if_neg c]; rfl
theorem qx_heldN {F h : Nat} {n : Int32} {σ : Mem} {V : Nat → Int32} (a : vH h V σ ∧ vG h V σ) : pc (f_X0_held F h n σ) (fun r s => r = 255 - aBits V (-9) n 8 ∧ s = σ) := by
  rw [f_X0_held_e]
  exact pc_bnd (qx_holdings a) (fun r z w => pc_ret ⟨by rw [w.1], w.2⟩)
theorem aGain_day {V : Nat → Int32} (hv : wvV V) {x : Int32} {l v : Nat} (hl : (l : Int) < (V 1).toInt) : aGain (aDay V x) l v 24 = aGain V l v 24 := by
  have h5 := hv.2.1.2
  have eo : ∀ p, p < 148 → p ≠ 3 → aDay V x p = V p := fun p a b => by unfold aDay; rw [if_neg b, if_neg (by omega)]
  exact aGain_cg hv.1.2 (fun t ht => (vV_c hv hl ht).imp id (fun q => q.2)) (by omega) (fun p hp h3 => eo p (by omega) h3) (fun t ht => eo _ (by omega) (by omega)) 24 (by omega)
theorem qx_pass {F : Nat} {x : Int32} {σ : Mem} {V : Nat → Int32} (a : vH 1 V σ) (hx : 1 ≤ x.toInt ∧ x.toInt ≤ 99) (h9 : (V 3 + x).toInt ≤ 9999) : pc (f_X0_pass F 1 x σ) (fun _ s => cRdy (aDay V x) s) := by
  have hw : weq 188 V (wvX 1 σ) := a.2
  have hvX : wvV (wvX 1 σ) := wvV_weq a.1 hw
  have aX : vH 1 (wvX 1 σ) σ := ⟨hvX, fun _ _ _ => rfl⟩
  have h5 := a.1.2.1.2
  have e1 : wvX 1 σ 1 = V 1 := weq_lo hw (by omega) (by omega)
  rw [f_X0_pass_e]
  simp only [j_X0_pass_23_e]
  refine pc_ite (fun c1 => by have := ti_lt c1; rw [tz_1] at this; omega) (fun c1 => pc_ite (fun c2 => by have := ti_lt c2; rw [tz_99] at this; omega) (fun c2 => pc_ite (fun c3 => ?_) (fun c3 => by have := ti_nle c3; rw [tz_9999, vH_9 a] at this; omega)))
  refine pc_bnd (ax_reckon aX) (fun _ s8 f8 => ?_)
  have a8 : vH 1 (wvX 1 σ) s8 := vH_k aX f8.1
  refine pc_mono (ax_pass_31 a8 f8.2 F 0 0 s8 rfl aX.1.2.1.1 ⟨fun _ _ => rfl, fun m v hm hv' => by rw [if_neg (by omega)]⟩) (fun r s q => ?_)
  obtain ⟨-, z, q1, q2⟩ := q
  have hD : wvV (aDay V x) := wvV_aDay a.1 (by omega)
  have hwD := weq_aDay (x := x) a.1 hw (by omega)
  have d1 : aDay V x 1 = V 1 := by unfold aDay; rw [if_neg (by decide), if_neg (by omega)]
  refine ⟨⟨hD, fun p hp hl => ?_⟩, fun m hm v hv8 => ?_⟩
  · rw [q2, pI_day (fun _ _ => rfl) f8.1 q1 hp]
    exact hwD p hp hl
  · rw [d1] at hm
    have e := f8.2 m (by rw [e1]; exact hm) v hv8
    rw [q2, up2_k (by omega), q1.1 _ (by omega), e, aGain_day a.1 hm]
    exact aGain_cg a.1.1.2 (fun t ht => (vV_c a.1 hm ht).imp id (fun q => q.2)) (by omega) (fun p hp _ => weq_lo hw (by omega) hp) (fun t ht => hw _ (by omega) (live_c hm ht h5)) 24 (by omega)
def anDays (V : Nat → Int32) (x : Int32) : Int32 := cF (eDays (V 3) x) (aOwned (aDay V x) 0 8)
theorem qx_days {F : Nat} (hF : 1000 ≤ F) {x : Int32} {σ : Mem} {V : Nat → Int32} (h : vH 1 V σ) : pc (f_X3_days F x σ) (fun r _ => r = anDays V x) := by
  rw [f_X3_days_e]
  refine pc_be ax_outside ?_
  simp only [j_X3_days_30_e]
  rw [vH_9 h]
  have good : eDays (V 3) x = 0 → pc (wt_bnd (f_X0_pass F 1 x σ) fun r1 s2 => wt_bnd (f_X2_forget F s2) fun r3 s4 => wt_bnd (f_X0_held F 1 (0 : Int32) s4) fun r5 s6 => wt_bnd (f_J6_bitCount_0f7a4 F r5 s6) fun r7 s8 => some (r7, s8)) (fun r _ => r = aOwned (aDay V x) 0 8) := fun e => by
    obtain ⟨e1, e2⟩ := cF_0 e
    have e3 := cN_0 e1
    rw [tz_1, tz_99] at e3
    have e4 : (V 3 + x).toInt ≤ 9999 := by
      by_cases c : (V 3 + x).toInt ≤ 9999
      · exact c
      · rw [if_neg c] at e2; exact absurd e2 (by decide)
    refine pc_bnd (qx_pass h e3 e4) (fun r s q => pc_be ax_forget ?_)
    have q' : cRdy (aDay V x) (up2 s 70 5 0) := ⟨⟨q.1.1, fun p hp hl => by rw [wvX_k (by omega) hp]; exact q.1.2 p hp hl⟩, fun m hm v hv => by
      have h5 := q.1.1.2.1.2
      rw [up2_k (by omega)]; exact q.2 m hm v hv⟩
    refine pc_bnd (qx_heldN q') (fun r z w => ?_)
    rw [w.1]
    exact pc_be aPop_f (pc_ret (aPop_b _))
  have key : ∀ e, e = eDays (V 3) x → pc (if e = 0 then (wt_bnd (f_X0_pass F 1 x σ) fun r1 s2 => wt_bnd (f_X2_forget F s2) fun r3 s4 => wt_bnd (f_X0_held F 1 (0 : Int32) s4) fun r5 s6 => wt_bnd (f_J6_bitCount_0f7a4 F r5 s6) fun r7 s8 => some (r7, s8)) else wt_bnd (f_X3_refuse F e σ) fun r9 s10 => some (r9, s10)) (fun r _ => r = anDays V x) := fun e he => by
    subst he; exact cq_end good
  by_cases c1 : cN x 1 99 = 0
  · rw [if_pos c1]
    by_cases c2 : V 3 + x ≤ 9999
    · rw [if_pos c2]
      refine key _ ?_
      unfold eDays cF
      have := ti_le c2
      rw [tz_9999] at this
      rw [if_pos c1, if_pos this, c1]
    · rw [if_neg c2]
      refine key _ ?_
      unfold eDays cF
      have := ti_nle c2
      rw [tz_9999] at this
      rw [if_pos c1, if_neg (by omega)]
  · rw [if_neg c1]
    refine key _ ?_
    unfold eDays cF
    rw [if_neg c1]
theorem qm_owned {F : Nat} {s : Mem} {V : Nat → Int32} (h : vM V s) : pc (f_X4_owned F s) (fun r z => r = aOwned V 0 8 ∧ mRdy V z) := by
  have key : ∀ (N v : Nat) (x1 x2 : Int32) (s : Mem), mRdy V s → x2.toInt = (v : Int) → v ≤ 8 → x1 = aOwned V 0 v → pc (lp_X4_owned_8 F N x1 x2 s) (fun r z => r = aOwned V 0 8 ∧ mRdy V z) := by
    intro N
    induction N with
    | zero => intro v x1 x2 s a h1 h2 h3; exact pc_none rfl
    | succ N ih =>
      intro v x1 x2 s a h1 h2 h3
      rw [lp_X4_owned_8_s]
      simp only [j_X4_owned_29_e]
      refine pc_ite (fun c => ?_) (fun c => ?_)
      · have d := ti_le c
        rw [tz_8] at d
        exact pc_ret ⟨by rw [h3, show v = 8 by omega], a⟩
      have d := ti_nle c
      rw [tz_8] at d
      refine pc_bnd (qm_own (x2 := 0) (by decide) h1 (by omega) a) (fun r y q => ?_)
      rw [q.1]
      have h0 := aHold_0 h.1 (x := 0) (by decide) (v := v) (by omega)
      refine pc_ite (fun e => ih (v + 1) _ _ _ q.2 (ti_nx h1 (by omega)) (by omega) ?_) (fun e => ih (v + 1) _ _ _ q.2 (ti_nx h1 (by omega)) (by omega) ?_)
      · rw [aOwned_s, if_neg (h0.mp e), h3]
      · rw [aOwned_s, if_pos (Classical.byContradiction (fun n => e (h0.mpr n))), h3]
  rw [f_X4_owned_e]
  exact pc_bnd (qm_lay h) (fun _ z q => key F 0 0 0 z q rfl (by omega) rfl)
theorem qm_days {F : Nat} (hF : 1000 ≤ F) {x : Int32} {s : Mem} {V : Nat → Int32} (h : vM V s) : pc (f_X4_days F x s) (fun r _ => r = anDays V x) := by
  rw [f_X4_days_e]
  refine pc_lt (fun s7 h7 => pc_be mx_wrongN ?_)
  have h' : vM V s7 := vM_up h h7
  clear h7
  simp only [j_X4_days_34_e, j_X4_days_35_e]
  rw [vM_D h']
  have hG : ∀ e, e = eDays (V 3) x → pc (if 0 ≤ e then (wt_bnd (f_X4_goDays F x s7) fun r1 s2 => wt_lt (up2 s2 101 30 (0 : Int32)) fun s3 => wt_bnd (f_X4_owned F s3) fun r4 s5 => some (r4, s5)) else wt_bnd (f_X4_refuse F e s7) fun r s => some (r, s)) (fun r _ => r = anDays V x) := fun e he => by
    subst he
    refine mq_end (sg_cF sg_cN (sg_i (by decide))) (fun e => ?_)
    have e3 := cN_0 (cF_0 e).1
    rw [tz_1, tz_99] at e3
    refine pc_bnd (mx_goDays hF (wvV_cg h.1 h'.2)) (fun _ s2 q => pc_lt (fun s3 h3 => ?_))
    have h3' : vM (aDay V x) s3 := ⟨wvV_aDay h.1 (by omega), fun p hp => by rw [h3, wvM_no (by omega) (by omega) hp, q p hp]; exact aDay_cg h.1 h'.2 hp⟩
    exact pc_bnd (qm_owned h3') (fun r z w => pc_ret w.1)
  by_cases c1 : cN x 1 99 = 0
  · rw [if_pos c1]
    by_cases c2 : V 3 + x ≤ 9999
    · rw [if_pos c2]
      refine hG _ ?_
      unfold eDays cF
      have := ti_le c2
      rw [tz_9999] at this
      rw [if_pos c1, if_pos this, c1]
    · rw [if_neg c2]
      refine hG _ ?_
      unfold eDays cF
      have := ti_nle c2
      rw [tz_9999] at this
      rw [if_pos c1, if_neg (by omega)]
  · rw [if_neg c1]
    refine hG _ ?_
    unfold eDays cF
    rw [if_neg c1]
theorem eqd_days {F : Nat} {σ : Mem} {x : Int32} (hF : 73786976294838206464 ≤ F) (h : wR 188 σ) : ∃ r1 s1 r2 s2, f_X3_days F x σ = some (r1, s1) ∧ f_X4_days F x s1 = some (r2, s2) ∧ wR 188 s2 ∧ r1 = r2 := eqh (mu_days hF h) h.2.2.1 (pc_mono (sf_pc (s_X3_days (F := F) (by omega) h.1)) (fun _ _ q => q.2.1)) (fun V hv => qx_days (by omega) hv) (fun V s hv => qm_days (by omega) hv)
