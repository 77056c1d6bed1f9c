/-- a step laid in the ring (no roster) -/
def wsPut (σ s : Mem) (w x old : Int32) : Prop := wsRing σ s ∧ s 71 = upd (σ 71) (wsSlot σ) w ∧ s 72 = upd (σ 72) (wsSlot σ) x ∧ s 73 = upd (σ 73) (wsSlot σ) old ∧ ∀ k, 75 ≤ k → k ≤ 82 → s k = σ k
def wsPutR (σ s : Mem) (x : Int32) (f : Nat → Int32) : Prop := wsRing σ s ∧ s 71 = upd (σ 71) (wsSlot σ) 0 ∧ s 72 = upd (σ 72) (wsSlot σ) x ∧ (∀ t, t < 24 → s (75 + wsSlot σ) t = f t) ∧ s 73 = σ 73 ∧ ∀ k, 75 ≤ k → k ≤ 82 → ¬ k = 75 + wsSlot σ → s k = σ k
theorem wsPut_k {σ s z : Mem} {w x old : Int32} (h : wsPut σ s w x old) (e : ∀ k, 70 ≤ k → k ≤ 82 → z k = s k) : wsPut σ z w x old := by
  obtain ⟨h1, h2, h3, h4, h5⟩ := h
  refine ⟨?_, by rw [e 71 (by omega) (by omega)]; exact h2, by rw [e 72 (by omega) (by omega)]; exact h3, by rw [e 73 (by omega) (by omega)]; exact h4, fun k a b => by rw [e k (by omega) b]; exact h5 k a b⟩
  unfold wsRing at h1 ⊢
  rw [e 70 (by omega) (by omega)]
  exact h1
theorem wsPutR_k {σ s z : Mem} {x : Int32} {f : Nat → Int32} (h : wsPutR σ s x f) (e : ∀ k, 70 ≤ k → k ≤ 82 → z k = s k) : wsPutR σ z x f := by
  obtain ⟨h1, h2, h3, h4, h5, h6⟩ := h
  have hq : wsSlot σ < 8 := Nat.mod_lt _ (by decide)
  refine ⟨?_, by rw [e 71 (by omega) (by omega)]; exact h2, by rw [e 72 (by omega) (by omega)]; exact h3, fun t ht => by rw [e _ (by omega) (by omega)]; exact h4 t ht, by rw [e 73 (by omega) (by omega)]; exact h5, fun k a b c => by rw [e k (by omega) b]; exact h6 k a b c⟩
  unfold wsRing at h1 ⊢
  rw [e 70 (by omega) (by omega)]
  exact h1
theorem keep_wvX {σ s : Mem} (ho : ∀ k, k ≠ 70 → k ≠ 71 → k ≠ 72 → k ≠ 73 → s k = σ k) {p : Nat} (hp : p < 188) : wvX 1 s p = wvX 1 σ p := wvX_eq (fun p hp => by have := wvJ_le p hp; rw [ho _ (by omega) (by omega) (by omega) (by omega)]) hp
theorem cx_law {F : Nat} (hF : 1000 ≤ F) {x : Int32} {σ : Mem} (b4 : 0 ≤ (σ 70 4).toInt ∧ (σ 70 4).toInt ≤ 7) (b5 : 0 ≤ (σ 70 5).toInt ∧ (σ 70 5).toInt ≤ 8) : pc (f_X3_law F x σ) (cR (cO x 3) (fun r s => (∀ p, p < 188 → wvX 1 s p = aLaw (wvX 1 σ) x p) ∧ r = σ 1 8 ∧ wsPut σ s 3 0 (σ 1 8)) σ) := by
  rw [f_X3_law_e]
  refine pc_be ax_notBelow (cR_end (fun e => ?_))
  have e4 := cO_0 e
  rw [tz_3] at e4
  refine pc_bnd (ax_keep b4 b5) (fun _ s4 q => pc_bnd (pc_and ax_rule (pc_pf (fr_X0_rule hF wt_h1))) (fun r s w => pc_ret ⟨fun p hp => ?_, rfl, ?_⟩))
  · rw [(w.1.1 ⟨e4.1, by omega⟩).2 p hp]
    unfold aLaw
    exact upd_cg (keep_wvX q.2.2.2.2 hp) rfl
  · exact wsPut_k ⟨q.1, q.2.1, q.2.2.1, q.2.2.2.1, fun k a b => q.2.2.2.2 k (by omega) (by omega) (by omega) (by omega)⟩ (fun k a b => fr_reg w.2 (by unfold wf_7; omega) (fun c hc => by unfold wf_7; omega))
theorem cx_worth {F : Nat} (hF : 1000 ≤ F) {x1 x2 : Int32} {σ : Mem} (b4 : 0 ≤ (σ 70 4).toInt ∧ (σ 70 4).toInt ≤ 7) (b5 : 0 ≤ (σ 70 5).toInt ∧ (σ 70 5).toInt ≤ 8) : pc (f_X3_worth F x1 x2 σ) (cR (cF (cB (0 ≤ x1.toInt ∧ x1.toInt ≤ 7)) (cN x2 0 9)) (fun r s => (∀ p, p < 188 → wvX 1 s p = aWorth (wvX 1 σ) x1 x2 p) ∧ r = σ 17 x1.toNatClampNeg ∧ wsPut σ s 2 x1 (σ 17 x1.toNatClampNeg)) σ) := by
  rw [f_X3_worth_e]
  refine pc_be ax_noView (pc_be ax_outside (pc_be ax_firstOf (cR_end (fun e => ?_))))
  obtain ⟨e1, e2⟩ := cF_0 e
  have e3 := cB_0 e1
  have e4 := cN_0 e2
  rw [tz_0, tz_9] at e4
  refine pc_chk (fun _ => pc_lt (fun z8 h8 => pc_bnd (ax_keep b4 b5) (fun _ s4 q => pc_bnd (pc_and ax_price (pc_pf (fr_X0_price hF wt_h1))) (fun r s w => pc_ret ⟨fun p hp => ?_, h8, ?_⟩))))
  · rw [(w.1.1 ⟨e3.1, e3.2, e4.1, e4.2⟩).2 p hp]
    unfold aWorth
    exact upd_cg (keep_wvX q.2.2.2.2 hp) rfl
  · rw [h8] at q
    exact wsPut_k ⟨q.1, q.2.1, q.2.2.1, q.2.2.2.1, fun k a b => q.2.2.2.2 k (by omega) (by omega) (by omega) (by omega)⟩ (fun k a b => fr_reg w.2 (by unfold wf_6; omega) (fun c hc => by unfold wf_6; omega))
theorem ax_and1 (w : Int32) : w &&& (1 : Int32) = 0 ∨ w &&& (1 : Int32) = 1 := by
  have h : (w &&& (1 : Int32)).toBitVec.toNat = w.toBitVec.toNat % 2 := by
    rw [Int32.toBitVec_and, BitVec.toNat_and]
    exact Nat.and_one_is_mod _
  have h2 : w.toBitVec.toNat % 2 < 2 := Nat.mod_lt _ (by decide)
  rcases (show w.toBitVec.toNat % 2 = 0 ∨ w.toBitVec.toNat % 2 = 1 by omega) with e | e
  · left
    rw [e] at h
    exact Int32.toBitVec_inj.mp (BitVec.eq_of_toNat_eq h)
  · right
    rw [e] at h
    exact Int32.toBitVec_inj.mp (BitVec.eq_of_toNat_eq h)
theorem ax_shows {F h : Nat} {x1 x2 : Int32} {σ : Mem} (b : (σ h 0).toInt ≤ 6) (h1 : 0 ≤ x1.toInt ∧ x1.toInt < (σ h 0).toInt) (h2 : 0 ≤ x2.toInt ∧ x2.toInt ≤ 7) : pc (f_X0_shows F h x1 x2 σ) (fun r s => s = σ ∧ r = ((σ (h + 1) x1.toNatClampNeg) >>> (x2 &&& 31)) &&& (1 : Int32)) := by
  rw [f_X0_shows_e]
  refine pc_be (ax_isPane b) ?_
  rw [if_pos h1, if_neg (by decide)]
  refine pc_be ax_isView ?_
  rw [if_pos h2, if_neg (by decide)]
  refine pc_chk (fun _ => pc_ite (fun c => pc_ret ⟨rfl, c.symm⟩) (fun c => ?_))
  rw [j_X0_shows_33_e]
  refine pc_ret ⟨rfl, ?_⟩
  rcases ax_and1 ((σ (h + 1) x1.toNatClampNeg) >>> (x2 &&& 31)) with e | e
  · exact e.symm
  · exact absurd e c
theorem cx_wall {F : Nat} (hF : 1000 ≤ F) {x1 x2 : Int32} {σ : Mem} (b : (σ 1 0).toInt ≤ 6) (b4 : 0 ≤ (σ 70 4).toInt ∧ (σ 70 4).toInt ≤ 7) (b5 : 0 ≤ (σ 70 5).toInt ∧ (σ 70 5).toInt ≤ 8) : pc (f_X3_wall F x1 x2 σ) (cR (cF (cB (0 ≤ x1.toInt ∧ x1.toInt < (σ 1 0).toInt)) (cB (0 ≤ x2.toInt ∧ x2.toInt ≤ 7))) (fun r s => (∀ p, p < 188 → wvX 1 s p = aWall (wvX 1 σ) x1 x2 p) ∧ r = ((s 2 x1.toNatClampNeg) >>> (x2 &&& 31)) &&& (1 : Int32) ∧ wsPut σ s 1 x1 (σ 2 x1.toNatClampNeg)) σ) := by
  rw [f_X3_wall_e]
  refine pc_be (ax_noPane b) (pc_be ax_noView (pc_be ax_firstOf (cR_end (fun e => ?_))))
  obtain ⟨e1, e2⟩ := cF_0 e
  have e3 := cB_0 e1
  have e4 := cB_0 e2
  refine pc_chk (fun _ => pc_bnd (ax_keep b4 b5) (fun _ s4 q => ?_))
  have q1 : s4 1 = σ 1 := q.2.2.2.2 1 (by decide) (by decide) (by decide) (by decide)
  refine pc_bnd (pc_and (ax_flip (by rw [q1]; exact b)) (pc_pf (fr_X0_flip hF wt_h1))) (fun r s w => ?_)
  have w1 := (w.1.1 ⟨e3.1, by rw [q1]; exact e3.2, e4.1, e4.2⟩).2
  have hV : ∀ p, p < 188 → wvX 1 s p = aWall (wvX 1 σ) x1 x2 p := fun p hp => by
    rw [w1 p hp]
    unfold aWall
    have hn : x1.toNatClampNeg < 6 := tn_lt e3.1 (by omega)
    exact upd_cg (keep_wvX q.2.2.2.2 hp) (by rw [keep_wvX q.2.2.2.2 (by omega)])
  have p1 : s 1 0 = σ 1 0 := by
    have := hV 0 (by decide)
    unfold aWall at this
    rw [wv_un (by omega)] at this
    exact this
  refine pc_bnd (ax_shows (by rw [p1]; exact b) (by rw [p1]; exact e3) e4) (fun r z y => ?_)
  obtain ⟨rfl, y⟩ := y
  have hP : wsPut σ z 1 x1 (σ 2 x1.toNatClampNeg) := wsPut_k ⟨q.1, q.2.1, q.2.2.1, q.2.2.2.1, fun k a b => q.2.2.2.2 k (by omega) (by omega) (by omega) (by omega)⟩ (fun k a b => fr_reg w.2 (by unfold wf_5; omega) (fun c hc => by unfold wf_5; omega))
  refine pc_ite (fun c => pc_ret ⟨hV, ?_, hP⟩) (fun c => pc_ret ⟨hV, ?_, hP⟩)
  · rw [← c, y]
  · rcases ax_and1 ((z 2 x1.toNatClampNeg) >>> (x2 &&& 31)) with e | e
    · exact absurd (y.trans e) c
    · exact e.symm
def aHours (V : Nat → Int32) (l : Nat) : Nat → Int32
  | 0 => 0
  | t + 1 => aHours V l t + (if (V (28 + 24 * l + t)).toInt < 0 then 0 else 1)
theorem ax_hoursOf_4 {F h : Nat} {x1 : Int32} {σ : Mem} {l : Nat} (hl : x1.toInt = (l : Int)) (hl5 : l < 5) (hv : ∀ t, t < 24 → (wvX h σ (28 + 24 * l + t)).toInt = -9 ∨ 0 ≤ (wvX h σ (28 + 24 * l + t)).toInt) : ∀ (N t : Nat) (x2 x3 : Int32), x3.toInt = (t : Int) → t ≤ 24 → x2 = aHours (wvX h σ) l t → pc (lp_X0_hoursOf_4 F h x1 N x2 x3 σ) (fun r s => r = aHours (wvX h σ) l 24 ∧ s = σ) := by
  intro N
  induction N with
  | zero => intro t x2 x3 h1 h2 h3; exact pc_none rfl
  | succ N ih =>
    intro t x2 x3 h1 h2 h3
    rw [lp_X0_hoursOf_4_s]
    simp only [j_X0_hoursOf_26_e]
    refine pc_ite (fun c => ?_) (fun c => pc_chk (fun _ => pc_chk (fun _ => ?_)))
    · have d := ti_le c
      rw [tz_24] at d
      refine pc_ret ⟨?_, rfl⟩
      rw [h3, show t = 24 by omega]
    have d := ti_nle c
    rw [tz_24] at d
    rw [tn_int hl, tn_int h1]
    have hj := wvJI_5 l hl5 t (by omega)
    have ew : wvX h σ (28 + 24 * l + t) = wvN (σ (h + 5 + l) t) := by
      unfold wvX
      rw [wvE_i (by omega), ← hj.1, ← hj.2, show h + (5 + l) = h + 5 + l by omega]
    have hvt := hv t (by omega)
    rw [ew] at hvt
    refine pc_ite (fun c9 => ih (t + 1) _ _ (ti_nx h1 (by omega)) (by omega) ?_) (fun c9 => ih (t + 1) _ _ (ti_nx h1 (by omega)) (by omega) ?_)
    · show x2 = aHours (wvX h σ) l t + _
      rw [ew, c9, if_pos (by decide), h3, Int32.add_zero]
    · show x2 + 1 = aHours (wvX h σ) l t + _
      have hn : ¬ (wvN (σ (h + 5 + l) t)).toInt < 0 := fun q => by
        rcases hvt with e | e
        · unfold wvN at e
          rw [if_neg c9] at e
          by_cases e2 : σ (h + 5 + l) t = -9
          · rw [if_pos e2] at e; exact absurd e (by decide)
          · rw [if_neg e2] at e; exact e2 (Int32.toInt_inj.mp (by rw [e]; rfl))
        · omega
      rw [ew, if_neg hn, h3]
theorem ax_hoursOf {F h : Nat} {x1 : Int32} {σ : Mem} {l : Nat} (hl : x1.toInt = (l : Int)) (hl5 : l < 5) (hv : ∀ t, t < 24 → (wvX h σ (28 + 24 * l + t)).toInt = -9 ∨ 0 ≤ (wvX h σ (28 + 24 * l + t)).toInt) : pc (f_X0_hoursOf F h x1 σ) (fun r s => r = aHours (wvX h σ) l 24 ∧ s = σ) := by
  rw [f_X0_hoursOf_e]
  exact ax_hoursOf_4 hl hl5 hv F 0 0 0 rfl (by omega) rfl
def eStands (P L : Int) (x1 x2 x3 x4 : Int32) : Int32 := cF (cF (cF (cB (0 ≤ x1.toInt ∧ x1.toInt < L)) (cF (cB (0 ≤ x2.toInt ∧ x2.toInt ≤ 23)) (cB (0 ≤ x3.toInt ∧ x3.toInt ≤ 23)))) (if x4 = 9 then 0 else cB (0 ≤ x4.toInt ∧ x4.toInt < P))) (if x2.toInt ≤ x3.toInt then 0 else -3)
theorem eStands_0 {P L : Int} {x1 x2 x3 x4 : Int32} (h : eStands P L x1 x2 x3 x4 = 0) : cPost P L x1 x2 x3 x4 := by
  unfold eStands at h
  obtain ⟨h1, h2⟩ := cF_0 h
  obtain ⟨h1, h3⟩ := cF_0 h1
  obtain ⟨h1, h4⟩ := cF_0 h1
  obtain ⟨h4, h5⟩ := cF_0 h4
  refine ⟨cB_0 h1, cB_0 h4, cB_0 h5, ?_, ?_⟩
  · by_cases q : x2.toInt ≤ x3.toInt
    · exact q
    · rw [if_neg q] at h2; exact absurd h2 (by decide)
  · by_cases q : x4 = 9
    · left; rw [q]; rfl
    · rw [if_neg q] at h3; right; exact cB_0 h3
/-- the hours of a house are none or of a pane -/
def hOK (h : Nat) (σ : Mem) : Prop := ∀ p, 28 ≤ p → p < 148 → live (wvX h σ) p → (wvX h σ p).toInt = -9 ∨ (0 ≤ (wvX h σ p).toInt ∧ (wvX h σ p).toInt < (wvX h σ 0).toInt)
theorem hOK_l {h : Nat} {V : Nat → Int32} (hv : ∀ p, 28 ≤ p → p < 148 → live V p → (V p).toInt = -9 ∨ (0 ≤ (V p).toInt ∧ (V p).toInt < (V 0).toInt)) {l : Nat} (hl : (l : Int) < (V 1).toInt) (hl5 : l < 5) : ∀ t, t < 24 → (V (28 + 24 * l + t)).toInt = -9 ∨ 0 ≤ (V (28 + 24 * l + t)).toInt := fun t ht => by
  have := hv (28 + 24 * l + t) (by omega) (by omega) ⟨fun _ _ => by rw [ti_nat]; omega, fun q => by omega⟩
  omega
theorem cx_stands {F : Nat} (hF : 1000 ≤ F) {x1 x2 x3 x4 : Int32} {σ : Mem} (hv : wvV (wvX 1 σ)) (b4 : 0 ≤ (σ 70 4).toInt ∧ (σ 70 4).toInt ≤ 7) (b5 : 0 ≤ (σ 70 5).toInt ∧ (σ 70 5).toInt ≤ 8) : pc (f_X3_stands F x1 x2 x3 x4 σ) (cR (eStands (σ 1 0).toInt (σ 1 2).toInt x1 x2 x3 x4) (fun r s => (∀ p, p < 188 → wvX 1 s p = aStand (wvX 1 σ) x1.toNatClampNeg x2.toNatClampNeg x3.toNatClampNeg x4 p) ∧ r = aHours (aStand (wvX 1 σ) x1.toNatClampNeg x2.toNatClampNeg x3.toNatClampNeg x4) x1.toNatClampNeg 24 ∧ wsPutR σ s x1 (σ (1 + 5 + x1.toNatClampNeg))) σ) := by
  have bP : (σ 1 0).toInt ≤ 6 := hv.1.2
  have bL : (σ 1 2).toInt ≤ 5 := hv.2.1.2
  rw [f_X3_stands_e]
  refine pc_be (ax_noLooker bL) (pc_be ax_noHour (pc_be ax_noHour (pc_be ax_firstOf (pc_be ax_firstOf ?_))))
  simp only [j_X3_stands_41_e, j_X3_stands_55_e]
  have good : eStands (σ 1 0).toInt (σ 1 2).toInt x1 x2 x3 x4 = 0 → pc (wt_chk x1 5 (wt_bnd (f_X2_keepRoster F x1 (1 + 5 + Int32.toNatClampNeg x1) σ) fun r2 s3 => wt_bnd (f_X0_post F 1 x1 x2 x3 x4 s3) fun r4 s5 => wt_bnd (f_X0_hoursOf F 1 x1 s5) fun r6 s7 => some (r6, s7))) (fun r s => (∀ p, p < 188 → wvX 1 s p = aStand (wvX 1 σ) x1.toNatClampNeg x2.toNatClampNeg x3.toNatClampNeg x4 p) ∧ r = aHours (aStand (wvX 1 σ) x1.toNatClampNeg x2.toNatClampNeg x3.toNatClampNeg x4) x1.toNatClampNeg 24 ∧ wsPutR σ s x1 (σ (1 + 5 + x1.toNatClampNeg))) := fun e => by
    have hc := eStands_0 e
    have hl1 : x1.toInt = (x1.toNatClampNeg : Int) := by have := hc.1; rw [ti_nat]; omega
    have hl5 : x1.toNatClampNeg < 5 := by have := hc.1; omega
    refine pc_chk (fun _ => pc_bnd (ax_keepRoster (by omega) b4 b5) (fun _ s3 q => ?_))
    obtain ⟨q1, q2, q3, q4, q5⟩ := q
    have hq8 : wsSlot σ < 8 := Nat.mod_lt _ (by decide)
    have o1 : s3 1 = σ 1 := q5 1 (by decide) (by decide) (by decide) (by omega)
    have oX : ∀ p, p < 188 → wvX 1 s3 p = wvX 1 σ p := fun p hp => wvX_eq (fun p hp => by have := wvJ_le p hp; rw [q5 _ (by omega) (by omega) (by omega) (by omega)]) hp
    refine pc_bnd (pc_and (ax_post (by rw [o1]; exact bP) (by rw [o1]; exact bL)) (pc_pf (fr_X0_post hF wt_h1))) (fun r s5 w => ?_)
    have w1 := (w.1.1 (by rw [o1]; exact hc)).2
    have hV : ∀ p, p < 188 → wvX 1 s5 p = aStand (wvX 1 σ) x1.toNatClampNeg x2.toNatClampNeg x3.toNatClampNeg x4 p := fun p hp => by
      rw [w1 p hp]
      unfold aStand
      by_cases e : 28 + 24 * x1.toNatClampNeg + x2.toNatClampNeg ≤ p ∧ p ≤ 28 + 24 * x1.toNatClampNeg + x3.toNatClampNeg
      · rw [if_pos e, if_pos e]
      · rw [if_neg e, if_neg e, oX p hp]
    have hv5 : wvV (wvX 1 s5) := wvV_cg (wvV_aPost hv hc) hV
    have b1 : (wvX 1 s5 1).toInt = (σ 1 2).toInt := by
      rw [hV 1 (by decide)]
      unfold aStand
      rw [if_neg (by omega)]
      rfl
    refine pc_bnd (ax_hoursOf hl1 hl5 (hOK_l (h := 1) hv5.2.2.2.2.1 (by rw [b1, ← hl1]; exact hc.1.2) hl5)) (fun r z y => ?_)
    obtain ⟨rfl, rfl⟩ := y
    refine pc_ret ⟨hV, ?_, wsPutR_k ⟨q1, q2, q3, q4, q5 73 (by decide) (by decide) (by decide) (by omega), fun k a b c => q5 k (by omega) (by omega) (by omega) c⟩ (fun k a b => fr_reg w.2 (by unfold wf_4; omega) (fun c hc => by unfold wf_4; omega))⟩
    have hA : ∀ (A B : Nat → Int32), (∀ p, p < 148 → A p = B p) → ∀ t, t ≤ 24 → aHours A x1.toNatClampNeg t = aHours B x1.toNatClampNeg t := fun A B hAB t => by
      induction t with
      | zero => intro _; rfl
      | succ t ih => intro ht; show aHours A _ t + _ = aHours B _ t + _; rw [ih (by omega), hAB _ (by omega)]
    exact hA _ _ (fun p hp => hV p (by omega)) 24 (by omega)
  have key : ∀ e, e = eStands (σ 1 0).toInt (σ 1 2).toInt x1 x2 x3 x4 → pc (if e = 0 then (wt_chk x1 5 (wt_bnd (f_X2_keepRoster F x1 (1 + 5 + Int32.toNatClampNeg x1) σ) fun r2 s3 => wt_bnd (f_X0_post F 1 x1 x2 x3 x4 s3) fun r4 s5 => wt_bnd (f_X0_hoursOf F 1 x1 s5) fun r6 s7 => some (r6, s7))) else wt_bnd (f_X3_refuse F e σ) fun r8 s9 => some (r8, s9)) (cR (eStands (σ 1 0).toInt (σ 1 2).toInt x1 x2 x3 x4) (fun r s => (∀ p, p < 188 → wvX 1 s p = aStand (wvX 1 σ) x1.toNatClampNeg x2.toNatClampNeg x3.toNatClampNeg x4 p) ∧ r = aHours (aStand (wvX 1 σ) x1.toNatClampNeg x2.toNatClampNeg x3.toNatClampNeg x4) x1.toNatClampNeg 24 ∧ wsPutR σ s x1 (σ (1 + 5 + x1.toNatClampNeg))) σ) := fun e he => by
    subst he; exact cR_end good
  have hE : eStands (σ 1 0).toInt (σ 1 2).toInt x1 x2 x3 x4 = cF (cF (cF (cB (0 ≤ x1.toInt ∧ x1.toInt < (σ 1 2).toInt)) (cF (cB (0 ≤ x2.toInt ∧ x2.toInt ≤ 23)) (cB (0 ≤ x3.toInt ∧ x3.toInt ≤ 23)))) (if x4 = 9 then 0 else cB (0 ≤ x4.toInt ∧ x4.toInt < (σ 1 0).toInt))) (if x2.toInt ≤ x3.toInt then 0 else -3) := rfl
  generalize eStands (σ 1 0).toInt (σ 1 2).toInt x1 x2 x3 x4 = E at *
  generalize cF (cB (0 ≤ x1.toInt ∧ x1.toInt < (σ 1 2).toInt)) (cF (cB (0 ≤ x2.toInt ∧ x2.toInt ≤ 23)) (cB (0 ≤ x3.toInt ∧ x3.toInt ≤ 23))) = a at *
  have last : ∀ b, E = cF b (if x2.toInt ≤ x3.toInt then 0 else -3) → pc (if b = 0 then (if x2 ≤ x3 then (if b = 0 then (wt_chk x1 5 (wt_bnd (f_X2_keepRoster F x1 (1 + 5 + Int32.toNatClampNeg x1) σ) fun r2 s3 => wt_bnd (f_X0_post F 1 x1 x2 x3 x4 s3) fun r4 s5 => wt_bnd (f_X0_hoursOf F 1 x1 s5) fun r6 s7 => some (r6, s7))) else wt_bnd (f_X3_refuse F b σ) fun r8 s9 => some (r8, s9)) else (if (-3 : Int32) = 0 then (wt_chk x1 5 (wt_bnd (f_X2_keepRoster F x1 (1 + 5 + Int32.toNatClampNeg x1) σ) fun r2 s3 => wt_bnd (f_X0_post F 1 x1 x2 x3 x4 s3) fun r4 s5 => wt_bnd (f_X0_hoursOf F 1 x1 s5) fun r6 s7 => some (r6, s7))) else wt_bnd (f_X3_refuse F (-3) σ) fun r8 s9 => some (r8, s9))) else (if b = 0 then (wt_chk x1 5 (wt_bnd (f_X2_keepRoster F x1 (1 + 5 + Int32.toNatClampNeg x1) σ) fun r2 s3 => wt_bnd (f_X0_post F 1 x1 x2 x3 x4 s3) fun r4 s5 => wt_bnd (f_X0_hoursOf F 1 x1 s5) fun r6 s7 => some (r6, s7))) else wt_bnd (f_X3_refuse F b σ) fun r8 s9 => some (r8, s9))) (cR E (fun r s => (∀ p, p < 188 → wvX 1 s p = aStand (wvX 1 σ) x1.toNatClampNeg x2.toNatClampNeg x3.toNatClampNeg x4 p) ∧ r = aHours (aStand (wvX 1 σ) x1.toNatClampNeg x2.toNatClampNeg x3.toNatClampNeg x4) x1.toNatClampNeg 24 ∧ wsPutR σ s x1 (σ (1 + 5 + x1.toNatClampNeg))) σ) := fun b hb => by
    refine pc_ite (fun c => ?_) (fun c => ?_)
    · refine pc_ite (fun c2 => key b ?_) (fun c2 => key (-3) ?_)
      · rw [hb]; unfold cF; rw [if_pos c, if_pos (ti_le c2), c]
      · rw [hb]; unfold cF; rw [if_pos c, if_neg (Int.not_le.mpr (ti_nle c2))]
    · refine key b ?_
      rw [hb]; unfold cF; rw [if_neg c]
  refine pc_ite (fun c => ?_) (fun c => last a ?_)
  · refine pc_ite (fun c9 => last a ?_) (fun c9 => pc_be (ax_noPane bP) (last _ ?_))
    · rw [hE, if_pos c9]
      show _ = cF a _
      unfold cF
      rw [if_pos c, if_pos c]
      by_cases q : x2.toInt ≤ x3.toInt
      · rw [if_pos q]; rfl
      · rw [if_neg q]; rfl
    · rw [hE, if_neg c9]
      unfold cF
      rw [if_pos c]
  · rw [hE]
    unfold cF
    rw [if_neg c, if_neg c]
theorem cx_back {F : Nat} (hF : 1000 ≤ F) {σ : Mem} (b0 : 0 ≤ (σ 1 0).toInt ∧ (σ 1 0).toInt ≤ 6) (b2 : 0 ≤ (σ 1 2).toInt ∧ (σ 1 2).toInt ≤ 5) (b4 : 0 ≤ (σ 70 4).toInt ∧ (σ 70 4).toInt ≤ 7) (b5 : 0 ≤ (σ 70 5).toInt ∧ (σ 70 5).toInt ≤ 8) : pc (f_X3_back F σ) (cR (if (σ 70 5).toInt = 0 then -3 else 0) (fun r s => r = s 70 5 ∧ (s 70 4 = σ 70 4 ∧ (s 70 5).toInt = (σ 70 5).toInt - 1) ∧ wsUndone σ s (wsLast σ)) σ) := by
  rw [f_X3_back_e]
  refine pc_ite (fun c => ?_) (fun c => ?_)
  · have d := ti_eq c
    rw [tz_0] at d
    rw [if_pos d]
    exact pc_bnd ax_refuse (fun r s q => pc_ret ⟨fun n => absurd n (by decide), fun _ => q⟩)
  · have d := ti_ne c
    rw [tz_0] at d
    rw [if_neg d]
    exact pc_bnd (ax_undo hF b0 b2 b4 (by omega)) (fun r s q => pc_ret ⟨fun _ => ⟨rfl, q⟩, fun n => absurd rfl n⟩)
theorem cx_restore {F : Nat} {σ : Mem} : pc (f_X3_restore F σ) (cR (if σ 0 3 = 0 then -3 else 0) (fun r s => (∀ p, p < 188 → wvX 1 s p = wvX 47 σ p) ∧ r = s 1 9 ∧ s 70 5 = 0) σ) := by
  rw [f_X3_restore_e]
  refine pc_ite (fun c => ?_) (fun c => ?_)
  · rw [if_pos c]
    exact pc_bnd ax_refuse (fun r s q => pc_ret ⟨fun n => absurd n (by decide), fun _ => q⟩)
  · rw [if_neg c]
    refine pc_bnd (ax_takeFrom (by omega)) (fun r s q => pc_be ax_forget (pc_ret ⟨fun _ => ⟨fun p hp => ?_, rfl, up2_s⟩, fun n => absurd rfl n⟩))
    rw [wvX_k (by omega) hp]
    exact q p hp
theorem cx_image {F : Nat} {σ : Mem} : pc (f_X3_image F σ) (fun r s => (∀ p, p < 188 → wvX 47 s p = wvX 1 σ p) ∧ r = s 1 9 ∧ s 0 3 = 1) := by
  rw [f_X3_image_e]
  refine pc_bnd (ax_takeFrom (by omega)) (fun r s q => pc_lt (fun s3 h3 => pc_ret ⟨fun p hp => ?_, rfl, by rw [h3, up2_s]⟩))
  rw [h3, wvX_k (by omega) hp]
  exact q p hp
def eDays (D x : Int32) : Int32 := cF (cN x 1 99) (if (D + x).toInt ≤ 9999 then 0 else -6)
theorem cx_days {F : Nat} (hF : 1000 ≤ F) {x : Int32} {σ : Mem} (hv : wvV (wvX 1 σ)) : pc (f_X3_days F x σ) (cR (eDays (σ 1 9) x) (fun r s => (∀ p, p < 188 → wvX 1 s p = aDay (wvX 1 σ) x p) ∧ s 70 5 = 0) σ) := by
  rw [f_X3_days_e]
  refine pc_be ax_outside ?_
  simp only [j_X3_days_30_e]
  have good : eDays (σ 1 9) x = 0 → pc (wt_bnd (f_X0_pass F 1 x σ) fun r1 s2 => wt_bnd (f_X2_forget F s2) fun r3 s4 => wt_bnd (f_X0_held F 1 (0 : Int32) s4) fun r5 s6 => wt_bnd (f_J6_bitCount_0f7a4 F r5 s6) fun r7 s8 => some (r7, s8)) (fun r s => (∀ p, p < 188 → wvX 1 s p = aDay (wvX 1 σ) x p) ∧ s 70 5 = 0) := fun e => by
    obtain ⟨e1, e2⟩ := cF_0 e
    have e3 := cN_0 e1
    rw [tz_1, tz_99] at e3
    have e4 : (σ 1 9 + x).toInt ≤ 9999 := by
      by_cases c : (σ 1 9 + x).toInt ≤ 9999
      · exact c
      · rw [if_neg c] at e2; exact absurd e2 (by decide)
    refine pc_bnd (ax_pass hF wt_h1 hv) (fun r s q => pc_be ax_forget (pc_bnd (pc_pf (fr_X0_held hF wt_h1)) (fun r5 s6 f6 => pc_bnd (pc_pf (fr_J6_bitCount_0f7a4 hF)) (fun r7 s8 f8 => pc_ret ?_))))
    have o : s8 = up2 s 70 5 0 := by
      funext k i
      rw [f8 k i (fun w => by revert w; unfold wf_1; exact id), f6 k i (fun w => by revert w; unfold wf_1; exact id)]
    refine ⟨fun p hp => ?_, by rw [o, up2_s]⟩
    rw [o, wvX_k (by omega) (by omega)]
    exact (q.1 ⟨e3.1, e3.2, e4⟩).2 p hp
  have key : ∀ e, e = eDays (σ 1 9) x → pc (if e = 0 then (wt_bnd (f_X0_pass F 1 x σ) fun r1 s2 => wt_bnd (f_X2_forget F s2) fun r3 s4 => wt_bnd (f_X0_held F 1 (0 : Int32) s4) fun r5 s6 => wt_bnd (f_J6_bitCount_0f7a4 F r5 s6) fun r7 s8 => some (r7, s8)) else wt_bnd (f_X3_refuse F e σ) fun r9 s10 => some (r9, s10)) (cR (eDays (σ 1 9) x) (fun r s => (∀ p, p < 188 → wvX 1 s p = aDay (wvX 1 σ) x p) ∧ s 70 5 = 0) σ) := fun e he => by
    subst he; exact cR_end good
  by_cases c1 : cN x 1 99 = 0
  · rw [if_pos c1]
    by_cases c2 : σ 1 9 + x ≤ 9999
    · rw [if_pos c2]
      refine key _ ?_
      unfold eDays cF
      have := ti_le c2
      rw [tz_9999] at this
      rw [if_pos c1, if_pos this, c1]
    · rw [if_neg c2]
      refine key _ ?_
      unfold eDays cF
      have := ti_nle c2
      rw [tz_9999] at this
      rw [if_pos c1, if_neg (by omega)]
  · rw [if_neg c1]
    refine key _ ?_
    unfold eDays cF
    rw [if_neg c1]
