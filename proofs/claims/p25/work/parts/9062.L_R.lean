section
/-- a step laid in the ring (no roster) -/
def wsPut (σ s : Mem) (w x old : Int32) : Prop := wsRing σ s ∧ s 71 = upd (σ 71) (wsSlot σ) w ∧ s 72 = upd (σ 72) (wsSlot σ) x ∧ s 73 = upd (σ 73) (wsSlot σ) old ∧ ∀ k, 75 ≤ k → k ≤ 82 → s k = σ k
def wsPutR (σ s : Mem) (x : Int32) (f : Nat → Int32) : Prop := wsRing σ s ∧ s 71 = upd (σ 71) (wsSlot σ) 0 ∧ s 72 = upd (σ 72) (wsSlot σ) x ∧ (∀ t, t < 24 → s (75 + wsSlot σ) t = f t) ∧ s 73 = σ 73 ∧ ∀ k, 75 ≤ k → k ≤ 82 → ¬ k = 75 + wsSlot σ → s k = σ k
theorem wsPut_k {σ s z : Mem} {w x old : Int32} (h : wsPut σ s w x old) (e : ∀ k, 70 ≤ k → k ≤ 82 → z k = s k) : wsPut σ z w x old := by
  obtain ⟨h1, h2, h3, h4, h5⟩ := h
  refine ⟨?_, by rw [e 71 (by omega) (by omega)]; exact h2, by rw [e 72 (by omega) (by omega)]; exact h3, by rw [e 73 (by omega) (by omega)]; exact h4, fun k a b => by rw [e k (by omega) b]; exact h5 k a b⟩
  unfold wsRing at h1 ⊢
  rw [e 70 (by omega) (by omega)]
  exact h1
theorem wsPutR_k {σ s z : Mem} {x : Int32} {f : Nat → Int32} (h : wsPutR σ s x f) (e : ∀ k, 70 ≤ k → k ≤ 82 → z k = s k) : wsPutR σ z x f := by
  obtain ⟨h1, h2, h3, h4, h5, h6⟩ := h
  have hq : wsSlot σ < 8 := Nat.mod_lt _ (by decide)
  refine ⟨?_, by rw [e 71 (by omega) (by omega)]; exact h2, by rw [e 72 (by omega) (by omega)]; exact h3, fun t ht => by rw [e _ (by omega) (by omega)]; exact h4 t ht, by rw [e 73 (by omega) (by omega)]; exact h5, fun k a b c => by rw [e k (by omega) b]; exact h6 k a b c⟩
  unfold wsRing at h1 ⊢
  rw [e 70 (by omega) (by omega)]
  exact h1
theorem keep_wvX {σ s : Mem} (ho : ∀ k, k ≠ 70 → k ≠ 71 → k ≠ 72 → k ≠ 73 → s k = σ k) {p : Nat} (hp : p < 188) : wvX 1 s p = wvX 1 σ p := wvX_eq (fun p hp => by have := wvJ_le p hp; rw [ho _ (by omega) (by omega) (by omega) (by omega)]) hp
theorem cx_law {F : Nat} (hF : 1000 ≤ F) {x : Int32} {σ : Mem} (b4 : 0 ≤ (σ 70 4).toInt ∧ (σ 70 4).toInt ≤ 7) (b5 : 0 ≤ (σ 70 5).toInt ∧ (σ 70 5).toInt ≤ 8) : pc (f_X3_law F x σ) (cR (cO x 3) (fun r s => (∀ p, p < 188 → wvX 1 s p = aLaw (wvX 1 σ) x p) ∧ r = σ 1 8 ∧ wsPut σ s 3 0 (σ 1 8)) σ) := by
  rw [f_X3_law_e]
  refine pc_be ax_notBelow (cR_end (fun e => ?_))
  have e4 := cO_0 e
  rw [tz_3] at e4
  refine pc_bnd (ax_keep b4 b5) (fun _ s4 q => pc_bnd (pc_and ax_rule (pc_pf (fr_X0_rule hF wt_h1))) (fun r s w => pc_ret ⟨fun p hp => ?_, rfl, ?_⟩))
  · rw [(w.1.1 ⟨e4.1, by omega⟩).2 p hp]
    unfold aLaw
    exact upd_cg (keep_wvX q.2.2.2.2 hp) rfl
  · exact wsPut_k ⟨q.1, q.2.1, q.2.2.1, q.2.2.2.1, fun k a b => q.2.2.2.2 k (by omega) (by omega) (by omega) (by omega)⟩ (fun k a b => fr_reg w.2 (by unfold wf_7; omega) (fun c hc => by unfold wf_7; omega))
theorem cx_worth {F : Nat} (hF : 1000 ≤ F) {x1 x2 : Int32} {σ : Mem} (b4 : 0 ≤ (σ 70 4).toInt ∧ (σ 70 4).toInt ≤ 7) (b5 : 0 ≤ (σ 70 5).toInt ∧ (σ 70 5).toInt ≤ 8) : pc (f_X3_worth F x1 x2 σ) (cR (cF (cB (0 ≤ x1.toInt ∧ x1.toInt ≤ 7)) (cN x2 0 9)) (fun r s => (∀ p, p < 188 → wvX 1 s p = aWorth (wvX 1 σ) x1 x2 p) ∧ r = σ 17 x1.toNatClampNeg ∧ wsPut σ s 2 x1 (σ 17 x1.toNatClampNeg)) σ) := by
  rw [f_X3_worth_e]
  refine pc_be ax_noView (pc_be ax_outside (pc_be ax_firstOf (cR_end (fun e => ?_))))
  obtain ⟨e1, e2⟩ := cF_0 e
  have e3 := cB_0 e1
  have e4 := cN_0 e2
  rw [tz_0, tz_9] at e4
  refine pc_chk (fun _ => pc_lt (fun z8 h8 => pc_bnd (ax_keep b4 b5) (fun _ s4 q => pc_bnd (pc_and ax_price (pc_pf (fr_X0_price hF wt_h1))) (fun r s w => pc_ret ⟨fun p hp => ?_, h8, ?_⟩))))
  · rw [(w.1.1 ⟨e3.1, e3.2, e4.1, e4.2⟩).2 p hp]
    unfold aWorth
    exact upd_cg (keep_wvX q.2.2.2.2 hp) rfl
  · rw [h8] at q
    exact wsPut_k ⟨q.1, q.2.1, q.2.2.1, q.2.2.2.1, fun k a b => q.2.2.2.2 k (by omega) (by omega) (by omega) (by omega)⟩ (fun k a b => fr_reg w.2 (by unfold wf_6; omega) (fun c hc => by unfold wf_6; omega))
theorem ax_and1 (w : Int32) : w &&& (1 : Int32) = 0 ∨ w &&& (1 : Int32) = 1 := by
  have h : (w &&& (1 : Int32)).toBitVec.toNat = w.toBitVec.toNat % 2 := by
    rw [Int32.toBitVec_and, BitVec.toNat_and]
    exact Nat.and_one_is_mod _
  have h2 : w.toBitVec.toNat % 2 < 2 := Nat.mod_lt _ (by decide)
  rcases (show w.toBitVec.toNat % 2 = 0 ∨ w.toBitVec.toNat % 2 = 1 by omega) with e | e
  · left
    rw [e] at h
    exact Int32.toBitVec_inj.mp (BitVec.eq_of_toNat_eq h)
  · right
    rw [e] at h
    exact Int32.toBitVec_inj.mp (BitVec.eq_of_toNat_eq h)
theorem ax_shows {F h : Nat} {x1 x2 : Int32} {σ : Mem} (b : (σ h 0).toInt ≤ 6) (h1 : 0 ≤ x1.toInt ∧ x1.toInt < (σ h 0).toInt) (h2 : 0 ≤ x2.toInt ∧ x2.toInt ≤ 7) : pc (f_X0_shows F h x1 x2 σ) (fun r s => s = σ ∧ r = ((σ (h + 1) x1.toNatClampNeg) >>> (x2 &&& 31)) &&& (1 : Int32)) := by
  rw [f_X0_shows_e]
  refine pc_be (ax_isPane b) ?_
  rw [if_pos h1, if_neg (by decide)]
  refine pc_be ax_isView ?_
  rw [if_pos h2, if_neg (by decide)]
  refine pc_chk (fun _ => pc_ite (fun c => pc_ret ⟨rfl, c.symm⟩) (fun c => ?_))
  rw [j_X0_shows_33_e]
  refine pc_ret ⟨rfl, ?_⟩
  rcases ax_and1 ((σ (h + 1) x1.toNatClampNeg) >>> (x2 &&& 31)) with e | e
  · exact e.symm
  · exact absurd e c
theorem cx_wall {F : Nat} (hF : 1000 ≤ F) {x1 x2 : Int32} {σ : Mem} (b : (σ 1 0).toInt ≤ 6) (b4 : 0 ≤ (σ 70 4).toInt ∧ (σ 70 4).toInt ≤ 7) (b5 : 0 ≤ (σ 70 5).toInt ∧ (σ 70 5).toInt ≤ 8) : pc (f_X3_wall F x1 x2 σ) (cR (cF (cB (0 ≤ x1.toInt ∧ x1.toInt < (σ 1 0).toInt)) (cB (0 ≤ x2.toInt ∧ x2.toInt ≤ 7))) (fun r s => (∀ p, p < 188 → wvX 1 s p = aWall (wvX 1 σ) x1 x2 p) ∧ r = ((s 2 x1.toNatClampNeg) >>> (x2 &&& 31)) &&& (1 : Int32) ∧ wsPut σ s 1 x1 (σ 2 x1.toNatClampNeg)) σ) := by
  rw [f_X3_wall_e]
  refine pc_be (ax_noPane b) (pc_be ax_noView (pc_be ax_firstOf (cR_end (fun e => ?_))))
  obtain ⟨e1, e2⟩ := cF_0 e
  have e3 := cB_0 e1
  have e4 := cB_0 e2
  refine pc_chk (fun _ => pc_bnd (ax_keep b4 b5) (fun _ s4 q => ?_))
  have q1 : s4 1 = σ 1 := q.2.2.2.2 1 (by decide) (by decide) (by decide) (by decide)
  refine pc_bnd (pc_and (ax_flip (by rw [q1]; exact b)) (pc_pf (fr_X0_flip hF wt_h1))) (fun r s w => ?_)
  have w1 := (w.1.1 ⟨e3.1, by rw [q1]; exact e3.2, e4.1, e4.2⟩).2
  have hV : ∀ p, p < 188 → wvX 1 s p = aWall (wvX 1 σ) x1 x2 p := fun p hp => by
    rw [w1 p hp]
    unfold aWall
    have hn : x1.toNatClampNeg < 6 := tn_lt e3.1 (by omega)
    exact upd_cg (keep_wvX q.2.2.2.2 hp) (by rw [keep_wvX q.2.2.2.2 (by omega)])
  have p1 : s 1 0 = σ 1 0 := by
    have := hV 0 (by decide)
    unfold aWall at this
    rw [wv_un (by omega)] at this
    exact this
  refine pc_bnd (ax_shows (by rw [p1]; exact b) (by rw [p1]; exact e3) e4) (fun r z y => ?_)
  obtain ⟨rfl, y⟩ := y
  have hP : wsPut σ z 1 x1 (σ 2 x1.toNatClampNeg) := wsPut_k ⟨q.1, q.2.1, q.2.2.1, q.2.2.2.1, fun k a b => q.2.2.2.2 k (by omega) (by omega) (by omega) (by omega)⟩ (fun k a b => fr_reg w.2 (by unfold wf_5; omega) (fun c hc => by unfold wf_5; omega))
  refine pc_ite (fun c => pc_ret ⟨hV, ?_, hP⟩) (fun c => pc_ret ⟨hV, ?_, hP⟩)
  · rw [← c, y]
  · rcases ax_and1 ((z 2 x1.toNatClampNeg) >>> (x2 &&& 31)) with e | e
    · exact absurd (y.trans e) c
    · exact e.symm
def aHours (V : Nat → Int32) (l : Nat) : Nat → Int32
  | 0 => 0
  | t + 1 => aHours V l t + (if (V (28 + 24 * l + t)).toInt < 0 then 0 else 1)
theorem ax_hoursOf_4 {F h : Nat} {x1 : Int32} {σ : Mem} {l : Nat} (hl : x1.toInt = (l : Int)) (hl5 : l < 5) (hv : ∀ t, t < 24 → (wvX h σ (28 + 24 * l + t)).toInt = -9 ∨ 0 ≤ (wvX h σ (28 + 24 * l + t)).toInt) : ∀ (N t : Nat) (x2 x3 : Int32), x3.toInt = (t : Int) → t ≤ 24 → x2 = aHours (wvX h σ) l t → pc (lp_X0_hoursOf_4 F h x1 N x2 x3 σ) (fun r s => r = aHours (wvX h σ) l 24 ∧ s = σ) := by
  intro N
  induction N with
  | zero => intro t x2 x3 h1 h2 h3; exact pc_none rfl
  | succ N ih =>
    intro t x2 x3 h1 h2 h3
    rw [lp_X0_hoursOf_4_s]
    simp only [j_X0_hoursOf_26_e]
    refine pc_ite (fun c => ?_) (fun c => pc_chk (fun _ => pc_chk (fun _ => ?_)))
    · have d := ti_le c
      rw [tz_24] at d
      refine pc_ret ⟨?_, rfl⟩
      rw [h3, show t = 24 by omega]
    have d := ti_nle c
    rw [tz_24] at d
    rw [tn_int hl, tn_int h1]
    have hj := wvJI_5 l hl5 t (by omega)
    have ew : wvX h σ (28 + 24 * l + t) = wvN (σ (h + 5 + l) t) := by
      unfold wvX
      rw [wvE_i (by omega), ← hj.1, ← hj.2, show h + (5 + l) = h + 5 + l by omega]
    have hvt := hv t (by omega)
    rw [ew] at hvt
    refine pc_ite (fun c9 => ih (t + 1) _ _ (ti_nx h1 (by omega)) (by omega) ?_) (fun c9 => ih (t + 1) _ _ (ti_nx h1 (by omega)) (by omega) ?_)
    · show x2 = aHours (wvX h σ) l t + _
      rw [ew, c9, if_pos (by decide), h3, Int32.add_zero]
    · show x2 + 1 = aHours (wvX h σ) l t + _
      have hn : ¬ (wvN (σ (h + 5 + l) t)).toInt < 0 := fun q => by
        rcases hvt with e | e
        · unfold wvN at e
          rw [if_neg c9] at e
          by_cases e2 : σ (h + 5 + l) t = -9
          · rw [if_pos e2] at e; exact absurd e (by decide)
          · rw [if_neg e2] at e; exact e2 (Int32.toInt_inj.mp (by rw [e]; rfl))
        · omega
      rw [ew, if_neg hn, h3]
theorem ax_hoursOf {F h : Nat} {x1 : Int32} {σ : Mem} {l : Nat} (hl : x1.toInt = (l : Int)) (hl5 : l < 5) (hv : ∀ t, t < 24 → (wvX h σ (28 + 24 * l + t)).toInt = -9 ∨ 0 ≤ (wvX h σ (28 + 24 * l + t)).toInt) : pc (f_X0_hoursOf F h x1 σ) (fun r s => r = aHours (wvX h σ) l 24 ∧ s = σ) := by
  rw [f_X0_hoursOf_e]
  exact ax_hoursOf_4 hl hl5 hv F 0 0 0 rfl (by omega) rfl
def eStands (P L : Int) (x1 x2 x3 x4 : Int32) : Int32 := cF (cF (cF (cB (0 ≤ x1.toInt ∧ x1.toInt < L)) (cF (cB (0 ≤ x2.toInt ∧ x2.toInt ≤ 23)) (cB (0 ≤ x3.toInt ∧ x3.toInt ≤ 23)))) (if x4 = 9 then 0 else cB (0 ≤ x4.toInt ∧ x4.toInt < P))) (if x2.toInt ≤ x3.toInt then 0 else -3)
theorem eStands_0 {P L : Int} {x1 x2 x3 x4 : Int32} (h : eStands P L x1 x2 x3 x4 = 0) : cPost P L x1 x2 x3 x4 := by
  unfold eStands at h
  obtain ⟨h1, h2⟩ := cF_0 h
  obtain ⟨h1, h3⟩ := cF_0 h1
  obtain ⟨h1, h4⟩ := cF_0 h1
  obtain ⟨h4, h5⟩ := cF_0 h4
  refine ⟨cB_0 h1, cB_0 h4, cB_0 h5, ?_, ?_⟩
  · by_cases q : x2.toInt ≤ x3.toInt
    · exact q
    · rw [if_neg q] at h2; exact absurd h2 (by decide)
  · by_cases q : x4 = 9
    · left; rw [q]; rfl
    · rw [if_neg q] at h3; right; exact cB_0 h3
/-- the hours of a house are none or of a pane -/
def hOK (h : Nat) (σ : Mem) : Prop := ∀ p, 28 ≤ p → p < 148 → live (wvX h σ) p → (wvX h σ p).toInt = -9 ∨ (0 ≤ (wvX h σ p).toInt ∧ (wvX h σ p).toInt < (wvX h σ 0).toInt)
theorem hOK_l {h : Nat} {V : Nat → Int32} (hv : ∀ p, 28 ≤ p → p < 148 → live V p → (V p).toInt = -9 ∨ (0 ≤ (V p).toInt ∧ (V p).toInt < (V 0).toInt)) {l : Nat} (hl : (l : Int) < (V 1).toInt) (hl5 : l < 5) : ∀ t, t < 24 → (V (28 + 24 * l + t)).toInt = -9 ∨ 0 ≤ (V (28 + 24 * l + t)).toInt := fun t ht => by
  have := hv (28 + 24 * l + t) (by omega) (by omega) ⟨fun _ _ => by rw [ti_nat]; omega, fun q => by omega⟩
  omega
theorem cx_stands {F : Nat} (hF : 1000 ≤ F) {x1 x2 x3 x4 : Int32} {σ : Mem} (hv : wvV (wvX 1 σ)) (b4 : 0 ≤ (σ 70 4).toInt ∧ (σ 70 4).toInt ≤ 7) (b5 : 0 ≤ (σ 70 5).toInt ∧ (σ 70 5).toInt ≤ 8) : pc (f_X3_stands F x1 x2 x3 x4 σ) (cR (eStands (σ 1 0).toInt (σ 1 2).toInt x1 x2 x3 x4) (fun r s => (∀ p, p < 188 → wvX 1 s p = aStand (wvX 1 σ) x1.toNatClampNeg x2.toNatClampNeg x3.toNatClampNeg x4 p) ∧ r = aHours (aStand (wvX 1 σ) x1.toNatClampNeg x2.toNatClampNeg x3.toNatClampNeg x4) x1.toNatClampNeg 24 ∧ wsPutR σ s x1 (σ (1 + 5 + x1.toNatClampNeg))) σ) := by
  have bP : (σ 1 0).toInt ≤ 6 := hv.1.2
  have bL : (σ 1 2).toInt ≤ 5 := hv.2.1.2
  rw [f_X3_stands_e]
  refine pc_be (ax_noLooker bL) (pc_be ax_noHour (pc_be ax_noHour (pc_be ax_firstOf (pc_be ax_firstOf ?_))))
  simp only [j_X3_stands_41_e, j_X3_stands_55_e]
  have good : eStands (σ 1 0).toInt (σ 1 2).toInt x1 x2 x3 x4 = 0 → pc (wt_chk x1 5 (wt_bnd (f_X2_keepRoster F x1 (1 + 5 + Int32.toNatClampNeg x1) σ) fun r2 s3 => wt_bnd (f_X0_post F 1 x1 x2 x3 x4 s3) fun r4 s5 => wt_bnd (f_X0_hoursOf F 1 x1 s5) fun r6 s7 => some (r6, s7))) (fun r s => (∀ p, p < 188 → wvX 1 s p = aStand (wvX 1 σ) x1.toNatClampNeg x2.toNatClampNeg x3.toNatClampNeg x4 p) ∧ r = aHours (aStand (wvX 1 σ) x1.toNatClampNeg x2.toNatClampNeg x3.toNatClampNeg x4) x1.toNatClampNeg 24 ∧ wsPutR σ s x1 (σ (1 + 5 + x1.toNatClampNeg))) := fun e => by
    have hc := eStands_0 e
    have hl1 : x1.toInt = (x1.toNatClampNeg : Int) := by have := hc.1; rw [ti_nat]; omega
    have hl5 : x1.toNatClampNeg < 5 := by have := hc.1; omega
    refine pc_chk (fun _ => pc_bnd (ax_keepRoster (by omega) b4 b5) (fun _ s3 q => ?_))
    obtain ⟨q1, q2, q3, q4, q5⟩ := q
    have hq8 : wsSlot σ < 8 := Nat.mod_lt _ (by decide)
    have o1 : s3 1 = σ 1 := q5 1 (by decide) (by decide) (by decide) (by omega)
    have oX : ∀ p, p < 188 → wvX 1 s3 p = wvX 1 σ p := fun p hp => wvX_eq (fun p hp => by have := wvJ_le p hp; rw [q5 _ (by omega) (by omega) (by omega) (by omega)]) hp
    refine pc_bnd (pc_and (ax_post (by rw [o1]; exact bP) (by rw [o1]; exact bL)) (pc_pf (fr_X0_post hF wt_h1))) (fun r s5 w => ?_)
    have w1 := (w.1.1 (by rw [o1]; exact hc)).2
    have hV : ∀ p, p < 188 → wvX 1 s5 p = aStand (wvX 1 σ) x1.toNatClampNeg x2.toNatClampNeg x3.toNatClampNeg x4 p := fun p hp => by
      rw [w1 p hp]
      unfold aStand
      by_cases e : 28 + 24 * x1.toNatClampNeg + x2.toNatClampNeg ≤ p ∧ p ≤ 28 + 24 * x1.toNatClampNeg + x3.toNatClampNeg
      · rw [if_pos e, if_pos e]
      · rw [if_neg e, if_neg e, oX p hp]
    have hv5 : wvV (wvX 1 s5) := wvV_cg (wvV_aPost hv hc) hV
    have b1 : (wvX 1 s5 1).toInt = (σ 1 2).toInt := by
      rw [hV 1 (by decide)]
      unfold aStand
      rw [if_neg (by omega)]
      rfl
    refine pc_bnd (ax_hoursOf hl1 hl5 (hOK_l (h := 1) hv5.2.2.2.2.1 (by rw [b1, ← hl1]; exact hc.1.2) hl5)) (fun r z y => ?_)
    obtain ⟨rfl, rfl⟩ := y
    refine pc_ret ⟨hV, ?_, wsPutR_k ⟨q1, q2, q3, q4, q5 73 (by decide) (by decide) (by decide) (by omega), fun k a b c => q5 k (by omega) (by omega) (by omega) c⟩ (fun k a b => fr_reg w.2 (by unfold wf_4; omega) (fun c hc => by unfold wf_4; omega))⟩
    have hA : ∀ (A B : Nat → Int32), (∀ p, p < 148 → A p = B p) → ∀ t, t ≤ 24 → aHours A x1.toNatClampNeg t = aHours B x1.toNatClampNeg t := fun A B hAB t => by
      induction t with
      | zero => intro _; rfl
      | succ t ih => intro ht; show aHours A _ t + _ = aHours B _ t + _; rw [ih (by omega), hAB _ (by omega)]
    exact hA _ _ (fun p hp => hV p (by omega)) 24 (by omega)
  have key : ∀ e, e = eStands (σ 1 0).toInt (σ 1 2).toInt x1 x2 x3 x4 → pc (if e = 0 then (wt_chk x1 5 (wt_bnd (f_X2_keepRoster F x1 (1 + 5 + Int32.toNatClampNeg x1) σ) fun r2 s3 => wt_bnd (f_X0_post F 1 x1 x2 x3 x4 s3) fun r4 s5 => wt_bnd (f_X0_hoursOf F 1 x1 s5) fun r6 s7 => some (r6, s7))) else wt_bnd (f_X3_refuse F e σ) fun r8 s9 => some (r8, s9)) (cR (eStands (σ 1 0).toInt (σ 1 2).toInt x1 x2 x3 x4) (fun r s => (∀ p, p < 188 → wvX 1 s p = aStand (wvX 1 σ) x1.toNatClampNeg x2.toNatClampNeg x3.toNatClampNeg x4 p) ∧ r = aHours (aStand (wvX 1 σ) x1.toNatClampNeg x2.toNatClampNeg x3.toNatClampNeg x4) x1.toNatClampNeg 24 ∧ wsPutR σ s x1 (σ (1 + 5 + x1.toNatClampNeg))) σ) := fun e he => by
    subst he; exact cR_end good
  have hE : eStands (σ 1 0).toInt (σ 1 2).toInt x1 x2 x3 x4 = cF (cF (cF (cB (0 ≤ x1.toInt ∧ x1.toInt < (σ 1 2).toInt)) (cF (cB (0 ≤ x2.toInt ∧ x2.toInt ≤ 23)) (cB (0 ≤ x3.toInt ∧ x3.toInt ≤ 23)))) (if x4 = 9 then 0 else cB (0 ≤ x4.toInt ∧ x4.toInt < (σ 1 0).toInt))) (if x2.toInt ≤ x3.toInt then 0 else -3) := rfl
  generalize eStands (σ 1 0).toInt (σ 1 2).toInt x1 x2 x3 x4 = E at *
  generalize cF (cB (0 ≤ x1.toInt ∧ x1.toInt < (σ 1 2).toInt)) (cF (cB (0 ≤ x2.toInt ∧ x2.toInt ≤ 23)) (cB (0 ≤ x3.toInt ∧ x3.toInt ≤ 23))) = a at *
  have last : ∀ b, E = cF b (if x2.toInt ≤ x3.toInt then 0 else -3) → pc (if b = 0 then (if x2 ≤ x3 then (if b = 0 then (wt_chk x1 5 (wt_bnd (f_X2_keepRoster F x1 (1 + 5 + Int32.toNatClampNeg x1) σ) fun r2 s3 => wt_bnd (f_X0_post F 1 x1 x2 x3 x4 s3) fun r4 s5 => wt_bnd (f_X0_hoursOf F 1 x1 s5) fun r6 s7 => some (r6, s7))) else wt_bnd (f_X3_refuse F b σ) fun r8 s9 => some (r8, s9)) else (if (-3 : Int32) = 0 then (wt_chk x1 5 (wt_bnd (f_X2_keepRoster F x1 (1 + 5 + Int32.toNatClampNeg x1) σ) fun r2 s3 => wt_bnd (f_X0_post F 1 x1 x2 x3 x4 s3) fun r4 s5 => wt_bnd (f_X0_hoursOf F 1 x1 s5) fun r6 s7 => some (r6, s7))) else wt_bnd (f_X3_refuse F (-3) σ) fun r8 s9 => some (r8, s9))) else (if b = 0 then (wt_chk x1 5 (wt_bnd (f_X2_keepRoster F x1 (1 + 5 + Int32.toNatClampNeg x1) σ) fun r2 s3 => wt_bnd (f_X0_post F 1 x1 x2 x3 x4 s3) fun r4 s5 => wt_bnd (f_X0_hoursOf F 1 x1 s5) fun r6 s7 => some (r6, s7))) else wt_bnd (f_X3_refuse F b σ) fun r8 s9 => some (r8, s9))) (cR E (fun r s => (∀ p, p < 188 → wvX 1 s p = aStand (wvX 1 σ) x1.toNatClampNeg x2.toNatClampNeg x3.toNatClampNeg x4 p) ∧ r = aHours (aStand (wvX 1 σ) x1.toNatClampNeg x2.toNatClampNeg x3.toNatClampNeg x4) x1.toNatClampNeg 24 ∧ wsPutR σ s x1 (σ (1 + 5 + x1.toNatClampNeg))) σ) := fun b hb => by
    refine pc_ite (fun c => ?_) (fun c => ?_)
    · refine pc_ite (fun c2 => key b ?_) (fun c2 => key (-3) ?_)
      · rw [hb]; unfold cF; rw [if_pos c, if_pos (ti_le c2), c]
      · rw [hb]; unfold cF; rw [if_pos c, if_neg (Int.not_le.mpr (ti_nle c2))]
    · refine key b ?_
      rw [hb]; unfold cF; rw [if_neg c]
  refine pc_ite (fun c => ?_) (fun c => last a ?_)
  · refine pc_ite (fun c9 => last a ?_) (fun c9 => pc_be (ax_noPane bP) (last _ ?_))
    · rw [hE, if_pos c9]
      show _ = cF a _
      unfold cF
      rw [if_pos c, if_pos c]
      by_cases q : x2.toInt ≤ x3.toInt
      · rw [if_pos q]; rfl
      · rw [if_neg q]; rfl
    · rw [hE, if_neg c9]
      unfold cF
      rw [if_pos c]
  · rw [hE]
    unfold cF
    rw [if_neg c, if_neg c]
theorem cx_back {F : Nat} (hF : 1000 ≤ F) {σ : Mem} (b0 : 0 ≤ (σ 1 0).toInt ∧ (σ 1 0).toInt ≤ 6) (b2 : 0 ≤ (σ 1 2).toInt ∧ (σ 1 2).toInt ≤ 5) (b4 : 0 ≤ (σ 70 4).toInt ∧ (σ 70 4).toInt ≤ 7) (b5 : 0 ≤ (σ 70 5).toInt ∧ (σ 70 5).toInt ≤ 8) : pc (f_X3_back F σ) (cR (if (σ 70 5).toInt = 0 then -3 else 0) (fun r s => r = s 70 5 ∧ (s 70 4 = σ 70 4 ∧ (s 70 5).toInt = (σ 70 5).toInt - 1) ∧ wsUndone σ s (wsLast σ)) σ) := by
  rw [f_X3_back_e]
  refine pc_ite (fun c => ?_) (fun c => ?_)
  · have d := ti_eq c
    rw [tz_0] at d
    rw [if_pos d]
    exact pc_bnd ax_refuse (fun r s q => pc_ret ⟨fun n => absurd n (by decide), fun _ => q⟩)
  · have d := ti_ne c
    rw [tz_0] at d
    rw [if_neg d]
    exact pc_bnd (ax_undo hF b0 b2 b4 (by omega)) (fun r s q => pc_ret ⟨fun _ => ⟨rfl, q⟩, fun n => absurd rfl n⟩)
theorem cx_restore {F : Nat} {σ : Mem} : pc (f_X3_restore F σ) (cR (if σ 0 3 = 0 then -3 else 0) (fun r s => (∀ p, p < 188 → wvX 1 s p = wvX 47 σ p) ∧ r = s 1 9 ∧ s 70 5 = 0) σ) := by
  rw [f_X3_restore_e]
  refine pc_ite (fun c => ?_) (fun c => ?_)
  · rw [if_pos c]
    exact pc_bnd ax_refuse (fun r s q => pc_ret ⟨fun n => absurd n (by decide), fun _ => q⟩)
  · rw [if_neg c]
    refine pc_bnd (ax_takeFrom (by omega)) (fun r s q => pc_be ax_forget (pc_ret ⟨fun _ => ⟨fun p hp => ?_, rfl, up2_s⟩, fun n => absurd rfl n⟩))
    rw [wvX_k (by omega) hp]
    exact q p hp
theorem cx_image {F : Nat} {σ : Mem} : pc (f_X3_image F σ) (fun r s => (∀ p, p < 188 → wvX 47 s p = wvX 1 σ p) ∧ r = s 1 9 ∧ s 0 3 = 1) := by
  rw [f_X3_image_e]
  refine pc_bnd (ax_takeFrom (by omega)) (fun r s q => pc_lt (fun s3 h3 => pc_ret ⟨fun p hp => ?_, rfl, by rw [h3, up2_s]⟩))
  rw [h3, wvX_k (by omega) hp]
  exact q p hp
def eDays (D x : Int32) : Int32 := cF (cN x 1 99) (if (D + x).toInt ≤ 9999 then 0 else -6)
theorem cx_days {F : Nat} (hF : 1000 ≤ F) {x : Int32} {σ : Mem} (hv : wvV (wvX 1 σ)) : pc (f_X3_days F x σ) (cR (eDays (σ 1 9) x) (fun r s => (∀ p, p < 188 → wvX 1 s p = aDay (wvX 1 σ) x p) ∧ s 70 5 = 0) σ) := by
  rw [f_X3_days_e]
  refine pc_be ax_outside ?_
  simp only [j_X3_days_30_e]
  have good : eDays (σ 1 9) x = 0 → pc (wt_bnd (f_X0_pass F 1 x σ) fun r1 s2 => wt_bnd (f_X2_forget F s2) fun r3 s4 => wt_bnd (f_X0_held F 1 (0 : Int32) s4) fun r5 s6 => wt_bnd (f_J6_bitCount_0f7a4 F r5 s6) fun r7 s8 => some (r7, s8)) (fun r s => (∀ p, p < 188 → wvX 1 s p = aDay (wvX 1 σ) x p) ∧ s 70 5 = 0) := fun e => by
    obtain ⟨e1, e2⟩ := cF_0 e
    have e3 := cN_0 e1
    rw [tz_1, tz_99] at e3
    have e4 : (σ 1 9 + x).toInt ≤ 9999 := by
      by_cases c : (σ 1 9 + x).toInt ≤ 9999
      · exact c
      · rw [if_neg c] at e2; exact absurd e2 (by decide)
    refine pc_bnd (ax_pass hF wt_h1 hv) (fun r s q => pc_be ax_forget (pc_bnd (pc_pf (fr_X0_held hF wt_h1)) (fun r5 s6 f6 => pc_bnd (pc_pf (fr_J6_bitCount_0f7a4 hF)) (fun r7 s8 f8 => pc_ret ?_))))
    have o : s8 = up2 s 70 5 0 := by
      funext k i
      rw [f8 k i (fun w => by revert w; unfold wf_1; exact id), f6 k i (fun w => by revert w; unfold wf_1; exact id)]
    refine ⟨fun p hp => ?_, by rw [o, up2_s]⟩
    rw [o, wvX_k (by omega) (by omega)]
    exact (q.1 ⟨e3.1, e3.2, e4⟩).2 p hp
  have key : ∀ e, e = eDays (σ 1 9) x → pc (if e = 0 then (wt_bnd (f_X0_pass F 1 x σ) fun r1 s2 => wt_bnd (f_X2_forget F s2) fun r3 s4 => wt_bnd (f_X0_held F 1 (0 : Int32) s4) fun r5 s6 => wt_bnd (f_J6_bitCount_0f7a4 F r5 s6) fun r7 s8 => some (r7, s8)) else wt_bnd (f_X3_refuse F e σ) fun r9 s10 => some (r9, s10)) (cR (eDays (σ 1 9) x) (fun r s => (∀ p, p < 188 → wvX 1 s p = aDay (wvX 1 σ) x p) ∧ s 70 5 = 0) σ) := fun e he => by
    subst he; exact cR_end good
  by_cases c1 : cN x 1 99 = 0
  · rw [if_pos c1]
    by_cases c2 : σ 1 9 + x ≤ 9999
    · rw [if_pos c2]
      refine key _ ?_
      unfold eDays cF
      have := ti_le c2
      rw [tz_9999] at this
      rw [if_pos c1, if_pos this, c1]
    · rw [if_neg c2]
      refine key _ ?_
      unfold eDays cF
      have := ti_nle c2
      rw [tz_9999] at this
      rw [if_pos c1, if_neg (by omega)]
  · rw [if_neg c1]
    refine key _ ?_
    unfold eDays cF
    rw [if_neg c1]
end
section
/-! the reference's calls that change its house -/
def sg (e : Int32) : Prop := e = 0 ∨ e.toInt < 0
theorem sg_cN {x a b : Int32} : sg (cN x a b) := by
  unfold cN
  by_cases q : a.toInt ≤ x.toInt
  · rw [if_pos q]
    by_cases r : x.toInt ≤ b.toInt
    · rw [if_pos r]; exact Or.inl rfl
    · rw [if_neg r]; exact Or.inr (by decide)
  · rw [if_neg q]; exact Or.inr (by decide)
theorem sg_cB {c : Prop} [Decidable c] : sg (cB c) := by
  by_cases q : c
  · rw [cB_t q]; exact Or.inl rfl
  · rw [cB_f q]; exact Or.inr (by decide)
theorem sg_cO {x n : Int32} : sg (cO x n) := by
  unfold cO
  by_cases q : 0 ≤ x.toInt ∧ x.toInt < n.toInt
  · rw [if_pos q]; exact Or.inl rfl
  · rw [if_neg q]; exact Or.inr (by decide)
theorem sg_i {c : Prop} [Decidable c] {n : Int32} (h : n.toInt < 0) : sg (if c then 0 else n) := by
  by_cases q : c
  · rw [if_pos q]; exact Or.inl rfl
  · rw [if_neg q]; exact Or.inr h
theorem sg_cF {a b : Int32} (h1 : sg a) (h2 : sg b) : sg (cF a b) := by
  unfold cF
  by_cases q : a = 0
  · rw [if_pos q]; exact h2
  · rw [if_neg q]; exact h1
theorem mR_end {F : Nat} {e : Int32} (he : sg e) {G : Int32 → Mem → Prop} {σ s1 : Mem} (h1 : ∀ k i, ¬ (k = 101 ∧ i = 10) → s1 k i = σ k i) {A : Option (Int32 × Mem)} (h : e = 0 → pc A G) : pc (if 0 ≤ e then A else wt_bnd (f_X4_refuse F e s1) fun r s => some (r, s)) (mR e G σ) := by
  refine pc_ite (fun c => ?_) (fun c => pc_bnd mx_refuse (fun r s q => pc_ret ⟨fun n => absurd (by rw [n]; decide) c, fun _ => ⟨q.1, fun k i hk hi => by rw [q.2 k hk]; exact h1 k i hi⟩⟩))
  have d := ti_le c
  rw [tz_0] at d
  have e0 : e = 0 := by
    rcases he with q | q
    · exact q
    · omega
  exact pc_mono (h e0) (fun a s g => ⟨fun _ => g, fun n => absurd e0 n⟩)
theorem mR_ref {F : Nat} {e : Int32} (he : ¬ e = 0) {G : Int32 → Mem → Prop} {σ s1 : Mem} (h1 : ∀ k i, ¬ (k = 101 ∧ i = 10) → s1 k i = σ k i) : pc (wt_bnd (f_X4_refuse F e s1) fun r s => some (r, s)) (mR e G σ) := pc_bnd mx_refuse (fun r s q => pc_ret ⟨fun n => absurd n he, fun _ => ⟨q.1, fun k i hk hi => by rw [q.2 k hk]; exact h1 k i hi⟩⟩)
theorem th_k {σ : Mem} : ∀ k i, ¬ (k = 101 ∧ i = 10) → up2 σ 101 10 0 k i = σ k i := fun k i h => by rw [wm_key, if_neg h]
theorem th_V {σ : Mem} {p : Nat} (hp : p < 188) : wvM (up2 σ 101 10 0) p = wvM σ p := wvM_no (by omega) (by omega) hp
theorem cm_pane {F : Nat} {x : Int32} {σ : Mem} (b : 0 ≤ (σ 101 1).toInt ∧ (σ 101 1).toInt ≤ 6) : pc (f_X4_pane F x σ) (mR (ePane (σ 101 1) x) (fun r s => (∀ p, p < 188 → wvM s p = aPane (wvM σ) x p) ∧ r = s 101 1 - (1 : Int32) ∧ s 101 30 = 0) σ) := by
  rw [f_X4_pane_e]
  refine pc_lt (fun s7 h7 => pc_be mx_wrongN ?_)
  simp only [j_X4_pane_32_e, j_X4_pane_33_e]
  have e7 : s7 101 1 = σ 101 1 := by rw [h7, up2_i (by decide)]
  have k7 : ∀ k i, ¬ (k = 101 ∧ i = 10) → s7 k i = σ k i := by rw [h7]; exact th_k
  have hG : ∀ e, e = ePane (σ 101 1) x → pc (if 0 ≤ e then (wt_chk (s7 101 1) 6 (wt_lt (up2 s7 103 (Int32.toNatClampNeg (s7 101 1)) x) fun s2 => wt_lt (up2 s2 101 1 ((s2 101 1) + (1 : Int32))) fun s3 => wt_lt (up2 s3 101 30 (0 : Int32)) fun s4 => some (((s4 101 1) - (1 : Int32)), s4))) else wt_bnd (f_X4_refuse F e s7) fun r s => some (r, s)) (mR (ePane (σ 101 1) x) (fun r s => (∀ p, p < 188 → wvM s p = aPane (wvM σ) x p) ∧ r = s 101 1 - (1 : Int32) ∧ s 101 30 = 0) σ) := fun e he => by
    subst he
    refine mR_end (sg_cF sg_cN (sg_i (by decide))) k7 (fun e => pc_chk (fun v => pc_lt (fun s2 h2 => pc_lt (fun s3 h3 => pc_lt (fun s4 h4 => pc_ret ⟨fun p hp => ?_, rfl, by rw [h4, up2_s]⟩)))))
    rw [e7] at v h2
    have hj := wtJI_103 _ v.2.2
    rw [h4, wvM_no (by omega) (by omega) hp, h3, wvM_at (k := 101) (i := 1) (q := 0) (by decide) rfl rfl hp]
    unfold aPane
    refine upd_cg ?_ ?_
    · rw [h2, wvM_at (q := 12 + (σ 101 1).toNatClampNeg) (by have := v.2.2; omega) hj.1.symm hj.2.symm hp]
      exact upd_cg (by rw [h7]; exact th_V hp) rfl
    · rw [h2, up2_k (by decide), e7]; rfl
  by_cases c1 : cN x 0 255 = 0
  · rw [if_pos c1]
    by_cases c2 : s7 101 1 = 6
    · rw [if_pos c2]
      rw [e7] at c2
      refine hG _ ?_
      unfold ePane cF
      have := congrArg Int32.toInt c2
      rw [tz_6] at this
      rw [if_pos c1, if_neg (by omega)]
    · rw [if_neg c2]
      rw [e7] at c2
      refine hG _ ?_
      unfold ePane cF
      have := ti_ne c2
      rw [tz_6] at this
      rw [if_pos c1, if_pos (by omega), c1]
  · rw [if_neg c1]
    refine hG _ ?_
    unfold ePane cF
    rw [if_neg c1]
theorem in_cO {x : Int32} : (if 0 ≤ x.toInt ∧ x.toInt ≤ 5 then (1 : Int32) else 0) = 0 ↔ ¬ cO x 6 = 0 := by
  unfold cO
  rw [tz_6]
  by_cases q : 0 ≤ x.toInt ∧ x.toInt ≤ 5
  · rw [if_pos q, if_pos (by omega)]; exact ⟨fun h => absurd h (by decide), fun h => absurd rfl h⟩
  · rw [if_neg q, if_neg (by omega)]; exact ⟨fun _ => by decide, fun _ => rfl⟩
theorem cO_n {x n : Int32} (h : ¬ cO x n = 0) : cO x n = -2 := by
  unfold cO at h ⊢
  by_cases q : 0 ≤ x.toInt ∧ x.toInt < n.toInt
  · rw [if_pos q] at h; exact absurd rfl h
  · rw [if_neg q]
theorem cm_looker {F : Nat} {k f : Int32} {σ : Mem} (b : 0 ≤ (σ 101 3).toInt ∧ (σ 101 3).toInt ≤ 5) : pc (f_X4_looker F k f σ) (mR (eLooker (σ 101 3) k f) (fun r s => (∀ p, p < 188 → wvM s p = aLooker (wvM σ) k f p) ∧ r = s 101 3 - (1 : Int32) ∧ s 101 30 = 0) σ) := by
  rw [f_X4_looker_e]
  refine pc_lt (fun s7 h7 => pc_be (mx_in32 (lo := 0) (hi := 5) rfl rfl) ?_)
  simp only [j_X4_looker_29_e, j_X4_looker_47_e, j_X4_looker_48_e]
  have e7 : s7 101 3 = σ 101 3 := by rw [h7, up2_i (by decide)]
  have k7 : ∀ k i, ¬ (k = 101 ∧ i = 10) → s7 k i = σ k i := by rw [h7]; exact th_k
  have hG : ∀ e, e = eLooker (σ 101 3) k f → pc (if 0 ≤ e then (wt_bnd (f_X4_lookerComes F k f s7) fun r1 s2 => wt_lt (up2 s2 101 30 (0 : Int32)) fun s3 => some (((s3 101 3) - (1 : Int32)), s3)) else wt_bnd (f_X4_refuse F e s7) fun r s => some (r, s)) (mR (eLooker (σ 101 3) k f) (fun r s => (∀ p, p < 188 → wvM s p = aLooker (wvM σ) k f p) ∧ r = s 101 3 - (1 : Int32) ∧ s 101 30 = 0) σ) := fun e he => by
    subst he
    refine mR_end (sg_cF (sg_cF sg_cO sg_cN) (sg_i (by decide))) k7 (fun e => ?_)
    have hL : (σ 101 3).toInt < 5 := by
      have := (cF_0 e).2
      by_cases c : (σ 101 3).toInt < 5
      · exact c
      · rw [if_neg c] at this; exact absurd this (by decide)
    refine pc_bnd (mx_lookerComes (by rw [e7]; exact ⟨b.1, hL⟩)) (fun _ s2 q => pc_lt (fun s3 h3 => pc_ret ⟨fun p hp => ?_, rfl, by rw [h3, up2_s]⟩))
    rw [h3, wvM_no (by omega) (by omega) hp, q p hp]
    unfold aLooker
    rw [show wvM s7 1 = wvM σ 1 from e7, show wvM s7 p = wvM σ p by rw [h7]; exact th_V hp]
  have hE : eLooker (σ 101 3) k f = cF (cF (cO k 6) (cN f 0 9)) (if (σ 101 3).toInt < 5 then 0 else -6) := rfl
  generalize eLooker (σ 101 3) k f = E at *
  have hL2 : ∀ t, E = cF t (if (σ 101 3).toInt < 5 then 0 else -6) → pc (if t = 0 then (if s7 101 3 = 5 then (if (0 : Int32) ≤ -6 then (wt_bnd (f_X4_lookerComes F k f s7) fun r1 s2 => wt_lt (up2 s2 101 30 (0 : Int32)) fun s3 => some (((s3 101 3) - (1 : Int32)), s3)) else wt_bnd (f_X4_refuse F (-6) s7) fun r s => some (r, s)) else (if 0 ≤ t then (wt_bnd (f_X4_lookerComes F k f s7) fun r1 s2 => wt_lt (up2 s2 101 30 (0 : Int32)) fun s3 => some (((s3 101 3) - (1 : Int32)), s3)) else wt_bnd (f_X4_refuse F t s7) fun r s => some (r, s))) else (if 0 ≤ t then (wt_bnd (f_X4_lookerComes F k f s7) fun r1 s2 => wt_lt (up2 s2 101 30 (0 : Int32)) fun s3 => some (((s3 101 3) - (1 : Int32)), s3)) else wt_bnd (f_X4_refuse F t s7) fun r s => some (r, s))) (mR E (fun r s => (∀ p, p < 188 → wvM s p = aLooker (wvM σ) k f p) ∧ r = s 101 3 - (1 : Int32) ∧ s 101 30 = 0) σ) := fun t ht => by
    refine pc_ite (fun c => ?_) (fun c => ?_)
    · refine pc_ite (fun c2 => hG (-6) ?_) (fun c2 => hG t ?_)
      · rw [e7] at c2
        have := congrArg Int32.toInt c2
        rw [tz_5] at this
        rw [ht]; unfold cF; rw [if_pos c, if_neg (by omega)]
      · rw [e7] at c2
        have := ti_ne c2
        rw [tz_5] at this
        rw [ht]; unfold cF; rw [if_pos c, if_pos (by omega), c]
    · refine hG t ?_
      rw [ht]; unfold cF; rw [if_neg c]
  refine pc_ite (fun c => ?_) (fun c => pc_be mx_wrongN ?_)
  · have c2 := in_cO.mp c
    have e2 := cO_n c2
    refine hL2 (-2) ?_
    rw [hE, show cF (cO k 6) (cN f 0 9) = -2 by unfold cF; rw [if_neg c2, e2]]
  · have c2 : cO k 6 = 0 := Classical.byContradiction (fun q => c (in_cO.mpr q))
    refine hL2 _ ?_
    rw [hE, show cF (cO k 6) (cN f 0 9) = cN f 0 9 by unfold cF; rw [if_pos c2]]
def wsKept (σ s : Mem) : Prop := ∃ t d : Nat, (((σ 101 30).toInt = 8 ∧ t = 7 ∧ d = 1) ∨ ((σ 101 30).toInt < 8 ∧ t = (σ 101 30).toNatClampNeg ∧ d = 0)) ∧ (s 101 30).toInt = (t : Int) + 1 ∧ (∀ i, i < 188 * t → s 117 i = σ 117 (i + 188 * d)) ∧ ∀ p, p < 188 → s 117 (188 * t + p) = wvM σ p
theorem wsKept_k {σ s z : Mem} (h : wsKept σ s) (e1 : z 101 30 = s 101 30) (e2 : z 117 = s 117) : wsKept σ z := by
  unfold wsKept at h ⊢
  rw [e1, e2]
  exact h
def cIW (c : Nat) : Prop := cI c ∨ cL c ∨ cW c
def wsOld (σ s : Mem) : Prop := ∀ j i, j ≠ 117 → j ≠ 118 → ¬ wtHd j i → ¬ (j = 101 ∧ i = 30) → ¬ (j = 101 ∧ i = 10) → s j i = σ j i
theorem wsOld_V {σ s : Mem} (h : wsOld σ s) {p : Nat} (hp : p < 188) : wvM s p = wvM σ p := by
  have h1 := wtJ_101 p hp
  refine h _ _ (by omega) (by omega) (wtHd_no hp) (fun q => ?_) (fun q => ?_)
  · have := wtI_fld p hp q.1; omega
  · have := wtI_fld p hp q.1; omega
theorem mk_keep {F : Nat} (hF : 73786976294838206464 ≤ F) {σ s1 : Mem} (hM : wiM σ) (h1 : s1 = up2 σ 101 10 0) : pc (f_X4_keepTurn F s1) (fun _ s => wsKept σ s ∧ wsOld σ s) := by
  have hM1 : wiM s1 := by rw [h1]; exact wm_fld hM (by decide) (by decide) (by decide) (by decide) (by decide) (by decide) (by decide)
  have e30 : s1 101 30 = σ 101 30 := by rw [h1, up2_i (by decide)]
  have b30 := wx_X4_30 hM
  have k7 : ∀ k i, ¬ (k = 101 ∧ i = 10) → s1 k i = σ k i := by rw [h1]; exact th_k
  refine pc_mono (sf_pc (wt_keepTurn (by omega) hM1)) (fun _ s q => ?_)
  rw [e30] at q
  have old : ∀ t d, wtKeep s1 s t d → wsOld σ s := fun t d w j i a b c e f => (w.2.1 j i a b c e).trans (k7 j i f)
  have eV : ∀ p, p < 188 → s1 (wtJ p) (wtI p) = wvM σ p := fun p hp => by rw [h1]; exact th_V hp
  have e117 : ∀ i, s1 117 i = σ 117 i := fun i => k7 117 i (by omega)
  by_cases c : (σ 101 30).toInt = 8
  · rw [if_pos c] at q
    exact ⟨⟨7, 1, Or.inl ⟨c, rfl, rfl⟩, q.1, fun i hi => (q.2.2.1 i hi).trans (e117 _), fun p hp => (q.2.2.2.1 p hp).trans (eV p hp)⟩, old _ _ q⟩
  · rw [if_neg c] at q
    exact ⟨⟨(σ 101 30).toNatClampNeg, 0, Or.inr ⟨by omega, rfl, rfl⟩, q.1, fun i hi => (q.2.2.1 i hi).trans (e117 _), fun p hp => (q.2.2.2.1 p hp).trans (eV p hp)⟩, old _ _ q⟩
theorem wcid_cIW {k i : Nat} (h : cIW (wcid k i)) : k ≠ 117 ∧ k ≠ 118 ∧ ¬ wtHd k i ∧ ¬ (k = 101 ∧ (i = 30 ∨ i = 10 ∨ i = 8)) ∧ ¬ (102 ≤ k ∧ k ≤ 107) := by
  have e := wcid_or k i
  unfold cIW cI cL cW at h
  refine ⟨?_, ?_, fun q => ?_, fun q => ?_, fun q => ?_⟩
  · rintro rfl; rw [show wcid 117 i = 117 from rfl] at h; omega
  · rintro rfl; rw [show wcid 118 i = 118 from rfl] at h; omega
  · have := wcid_Hd q; omega
  · obtain ⟨rfl, q⟩ := q
    rw [show wcid 101 i = 1000 + i from rfl] at h; omega
  · rw [wcid_M (by omega)] at h; omega
theorem ag_old {σ s z : Mem} (h : wsOld σ s) (e : ∀ k i, ¬ (k = 101 ∧ i = 8) → ¬ (102 ≤ k ∧ k ≤ 107) → z k i = s k i) : ag cIW σ z := fun k i hc => by
  obtain ⟨h1, h2, h3, h4, h5⟩ := wcid_cIW hc
  rw [e k i (by omega) h5]
  exact h k i h1 h2 h3 (by omega) (by omega)
theorem cm_law {F : Nat} (hF : 73786976294838206464 ≤ F) {x : Int32} {σ : Mem} (hM : wiM σ) : pc (f_X4_law F x σ) (mR (cO x 3) (fun r s => (∀ p, p < 188 → wvM s p = aLaw (wvM σ) x p) ∧ r = σ 101 8 ∧ wsKept σ s ∧ ag cIW σ s) σ) := by
  rw [f_X4_law_e]
  refine pc_lt (fun s1 h1 => pc_be (mx_in32 (lo := 0) (hi := 2) rfl rfl) ?_)
  have k7 : ∀ k i, ¬ (k = 101 ∧ i = 10) → s1 k i = σ k i := by rw [h1]; exact th_k
  refine pc_ite (fun c => ?_) (fun c => ?_)
  · have e : cO x 3 = -2 := by
      unfold cO
      rw [tz_3]
      refine if_neg (fun q => ?_)
      rw [if_pos (by omega)] at c
      exact absurd c (by decide)
    rw [e]
    exact mR_ref (by decide) k7
  · have e : cO x 3 = 0 := by
      unfold cO
      rw [tz_3]
      refine if_pos ?_
      by_cases q : 0 ≤ x.toInt ∧ x.toInt ≤ 2
      · omega
      · rw [if_neg q] at c; exact absurd rfl c
    rw [e]
    refine pc_bnd (mk_keep hF hM h1) (fun _ s5 q => pc_lt (fun s6 h6 => pc_ret ⟨fun _ => ⟨fun p hp => ?_, ?_, wsKept_k q.1 ?_ ?_, ag_old q.2 (fun k i a b => ?_)⟩, fun n => absurd rfl n⟩))
    · rw [h6, wvM_at (k := 101) (i := 8) (q := 2) (by decide) rfl rfl hp]
      exact upd_cg (wsOld_V q.2 hp) rfl
    · exact wsOld_V q.2 (p := 2) (by decide)
    · rw [h6, up2_i (by decide)]
    · rw [h6, up2_k (by decide)]
    · rw [h6, wm_key, if_neg a]
theorem cm_worth {F : Nat} (hF : 73786976294838206464 ≤ F) {x1 x2 : Int32} {σ : Mem} (hM : wiM σ) : pc (f_X4_worth F x1 x2 σ) (mR (cF (cB (0 ≤ x1.toInt ∧ x1.toInt ≤ 7)) (cN x2 0 9)) (fun r s => (∀ p, p < 188 → wvM s p = aWorth (wvM σ) x1 x2 p) ∧ r = σ 102 x1.toNatClampNeg ∧ wsKept σ s ∧ ag cIW σ s) σ) := by
  rw [f_X4_worth_e]
  refine pc_lt (fun s1 h1 => pc_be mx_isView ?_)
  simp only [j_X4_worth_23_e]
  have k7 : ∀ k i, ¬ (k = 101 ∧ i = 10) → s1 k i = σ k i := by rw [h1]; exact th_k
  by_cases c : 0 ≤ x1.toInt ∧ x1.toInt ≤ 7
  · rw [if_pos c, if_neg (by decide), cB_t c]
    refine pc_be mx_wrongN (mR_end sg_cN k7 (fun e => ?_))
    refine pc_bnd (mk_keep hF hM h1) (fun _ s5 q => pc_chk (fun v => pc_lt (fun z4 h4 => pc_lt (fun s6 h6 => pc_ret ⟨fun p hp => ?_, ?_, wsKept_k q.1 ?_ ?_, ag_old q.2 (fun k i a b => ?_)⟩))))
    · have hj := wtJI_102 _ v.2.2
      rw [h6, wvM_at (q := 4 + x1.toNatClampNeg) (by have := v.2.2; omega) hj.1.symm hj.2.symm hp]
      exact upd_cg (wsOld_V q.2 hp) rfl
    · rw [h4]
      exact q.2 _ _ (by decide) (by decide) (fun w => by have := w.1; omega) (by omega) (by omega)
    · rw [h6, up2_k (by decide)]
    · rw [h6, up2_k (by decide)]
    · rw [h6, wm_key, if_neg (by omega)]
  · rw [if_neg c, if_pos rfl, cB_f c]
    exact mR_end (e := -1) (Or.inr (by decide)) k7 (fun e => absurd e (by decide))
theorem cm_wall {F : Nat} (hF : 73786976294838206464 ≤ F) {x1 x2 : Int32} {σ : Mem} (hM : wiM σ) : pc (f_X4_wall F x1 x2 σ) (mR (cF (cB (0 ≤ x1.toInt ∧ x1.toInt < (σ 101 1).toInt)) (cB (0 ≤ x2.toInt ∧ x2.toInt ≤ 7))) (fun r s => (∀ p, p < 188 → wvM s p = aWall (wvM σ) x1 x2 p) ∧ r = ((s 103 x1.toNatClampNeg) >>> (x2 &&& 31)) &&& (1 : Int32) ∧ wsKept σ s ∧ ag cIW σ s) σ) := by
  rw [f_X4_wall_e]
  have bp := wx_X4_1 hM
  have k7 : ∀ k i, ¬ (k = 101 ∧ i = 10) → up2 σ 101 10 0 k i = σ k i := th_k
  refine pc_lt (fun s1 h1 => ?_)
  have e7 : s1 101 1 = σ 101 1 := by rw [h1, up2_i (by decide)]
  rw [← h1] at k7
  refine pc_be (mx_isPane (by rw [e7]; exact bp.1)) ?_
  simp only [j_X4_wall_20_e]
  rw [e7]
  by_cases c : 0 ≤ x1.toInt ∧ x1.toInt < (σ 101 1).toInt
  · rw [if_pos c, if_neg (by decide), cB_t c]
    refine pc_be mx_isView ?_
    by_cases c2 : 0 ≤ x2.toInt ∧ x2.toInt ≤ 7
    · rw [if_pos c2, if_neg (by decide), cB_t c2]
      refine pc_bnd (mk_keep hF hM h1) (fun _ s5 q => pc_chk (fun v => pc_lt (fun s6 h6 => pc_ret ⟨fun _ => ⟨fun p hp => ?_, rfl, wsKept_k q.1 ?_ ?_, ag_old q.2 (fun k i a b => ?_)⟩, fun n => absurd rfl n⟩)))
      · have hj := wtJI_103 _ v.2.2
        have ev := wsOld_V q.2 (p := 12 + x1.toNatClampNeg) (by have := v.2.2; omega)
        rw [h6, wvM_at (q := 12 + x1.toNatClampNeg) (by have := v.2.2; omega) hj.1.symm hj.2.symm hp]
        refine upd_cg (wsOld_V q.2 hp) ?_
        rw [← ev]
        unfold wvM
        rw [hj.1, hj.2]
      · rw [h6, up2_k (by decide)]
      · rw [h6, up2_k (by decide)]
      · rw [h6, wm_key, if_neg (by omega)]
    · rw [if_neg c2, if_pos rfl, cB_f c2]
      exact mR_ref (by decide) k7
  · rw [if_neg c, if_pos rfl, cB_f c]
    exact mR_ref (by decide) k7
theorem mx_hoursOf_4 {F : Nat} {x1 : Int32} {σ : Mem} {l : Nat} (hl : x1.toInt = (l : Int)) (hl5 : l < 5) : ∀ (N t : Nat) (x2 x3 : Int32), x3.toInt = (t : Int) → t ≤ 24 → x2 = aHours (wvM σ) l t → pc (lp_X4_hoursOf_4 F x1 N x2 x3 σ) (fun r s => r = aHours (wvM σ) l 24 ∧ s = σ) := by
  intro N
  induction N with
  | zero => intro t x2 x3 h1 h2 h3; exact pc_none rfl
  | succ N ih =>
    intro t x2 x3 h1 h2 h3
    rw [lp_X4_hoursOf_4_s]
    simp only [j_X4_hoursOf_30_e]
    refine pc_ite (fun c => ?_) (fun c => pc_chk (fun _ => ?_))
    · have d := ti_le c
      rw [tz_24] at d
      refine pc_ret ⟨?_, rfl⟩
      rw [h3, show t = 24 by omega]
    have d := ti_nle c
    rw [tz_24] at d
    rw [tn_24 hl h1 hl5 (by omega)]
    have hj := wtJI_106 (24 * l + t) (by omega)
    have ew : wvM σ (28 + 24 * l + t) = σ 106 (24 * l + t) := by
      unfold wvM
      rw [show 28 + 24 * l + t = 28 + (24 * l + t) by omega, hj.1, hj.2]
    refine pc_ite (fun c9 => ih (t + 1) _ _ (ti_nx h1 (by omega)) (by omega) ?_) (fun c9 => ih (t + 1) _ _ (ti_nx h1 (by omega)) (by omega) ?_)
    · show x2 + 0 = aHours (wvM σ) l t + _
      have := ti_lt c9
      rw [tz_0] at this
      rw [ew, if_pos this, h3]
    · show x2 + 1 = aHours (wvM σ) l t + _
      have := ti_nlt c9
      rw [tz_0] at this
      rw [ew, if_neg (by omega), h3]
theorem mx_hoursOf {F : Nat} {x1 : Int32} {σ : Mem} {l : Nat} (hl : x1.toInt = (l : Int)) (hl5 : l < 5) : pc (f_X4_hoursOf F x1 σ) (fun r s => r = aHours (wvM σ) l 24 ∧ s = σ) := by
  rw [f_X4_hoursOf_e]
  exact mx_hoursOf_4 hl hl5 F 0 0 0 rfl (by omega) rfl
theorem aHours_cg {A B : Nat → Int32} {l : Nat} (hl5 : l < 5) (hAB : ∀ p, p < 148 → A p = B p) : ∀ t, t ≤ 24 → aHours A l t = aHours B l t := fun t => by
  induction t with
  | zero => intro _; rfl
  | succ t ih => intro ht; show aHours A _ t + _ = aHours B _ t + _; rw [ih (by omega), hAB _ (by omega)]
theorem cm_stands {F : Nat} (hF : 73786976294838206464 ≤ F) {x1 x2 x3 x4 : Int32} {σ : Mem} (hM : wiM σ) : pc (f_X4_stands F x1 x2 x3 x4 σ) (mR (eStands (σ 101 1).toInt (σ 101 3).toInt x1 x2 x3 x4) (fun r s => (∀ p, p < 188 → wvM s p = aStand (wvM σ) x1.toNatClampNeg x2.toNatClampNeg x3.toNatClampNeg x4 p) ∧ r = aHours (aStand (wvM σ) x1.toNatClampNeg x2.toNatClampNeg x3.toNatClampNeg x4) x1.toNatClampNeg 24 ∧ wsKept σ s ∧ ag cIW σ s) σ) := by
  have bp := wx_X4_1 hM
  have bl := wx_X4_3 hM
  rw [f_X4_stands_e]
  refine pc_lt (fun s1 h1 => ?_)
  simp only [j_X4_stands_57_e, j_X4_stands_43_e, j_X4_stands_58_e]
  have k7 : ∀ k i, ¬ (k = 101 ∧ i = 10) → s1 k i = σ k i := by rw [h1]; exact th_k
  have e1 : s1 101 1 = σ 101 1 := k7 _ _ (by omega)
  have e3 : s1 101 3 = σ 101 3 := k7 _ _ (by omega)
  have hG : ∀ e, e = eStands (σ 101 1).toInt (σ 101 3).toInt x1 x2 x3 x4 → pc (if 0 ≤ e then (wt_bnd (f_X4_keepTurn F s1) fun r1 s2 => wt_bnd (f_X4_stand F x1 x2 x3 x4 s2) fun r3 s4 => wt_bnd (f_X4_hoursOf F x1 s4) fun r5 s6 => some (r5, s6)) else wt_bnd (f_X4_refuse F e s1) fun r s => some (r, s)) (mR (eStands (σ 101 1).toInt (σ 101 3).toInt x1 x2 x3 x4) (fun r s => (∀ p, p < 188 → wvM s p = aStand (wvM σ) x1.toNatClampNeg x2.toNatClampNeg x3.toNatClampNeg x4 p) ∧ r = aHours (aStand (wvM σ) x1.toNatClampNeg x2.toNatClampNeg x3.toNatClampNeg x4) x1.toNatClampNeg 24 ∧ wsKept σ s ∧ ag cIW σ s) σ) := fun e he => by
    subst he
    refine mR_end (sg_cF (sg_cF (sg_cF sg_cB (sg_cF sg_cB sg_cB)) ?_) (sg_i (by decide))) k7 (fun e => ?_)
    · by_cases q : x4 = 9
      · rw [if_pos q]; exact Or.inl rfl
      · rw [if_neg q]; exact sg_cB
    have hc := eStands_0 e
    have l1 : x1.toInt = (x1.toNatClampNeg : Int) := by have := hc.1; rw [ti_nat]; omega
    have l2 : x2.toInt = (x2.toNatClampNeg : Int) := by have := hc.2.1; rw [ti_nat]; omega
    have l3 : x3.toInt = (x3.toNatClampNeg : Int) := by have := hc.2.2.1; rw [ti_nat]; omega
    have hl5 : x1.toNatClampNeg < 5 := by have := hc.1; omega
    refine pc_bnd (mk_keep hF hM h1) (fun _ s2 q => ?_)
    have hx4 : x4.toInt = 9 ∨ 0 ≤ x4.toInt := by have := hc.2.2.2.2; omega
    refine pc_bnd (mx_stand hx4 l1 hl5 l2 l3 (by have := hc.2.2.2.1; omega) (by have := hc.2.2.1; omega)) (fun _ s4 w => ?_)
    have hV : ∀ p, p < 188 → wvM s4 p = aStand (wvM σ) x1.toNatClampNeg x2.toNatClampNeg x3.toNatClampNeg x4 p := fun p hp => by
      rw [w.1 p hp]
      unfold aStand
      by_cases e : 28 + 24 * x1.toNatClampNeg + x2.toNatClampNeg ≤ p ∧ p ≤ 28 + 24 * x1.toNatClampNeg + x3.toNatClampNeg
      · rw [if_pos e, if_pos e]
      · rw [if_neg e, if_neg e, wsOld_V q.2 hp]
    refine pc_bnd (mx_hoursOf l1 hl5) (fun r z y => ?_)
    obtain ⟨rfl, rfl⟩ := y
    exact pc_ret ⟨hV, aHours_cg hl5 (fun p hp => hV p (by omega)) 24 (by omega), wsKept_k q.1 (by rw [w.2.1 101 (by decide)]) (w.2.1 117 (by decide)), ag_old q.2 (fun k i a b => by rw [w.2.1 k (by omega)])⟩
  have hE : eStands (σ 101 1).toInt (σ 101 3).toInt x1 x2 x3 x4 = cF (cF (cF (cB (0 ≤ x1.toInt ∧ x1.toInt < (σ 101 3).toInt)) (cF (cB (0 ≤ x2.toInt ∧ x2.toInt ≤ 23)) (cB (0 ≤ x3.toInt ∧ x3.toInt ≤ 23)))) (if x4 = 9 then 0 else cB (0 ≤ x4.toInt ∧ x4.toInt < (σ 101 1).toInt))) (if x2.toInt ≤ x3.toInt then 0 else -3) := rfl
  generalize eStands (σ 101 1).toInt (σ 101 3).toInt x1 x2 x3 x4 = E at *
  have m1 : cF (-1 : Int32) (if x2.toInt ≤ x3.toInt then 0 else -3) = -1 := rfl
  refine pc_be (mx_isLooker (by rw [e3]; exact bl.1)) ?_
  rw [e3]
  by_cases c : 0 ≤ x1.toInt ∧ x1.toInt < (σ 101 3).toInt
  rotate_left
  · rw [if_neg c, if_pos rfl]
    refine hG (-1) ?_
    rw [hE, cB_f c]; rfl
  rw [if_pos c, if_neg (by decide)]
  refine pc_be mx_isHour ?_
  by_cases c2 : 0 ≤ x2.toInt ∧ x2.toInt ≤ 23
  rotate_left
  · rw [if_neg c2, if_pos rfl]
    refine hG (-1) ?_
    rw [hE, cB_t c, cB_f c2]; rfl
  rw [if_pos c2, if_neg (by decide)]
  refine pc_be mx_isHour ?_
  by_cases c3 : 0 ≤ x3.toInt ∧ x3.toInt ≤ 23
  rotate_left
  · rw [if_neg c3, if_pos rfl]
    refine hG (-1) ?_
    rw [hE, cB_t c, cB_t c2, cB_f c3]; rfl
  rw [if_pos c3, if_neg (by decide)]
  rw [cB_t c, cB_t c2, cB_t c3] at hE
  have fin : E = (if x2.toInt ≤ x3.toInt then 0 else -3) → pc (if x2 ≤ x3 then (if (0 : Int32) ≤ 0 then (wt_bnd (f_X4_keepTurn F s1) fun r1 s2 => wt_bnd (f_X4_stand F x1 x2 x3 x4 s2) fun r3 s4 => wt_bnd (f_X4_hoursOf F x1 s4) fun r5 s6 => some (r5, s6)) else wt_bnd (f_X4_refuse F 0 s1) fun r s => some (r, s)) else (if (0 : Int32) ≤ -3 then (wt_bnd (f_X4_keepTurn F s1) fun r1 s2 => wt_bnd (f_X4_stand F x1 x2 x3 x4 s2) fun r3 s4 => wt_bnd (f_X4_hoursOf F x1 s4) fun r5 s6 => some (r5, s6)) else wt_bnd (f_X4_refuse F (-3) s1) fun r s => some (r, s))) (mR E (fun r s => (∀ p, p < 188 → wvM s p = aStand (wvM σ) x1.toNatClampNeg x2.toNatClampNeg x3.toNatClampNeg x4 p) ∧ r = aHours (aStand (wvM σ) x1.toNatClampNeg x2.toNatClampNeg x3.toNatClampNeg x4) x1.toNatClampNeg 24 ∧ wsKept σ s ∧ ag cIW σ s) σ) := fun h => by
    refine pc_ite (fun c => hG 0 ?_) (fun c => hG (-3) ?_)
    · rw [h, if_pos (ti_le c)]
    · rw [h, if_neg (Int.not_le.mpr (ti_nle c))]
  refine pc_ite (fun c9 => fin ?_) (fun c9 => ?_)
  · rw [hE, if_pos c9]; rfl
  refine pc_be (mx_isPane (by rw [e1]; exact bp.1)) ?_
  rw [e1]
  by_cases c4 : 0 ≤ x4.toInt ∧ x4.toInt < (σ 101 1).toInt
  · rw [if_pos c4, if_neg (by decide)]
    refine fin ?_
    rw [hE, if_neg c9, cB_t c4]; rfl
  · rw [if_neg c4, if_pos rfl]
    refine hG (-1) ?_
    rw [hE, if_neg c9, cB_f c4]; rfl
end
section
theorem wtB_fld {x : Int32} {σ s : Mem} (hC : wtCar x 116 σ 188 s) {i : Nat} (h3 : i ≠ 1 ∧ i ≠ 3 ∧ i ≠ 8 ∧ i ≠ 9) (h4 : i < 25 ∨ 27 < i) : s 101 i = σ 101 i := wt_Car_fld (by unfold wiK; omega) hC h3 h4
theorem cm_image {F : Nat} (hF : 1000 ≤ F) {σ : Mem} : pc (f_X4_image F σ) (fun r s => (∀ p, p < 188 → s 116 p = wvM σ p) ∧ r = s 101 9 ∧ s 101 24 = 1 ∧ ∀ k i, k ≠ 116 → ¬ (k = 101 ∧ (i = 10 ∨ i = 24 ∨ (25 ≤ i ∧ i ≤ 27))) → s k i = σ k i) := by
  rw [f_X4_image_e]
  refine pc_lt (fun s1 h1 => pc_lt (fun s2 h2 => pc_bnd (sf_pc (wt_carryAll hF (Or.inr rfl) (by unfold wiK; omega))) (fun _ s4 q => pc_ret ?_)))
  have e2 : ∀ k i, ¬ (k = 101 ∧ (i = 10 ∨ i = 24)) → s2 k i = σ k i := fun k i h => by rw [h2, wm_key, if_neg (by omega), h1, wm_key, if_neg (by omega)]
  obtain ⟨q1, q2⟩ := q.2.2.2.1 (by decide)
  refine ⟨fun p hp => ?_, rfl, ?_, fun k i a b => ?_⟩
  · rw [q1 p hp]
    have h1 := wtJ_101 p hp
    exact e2 _ _ (fun w => by have := wtI_fld p hp w.1; omega)
  · rw [wtB_fld q (by decide) (by decide), h2, up2_s]
  · rw [q2 k i (fun w => b ⟨w.1, by have := w.2; omega⟩) (fun w => a w.1), e2 k i (fun w => b ⟨w.1, by omega⟩)]
theorem cm_restore {F : Nat} (hF : 1000 ≤ F) {σ : Mem} : pc (f_X4_restore F σ) (mR (if σ 101 24 = 0 then -3 else 0) (fun r s => (∀ p, p < 188 → wvM s p = σ 116 p) ∧ r = s 101 9 ∧ s 101 30 = 0 ∧ ag cIW σ s) σ) := by
  rw [f_X4_restore_e]
  refine pc_lt (fun s1 h1 => ?_)
  have k7 : ∀ k i, ¬ (k = 101 ∧ i = 10) → s1 k i = σ k i := by rw [h1]; exact th_k
  rw [k7 101 24 (by omega)]
  refine pc_ite (fun c => ?_) (fun c => ?_)
  · rw [if_pos c]; exact mR_ref (by decide) k7
  · rw [if_neg c]
    refine pc_bnd (sf_pc (wt_carryAll hF (Or.inl rfl) (by unfold wiK; omega))) (fun _ s4 q => pc_lt (fun s5 h5 => pc_ret ⟨fun _ => ⟨fun p hp => ?_, ?_, by rw [h5, up2_s], fun k i hc => ?_⟩, fun n => absurd rfl n⟩))
    · rw [h5, wvM_no (by omega) (by omega) hp]
      exact ((q.2.2.2.2 rfl).1 p hp).trans (k7 116 p (by omega))
    · rfl
    · obtain ⟨a1, a2, a3, a4, a5⟩ := wcid_cIW hc
      rw [h5, wm_key, if_neg (fun w => a4 ⟨w.1, by have := w.2; omega⟩)]
      have hcc : ¬ (k = 101 ∧ (i = 1 ∨ i = 3 ∨ i = 8 ∨ i = 9)) := fun w => by
        obtain ⟨rfl, w⟩ := w
        unfold cIW cI cL cW at hc
        rw [show wcid 101 i = 1000 + i from rfl] at hc
        omega
      rw [(q.2.2.2.2 rfl).2 k i a3 (fun p hp w => by
        obtain ⟨rfl, rfl⟩ := w
        have h1 := wtJ_101 p hp
        by_cases e : wtJ p = 101
        · exact hcc ⟨e, wtI_fld p hp e⟩
        · exact a5 (by omega)), k7 k i (fun w => a4 ⟨w.1, by omega⟩)]
theorem cm_back {F : Nat} (hF : 73786976294838206464 ≤ F) {σ : Mem} (hM : wiM σ) : pc (f_X4_back F σ) (mR (if (σ 101 30).toInt = 0 then -3 else 0) (fun r s => r = s 101 30 ∧ (s 101 30).toInt = (σ 101 30).toInt - 1 ∧ (∀ p, p < 188 → wvM s p = σ 117 (188 * ((σ 101 30).toNatClampNeg - 1) + p)) ∧ s 117 = σ 117 ∧ ag cIW σ s) σ) := by
  rw [f_X4_back_e]
  have b := wx_X4_30 hM
  refine pc_lt (fun s6 h6 => ?_)
  have k7 : ∀ k i, ¬ (k = 101 ∧ i = 10) → s6 k i = σ k i := by rw [h6]; exact th_k
  have I6 : wiM s6 := by rw [h6]; exact wm_fld hM (by decide) (by decide) (by decide) (by decide) (by decide) (by decide) (by decide)
  have u6 : s6 101 30 = σ 101 30 := k7 _ _ (by omega)
  refine pc_ite (fun c => ?_) (fun c => ?_)
  · have d := ti_eq c
    rw [u6, tz_0] at d
    rw [if_pos d]; exact mR_ref (by decide) k7
  have d := ti_ne c
  rw [u6, tz_0] at d
  rw [if_neg d]
  refine pc_lt (fun s7 h7 => ?_)
  have e7 : (s6 101 30 - 1).toInt = (σ 101 30).toInt - 1 := by rw [ti_sub (by rw [u6, tz_1]; omega) (by rw [u6, tz_1]; omega), u6, tz_1]
  have en := ti_nat (σ 101 30)
  refine pc_mono (sf_pc (wt_bk_31 (τ := s6) (t := (σ 101 30).toNatClampNeg - 1) (by omega) (by omega) (by rw [h7, up2_s, e7]; omega) (fun j i h => by rw [h7, wm_key, if_neg h]) F 0 (0 : Int32) s7 rfl (by omega) (by omega) (by rw [h7]; exact wx_put_X4_30 I6 (by omega) (by omega)) (fun _ _ _ => rfl) (fun p hp => by omega))) (fun r s h => ?_)
  obtain ⟨g0, g1, g2, g3, g4⟩ := h
  refine ⟨fun _ => ⟨Int32.toInt_inj.mp (by rw [g0, g1]), by rw [g1]; omega, fun p hp => ?_, ?_, fun k i hc => ?_⟩, fun n => absurd rfl n⟩
  · show s (wtJ p) (wtI p) = _
    rw [g2 p hp, k7 117 _ (by omega)]
  · funext i
    rw [g3 117 i (by decide) (fun w => by have := w.1; omega) (by omega) (fun p hp w => by have := wtJ_101 p hp; omega), k7 117 i (by omega)]
  · obtain ⟨a1, a2, a3, a4, a5⟩ := wcid_cIW hc
    have hcc : ¬ (k = 101 ∧ (i = 1 ∨ i = 3 ∨ i = 8 ∨ i = 9)) := fun w => by
      obtain ⟨rfl, w⟩ := w
      unfold cIW cI cL cW at hc
      rw [show wcid 101 i = 1000 + i from rfl] at hc
      omega
    rw [g3 k i a2 a3 (fun w => a4 ⟨w.1, by omega⟩) (fun p hp w => by
      obtain ⟨rfl, rfl⟩ := w
      have h1 := wtJ_101 p hp
      by_cases e : wtJ p = 101
      · exact hcc ⟨e, wtI_fld p hp e⟩
      · exact a5 (by omega)), k7 k i (fun w => a4 ⟨w.1, by omega⟩)]
theorem cm_days {F : Nat} (hF : 1000 ≤ F) {x : Int32} {σ : Mem} (hv : wvV (wvM σ)) : pc (f_X4_days F x σ) (mR (eDays (σ 101 9) x) (fun r s => (∀ p, p < 188 → wvM s p = aDay (wvM σ) x p) ∧ s 101 30 = 0) σ) := by
  rw [f_X4_days_e]
  refine pc_lt (fun s7 h7 => pc_be mx_wrongN ?_)
  simp only [j_X4_days_34_e, j_X4_days_35_e]
  have k7 : ∀ k i, ¬ (k = 101 ∧ i = 10) → s7 k i = σ k i := by rw [h7]; exact th_k
  have e7 : s7 101 9 = σ 101 9 := k7 _ _ (by omega)
  have hV7 : ∀ p, p < 188 → wvM s7 p = wvM σ p := fun p hp => by rw [h7]; exact th_V hp
  have hG : ∀ e, e = eDays (σ 101 9) x → pc (if 0 ≤ e then (wt_bnd (f_X4_goDays F x s7) fun r1 s2 => wt_lt (up2 s2 101 30 (0 : Int32)) fun s3 => wt_bnd (f_X4_owned F s3) fun r4 s5 => some (r4, s5)) else wt_bnd (f_X4_refuse F e s7) fun r s => some (r, s)) (mR (eDays (σ 101 9) x) (fun r s => (∀ p, p < 188 → wvM s p = aDay (wvM σ) x p) ∧ s 101 30 = 0) σ) := fun e he => by
    subst he
    refine mR_end (sg_cF sg_cN (sg_i (by decide))) k7 (fun e => pc_bnd (mx_goDays hF (wvV_cg hv hV7)) (fun _ s2 q => pc_lt (fun s3 h3 => pc_bnd (pc_pf (fr_X4_owned hF)) (fun r s f => pc_ret ⟨fun p hp => ?_, ?_⟩))))
    · rw [wvM_fr f (fun c hc => by show ¬ _; unfold wf_48; omega) (by omega), h3, wvM_no (by omega) (by omega) (by omega), q p hp]
      exact aDay_cg hv hV7 hp
    · rw [f 101 30 (fun w => by revert w; show ¬ _; unfold wf_48; rw [show wcid 101 30 = 1030 from rfl]; omega), h3, up2_s]
  by_cases c1 : cN x 1 99 = 0
  · rw [if_pos c1, e7]
    by_cases c2 : σ 101 9 + x ≤ 9999
    · rw [if_pos c2]
      refine hG _ ?_
      unfold eDays cF
      have := ti_le c2
      rw [tz_9999] at this
      rw [if_pos c1, if_pos this, c1]
    · rw [if_neg c2]
      refine hG _ ?_
      unfold eDays cF
      have := ti_nle c2
      rw [tz_9999] at this
      rw [if_pos c1, if_neg (by omega)]
  · rw [if_neg c1]
    refine hG _ ?_
    unfold eDays cF
    rw [if_neg c1]
end
section
/-! both sides, one after the other -/
theorem two {α β : Type} {o1 : Option (α × Mem)} {o2 : Mem → Option (β × Mem)} {Q1 : α → Mem → Prop} {Q2 : Mem → β → Mem → Prop} {R : α → β → Mem → Prop} (h1 : sf o1 Q1) (h2 : ∀ a s, Q1 a s → sf (o2 s) (Q2 s)) (k : ∀ a s b z, Q1 a s → Q2 s b z → R a b z) : ∃ r1 s1 r2 s2, o1 = some (r1, s1) ∧ o2 s1 = some (r2, s2) ∧ R r1 r2 s2 := by
  obtain ⟨a, s, e, q⟩ := h1
  obtain ⟨b, z, e2, q2⟩ := h2 a s q
  exact ⟨a, s, b, z, e, e2, k a s b z q q2⟩
theorem fin {lim : Nat} {σ s z : Mem} (hl : 28 ≤ lim ∧ lim ≤ 188) (h : wR lim σ) (x1 : wiX s) (m1 : wiM z) (m2 : ∀ k, k < 101 → z k = s k) (hag : ag cIW σ z) (hV : rV lim z) (hS : rS z) : wR lim z := by
  obtain ⟨-, -, -, hI, -, hL, hW⟩ := h
  exact ⟨wx_congr x1 m2, m1, hV, rI_ag hl hI (ag_mono hag (fun c q => Or.inl q)), hS, rL_ag hL (ag_mono hag (fun c q => Or.inr (Or.inl q))), rW_ag hW (ag_mono hag (fun c q => Or.inr (Or.inr q)))⟩
theorem ag_bad {C : Nat → Prop} {σ s z : Mem} (b1 : ∀ k, k ≠ 86 → s k = σ k) (b2 : ∀ k i, k ≠ 108 → ¬ (k = 101 ∧ i = 10) → z k i = s k i) (hC : ∀ c, C c → c ≠ 86 ∧ c ≠ 108 ∧ c ≠ 1010) : ag C σ z := fun k i hc => by
  obtain ⟨h1, h2, h3⟩ := hC _ hc
  rw [b2 k i (fun e => by subst e; exact h2 rfl) (fun e => by obtain ⟨rfl, rfl⟩ := e; exact h3 rfl), b1 k (fun e => by subst e; exact h1 rfl)]
theorem fin_bad {lim : Nat} {σ s z : Mem} (hl : 28 ≤ lim ∧ lim ≤ 188) (h : wR lim σ) (x1 : wiX s) (m1 : wiM z) (m2 : ∀ k, k < 101 → z k = s k) (b1 : ∀ k, k ≠ 86 → s k = σ k) (b2 : ∀ k i, k ≠ 108 → ¬ (k = 101 ∧ i = 10) → z k i = s k i) : wR lim z := by
  refine fin hl h x1 m1 m2 (ag_bad b1 b2 ?_) (rV_ag hl h.2.2.1 (ag_bad b1 b2 ?_)) (rS_ag h.2.2.1.1 h.2.2.2.2.1 (ag_bad b1 b2 ?_))
  · intro c hc; unfold cIW cI cL cW at hc; omega
  · intro c hc; unfold cV cX cM at hc; omega
  · intro c hc; unfold cS cM at hc; omega
/-- what both sides' houses are, from what each did -/
theorem rV_mk {lim : Nat} {s z : Mem} (hl : 28 ≤ lim ∧ lim ≤ 188) {A B : Nat → Int32} (m2 : ∀ k, k < 101 → z k = s k) (hA : ∀ p, p < lim → wvX 1 s p = A p) (hB : ∀ p, p < lim → wvM z p = B p) (hB2 : ∀ p, p < 188 → wvM z p = B p) (hv : wvV B) (hw : weq lim B A) : rV lim z := by
  refine ⟨wvV_cg hv hB2, weq_cg hw hl.1 hB (fun p hp => ?_)⟩
  rw [← hA p hp]
  exact wvX_eq (fun p hp => by have := wvJ_le p hp; rw [m2 _ (by omega)]) (by omega)
theorem eMV {σ s : Mem} (e : ∀ k, 101 ≤ k → s k = σ k) : ∀ p, p < 188 → wvM s p = wvM σ p := fun p hp => by
  unfold wvM
  rw [e _ (wtJ_101 p hp).1]
theorem mu_pane {F lim : Nat} {σ : Mem} {x : Int32} (hF : 73786976294838206464 ≤ F) (hl : 28 ≤ lim ∧ lim ≤ 188) (h : wR lim σ) : ∃ r1 s1 r2 s2, f_X3_pane F x σ = some (r1, s1) ∧ f_X4_pane F x s1 = some (r2, s2) ∧ wR lim s2 ∧ r1 = r2 := by
  obtain ⟨hX, hM, hV, hI, hS, hL, hW⟩ := id h
  refine two (pc_sf (s_X3_pane (by omega) hX) (pc_and (cx_pane (wx_X0_0 hX wt_h1)) (pc_pf (fr_X3_pane (by omega))))) (fun a s q => pc_sf (s_X4_pane hF (wm_congr hM q.1.2.1)) (pc_and (cm_pane (wx_X4_1 (wm_congr hM q.1.2.1))) (pc_pf (fr_X4_pane (by omega))))) (fun a s b z q1 q2 => ?_)
  obtain ⟨⟨x1, x2, -⟩, c1, f1⟩ := q1
  obtain ⟨⟨m1, m2, -⟩, c2, f2⟩ := q2
  have e0 : σ 1 0 = σ 101 1 := weq_lo hV.2 hl.1 (p := 0) (by decide)
  have es : s 101 1 = σ 101 1 := by rw [x2 101 (by decide)]
  rw [es, ← e0] at c2
  by_cases c : ePane (σ 1 0) x = 0
  · obtain ⟨g1, g2, g3⟩ := c1.1 c
    obtain ⟨n1, n2, n3⟩ := c2.1 c
    have hx : (wvM σ 0).toInt < 6 := by
      have := (cF_0 c).2
      show (σ 101 1).toInt < 6
      rw [← e0]
      by_cases d : (σ 1 0).toInt < 6
      · exact d
      · rw [if_neg d] at this; exact absurd this (by decide)
    have n1' : ∀ p, p < 188 → wvM z p = aPane (wvM σ) x p := fun p hp => by
      rw [n1 p hp]
      unfold aPane
      rw [eMV x2 0 (by decide)]
      exact upd_cg (upd_cg (eMV x2 p hp) rfl) rfl
    refine ⟨fin hl h x1 m1 m2 (ag_tr (ag_fr f1 ?_) (ag_fr f2 ?_)) (rV_mk hl m2 (fun p hp => g1 p (by omega)) (fun p hp => n1' p (by omega)) (fun p hp => n1' p (by omega)) (wvV_aPane hV.1 hx) (weq_aPane hV.2 hl.1 x)) (rS_0 (by rw [m2 70 (by decide)]; exact g3) n3), ?_⟩
    · intro c hc; unfold cIW cI cL cW at hc; show ¬ _; unfold wf_22; omega
    · intro c hc; unfold cIW cI cL cW at hc; show ¬ _; unfold wf_62; omega
    · rw [g2, n2]
      have h1 : s 1 0 = aPane (wvX 1 σ) x 0 := g1 0 (by decide)
      have h2 : z 101 1 = aPane (wvM σ) x 0 := n1' 0 (by decide)
      rw [h1, h2]
      unfold aPane
      rw [wv_us, wv_us, show wvX 1 σ 0 = wvM σ 0 from e0]
  · obtain ⟨g1, g2⟩ := c1.2 c
    obtain ⟨n1, n2⟩ := c2.2 c
    exact ⟨fin_bad hl h x1 m1 m2 g2 n2, by rw [g1, n1]⟩
theorem eLooker_kf {L k f : Int32} (h : eLooker L k f = 0) : (0 ≤ k.toInt ∧ k.toInt ≤ 5) ∧ (0 ≤ f.toInt ∧ f.toInt ≤ 9) := by
  obtain ⟨e1, -⟩ := cF_0 h
  obtain ⟨e0, e1⟩ := cF_0 e1
  have e3 := cN_0 e1
  have e4 := cO_0 e0
  rw [tz_0, tz_9] at e3
  rw [tz_6] at e4
  exact ⟨⟨e4.1, by omega⟩, e3⟩
theorem mu_looker {F lim : Nat} {σ : Mem} {k f : Int32} (hF : 73786976294838206464 ≤ F) (hl : 28 ≤ lim ∧ lim ≤ 188) (h : wR lim σ) : ∃ r1 s1 r2 s2, f_X3_looker F k f σ = some (r1, s1) ∧ f_X4_looker F k f s1 = some (r2, s2) ∧ wR lim s2 ∧ r1 = r2 := by
  obtain ⟨hX, hM, hV, hI, hS, hL, hW⟩ := id h
  refine two (pc_sf (s_X3_looker (by omega) hX) (pc_and (cx_looker (wx_X0_2 hX wt_h1)) (pc_pf (fr_X3_looker (by omega))))) (fun a s q => pc_sf (s_X4_looker hF (wm_congr hM q.1.2.1)) (pc_and (cm_looker (wx_X4_3 (wm_congr hM q.1.2.1))) (pc_pf (fr_X4_looker (by omega))))) (fun a s b z q1 q2 => ?_)
  obtain ⟨⟨x1, x2, -⟩, c1, f1⟩ := q1
  obtain ⟨⟨m1, m2, -⟩, c2, f2⟩ := q2
  have e0 : σ 1 2 = σ 101 3 := weq_lo hV.2 hl.1 (p := 1) (by decide)
  have es : s 101 3 = σ 101 3 := by rw [x2 101 (by decide)]
  rw [es, ← e0] at c2
  by_cases c : eLooker (σ 1 2) k f = 0
  · obtain ⟨g1, g2, g3⟩ := c1.1 c
    obtain ⟨n1, n2, n3⟩ := c2.1 c
    have hx : (wvM σ 1).toInt < 5 := by
      have := (cF_0 c).2
      show (σ 101 3).toInt < 5
      rw [← e0]
      by_cases d : (σ 1 2).toInt < 5
      · exact d
      · rw [if_neg d] at this; exact absurd this (by decide)
    have n1' : ∀ p, p < 188 → wvM z p = aLooker (wvM σ) k f p := fun p hp => by
      rw [n1 p hp]
      unfold aLooker
      rw [eMV x2 1 (by decide), eMV x2 p hp]
    refine ⟨fin hl h x1 m1 m2 (ag_tr (ag_fr f1 ?_) (ag_fr f2 ?_)) (rV_mk hl m2 (fun p hp => g1 p (by omega)) (fun p hp => n1' p (by omega)) (fun p hp => n1' p (by omega)) (wvV_aLooker hV.1 (eLooker_kf c).1 (eLooker_kf c).2 hx) (weq_aLooker hV.2 hl.1 ⟨hV.1.2.1.1, hx⟩)) (rS_0 (by rw [m2 70 (by decide)]; exact g3) n3), ?_⟩
    · intro c hc; unfold cIW cI cL cW at hc; show ¬ _; unfold wf_23; omega
    · intro c hc; unfold cIW cI cL cW at hc; show ¬ _; unfold wf_63; omega
    · rw [g2, n2]
      have h1 : s 1 2 = aLooker (wvX 1 σ) k f 1 := g1 1 (by decide)
      have h2 : z 101 3 = aLooker (wvM σ) k f 1 := n1' 1 (by decide)
      rw [h1, h2, aLooker_1, aLooker_1, show wvX 1 σ 1 = wvM σ 1 from e0]
  · obtain ⟨g1, g2⟩ := c1.2 c
    obtain ⟨n1, n2⟩ := c2.2 c
    exact ⟨fin_bad hl h x1 m1 m2 g2 n2, by rw [g1, n1]⟩
theorem ag_put {W : Nat → Prop} {σ s z : Mem} (f1 : fr W σ s) (hW : ∀ c, cIW c → ¬ W c) (a2 : ag cIW s z) : ag cIW σ z := ag_tr (ag_fr f1 hW) a2
/-- the ring, the class's other slots -/
theorem put_slot {σ s : Mem} {w x old : Int32} (h : wsPut σ s w x old) : ∀ i, i < 8 → i ≠ wsSlot σ → s 71 i = σ 71 i ∧ s 72 i = σ 72 i ∧ s 73 i = σ 73 i ∧ s (75 + i) = σ (75 + i) := fun i hi hn => by
  obtain ⟨h1, h2, h3, h4, h5⟩ := h
  exact ⟨by rw [h2, wv_un hn], by rw [h3, wv_un hn], by rw [h4, wv_un hn], h5 _ (by omega) (by omega)⟩
theorem putR_slot {σ s : Mem} {x : Int32} {f : Nat → Int32} (h : wsPutR σ s x f) : ∀ i, i < 8 → i ≠ wsSlot σ → s 71 i = σ 71 i ∧ s 72 i = σ 72 i ∧ s 73 i = σ 73 i ∧ s (75 + i) = σ (75 + i) := fun i hi hn => by
  obtain ⟨h1, h2, h3, h4, h5, h6⟩ := h
  exact ⟨by rw [h2, wv_un hn], by rw [h3, wv_un hn], by rw [h5], h6 _ (by omega) (by omega) (by omega)⟩
theorem kept_s {σ s z : Mem} (x2 : ∀ k, 101 ≤ k → s k = σ k) (h : wsKept s z) : wsKept σ z := by
  obtain ⟨t, d, h1, h2, h3, h4⟩ := h
  rw [x2 101 (by decide)] at h1
  rw [x2 117 (by decide)] at h3
  exact ⟨t, d, h1, h2, h3, fun p hp => by rw [h4 p hp, eMV x2 p hp]⟩
theorem ring_z {σ s z : Mem} (h : wsRing σ s) (e : z 70 = s 70) : wsRing σ z := by
  unfold wsRing at h ⊢
  rw [e]
  exact h
theorem mu_law {F lim : Nat} {σ : Mem} {x : Int32} (hF : 73786976294838206464 ≤ F) (hl : 28 ≤ lim ∧ lim ≤ 188) (h : wR lim σ) : ∃ r1 s1 r2 s2, f_X3_law F x σ = some (r1, s1) ∧ f_X4_law F x s1 = some (r2, s2) ∧ wR lim s2 ∧ r1 = r2 := by
  obtain ⟨hX, hM, hV, hI, hS, hL, hW⟩ := id h
  refine two (pc_sf (s_X3_law (by omega) hX) (pc_and (cx_law (by omega) (wx_X2_4 hX) (wx_X2_5 hX)) (pc_pf (fr_X3_law (by omega))))) (fun a s q => pc_sf (s_X4_law hF (wm_congr hM q.1.2.1)) (cm_law hF (wm_congr hM q.1.2.1))) (fun a s b z q1 q2 => ?_)
  obtain ⟨⟨x1, x2, -⟩, c1, f1⟩ := q1
  obtain ⟨⟨m1, m2, -⟩, c2⟩ := q2
  have e2 : σ 1 8 = σ 101 8 := weq_lo hV.2 hl.1 (p := 2) (by decide)
  by_cases c : cO x 3 = 0
  · obtain ⟨g1, g2, g3⟩ := c1.1 c
    obtain ⟨n1, n2, n3, n4⟩ := c2.1 c
    have hx := cO_0 c
    rw [tz_3] at hx
    have n1' : ∀ p, p < 188 → wvM z p = aLaw (wvM σ) x p := fun p hp => by
      rw [n1 p hp]
      unfold aLaw
      exact upd_cg (eMV x2 p hp) rfl
    have g3z : wsPut σ z 3 0 (σ 1 8) := wsPut_k g3 (fun k a b => m2 k (by omega))
    refine ⟨fin hl h x1 m1 m2 (ag_put f1 ?_ n4) (rV_mk hl m2 (fun p hp => g1 p (by omega)) (fun p hp => n1' p (by omega)) (fun p hp => n1' p (by omega)) (wvV_aLaw hV.1 ⟨hx.1, by omega⟩) (weq_aLaw hV.2)) (rS_push hV.1 hS (wx_X2_4 hX) (wx_X2_5 hX) g3z.1 (put_slot g3z) (kept_s x2 n3) (Or.inr (Or.inr (Or.inr ⟨?_, ?_, ?_, fun p hp hn => ?_⟩)))), ?_⟩
    · intro c hc; unfold cIW cI cL cW at hc; show ¬ _; unfold wf_27; omega
    · rw [g3z.2.1, wv_us]
    · rw [g3z.2.2.2.1, wv_us, e2]; exact hV.1.2.2.1
    · rw [g3z.2.2.2.1, wv_us, e2]; rfl
    · rw [n1' p hp]; unfold aLaw; rw [wv_un hn]
    · rw [g2, n2, e2, x2 101 (by decide)]
  · obtain ⟨g1, g2⟩ := c1.2 c
    obtain ⟨n1, n2⟩ := c2.2 c
    exact ⟨fin_bad hl h x1 m1 m2 g2 n2, by rw [g1, n1]⟩
theorem mu_worth {F lim : Nat} {σ : Mem} {v x : Int32} (hF : 73786976294838206464 ≤ F) (hl : 28 ≤ lim ∧ lim ≤ 188) (h : wR lim σ) : ∃ r1 s1 r2 s2, f_X3_worth F v x σ = some (r1, s1) ∧ f_X4_worth F v x s1 = some (r2, s2) ∧ wR lim s2 ∧ r1 = r2 := by
  obtain ⟨hX, hM, hV, hI, hS, hL, hW⟩ := id h
  refine two (pc_sf (s_X3_worth (by omega) hX) (pc_and (cx_worth (by omega) (wx_X2_4 hX) (wx_X2_5 hX)) (pc_pf (fr_X3_worth (by omega))))) (fun a s q => pc_sf (s_X4_worth hF (wm_congr hM q.1.2.1)) (cm_worth hF (wm_congr hM q.1.2.1))) (fun a s b z q1 q2 => ?_)
  obtain ⟨⟨x1, x2, -⟩, c1, f1⟩ := q1
  obtain ⟨⟨m1, m2, -⟩, c2⟩ := q2
  by_cases c : cF (cB (0 ≤ v.toInt ∧ v.toInt ≤ 7)) (cN x 0 9) = 0
  · obtain ⟨g1, g2, g3⟩ := c1.1 c
    obtain ⟨n1, n2, n3, n4⟩ := c2.1 c
    obtain ⟨hb, hx⟩ := cF_0 c
    have hb := cB_0 hb
    have hx := cN_0 hx
    rw [tz_0, tz_9] at hx
    have hn : v.toNatClampNeg < 8 := tn_lt hb.1 (by omega)
    have hv : v.toInt = (v.toNatClampNeg : Int) := by rw [ti_nat]; omega
    have hj := wvJI_16 _ hn
    have hk := wtJI_102 _ hn
    have eX : wvX 1 σ (4 + v.toNatClampNeg) = σ 17 v.toNatClampNeg := by unfold wvX; rw [wvE_o (Or.inl (by omega)), ← hj.1, ← hj.2]
    have eM : wvM σ (4 + v.toNatClampNeg) = σ 102 v.toNatClampNeg := by unfold wvM; rw [hk.1, hk.2]
    have e2 : σ 17 v.toNatClampNeg = wvM σ (4 + v.toNatClampNeg) := by rw [← eX]; exact weq_lo hV.2 hl.1 (by omega)
    have n1' : ∀ p, p < 188 → wvM z p = aWorth (wvM σ) v x p := fun p hp => by
      rw [n1 p hp]
      unfold aWorth
      exact upd_cg (eMV x2 p hp) rfl
    have g3z : wsPut σ z 2 v (σ 17 v.toNatClampNeg) := wsPut_k g3 (fun k a b => m2 k (by omega))
    refine ⟨fin hl h x1 m1 m2 (ag_put f1 ?_ n4) (rV_mk hl m2 (fun p hp => g1 p (by omega)) (fun p hp => n1' p (by omega)) (fun p hp => n1' p (by omega)) (wvV_aWorth hV.1 hn hx) (weq_aWorth hV.2)) (rS_push hV.1 hS (wx_X2_4 hX) (wx_X2_5 hX) g3z.1 (put_slot g3z) (kept_s x2 n3) (Or.inr (Or.inr (Or.inl ⟨?_, v.toNatClampNeg, ?_, hn, ?_, ?_, fun p hp hn => ?_⟩)))), ?_⟩
    · intro c hc; unfold cIW cI cL cW at hc; show ¬ _; unfold wf_26; omega
    · rw [g3z.2.1, wv_us]
    · rw [g3z.2.2.1, wv_us]; exact hv
    · rw [g3z.2.2.2.1, wv_us, e2]; exact hV.1.2.2.2.1 _ (by omega) (by omega)
    · rw [g3z.2.2.2.1, wv_us, e2]
    · rw [n1' p hp]; unfold aWorth; rw [wv_un hn]
    · rw [g2, n2, e2, eM, x2 102 (by decide)]
  · obtain ⟨g1, g2⟩ := c1.2 c
    obtain ⟨n1, n2⟩ := c2.2 c
    exact ⟨fin_bad hl h x1 m1 m2 g2 n2, by rw [g1, n1]⟩
theorem mu_wall {F lim : Nat} {σ : Mem} {x v : Int32} (hF : 73786976294838206464 ≤ F) (hl : 28 ≤ lim ∧ lim ≤ 188) (h : wR lim σ) : ∃ r1 s1 r2 s2, f_X3_wall F x v σ = some (r1, s1) ∧ f_X4_wall F x v s1 = some (r2, s2) ∧ wR lim s2 ∧ r1 = r2 := by
  obtain ⟨hX, hM, hV, hI, hS, hL, hW⟩ := id h
  refine two (pc_sf (s_X3_wall (by omega) hX) (pc_and (cx_wall (by omega) (wx_X0_0 hX wt_h1).2 (wx_X2_4 hX) (wx_X2_5 hX)) (pc_pf (fr_X3_wall (by omega))))) (fun a s q => pc_sf (s_X4_wall hF (wm_congr hM q.1.2.1)) (cm_wall hF (wm_congr hM q.1.2.1))) (fun a s b z q1 q2 => ?_)
  obtain ⟨⟨x1, x2, -⟩, c1, f1⟩ := q1
  obtain ⟨⟨m1, m2, -⟩, c2⟩ := q2
  have e0 : σ 1 0 = σ 101 1 := weq_lo hV.2 hl.1 (p := 0) (by decide)
  have es : s 101 1 = σ 101 1 := by rw [x2 101 (by decide)]
  rw [es, ← e0] at c2
  by_cases c : cF (cB (0 ≤ x.toInt ∧ x.toInt < (σ 1 0).toInt)) (cB (0 ≤ v.toInt ∧ v.toInt ≤ 7)) = 0
  · obtain ⟨g1, g2, g3⟩ := c1.1 c
    obtain ⟨n1, n2, n3, n4⟩ := c2.1 c
    obtain ⟨hb, hx⟩ := cF_0 c
    have hb := cB_0 hb
    have b6 := (wx_X0_0 hX wt_h1).2
    have hn : x.toNatClampNeg < 6 := tn_lt hb.1 (by omega)
    have hv : x.toInt = (x.toNatClampNeg : Int) := by rw [ti_nat]; omega
    have hj := wvJI_1 _ hn
    have hk := wtJI_103 _ hn
    have eX : ∀ s : Mem, wvX 1 s (12 + x.toNatClampNeg) = s 2 x.toNatClampNeg := fun s => by unfold wvX; rw [wvE_o (Or.inl (by omega)), ← hj.1, ← hj.2]
    have eM : ∀ s : Mem, wvM s (12 + x.toNatClampNeg) = s 103 x.toNatClampNeg := fun s => by unfold wvM; rw [hk.1, hk.2]
    have e2 : σ 2 x.toNatClampNeg = wvM σ (12 + x.toNatClampNeg) := by rw [← eX σ]; exact weq_lo hV.2 hl.1 (by omega)
    have n1' : ∀ p, p < 188 → wvM z p = aWall (wvM σ) x v p := fun p hp => by
      rw [n1 p hp]
      unfold aWall
      rw [eMV x2 _ (by omega)]
      exact upd_cg (eMV x2 p hp) rfl
    have g3z : wsPut σ z 1 x (σ 2 x.toNatClampNeg) := wsPut_k g3 (fun k a b => m2 k (by omega))
    refine ⟨fin hl h x1 m1 m2 (ag_put f1 ?_ n4) (rV_mk hl m2 (fun p hp => g1 p (by omega)) (fun p hp => n1' p (by omega)) (fun p hp => n1' p (by omega)) (wvV_aWall hV.1 hn) (weq_aWall hV.2 hl.1 hn)) (rS_push hV.1 hS (wx_X2_4 hX) (wx_X2_5 hX) g3z.1 (put_slot g3z) (kept_s x2 n3) (Or.inr (Or.inl ⟨?_, x.toNatClampNeg, ?_, ?_, ?_, fun p hp hn => ?_⟩))), ?_⟩
    · intro c hc; unfold cIW cI cL cW at hc; show ¬ _; unfold wf_25; omega
    · rw [g3z.2.1, wv_us]
    · rw [g3z.2.2.1, wv_us]; exact hv
    · rw [n1' 0 (by decide)]
      unfold aWall
      rw [wv_un (by omega), ← hv]
      show x.toInt < (σ 101 1).toInt
      rw [← e0]
      exact hb.2
    · rw [g3z.2.2.2.1, wv_us, e2]
    · rw [n1' p hp]; unfold aWall; rw [wv_un hn]
    · have h1 : s 2 x.toNatClampNeg = z 103 x.toNatClampNeg := by
        rw [← eX s, ← eM z, g1 _ (by omega), n1' _ (by omega)]
        unfold aWall
        rw [wv_us, wv_us, eX σ, e2]
      rw [g2, n2, h1]
  · obtain ⟨g1, g2⟩ := c1.2 c
    obtain ⟨n1, n2⟩ := c2.2 c
    exact ⟨fin_bad hl h x1 m1 m2 g2 n2, by rw [g1, n1]⟩
end
section
theorem wvV_X {σ : Mem} (h : rV 188 σ) : wvV (wvX 1 σ) := wvV_weq h.1 h.2
theorem mu_stands {F : Nat} {σ : Mem} {x1 x2 x3 x4 : Int32} (hF : 73786976294838206464 ≤ F) (hl : 148 ≤ 188 ∧ 188 ≤ 188) (h : wR 188 σ) : ∃ r1 s1 r2 s2, f_X3_stands F x1 x2 x3 x4 σ = some (r1, s1) ∧ f_X4_stands F x1 x2 x3 x4 s1 = some (r2, s2) ∧ wR 188 s2 ∧ r1 = r2 := by
  obtain ⟨hX, hM, hV, hI, hS, hL, hW⟩ := id h
  have hl2 : 28 ≤ 188 ∧ 188 ≤ 188 := by omega
  have hvX := wvV_X hV
  refine two (pc_sf (s_X3_stands (by omega) hX) (pc_and (cx_stands (by omega) hvX (wx_X2_4 hX) (wx_X2_5 hX)) (pc_pf (fr_X3_stands (by omega))))) (fun a s q => pc_sf (s_X4_stands hF (wm_congr hM q.1.2.1)) (cm_stands hF (wm_congr hM q.1.2.1))) (fun a s b z q1 q2 => ?_)
  obtain ⟨⟨y1, y2, -⟩, c1, f1⟩ := q1
  obtain ⟨⟨m1, m2, -⟩, c2⟩ := q2
  have e0 : σ 1 0 = σ 101 1 := weq_lo hV.2 hl2.1 (p := 0) (by decide)
  have e1 : σ 1 2 = σ 101 3 := weq_lo hV.2 hl2.1 (p := 1) (by decide)
  have es0 : s 101 1 = σ 101 1 := by rw [y2 101 (by decide)]
  have es1 : s 101 3 = σ 101 3 := by rw [y2 101 (by decide)]
  rw [es0, es1, ← e0, ← e1] at c2
  by_cases c : eStands (σ 1 0).toInt (σ 1 2).toInt x1 x2 x3 x4 = 0
  · obtain ⟨g1, g2, g3⟩ := c1.1 c
    obtain ⟨n1, n2, n3, n4⟩ := c2.1 c
    have hc := eStands_0 c
    have hl1 : x1.toInt = (x1.toNatClampNeg : Int) := by have := hc.1; rw [ti_nat]; omega
    have hl5 : x1.toNatClampNeg < 5 := by have := hc.1; have := hvX.2.1.2; have e : (wvX 1 σ 1).toInt = (σ 1 2).toInt := rfl; omega
    have h24 : x2.toNatClampNeg < 24 ∧ x3.toNatClampNeg < 24 := by
      have t2 := ti_nat x2; have t3 := ti_nat x3; have := hc.2.1; have := hc.2.2.1; omega
    have hx4 : x4.toInt = 9 ∨ (0 ≤ x4.toInt ∧ x4.toInt < (wvM σ 0).toInt) := by
      have := hc.2.2.2.2
      rw [e0] at this
      exact this
    have n1' : ∀ p, p < 188 → wvM z p = aStand (wvM σ) x1.toNatClampNeg x2.toNatClampNeg x3.toNatClampNeg x4 p := fun p hp => by
      rw [n1 p hp]
      unfold aStand
      by_cases e : 28 + 24 * x1.toNatClampNeg + x2.toNatClampNeg ≤ p ∧ p ≤ 28 + 24 * x1.toNatClampNeg + x3.toNatClampNeg
      · rw [if_pos e, if_pos e]
      · rw [if_neg e, if_neg e, eMV y2 p hp]
    have g3z : wsPutR σ z x1 (σ (1 + 5 + x1.toNatClampNeg)) := wsPutR_k g3 (fun k a b => m2 k (by omega))
    have eR : ∀ t, t < 24 → wvX 1 σ (28 + 24 * x1.toNatClampNeg + t) = wvN (σ (1 + 5 + x1.toNatClampNeg) t) := fun t ht => by
      have hj := wvJI_5 _ hl5 t ht
      unfold wvX
      rw [wvE_i (by omega), ← hj.1, ← hj.2, show 1 + (5 + x1.toNatClampNeg) = 1 + 5 + x1.toNatClampNeg by omega]
    have lvp : ∀ t, t < 24 → live (wvM σ) (28 + 24 * x1.toNatClampNeg + t) := fun t ht => ⟨fun _ _ => by
      have := hc.1.2
      rw [e1] at this
      have e : wvM σ 1 = σ 101 3 := rfl
      have t3 := ti_nat (σ 101 3)
      rw [e]; omega, fun q => by omega⟩
    have eRM : ∀ t, t < 24 → wvM σ (28 + 24 * x1.toNatClampNeg + t) = wvN (σ (1 + 5 + x1.toNatClampNeg) t) := fun t ht => by
      rw [← eR t ht]; exact (hV.2 _ (by omega) (lvp t ht)).symm
    have bO : ∀ t, t < 24 → (σ (1 + 5 + x1.toNatClampNeg) t).toInt = 9 ∨ (0 ≤ (σ (1 + 5 + x1.toNatClampNeg) t).toInt ∧ (σ (1 + 5 + x1.toNatClampNeg) t).toInt < (wvM σ 0).toInt) := fun t ht => by
      have hb := hV.1.2.2.2.2.1 _ (by omega) (by omega) (lvp t ht)
      rw [eRM t ht] at hb
      unfold wvN at hb
      by_cases e9 : σ (1 + 5 + x1.toNatClampNeg) t = 9
      · left; rw [e9]; rfl
      · rw [if_neg e9] at hb
        by_cases em : σ (1 + 5 + x1.toNatClampNeg) t = -9
        · rw [if_pos em] at hb
          have := hV.1.1.2
          rw [tz_9] at hb
          omega
        · rw [if_neg em] at hb
          rcases hb with q | q
          · exact absurd (Int32.toInt_inj.mp (by rw [q]; rfl)) em
          · exact Or.inr q
    refine ⟨fin hl2 h y1 m1 m2 (ag_put f1 ?_ n4) (rV_mk hl2 m2 (fun p hp => g1 p (by omega)) (fun p hp => n1' p (by omega)) (fun p hp => n1' p (by omega)) (wvV_aStand hV.1 ⟨hl5, h24.2⟩ hx4) (weq_aStand hV.2)) (rS_push hV.1 hS (wx_X2_4 hX) (wx_X2_5 hX) g3z.1 (putR_slot g3z) (kept_s y2 n3) (Or.inl ⟨?_, x1.toNatClampNeg, ?_, ?_, fun t ht => ?_, fun t ht => ?_, fun p hp hn => ?_⟩)), ?_⟩
    · intro c hc; unfold cIW cI cL cW at hc; show ¬ _; unfold wf_24; omega
    · rw [g3z.2.1, wv_us]
    · rw [g3z.2.2.1, wv_us]; exact hl1
    · rw [n1' 1 (by decide)]
      unfold aStand
      rw [if_neg (by omega), ← hl1]
      show x1.toInt < (σ 101 3).toInt
      rw [← e1]
      exact hc.1.2
    · rw [g3z.2.2.2.1 t ht]; exact eRM t ht
    · rw [g3z.2.2.2.1 t ht, n1' 0 (by decide)]
      unfold aStand
      rw [if_neg (by omega)]
      exact bO t ht
    · rw [n1' p hp]; unfold aStand; rw [if_neg (by omega)]
    · rw [g2, n2]
      have hA : weq 188 (aStand (wvM σ) x1.toNatClampNeg x2.toNatClampNeg x3.toNatClampNeg x4) (aStand (wvX 1 σ) x1.toNatClampNeg x2.toNatClampNeg x3.toNatClampNeg x4) := weq_aStand hV.2
      have hB : ∀ t, t ≤ 24 → aHours (aStand (wvX 1 σ) x1.toNatClampNeg x2.toNatClampNeg x3.toNatClampNeg x4) x1.toNatClampNeg t = aHours (aStand (wvM s) x1.toNatClampNeg x2.toNatClampNeg x3.toNatClampNeg x4) x1.toNatClampNeg t := fun t => by
        induction t with
        | zero => intro _; rfl
        | succ t ih =>
          intro ht
          show aHours _ _ t + _ = aHours _ _ t + _
          have lv : live (aStand (wvM σ) x1.toNatClampNeg x2.toNatClampNeg x3.toNatClampNeg x4) (28 + 24 * x1.toNatClampNeg + t) := by
            have := lvp t (by omega)
            unfold live at this ⊢
            rw [show aStand (wvM σ) x1.toNatClampNeg x2.toNatClampNeg x3.toNatClampNeg x4 1 = wvM σ 1 from if_neg (by omega)]
            exact this
          have hs : aStand (wvM s) x1.toNatClampNeg x2.toNatClampNeg x3.toNatClampNeg x4 (28 + 24 * x1.toNatClampNeg + t) = aStand (wvM σ) x1.toNatClampNeg x2.toNatClampNeg x3.toNatClampNeg x4 (28 + 24 * x1.toNatClampNeg + t) := by
            unfold aStand
            rw [eMV y2 _ (by omega)]
          rw [ih (by omega), hs, hA _ (by omega) lv]
      exact hB 24 (by omega)
  · obtain ⟨g1, g2⟩ := c1.2 c
    obtain ⟨n1, n2⟩ := c2.2 c
    exact ⟨fin_bad hl2 h y1 m1 m2 g2 n2, by rw [g1, n1]⟩
theorem mu_days {F : Nat} {σ : Mem} {x : Int32} (hF : 73786976294838206464 ≤ F) (h : wR 188 σ) : ∃ r1 s1 r2 s2, f_X3_days F x σ = some (r1, s1) ∧ f_X4_days F x s1 = some (r2, s2) ∧ wR 188 s2 := by
  obtain ⟨hX, hM, hV, hI, hS, hL, hW⟩ := id h
  have hl : 28 ≤ 188 ∧ 188 ≤ 188 := by omega
  refine two (pc_sf (s_X3_days (by omega) hX) (pc_and (cx_days (by omega) (wvV_X hV)) (pc_pf (fr_X3_days (by omega))))) (fun a s q => pc_sf (s_X4_days hF (wm_congr hM q.1.2.1)) (pc_and (cm_days (by omega) (wvV_cg hV.1 (eMV q.1.2.1))) (pc_pf (fr_X4_days (by omega))))) (fun a s b z q1 q2 => ?_)
  obtain ⟨⟨x1, x2, -⟩, c1, f1⟩ := q1
  obtain ⟨⟨m1, m2, -⟩, c2, f2⟩ := q2
  have e0 : σ 1 9 = σ 101 9 := weq_lo hV.2 hl.1 (p := 3) (by decide)
  have es : s 101 9 = σ 101 9 := by rw [x2 101 (by decide)]
  rw [es, ← e0] at c2
  by_cases c : eDays (σ 1 9) x = 0
  · obtain ⟨g1, g3⟩ := c1.1 c
    obtain ⟨n1, n3⟩ := c2.1 c
    have n1' : ∀ p, p < 188 → wvM z p = aDay (wvM σ) x p := fun p hp => by
      rw [n1 p hp]
      exact aDay_cg hV.1 (eMV x2) hp
    have hx : 0 ≤ x.toInt ∧ x.toInt ≤ 9999 := by
      have := cN_0 (cF_0 c).1
      rw [tz_1, tz_99] at this
      omega
    refine fin hl h x1 m1 m2 (ag_tr (ag_fr f1 ?_) (ag_fr f2 ?_)) (rV_mk hl m2 g1 n1' n1' (wvV_aDay hV.1 hx) (weq_aDay hV.1 hV.2 (by omega))) (rS_0 (by rw [m2 70 (by decide)]; exact g3) n3)
    · intro c hc; unfold cIW cI cL cW at hc; show ¬ _; unfold wf_28; omega
    · intro c hc; unfold cIW cI cL cW at hc; show ¬ _; unfold wf_64; omega
  · obtain ⟨g1, g2⟩ := c1.2 c
    obtain ⟨n1, n2⟩ := c2.2 c
    exact fin_bad hl h x1 m1 m2 g2 n2
theorem mu_back {F lim : Nat} {σ : Mem} (hF : 73786976294838206464 ≤ F) (hl : 28 ≤ lim ∧ lim ≤ 188) (h : wR lim σ) : ∃ r1 s1 r2 s2, f_X3_back F σ = some (r1, s1) ∧ f_X4_back F s1 = some (r2, s2) ∧ wR lim s2 ∧ r1 = r2 := by
  obtain ⟨hX, hM, hV, hI, hS, hL, hW⟩ := id h
  refine two (pc_sf (s_X3_back (by omega) hX) (pc_and (cx_back (by omega) (wx_X0_0 hX wt_h1) (wx_X0_2 hX wt_h1) (wx_X2_4 hX) (wx_X2_5 hX)) (pc_pf (fr_X3_back (by omega))))) (fun a s q => pc_sf (s_X4_back hF (wm_congr hM q.1.2.1)) (cm_back hF (wm_congr hM q.1.2.1))) (fun a s b z q1 q2 => ?_)
  obtain ⟨⟨x1, x2, -⟩, c1, f1⟩ := q1
  obtain ⟨⟨m1, m2, -⟩, c2⟩ := q2
  have e5 : (σ 70 5).toInt = (σ 101 30).toInt := congrArg Int32.toInt hS.1
  have es : s 101 30 = σ 101 30 := by rw [x2 101 (by decide)]
  rw [es, ← e5] at c2
  by_cases c : (σ 70 5).toInt = 0
  · rw [if_pos c] at c1 c2
    obtain ⟨g1, g2⟩ := c1.2 (by decide)
    obtain ⟨n1, n2⟩ := c2.2 (by decide)
    exact ⟨fin_bad hl h x1 m1 m2 g2 n2, by rw [g1, n1]⟩
  · rw [if_neg c] at c1 c2
    obtain ⟨g1, ⟨g2, g3⟩, g4⟩ := c1.1 rfl
    obtain ⟨n1, n2, n3, n4, n5⟩ := c2.1 rfl
    have b5 := wx_X2_5 hX
    have en := ti_nat (σ 101 30)
    have hn : (σ 101 30).toInt = (((σ 101 30).toNatClampNeg - 1 : Nat) : Int) + 1 := by omega
    generalize (σ 101 30).toNatClampNeg - 1 = n at hn n3
    have o : ∀ k, 71 ≤ k → k ≤ 82 → z k = σ k := fun k p1 p2 => by
      rw [m2 k (by omega)]
      exact funext fun i => f1 k i (by rw [wcid_hi (by omega)]; show ¬ _; unfold wf_29; omega)
    have x117 : s 117 = σ 117 := x2 117 (by decide)
    have hz : ∀ p, p < 188 → wvM z p = σ 117 (188 * n + p) := fun p hp => by rw [n3 p hp, x117]
    obtain ⟨k1, k2⟩ := rS_pop (s := z) hV.1 hS hn (by rw [m2 70 (by decide)]; exact g2) (by rw [m2 70 (by decide)]; omega) (by omega) o (by rw [n4, x117]) hz
    have hw := weq_undone (s := z) hl hV.1 hV.2 hS hn (by
      obtain ⟨u0, u1, u2, u3⟩ := g4
      have ez : ∀ p, p < 188 → wvX 1 z p = wvX 1 s p := fun p hp => wvX_eq (fun p hp => by have := wvJ_le p hp; rw [m2 _ (by omega)]) hp
      exact ⟨fun a l b c d p hp => by rw [ez p hp]; exact u0 a l b c d p hp, fun a i b c p hp => by rw [ez p hp]; exact u1 a i b c p hp, fun a i b c d e p hp => by rw [ez p hp]; exact u2 a i b c d e p hp, fun a b c p hp => by rw [ez p hp]; exact u3 a b c p hp⟩) hz
    refine ⟨fin hl h x1 m1 m2 (ag_put f1 ?_ n5) ⟨k2, hw⟩ k1, ?_⟩
    · intro c hc; unfold cIW cI cL cW at hc; show ¬ _; unfold wf_29; omega
    · rw [g1, n1]
      exact Int32.toInt_inj.mp (by omega)
theorem mu_image {F lim : Nat} {σ : Mem} (hF : 73786976294838206464 ≤ F) (hl : 28 ≤ lim ∧ lim ≤ 188) (h : wR lim σ) : ∃ r1 s1 r2 s2, f_X3_image F σ = some (r1, s1) ∧ f_X4_image F s1 = some (r2, s2) ∧ wR lim s2 ∧ r1 = r2 := by
  obtain ⟨hX, hM, hV, hI, hS, hL, hW⟩ := id h
  refine two (pc_sf (s_X3_image (by omega) hX) (pc_and cx_image (pc_pf (fr_X3_image (by omega))))) (fun a s q => pc_sf (s_X4_image hF (wm_congr hM q.1.2.1)) (cm_image (by omega))) (fun a s b z q1 q2 => ?_)
  obtain ⟨⟨x1, x2, -⟩, ⟨g1, g2, g3⟩, f1⟩ := q1
  obtain ⟨⟨m1, m2, -⟩, n1, n2, n3, n4⟩ := q2
  have e9 : σ 1 9 = σ 101 9 := weq_lo hV.2 hl.1 (p := 3) (by decide)
  have ag2 : ∀ C : Nat → Prop, (∀ c, C c → ¬ ((47 ≤ c ∧ c ≤ 63) ∨ c = 2003 ∨ c = 116 ∨ c = 1010 ∨ c = 1024 ∨ (1025 ≤ c ∧ c ≤ 1027))) → ag C σ z := fun C hC k i hc => by
    have hk := hC _ hc
    rw [n4 k i (fun e => by subst e; rw [show wcid 116 i = 116 from rfl] at hk; omega) (fun e => by obtain ⟨rfl, e⟩ := e; rw [show wcid 101 i = 1000 + i from rfl] at hk; omega)]
    exact f1 k i (by show ¬ _; unfold wf_43; omega)
  have hz47 : ∀ p, p < 188 → wvX 47 z p = wvX 1 σ p := fun p hp => by
    rw [← g1 p hp]
    exact wvX_eq (fun p hp => by have := wvJ_le p hp; rw [m2 _ (by omega)]) hp
  have hz116 : ∀ p, p < 188 → z 116 p = wvM σ p := fun p hp => by rw [n1 p hp, eMV x2 p hp]
  refine ⟨⟨wx_congr x1 m2, m1, rV_ag hl hV (ag2 _ ?_), ⟨by rw [n3, m2 0 (by decide), g3], fun _ => ⟨wvV_cg hV.1 hz116, weq_cg hV.2 hl.1 (fun p hp => hz116 p (by omega)) (fun p hp => hz47 p (by omega))⟩⟩, rS_ag hV.1 hS (ag2 _ ?_), rL_ag hL (ag2 _ ?_), rW_ag hW (ag2 _ ?_)⟩, ?_⟩
  · intro c hc; unfold cV cX cM at hc; omega
  · intro c hc; unfold cS cM at hc; omega
  · intro c hc; unfold cL at hc; omega
  · intro c hc; unfold cW at hc; omega
  · rw [g2, n2, n4 101 9 (by decide) (by omega), x2 101 (by decide), ← e9]
    exact f1 1 9 (by show ¬ _; rw [show wcid 1 9 = 1 from rfl]; unfold wf_43; omega)
theorem mu_restore {F lim : Nat} {σ : Mem} (hF : 73786976294838206464 ≤ F) (hl : 28 ≤ lim ∧ lim ≤ 188) (h : wR lim σ) : ∃ r1 s1 r2 s2, f_X3_restore F σ = some (r1, s1) ∧ f_X4_restore F s1 = some (r2, s2) ∧ wR lim s2 ∧ r1 = r2 := by
  obtain ⟨hX, hM, hV, hI, hS, hL, hW⟩ := id h
  refine two (pc_sf (s_X3_restore (by omega) hX) (pc_and cx_restore (pc_pf (fr_X3_restore (by omega))))) (fun a s q => pc_sf (s_X4_restore hF (wm_congr hM q.1.2.1)) (cm_restore (by omega))) (fun a s b z q1 q2 => ?_)
  obtain ⟨⟨x1, x2, -⟩, c1, f1⟩ := q1
  obtain ⟨⟨m1, m2, -⟩, c2⟩ := q2
  have es : s 101 24 = σ 101 24 := by rw [x2 101 (by decide)]
  rw [es, ← hI.1] at c2
  by_cases c : σ 0 3 = 0
  · rw [if_pos c] at c1 c2
    obtain ⟨g1, g2⟩ := c1.2 (by decide)
    obtain ⟨n1, n2⟩ := c2.2 (by decide)
    exact ⟨fin_bad hl h x1 m1 m2 g2 n2, by rw [g1, n1]⟩
  · rw [if_neg c] at c1 c2
    obtain ⟨g1, g2, g3⟩ := c1.1 rfl
    obtain ⟨n1, n2, n3, n4⟩ := c2.1 rfl
    obtain ⟨hv, hw⟩ := hI.2 c
    have n1' : ∀ p, p < 188 → wvM z p = σ 116 p := fun p hp => by rw [n1 p hp, x2 116 (by decide)]
    refine ⟨fin hl h x1 m1 m2 (ag_put f1 ?_ n4) (rV_mk hl m2 (fun p hp => g1 p (by omega)) (fun p hp => n1' p (by omega)) (fun p hp => n1' p (by omega)) hv hw) (rS_0 (by rw [m2 70 (by decide)]; exact g3) n3), ?_⟩
    · intro c hc; unfold cIW cI cL cW at hc; show ¬ _; unfold wf_44; omega
    · rw [g2, n2]
      have h1 : s 1 9 = wvX 47 σ 3 := g1 3 (by decide)
      have h2 : z 101 9 = σ 116 3 := n1' 3 (by decide)
      rw [h1, h2]
      exact weq_lo hw hl.1 (by decide)
end
