/-! newcomer -/
theorem aLooker_lo {V : Nat → Int32} {k f : Int32} {p : Nat} (h : p < 18) (h1 : ¬ p = 1) : aLooker V k f p = V p := by
  unfold aLooker
  rw [if_neg h1, if_neg (by omega), if_neg (by omega), if_neg (by omega), if_neg (by omega)]
theorem aLooker_cg {A B : Nat → Int32} {k f : Int32} {p : Nat} (e1 : A 1 = B 1) (e : A p = B p) : aLooker A k f p = aLooker B k f p := by
  unfold aLooker
  rw [e1, e]
theorem qx_addL24 {F : Nat} (hF : 1000 ≤ F) {x1 x2 : Int32} {σ : Mem} {V : Nat → Int32} (a : vH 24 V σ) (hk : 0 ≤ x1.toInt ∧ x1.toInt ≤ 5) (hf : 0 ≤ x2.toInt ∧ x2.toInt ≤ 9) (hL : (V 1).toInt < 5) : pc (f_X0_addLooker F 24 x1 x2 σ) (fun _ s => vH 24 (aLooker V x1 x2) s ∧ o24 σ s) := by
  have h5 := a.1.2.1
  exact pc_mono (pc_and (ax_addLooker wt_h24 (by rw [vH_2 a]; exact h5)) (pc_pf (fr_X0_addLooker hF wt_h24))) (fun _ s q => ⟨⟨wvV_aLooker a.1 hk hf hL, fun p hp hl => by rw [(q.1.1 ⟨hk, hf, by rw [vH_2 a]; exact hL⟩).2 p hp]; exact weq_aLooker (lim := 188) a.2 (by omega) ⟨h5.1, hL⟩ p hp hl⟩, o24_fr q.2 (fun c w => by unfold wf_3 at w; omega)⟩)
def aF1 (V : Nat → Int32) (who n : Int32) : Nat → Nat → Int32
  | 0, _ => -9
  | k + 1, v => if aHold V n v = who then Int32.ofNat v else aF1 V who n k (v + 1)
theorem aF1_t {V : Nat → Int32} {who n : Int32} {k v : Nat} (e : aHold V n v = who) : aF1 V who n (k + 1) v = Int32.ofNat v := if_pos e
theorem aF1_f {V : Nat → Int32} {who n : Int32} {k v : Nat} (e : ¬ aHold V n v = who) : aF1 V who n (k + 1) v = aF1 V who n k (v + 1) := if_neg e
theorem aF1_b {V : Nat → Int32} {who n : Int32} : ∀ k v, v + k = 8 → aF1 V who n k v = -9 ∨ 0 ≤ (aF1 V who n k v).toInt := fun k => by
  induction k with
  | zero => intro v _; exact Or.inl rfl
  | succ k ih =>
    intro v hv
    by_cases c : aHold V n v = who
    · rw [aF1_t c, io_nat v (by omega)]; exact Or.inr (by omega)
    · rw [aF1_f c]; exact ih (v + 1) (by omega)
def aNc (V : Nat → Int32) (who x3 : Int32) : Nat → Int32 → Int32
  | 0, _ => -9
  | k + 1, x => if aF1 V who x 8 0 = -9 then aNc V who x3 k (x + 1) else if x3 = 0 then x else aF1 V who x 8 0
theorem aNc_t {V : Nat → Int32} {who x3 x : Int32} {k : Nat} (e : aF1 V who x 8 0 = -9) : aNc V who x3 (k + 1) x = aNc V who x3 k (x + 1) := if_pos e
theorem aNc_f {V : Nat → Int32} {who x3 x : Int32} {k : Nat} (e : ¬ aF1 V who x 8 0 = -9) : aNc V who x3 (k + 1) x = if x3 = 0 then x else aF1 V who x 8 0 := if_neg e
def cS5 (V : Nat → Int32) : Int32 := if (V 1).toInt < 5 then 0 else -3
def anNewcomer (V : Nat → Int32) (x1 x2 x3 : Int32) : Int32 := cF (cF (cF (cB (0 ≤ x2.toInt ∧ x2.toInt < (V 0).toInt)) (cF (cO x1 6) (cO x3 2))) (cS5 V)) (aNc (aStand (aLooker V x1 5) (V 1).toNatClampNeg 0 23 x2) (V 1) x3 1000 0)
theorem qx_firstH {F : Nat} {x1 x2 : Int32} {σ : Mem} {V : Nat → Int32} (a : vH 24 V σ ∧ vG 24 V σ) : pc (f_X0_firstHolding F 24 x1 x2 σ) (fun r s => r = aF1 V x1 x2 8 0 ∧ s = σ) := by
  have key : ∀ (N k v : Nat) (x3 : Int32), x3.toInt = (v : Int) → v + k = 8 → pc (lp_X0_firstHolding_2 F 24 x1 x2 N x3 σ) (fun r s => r = aF1 V x1 x2 k v ∧ s = σ) := by
    intro N
    induction N with
    | zero => intro k v x3 h1 h2; exact pc_none rfl
    | succ N ih =>
      intro k v x3 h1 h2
      rw [lp_X0_firstHolding_2_s]
      refine pc_ite (fun c => ?_) (fun c => ?_)
      · have d := ti_le c
        rw [tz_8] at d
        rw [show k = 0 by omega]
        exact pc_ret ⟨rfl, rfl⟩
      have d := ti_nle c
      rw [tz_8] at d
      obtain ⟨k', rfl⟩ : ∃ k', k = k' + 1 := ⟨k - 1, by omega⟩
      refine pc_bnd (qx_holder a.1 a.2 h1 (by omega)) (fun r s q => ?_)
      rw [q.2, q.1]
      refine pc_ite (fun e => pc_ret ⟨?_, rfl⟩) (fun e => ?_)
      · rw [aF1_t e]; exact io_eq h1 (by omega)
      · rw [aF1_f e]; exact ih k' (v + 1) _ (ti_nx h1 (by omega)) (by omega)
  rw [f_X0_firstHolding_e]
  exact key F 8 0 0 rfl (by omega)
theorem nc_V {V : Nat → Int32} (h : wvV V) {x1 x2 : Int32} (hL : (V 1).toInt < 5) : (aLooker V x1 5) 0 = V 0 ∧ ((aLooker V x1 5) 1).toInt = (V 1).toInt + 1 := by
  refine ⟨aLooker_lo (by decide) (by decide), ?_⟩
  have h5 := h.2.1
  rw [aLooker_1, ti_add (by rw [tz_1]; omega) (by rw [tz_1]; omega), tz_1]
theorem qx_newcomer {F : Nat} (hF : 1000 ≤ F) {x1 x2 x3 : Int32} {σ : Mem} {V : Nat → Int32} (h : vH 1 V σ) : pc (f_X3_newcomer F x1 x2 x3 σ) (fun r _ => r = anNewcomer V x1 x2 x3) := by
  have h5 := h.1.2.1
  have m1 := ti_nat (V 1)
  have t5 : (5 : Int32).toInt = 5 := rfl
  rw [f_X3_newcomer_e]
  refine pc_be (ax_noPane (by rw [vH_0 h]; exact h.1.1.2)) (pc_be ax_notBelow (pc_be ax_notBelow (pc_be ax_firstOf (pc_be ax_firstOf ?_))))
  rw [vH_0 h, vH_2 h]
  simp only [j_X3_newcomer_44_e]
  have J : ∀ t : Int32, t = cF (cF (cB (0 ≤ x2.toInt ∧ x2.toInt < (V 0).toInt)) (cF (cO x1 6) (cO x3 2))) (cS5 V) → pc (if t = 0 then (wt_bnd (f_X0_takeFrom F 24 1 σ) fun _ s4 => wt_bnd (f_X0_addLooker F 24 x1 5 s4) fun _ s6 => wt_lt ((s6 24 2) - 1) fun z7 => wt_bnd (f_X0_post F 24 z7 0 23 x2 s6) fun _ s9 => wt_bnd (f_X0_reckon F 24 s9) fun _ s11 => lp_X3_newcomer_112 F x3 z7 F 0 s11) else wt_bnd (f_X3_refuse F t σ) fun r s => some (r, s)) (fun r _ => r = anNewcomer V x1 x2 x3) := fun t ht => by
    subst ht
    unfold anNewcomer
    refine cq_end (fun e => pc_bnd (qx_take hF h) (fun _ s4 q4 => ?_))
    have eL := (cF_0 e).2
    have d2 := cB_0 (cF_0 (cF_0 e).1).1
    have d1 := cO_0 (cF_0 (cF_0 (cF_0 e).1).2).1
    have t6 : (6 : Int32).toInt = 6 := rfl
    rw [t6] at d1
    have hL : (V 1).toInt < 5 := by
      by_cases c : (V 1).toInt < 5
      · exact c
      · rw [show cS5 V = -3 from if_neg c] at eL; exact absurd eL (by decide)
    refine pc_bnd (qx_addL24 hF q4.1 (by omega) (by decide) hL) (fun _ s6 q6 => pc_lt (fun z7 g7 => ?_))
    have nv := nc_V h.1 (x1 := x1) (x2 := x2) hL
    have e7 : z7 = V 1 := by rw [g7, vH_2 q6.1, aLooker_1, Int32.add_sub_cancel]
    subst e7
    have t23 : (23 : Int32).toInt = 23 := rfl
    refine pc_bnd (qx_post24 hF q6.1 ⟨by omega, by rw [tz_0]; omega, by rw [t23]; omega, by rw [tz_0, t23]; omega, Or.inr (by rw [nv.1]; exact d2)⟩) (fun _ s9 q9 => ?_)
    refine pc_bnd (qx_reckH q9.1) (fun _ s11 q11 => ?_)
    have a : vH 24 (aStand (aLooker V x1 5) (V 1).toNatClampNeg 0 23 x2) s11 ∧ vG 24 (aStand (aLooker V x1 5) (V 1).toNatClampNeg 0 23 x2) s11 := q11.1
    clear t5 t6 t23
    have key : ∀ (N k i : Nat) (x6 : Int32), x6.toInt = (i : Int) → i + k = 1000 → pc (lp_X3_newcomer_112 F x3 (V 1) N x6 s11) (fun r _ => r = aNc (aStand (aLooker V x1 5) (V 1).toNatClampNeg 0 23 x2) (V 1) x3 k x6) := by
      intro N
      induction N with
      | zero => intro k i x6 h1 h2; exact pc_none rfl
      | succ N ih =>
        intro k i x6 h1 h2
        rw [lp_X3_newcomer_112_s]
        refine pc_ite (fun c => ?_) (fun c => pc_bnd (qx_firstH a) (fun r s q => ?_))
        · have d := ti_lt c
          rw [tz_999'] at d
          rw [show k = 0 by omega]
          exact pc_ret rfl
        have d := ti_nlt c
        rw [tz_999'] at d
        obtain ⟨k', rfl⟩ : ∃ k', k = k' + 1 := ⟨k - 1, by omega⟩
        rw [q.2, q.1]
        refine pc_ite (fun w => ?_) (fun w => ?_)
        · rw [aNc_t w]; exact ih k' (i + 1) _ (ti_nx h1 (by omega)) (by omega)
        · rw [aNc_f w]
          exact pc_ite (fun c0 => pc_ret (by rw [if_pos c0])) (fun c0 => pc_ret (by rw [if_neg c0]))
    exact key F 1000 0 0 rfl rfl
  have e0 : ∀ t : Int32, t = cF (cB (0 ≤ x2.toInt ∧ x2.toInt < (V 0).toInt)) (cF (cO x1 6) (cO x3 2)) → pc (if t = 0 then (if V 1 < 5 then (if t = 0 then (wt_bnd (f_X0_takeFrom F 24 1 σ) fun _ s4 => wt_bnd (f_X0_addLooker F 24 x1 5 s4) fun _ s6 => wt_lt ((s6 24 2) - 1) fun z7 => wt_bnd (f_X0_post F 24 z7 0 23 x2 s6) fun _ s9 => wt_bnd (f_X0_reckon F 24 s9) fun _ s11 => lp_X3_newcomer_112 F x3 z7 F 0 s11) else wt_bnd (f_X3_refuse F t σ) fun r s => some (r, s)) else (if (-3 : Int32) = 0 then (wt_bnd (f_X0_takeFrom F 24 1 σ) fun _ s4 => wt_bnd (f_X0_addLooker F 24 x1 5 s4) fun _ s6 => wt_lt ((s6 24 2) - 1) fun z7 => wt_bnd (f_X0_post F 24 z7 0 23 x2 s6) fun _ s9 => wt_bnd (f_X0_reckon F 24 s9) fun _ s11 => lp_X3_newcomer_112 F x3 z7 F 0 s11) else wt_bnd (f_X3_refuse F (-3) σ) fun r s => some (r, s))) else (if t = 0 then (wt_bnd (f_X0_takeFrom F 24 1 σ) fun _ s4 => wt_bnd (f_X0_addLooker F 24 x1 5 s4) fun _ s6 => wt_lt ((s6 24 2) - 1) fun z7 => wt_bnd (f_X0_post F 24 z7 0 23 x2 s6) fun _ s9 => wt_bnd (f_X0_reckon F 24 s9) fun _ s11 => lp_X3_newcomer_112 F x3 z7 F 0 s11) else wt_bnd (f_X3_refuse F t σ) fun r s => some (r, s))) (fun r _ => r = anNewcomer V x1 x2 x3) := fun t ht => by
    refine pc_ite (fun c => pc_ite (fun c5 => J t ?_) (fun c5 => J (-3) ?_)) (fun c => J t ?_)
    · have d := ti_lt c5
      rw [t5] at d
      rw [← ht, c, cF_z, show cS5 V = 0 from if_pos d]
    · have d := ti_nlt c5
      rw [t5] at d
      rw [← ht, c, cF_z, show cS5 V = -3 from if_neg (by omega)]
    · rw [← ht, cF_n c]
  exact e0 _ rfl
theorem nc_inner {F : Nat} {W : Nat → Int32} {who x3 x8 : Int32} (hx : 0 ≤ x8.toInt ∧ x8.toInt ≤ 9999) {k113 : Int32 → Int32 → Int32 → Mem → Option (Int32 × Mem)} {Q : Int32 → Mem → Prop} (hk : ∀ z, mRdy W z → pc (k113 (aF1 W who x8 8 0) (if aF1 W who x8 8 0 = -9 then -9 else x8) (x8 + 1) z) Q) : ∀ (N v k : Nat) (x6 x7 x9 : Int32) (z : Mem), mRdy W z → x9.toInt = (v : Int) - 1 → v + k = 8 → x6 = aF1 W who x8 k v → (x7 = if x6 = -9 then -9 else x8) → pc (lp_X4_newcomer_130 F k113 x3 who x8 N x6 x7 x9 z) Q := by
  intro N
  induction N with
  | zero => intro v k x6 x7 x9 z a h1 h2 h3 h4; exact pc_none rfl
  | succ N ih =>
    intro v k x6 x7 x9 z a h1 h2 h3 h4
    rw [lp_X4_newcomer_130_s]
    simp only [j_X4_newcomer_153_e, j_X4_newcomer_167_e, j_X4_newcomer_181_e, ↓reduceIte, (eq_false (by decide) : ((1 : Int32) = 0) = False)]
    refine pc_ite (fun c => ?_) (fun c => ?_)
    · have d := ti_lt c
      rw [tz_0] at d
      have v0 : v = 0 := by omega
      subst v0
      have k8 : k = 8 := by omega
      subst k8
      rw [h4, h3]
      exact hk z a
    have d := ti_nlt c
    rw [tz_0] at d
    obtain ⟨v', rfl⟩ : ∃ v', v = v' + 1 := ⟨v - 1, by omega⟩
    have h1' : x9.toInt = (v' : Int) := by omega
    have n9 : (x9 + -1).toInt = (v' : Int) - 1 := by rw [ti_m1 (by omega)]; omega
    have e9 := io_eq h1' (by omega)
    refine pc_bnd (qm_own hx h1' (by omega) a) (fun r s2 q => ?_)
    rw [q.1]
    refine pc_ite (fun w => ?_) (fun w => ?_)
    · refine ih v' (k + 1) _ _ _ s2 q.2 n9 (by omega) (by rw [aF1_t w]; exact e9) ?_
      have n9' : ¬ x9 = -9 := fun e => by
        rw [e] at h1'
        have u : (-9 : Int32).toInt = -9 := rfl
        rw [u] at h1'
        omega
      rw [if_neg n9']
    · refine ih v' (k + 1) _ _ _ s2 q.2 n9 (by omega) (by rw [aF1_f w]; exact h3) h4
theorem qm_newcomer {F : Nat} (hF : 1000 ≤ F) {x1 x2 x3 : Int32} {s : Mem} {V : Nat → Int32} (h : vM V s) : pc (f_X4_newcomer F x1 x2 x3 s) (fun r _ => r = anNewcomer V x1 x2 x3) := by
  have h5 := h.1.2.1
  have m1 := ti_nat (V 1)
  have t5 : (5 : Int32).toInt = 5 := rfl
  rw [f_X4_newcomer_e]
  refine pc_lt (fun s5 g5 => ?_)
  have h' : vM V s5 := vM_up h g5
  clear g5
  simp only [j_X4_newcomer_39_e]
  have J : ∀ t : Int32, t = cF (cF (cB (0 ≤ x2.toInt ∧ x2.toInt < (V 0).toInt)) (cF (cO x1 6) (cO x3 2))) (cS5 V) → pc (j_X4_newcomer_58 F x1 x2 x3 t s5) (fun r _ => r = anNewcomer V x1 x2 x3) := fun t ht => by
    rw [j_X4_newcomer_58_e]
    unfold anNewcomer
    rw [← ht]
    refine mq_end (by rw [ht]; exact sg_cF (sg_cF sg_cB (sg_cF sg_cO sg_cO)) (sg_i (by decide))) (fun e => ?_)
    rw [ht] at e
    have eL := (cF_0 e).2
    have d2 := cB_0 (cF_0 (cF_0 e).1).1
    have d1 := cO_0 (cF_0 (cF_0 (cF_0 e).1).2).1
    have t6 : (6 : Int32).toInt = 6 := rfl
    rw [t6] at d1
    have hL : (V 1).toInt < 5 := by
      by_cases c : (V 1).toInt < 5
      · exact c
      · rw [show cS5 V = -3 from if_neg c] at eL; exact absurd eL (by decide)
    have nv := nc_V h.1 (x1 := x1) (x2 := x2) hL
    refine pc_bnd (vM_think hF h') (fun _ s8 q8 => ?_)
    refine pc_bnd (mx_lookerComes (by rw [vM_L q8.1]; omega)) (fun _ s10 q10 => ?_)
    have v10 : vM (aLooker V x1 5) s10 := ⟨wvV_aLooker h.1 (by omega) (by decide) hL, fun p hp => by rw [q10 p hp]; exact aLooker_cg (q8.1.2 1 (by decide)) (q8.1.2 p hp)⟩
    rw [vM_L h']
    refine pc_bnd (vM_stand v10 (Or.inr (by rw [nv.1]; exact d2)) (l := (V 1).toNatClampNeg) (a := 0) (b := 23) (by omega) (by omega) rfl rfl (by omega) (by omega)) (fun _ s12 q12 => ?_)
    refine pc_bnd (qm_lay q12.1) (fun _ s14 q14 => ?_)
    clear t5 t6 e ht
    have fin : ∀ (x6 x7 : Int32) (z : Mem), pc (j_X4_newcomer_195 F x3 (V 1) x6 x7 z) (fun r _ => r = if x3 = 0 then x7 else x6) := fun x6 x7 z => by
      rw [j_X4_newcomer_195_e]
      exact pc_bnd pc_true (fun _ _ _ => pc_bnd pc_true (fun _ _ _ => pc_ite (fun c => pc_ret (by rw [if_pos c])) (fun c => pc_ret (by rw [if_neg c]))))
    have key : ∀ (N k i : Nat) (x8 : Int32) (z : Mem), mRdy (aStand (aLooker V x1 5) (V 1).toNatClampNeg 0 23 x2) z → x8.toInt = (i : Int) → i + k = 1000 → pc (lp_X4_newcomer_113 F x3 (V 1) N (-9) (-9) x8 z) (fun r _ => r = aNc (aStand (aLooker V x1 5) (V 1).toNatClampNeg 0 23 x2) (V 1) x3 k x8) := by
      intro N
      induction N with
      | zero => intro k i x8 z a h1 h2; exact pc_none rfl
      | succ N ih =>
        intro k i x8 z a h1 h2
        rw [lp_X4_newcomer_113_s]
        refine pc_ite (fun c => ?_) (fun c => pc_ite (fun c2 => absurd c2 (by decide)) (fun _ => ?_))
        · have d := ti_lt c
          rw [tz_999'] at d
          rw [show k = 0 by omega]
          exact pc_mono (fin _ _ z) (fun r _ q => by rw [q, ite_self]; rfl)
        have d := ti_nlt c
        rw [tz_999'] at d
        obtain ⟨k', rfl⟩ : ∃ k', k = k' + 1 := ⟨k - 1, by omega⟩
        refine nc_inner ⟨by omega, by omega⟩ (fun y b => ?_) F 8 0 _ _ 7 z a rfl rfl rfl rfl
        by_cases w : aF1 (aStand (aLooker V x1 5) (V 1).toNatClampNeg 0 23 x2) (V 1) x8 8 0 = -9
        · rw [aNc_t w, if_pos w, w]
          exact ih k' (i + 1) _ y b (ti_nx h1 (by omega)) (by omega)
        · rw [aNc_f w, if_neg w]
          cases N with
          | zero => exact pc_none rfl
          | succ N =>
            rw [lp_X4_newcomer_113_s]
            refine pc_ite (fun _ => fin _ _ y) (fun _ => pc_ite (fun _ => fin _ _ y) (fun n => absurd (Int32.le_iff_toInt_le.mpr (by rw [tz_0]; omega)) n))
    exact key F 1000 0 0 s14 q14 rfl rfl
  refine pc_be (mx_isPane (by rw [vM_P h']; exact h.1.1.1)) ?_
  rw [vM_P h']
  by_cases c : 0 ≤ x2.toInt ∧ x2.toInt < (V 0).toInt
  · rw [if_pos c, if_neg (by decide)]
    refine pc_be (mx_in32 (lo := 0) (hi := 5) rfl rfl) ?_
    by_cases c1 : 0 ≤ x1.toInt ∧ x1.toInt ≤ 5
    · have hO : cO x1 6 = 0 := if_pos ⟨c1.1, by have t6 : (6 : Int32).toInt = 6 := rfl; rw [t6]; omega⟩
      rw [if_pos c1, if_neg (by decide)]
      refine pc_be (mx_in32 (lo := 0) (hi := 1) rfl rfl) ?_
      by_cases c3 : 0 ≤ x3.toInt ∧ x3.toInt ≤ 1
      · have hO3 : cO x3 2 = 0 := if_pos ⟨c3.1, by rw [tz_2]; omega⟩
        rw [if_pos c3, if_neg (by decide), vM_L h']
        refine pc_ite (fun c5 => J (-3) ?_) (fun c5 => J 0 ?_)
        · have d := congrArg Int32.toInt c5
          rw [t5] at d
          rw [cB_t c, hO, hO3, cF_z, cF_z, cF_z, show cS5 V = -3 from if_neg (by omega)]
        · have d := ti_ne c5
          rw [t5] at d
          rw [cB_t c, hO, hO3, cF_z, cF_z, cF_z, show cS5 V = 0 from if_pos (by omega)]
      · have hO3 : cO x3 2 = -2 := if_neg (fun q => c3 ⟨q.1, by have := q.2; rw [tz_2] at this; omega⟩)
        rw [if_neg c3, if_pos rfl]
        exact J (-2) (by rw [cB_t c, hO, hO3, cF_z, cF_z, cF_n (a := -2) (by decide)])
    · have hO : cO x1 6 = -2 := if_neg (fun q => c1 ⟨q.1, by have := q.2; have t6 : (6 : Int32).toInt = 6 := rfl; rw [t6] at this; omega⟩)
      rw [if_neg c1, if_pos rfl]
      exact J (-2) (by rw [cB_t c, hO, cF_z, cF_n (a := -2) (b := cO x3 2) (by decide), cF_n (a := -2) (by decide)])
  · rw [if_neg c, if_pos rfl]
    exact J (-1) (by rw [cB_f c, cF_n (a := -1) (by decide), cF_n (a := -1) (by decide)])
