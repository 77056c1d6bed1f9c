/-! the best pane -/
theorem qm_anew {F : Nat} {x1 x2 : Int32} (hx : 0 ≤ x2.toInt ∧ x2.toInt ≤ 9999) {s : Mem} {V : Nat → Int32} (h : vM V s) : pc (f_X4_worthAnew F x1 x2 s) (fun r z => r = aWealth V x1 x2 8 ∧ mRdy V z) := by
  rw [f_X4_worthAnew_e]
  exact pc_bnd (qm_lay h) (fun _ s q => pc_bnd (qm_worthIn hx q) (fun r z w => pc_ret w))
theorem qx_wealthAt {F : Nat} (hF : 1000 ≤ F) {x1 x2 x3 x4 y : Int32} {σ : Mem} {V : Nat → Int32} (a : vH 24 (aStand V x1.toNatClampNeg x2.toNatClampNeg x2.toNatClampNeg y) σ) (hc : cPost (V 0).toInt (V 1).toInt x1 x2 x2 x3) : pc (f_X3_wealthAt F x1 x2 x3 x4 σ) (fun r s => r = aWealth (aStand V x1.toNatClampNeg x2.toNatClampNeg x2.toNatClampNeg x3) x1 x4 8 ∧ vH 24 (aStand V x1.toNatClampNeg x2.toNatClampNeg x2.toNatClampNeg x3) s ∧ o24 σ s) := by
  rw [f_X3_wealthAt_e]
  refine pc_bnd (qx_post24 hF a (by rw [aStand_0 (by decide), aStand_0 (by decide)]; exact hc)) (fun _ s2 q => ?_)
  rw [aStand_tw] at q
  exact pc_bnd (qx_reckH q.1) (fun _ s4 q4 => pc_bnd (qx_wealth q4.1) (fun r s6 q6 => pc_ret ⟨q6.1, by rw [q6.2]; exact q4.1.1, by rw [q6.2]; exact o24_tr q.2 (o24_rk q4.2)⟩))
def aPn (V : Nat → Int32) (i : Nat) : Int32 := if (i : Int) < (V 0).toInt then Int32.ofNat i else 9
theorem aPn_ok {V : Nat → Int32} (h : wvV V) {i : Nat} : (aPn V i).toInt = 9 ∨ (0 ≤ (aPn V i).toInt ∧ (aPn V i).toInt < (V 0).toInt) := by
  have h6 := h.1.2
  unfold aPn
  by_cases c : (i : Int) < (V 0).toInt
  · rw [if_pos c, io_nat i (by omega)]; omega
  · rw [if_neg c]; exact Or.inl rfl
def aBP (V : Nat → Int32) (x1 n : Int32) (l h : Nat) : Nat → Int32 × Int32
  | 0 => (9, -1)
  | i + 1 => if aWealth (aStand V l h h (aPn V i)) x1 n 8 ≤ (aBP V x1 n l h i).2 then aBP V x1 n l h i else (aPn V i, aWealth (aStand V l h h (aPn V i)) x1 n 8)
theorem aBP_t {V : Nat → Int32} {x1 n : Int32} {l h i : Nat} (c : aWealth (aStand V l h h (aPn V i)) x1 n 8 ≤ (aBP V x1 n l h i).2) : aBP V x1 n l h (i + 1) = aBP V x1 n l h i := if_pos c
theorem aBP_f {V : Nat → Int32} {x1 n : Int32} {l h i : Nat} (c : ¬ aWealth (aStand V l h h (aPn V i)) x1 n 8 ≤ (aBP V x1 n l h i).2) : aBP V x1 n l h (i + 1) = (aPn V i, aWealth (aStand V l h h (aPn V i)) x1 n 8) := if_neg c
def anBestPane (V : Nat → Int32) (x1 x2 x3 x4 : Int32) : Int32 := cF (cF (cF (cF (cB (0 ≤ x1.toInt ∧ x1.toInt < (V 1).toInt)) (cB (0 ≤ x2.toInt ∧ x2.toInt ≤ 23))) (cN x3 0 999)) (cO x4 2)) (if x4 = 0 then (aBP V x1 x3 x1.toNatClampNeg x2.toNatClampNeg ((V 0).toNatClampNeg + 1)).1 else (aBP V x1 x3 x1.toNatClampNeg x2.toNatClampNeg ((V 0).toNatClampNeg + 1)).2)
theorem qx_bestPane {F : Nat} (hF : 1000 ≤ F) {x1 x2 x3 x4 : Int32} {σ : Mem} {V : Nat → Int32} (h : vH 1 V σ) : pc (f_X3_bestPane F x1 x2 x3 x4 σ) (fun r _ => r = anBestPane V x1 x2 x3 x4) := by
  have h5 := h.1.2.1.2
  have h6 := h.1.1
  rw [f_X3_bestPane_e]
  refine pc_be (ax_noLooker (by rw [vH_2 h]; exact h5)) (pc_be ax_noHour (pc_be ax_firstOf (pc_be ax_outside (pc_be ax_firstOf (pc_be ax_notBelow (pc_be ax_firstOf ?_))))))
  rw [vH_2 h]
  unfold anBestPane
  refine cq_end (fun e => pc_bnd (qx_take hF h) (fun _ s q => ?_))
  have d1 := cB_0 (cF_0 (cF_0 (cF_0 e).1).1).1
  have d2 := cB_0 (cF_0 (cF_0 (cF_0 e).1).1).2
  have n1 := ti_nat x1
  have n2 := ti_nat x2
  have m0 := ti_nat (V 0)
  have key : ∀ (N i : Nat) (x6 x7 x8 y : Int32) (s : Mem), x8.toInt = (i : Int) → i ≤ (V 0).toNatClampNeg + 1 → (x6, x7) = aBP V x1 x3 x1.toNatClampNeg x2.toNatClampNeg i → vH 24 (aStand V x1.toNatClampNeg x2.toNatClampNeg x2.toNatClampNeg y) s → o24 σ s → pc (lp_X3_bestPane_71 F x1 x2 x3 x4 N x6 x7 x8 s) (fun r _ => r = if x4 = 0 then (aBP V x1 x3 x1.toNatClampNeg x2.toNatClampNeg ((V 0).toNatClampNeg + 1)).1 else (aBP V x1 x3 x1.toNatClampNeg x2.toNatClampNeg ((V 0).toNatClampNeg + 1)).2) := by
    intro N
    induction N with
    | zero => intro i x6 x7 x8 y s h1 h2 h3 a o; exact pc_none rfl
    | succ N ih =>
      intro i x6 x7 x8 y s h1 h2 h3 a o
      have e6 : x6 = (aBP V x1 x3 x1.toNatClampNeg x2.toNatClampNeg i).1 := congrArg Prod.fst h3
      have e7 : x7 = (aBP V x1 x3 x1.toNatClampNeg x2.toNatClampNeg i).2 := congrArg Prod.snd h3
      rw [lp_X3_bestPane_71_s, o 1 (by decide), vH_0 h]
      simp only [j_X3_bestPane_102_e, j_X3_bestPane_130_e]
      have body : ∀ pn, pn = aPn V i → i ≤ (V 0).toNatClampNeg → pc (wt_bnd (f_X3_wealthAt F x1 x2 pn x3 s) fun r1 s2 => if r1 ≤ x7 then lp_X3_bestPane_71 F x1 x2 x3 x4 N x6 x7 (x8 + 1) s2 else lp_X3_bestPane_71 F x1 x2 x3 x4 N pn r1 (x8 + 1) s2) (fun r _ => r = if x4 = 0 then (aBP V x1 x3 x1.toNatClampNeg x2.toNatClampNeg ((V 0).toNatClampNeg + 1)).1 else (aBP V x1 x3 x1.toNatClampNeg x2.toNatClampNeg ((V 0).toNatClampNeg + 1)).2) := fun pn hp hi => by
        subst hp
        refine pc_bnd (qx_wealthAt hF a ⟨d1, d2, d2, Int.le_refl _, aPn_ok h.1⟩) (fun r s2 q => ?_)
        rw [q.1]
        refine pc_ite (fun c => ih (i + 1) _ _ _ _ _ (ti_nx h1 (by omega)) (by omega) ?_ q.2.1 (o24_tr o q.2.2)) (fun c => ih (i + 1) _ _ _ _ _ (ti_nx h1 (by omega)) (by omega) ?_ q.2.1 (o24_tr o q.2.2))
        · rw [e7] at c
          rw [aBP_t c]; exact h3
        · rw [e7] at c
          rw [aBP_f c]
      refine pc_ite (fun c => ?_) (fun c => pc_ite (fun c2 => ?_) (fun c2 => ?_))
      · have d := ti_lt c
        have ei : i = (V 0).toNatClampNeg + 1 := by omega
        rw [ei] at e6 e7
        exact pc_ite (fun c0 => pc_ret (by rw [if_pos c0]; exact e6)) (fun c0 => pc_ret (by rw [if_neg c0]; exact e7))
      · have d := ti_nlt c
        have d2 := ti_le c2
        exact body 9 (if_neg (by omega)).symm (by omega)
      · have d := ti_nlt c
        have d2 := ti_nle c2
        exact body x8 ((io_eq h1 (by omega)).trans (if_pos (by omega)).symm) (by omega)
  refine key F 0 9 (-1) 0 (wvN (V (28 + 24 * x1.toNatClampNeg + x2.toNatClampNeg))) s rfl (by omega) rfl ?_ q.2
  rw [aStand_sf (wvN_N _)]; exact q.1
theorem qm_bestPane {F : Nat} {x1 x2 x3 x4 : Int32} {s : Mem} {V : Nat → Int32} (h : vM V s) : pc (f_X4_bestPane F x1 x2 x3 x4 s) (fun r _ => r = anBestPane V x1 x2 x3 x4) := by
  have h5 := h.1.2.1
  have h6 := h.1.1
  rw [f_X4_bestPane_e]
  refine pc_lt (fun s5 g5 => ?_)
  have h' : vM V s5 := vM_up h g5
  clear g5
  simp only [j_X4_bestPane_31_e]
  have n1 := ti_nat x1
  have n2 := ti_nat x2
  have m0 := ti_nat (V 0)
  have J : ∀ t : Int32, t = cF (cF (cB (0 ≤ x1.toInt ∧ x1.toInt < (V 1).toInt)) (cB (0 ≤ x2.toInt ∧ x2.toInt ≤ 23))) (cN x3 0 999) → pc (j_X4_bestPane_32 F x1 x2 x3 x4 t s5) (fun r _ => r = anBestPane V x1 x2 x3 x4) := fun t ht => by
    rw [j_X4_bestPane_32_e]
    refine pc_be mx_wrongBit ?_
    unfold anBestPane
    rw [← ht]
    refine mq_end (sg_cF (by rw [ht]; exact sg_cF (sg_cF sg_cB sg_cB) sg_cN) sg_cO) (fun e => pc_chk (fun _ => pc_lt (fun z10 _ => ?_)))
    have e' := (cF_0 e).1
    rw [ht] at e'
    have d1 := cB_0 (cF_0 (cF_0 e').1).1
    have d2 := cB_0 (cF_0 (cF_0 e').1).2
    have d3 := cN_0 (cF_0 e').2
    rw [tz_0, tz_999'] at d3
    have hx : 0 ≤ x3.toInt ∧ x3.toInt ≤ 9999 := ⟨d3.1, by omega⟩
    have ei : (((24 : Int32) * x1) + x2).toNatClampNeg = 24 * x1.toNatClampNeg + x2.toNatClampNeg := tn_24 (by omega) (by omega) (by omega) (by omega)
    have key : ∀ (N i : Nat) (x6 x7 x8 x9 y : Int32) (s : Mem), x9.toInt = (i : Int) → i ≤ (V 0).toNatClampNeg + 1 → x8 = (aBP V x1 x3 x1.toNatClampNeg x2.toNatClampNeg i).2 → (1 ≤ i → x7 = (aBP V x1 x3 x1.toNatClampNeg x2.toNatClampNeg i).1) → vM (aStand V x1.toNatClampNeg x2.toNatClampNeg x2.toNatClampNeg y) s → pc (lp_X4_bestPane_74 F x1 x2 x3 x4 x6 N x7 x8 x9 s) (fun r _ => r = if x4 = 0 then (aBP V x1 x3 x1.toNatClampNeg x2.toNatClampNeg ((V 0).toNatClampNeg + 1)).1 else (aBP V x1 x3 x1.toNatClampNeg x2.toNatClampNeg ((V 0).toNatClampNeg + 1)).2) := by
      intro N
      induction N with
      | zero => intro i x6 x7 x8 x9 y s h1 h2 h3 h4 a; exact pc_none rfl
      | succ N ih =>
        intro i x6 x7 x8 x9 y s h1 h2 h3 h4 a
        rw [lp_X4_bestPane_74_s, vM_P a, aStand_0 (by decide)]
        simp only [j_X4_bestPane_109_e, j_X4_bestPane_146_e, j_X4_bestPane_162_e]
        have body : ∀ v, wvN (aPn V i) = v → i ≤ (V 0).toNatClampNeg → pc (wt_chk ((24 : Int32) * x1 + x2) 120 (wt_lt (up2 s 106 (Int32.toNatClampNeg ((24 : Int32) * x1 + x2)) v) fun s2 => wt_bnd (f_X4_worthAnew F x1 x3 s2) fun r3 s4 => if r3 ≤ x8 then (if r3 ≤ x8 then lp_X4_bestPane_74 F x1 x2 x3 x4 x6 N x7 x8 (x9 + 1) s4 else lp_X4_bestPane_74 F x1 x2 x3 x4 x6 N x7 r3 (x9 + 1) s4) else if x9 = s4 101 1 then (if r3 ≤ x8 then lp_X4_bestPane_74 F x1 x2 x3 x4 x6 N 9 x8 (x9 + 1) s4 else lp_X4_bestPane_74 F x1 x2 x3 x4 x6 N 9 r3 (x9 + 1) s4) else (if r3 ≤ x8 then lp_X4_bestPane_74 F x1 x2 x3 x4 x6 N x9 x8 (x9 + 1) s4 else lp_X4_bestPane_74 F x1 x2 x3 x4 x6 N x9 r3 (x9 + 1) s4))) (fun r _ => r = if x4 = 0 then (aBP V x1 x3 x1.toNatClampNeg x2.toNatClampNeg ((V 0).toNatClampNeg + 1)).1 else (aBP V x1 x3 x1.toNatClampNeg x2.toNatClampNeg ((V 0).toNatClampNeg + 1)).2) := fun v hv hi => by
          refine pc_chk (fun _ => pc_lt (fun s2 g2 => ?_))
          have a2 : vM (aStand V x1.toNatClampNeg x2.toNatClampNeg x2.toNatClampNeg (aPn V i)) s2 := by
            have w := vM_up106 (x := aPn V i) (y := v) a (l := x1.toNatClampNeg) (t := x2.toNatClampNeg) (by omega) (by omega) (by rw [aStand_0 (by decide)]; exact aPn_ok h.1) hv
            rw [aStand_tw] at w
            rw [g2, ei]; exact w
          clear g2
          refine pc_bnd (qm_anew hx a2) (fun r3 s4 q => ?_)
          rw [q.1, vM_P q.2.1, aStand_0 (p := 0) (by decide)]
          have wb := aWealth_b q.2.1.1 (who := x1) (n := x3) 8 (by omega)
          refine pc_ite (fun c => ?_) (fun c => ?_)
          · rw [if_pos c]
            have c' := c
            rw [h3] at c'
            have i1 : 1 ≤ i := by
              by_cases z : i = 0
              · subst z
                have := ti_le c'
                have em : (aBP V x1 x3 x1.toNatClampNeg x2.toNatClampNeg 0).2.toInt = -1 := rfl
                omega
              · omega
            exact ih (i + 1) _ _ _ _ _ _ (ti_nx h1 (by omega)) (by omega) (by rw [aBP_t c']; exact h3) (fun _ => by rw [aBP_t c']; exact h4 i1) q.2.1
          · have c' := c
            rw [h3] at c'
            refine pc_ite (fun c2 => ?_) (fun c2 => ?_)
            · rw [if_neg c]
              have d := congrArg Int32.toInt c2
              exact ih (i + 1) _ _ _ _ _ _ (ti_nx h1 (by omega)) (by omega) (by rw [aBP_f c']) (fun _ => by rw [aBP_f c']; exact (if_neg (by omega)).symm) q.2.1
            · rw [if_neg c]
              have d := ti_ne c2
              exact ih (i + 1) _ _ _ _ _ _ (ti_nx h1 (by omega)) (by omega) (by rw [aBP_f c']) (fun _ => by rw [aBP_f c']; exact (io_eq h1 (by omega)).trans (if_pos (by omega)).symm) q.2.1
        refine pc_ite (fun c => pc_chk (fun _ => pc_lt (fun s6 _ => ?_))) (fun c => pc_ite (fun c2 => ?_) (fun c2 => ?_))
        · have d := ti_lt c
          have ej : i = (V 0).toNatClampNeg + 1 := by omega
          rw [ej] at h3 h4
          exact pc_ite (fun c0 => pc_ret (by rw [if_pos c0]; exact h4 (by omega))) (fun c0 => pc_ret (by rw [if_neg c0]; exact h3))
        · have d := ti_nlt c
          have d2 := congrArg Int32.toInt c2
          exact body (-9) (by rw [show aPn V i = 9 from if_neg (by omega)]; decide) (by omega)
        · have d := ti_nlt c
          have d2 := ti_ne c2
          refine body x9 ?_ (by omega)
          rw [show aPn V i = Int32.ofNat i from if_pos (by omega), wvN_s (by rw [io_nat i (by omega)]; omega)]
          exact (io_eq h1 (by omega)).symm
    refine key F 0 _ (-1) (-1) 0 (wvN (V (28 + 24 * x1.toNatClampNeg + x2.toNatClampNeg))) s5 rfl (by omega) rfl (fun q => absurd q (by omega)) ?_
    rw [aStand_sf (wvN_N _)]; exact h'
  refine pc_be (mx_isLooker (by rw [vM_L h']; exact h.1.2.1.1)) ?_
  rw [vM_L h']
  by_cases c : 0 ≤ x1.toInt ∧ x1.toInt < (V 1).toInt
  · rw [if_pos c, if_neg (by decide)]
    refine pc_be mx_isHour ?_
    by_cases c2 : 0 ≤ x2.toInt ∧ x2.toInt ≤ 23
    · rw [if_pos c2, if_neg (by decide)]
      refine pc_be mx_wrongN ?_
      exact J _ (by rw [cB_t c, cB_t c2, cF_z, cF_z])
    · rw [if_neg c2, if_pos rfl]
      exact J _ (by rw [cB_t c, cB_f c2, cF_z, cF_n (a := -1) (by decide)])
  · rw [if_neg c, if_pos rfl]
    exact J _ (by rw [cB_f c, cF_n (a := -1) (by decide), cF_n (a := -1) (by decide)])
/-! free hours -/
def aFr (V : Nat → Int32) (x1 x2 : Int32) (l : Nat) : Nat → Int32
  | 0 => 0
  | t + 1 => aFr V x1 x2 l t ||| (if (V (28 + 24 * l + t)).toInt < 0 then 0 else if aBits (aStand V l t t 9) x1 x2 8 = aBits V x1 x2 8 then (1 : Int32) <<< (Int32.ofNat t &&& 31) else 0)
theorem aFr_s {V : Nat → Int32} {x1 x2 : Int32} {l t : Nat} : aFr V x1 x2 l (t + 1) = aFr V x1 x2 l t ||| (if (V (28 + 24 * l + t)).toInt < 0 then 0 else if aBits (aStand V l t t 9) x1 x2 8 = aBits V x1 x2 8 then (1 : Int32) <<< (Int32.ofNat t &&& 31) else 0) := rfl
def anFreeHours (V : Nat → Int32) (x1 x2 : Int32) : Int32 := cF (cF (cB (0 ≤ x1.toInt ∧ x1.toInt < (V 1).toInt)) (cN x2 0 999)) (aFr V x1 x2 x1.toNatClampNeg 24)
theorem wvN_cl {V : Nat → Int32} (h : wvV V) {l t : Nat} (hl : (l : Int) < (V 1).toInt) (ht : t < 24) : (wvN (V (28 + 24 * l + t))).toInt = 9 ∨ (0 ≤ (wvN (V (28 + 24 * l + t))).toInt ∧ (wvN (V (28 + 24 * l + t))).toInt < (V 0).toInt) := by
  have h6 := h.1.2
  rcases vV_c h hl ht with c | c
  · rw [show V (28 + 24 * l + t) = -9 from Int32.toInt_inj.mp c]; exact Or.inl rfl
  · rw [wvN_s (by omega)]; exact Or.inr c
theorem qx_freeHours {F : Nat} (hF : 1000 ≤ F) {x1 x2 : Int32} {σ : Mem} {V : Nat → Int32} (h : vH 1 V σ) : pc (f_X3_freeHours F x1 x2 σ) (fun r _ => r = anFreeHours V x1 x2) := by
  have h5 := h.1.2.1.2
  rw [f_X3_freeHours_e, f_X3_noLookerFar_e]
  refine pc_be (by rw [wt_bnd_eq (ax_noLooker (by rw [vH_2 h]; exact h5)), wt_bnd_eq ax_outside, wt_bnd_eq ax_firstOf]) ?_
  rw [vH_2 h]
  unfold anFreeHours
  refine cq_end (fun e => pc_bnd (qx_reckon h) (fun _ s16 q16 => pc_bnd (qx_take hF q16.1) (fun _ s18 q18 => ?_)))
  have h18 := vH_o q16.1 q18.2
  have g18 : vG 1 V s18 := vG_e h5 q16.2 (fun k _ _ => q18.2 k (by omega))
  refine pc_bnd (qx_holdings ⟨h18, g18⟩) (fun r s20 q20 => ?_)
  rw [q20.2, q20.1]
  have d1 := cB_0 (cF_0 e).1
  have n1 := ti_nat x1
  have hl : x1.toInt = (x1.toNatClampNeg : Int) := by omega
  have hl5 : (x1.toNatClampNeg : Int) < (V 1).toInt := by omega
  have key : ∀ (N t : Nat) (x5 x6 : Int32) (s : Mem), x6.toInt = (t : Int) → t ≤ 24 → x5 = aFr V x1 x2 x1.toNatClampNeg t → vH 24 V s → o24 s18 s → pc (lp_X3_freeHours_52 F x1 x2 (aBits V x1 x2 8) N x5 x6 s) (fun r _ => r = aFr V x1 x2 x1.toNatClampNeg 24) := by
    intro N
    induction N with
    | zero => intro t x5 x6 s h1 h2 h3 a o; exact pc_none rfl
    | succ N ih =>
      intro t x5 x6 s h1 h2 h3 a o
      rw [lp_X3_freeHours_52_s]
      simp only [j_X3_freeHours_140_e, j_X3_freeHours_125_e]
      refine pc_ite (fun c => ?_) (fun c => pc_chk (fun _ => pc_chk (fun _ => pc_lt (fun z5 g5 => ?_))))
      · have d := ti_le c
        rw [tz_24] at d
        exact pc_ret (by rw [h3, show t = 24 by omega])
      have d := ti_nle c
      rw [tz_24] at d
      rw [tn_int h1, o (1 + 5 + x1.toNatClampNeg) (by omega), vH_c h18 hl5 (by omega)] at g5
      have hv := wvN_9 (vH_b h18 (l := x1.toNatClampNeg) (t := t) hl5 (by omega))
      rw [← g5] at hv
      have t9 : (9 : Int32).toInt = 9 := rfl
      refine pc_ite (fun c9 => ih (t + 1) _ _ _ (ti_nx h1 (by omega)) (by omega) ?_ a o) (fun c9 => ?_)
      · rw [aFr_s, if_pos (hv.mp c9), Int32.or_zero]; exact h3
      have nv : ¬ (V (28 + 24 * x1.toNatClampNeg + t)).toInt < 0 := fun q => c9 (hv.mpr q)
      refine pc_bnd (qx_post24 hF a ⟨d1, by omega, by omega, Int.le_refl _, Or.inl t9⟩) (fun _ s7 q7 => ?_)
      rw [tn_int h1] at q7
      refine pc_bnd (qx_reckH q7.1) (fun _ s9 q9 => pc_bnd (qx_holdings q9.1) (fun r s11 q11 => ?_))
      rw [q11.2, q11.1]
      have o9 : o24 s18 s9 := o24_tr o (o24_tr q7.2 (o24_rk q9.2))
      have back : ∀ x5', x5' = aFr V x1 x2 x1.toNatClampNeg (t + 1) → pc (wt_bnd (f_X0_post F 24 x1 x6 x6 z5 s9) fun r1 s2 => lp_X3_freeHours_52 F x1 x2 (aBits V x1 x2 8) N x5' (x6 + 1) s2) (fun r _ => r = aFr V x1 x2 x1.toNatClampNeg 24) := fun x5' h5' => by
        refine pc_bnd (qx_post24 hF q9.1.1 ⟨by rw [aStand_0 (by decide)]; exact d1, by omega, by omega, Int.le_refl _, by rw [aStand_0 (by decide), g5]; exact wvN_cl h.1 hl5 (by omega)⟩) (fun _ s2 q2 => ?_)
        rw [tn_int h1, aStand_bk (by rw [g5, wvN_N])] at q2
        exact ih (t + 1) _ _ _ (ti_nx h1 (by omega)) (by omega) h5' q2.1 (o24_tr o9 q2.2)
      refine pc_ite (fun c => pc_lt (fun z12 g12 => back _ ?_)) (fun c => back _ ?_)
      · rw [g12, aFr_s, if_neg nv, if_pos c, h3, io_eq h1 (by omega)]
      · rw [aFr_s, if_neg nv, if_neg c, Int32.or_zero]; exact h3
  exact key F 0 0 0 s18 rfl (by omega) rfl q18.1 o24_rf
theorem qm_freeHours {F : Nat} {x1 x2 : Int32} {s : Mem} {V : Nat → Int32} (h : vM V s) : pc (f_X4_freeHours F x1 x2 s) (fun r _ => r = anFreeHours V x1 x2) := by
  have h5 := h.1.2.1
  rw [f_X4_freeHours_e]
  refine pc_lt (fun s6 h6 => ?_)
  have h' : vM V s6 := vM_up h h6
  clear h6
  simp only [j_X4_freeHours_25_e]
  refine pc_be (mx_isLooker (by rw [vM_L h']; exact h.1.2.1.1)) ?_
  rw [vM_L h']
  unfold anFreeHours
  by_cases c : 0 ≤ x1.toInt ∧ x1.toInt < (V 1).toInt
  · rw [if_pos c, if_neg (by decide), cB_t c, cF_z]
    have n1 := ti_nat x1
    have hl : x1.toInt = (x1.toNatClampNeg : Int) := by omega
    have hl5 : (x1.toNatClampNeg : Int) < (V 1).toInt := by omega
    refine pc_be mx_wrongN (mq_end sg_cN (fun e => ?_))
    have d2 := cN_0 e
    rw [tz_0, tz_999'] at d2
    have hx : 0 ≤ x2.toInt ∧ x2.toInt ≤ 9999 := ⟨d2.1, by omega⟩
    refine pc_bnd (qm_lay h') (fun _ s11 q11 => pc_bnd (qm_viewsIn hx q11) (fun r s13 q13 => ?_))
    rw [q13.1]
    have key : ∀ (N t : Nat) (x5 x6 : Int32) (s : Mem), x6.toInt = (t : Int) → t ≤ 24 → x5 = aFr V x1 x2 x1.toNatClampNeg t → vM V s → pc (lp_X4_freeHours_54 F x1 x2 (aBits V x1 x2 8) N x5 x6 s) (fun r _ => r = aFr V x1 x2 x1.toNatClampNeg 24) := by
      intro N
      induction N with
      | zero => intro t x5 x6 s h1 h2 h3 a; exact pc_none rfl
      | succ N ih =>
        intro t x5 x6 s h1 h2 h3 a
        rw [lp_X4_freeHours_54_s]
        simp only [j_X4_freeHours_119_e, j_X4_freeHours_118_e]
        refine pc_ite (fun c => ?_) (fun c => pc_chk (fun _ => pc_lt (fun z4 g4 => pc_lt (fun s5 g5 => ?_))))
        · have d := ti_le c
          rw [tz_24] at d
          exact pc_ret (by rw [h3, show t = 24 by omega])
        have d := ti_nle c
        rw [tz_24] at d
        have ei := tn_24 hl h1 (by omega) (by omega)
        rw [ei, vM_106 a (by omega), show 28 + (24 * x1.toNatClampNeg + t) = 28 + 24 * x1.toNatClampNeg + t by omega] at g4
        have a5 : vM (aStand V x1.toNatClampNeg t t 9) s5 := by
          rw [g5, ei]
          exact vM_up106 a (by omega) (by omega) (Or.inl rfl) (by decide)
        clear g5
        refine pc_bnd (qm_lay a5) (fun _ s7 q7 => ?_)
        have back : ∀ (b : Int32) (z : Mem), vM (aStand V x1.toNatClampNeg t t 9) z → x5 ||| b = aFr V x1 x2 x1.toNatClampNeg (t + 1) → pc (wt_chk ((24 : Int32) * x1 + x6) 120 (wt_lt (up2 z 106 (Int32.toNatClampNeg ((24 : Int32) * x1 + x6)) z4) fun s2 => lp_X4_freeHours_54 F x1 x2 (aBits V x1 x2 8) N (x5 ||| b) (x6 + 1) s2)) (fun r _ => r = aFr V x1 x2 x1.toNatClampNeg 24) := fun b z az hb => by
          refine pc_chk (fun _ => pc_lt (fun s2 g2 => ih (t + 1) _ _ _ (ti_nx h1 (by omega)) (by omega) hb ?_))
          have w := vM_up106 (x := wvN z4) (y := z4) az (l := x1.toNatClampNeg) (t := t) (by omega) (by omega) (by rw [aStand_0 (by decide), g4]; exact wvN_cl h.1 hl5 (by omega)) (wvN_N _)
          rw [aStand_bk (by rw [wvN_N, g4])] at w
          rw [g2, ei]; exact w
        refine pc_ite (fun c9 => back 0 _ q7.1 ?_) (fun c9 => pc_bnd (qm_viewsIn hx q7) (fun r8 s9 q9 => ?_))
        · have d9 := ti_lt c9
          rw [tz_0, g4] at d9
          rw [aFr_s, if_pos d9, h3]
        · have d9 := ti_nlt c9
          rw [tz_0, g4] at d9
          rw [q9.1]
          refine pc_ite (fun c => back _ _ q9.2.1 ?_) (fun c => back 0 _ q9.2.1 ?_)
          · rw [aFr_s, if_neg (by omega), if_pos c, h3, io_eq h1 (by omega)]
          · rw [aFr_s, if_neg (by omega), if_neg c, h3]
    exact key F 0 0 0 s13 rfl (by omega) rfl q13.2.1
  · rw [if_neg c, if_pos rfl, cB_f c, cF_n (a := -1) (by decide), if_neg (by decide)]
    exact mq_ref (cF_n (by decide))
