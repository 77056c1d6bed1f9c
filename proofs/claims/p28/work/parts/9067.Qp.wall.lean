/-! walls -/
theorem aWall_n {V : Nat → Int32} {x v : Int32} {p : Nat} (h : ¬ p = 12 + x.toNatClampNeg) : aWall V x v p = V p := wv_un h
theorem aWall_bk {V : Nat → Int32} {x v : Int32} : aWall (aWall V x v) x v = V := funext (fun p => by
  by_cases c : p = 12 + x.toNatClampNeg
  · subst c
    show upd (aWall V x v) (12 + x.toNatClampNeg) (aWall V x v (12 + x.toNatClampNeg) ^^^ ((1 : Int32) <<< (v &&& 31))) (12 + x.toNatClampNeg) = _
    rw [wv_us, show aWall V x v (12 + x.toNatClampNeg) = V (12 + x.toNatClampNeg) ^^^ ((1 : Int32) <<< (v &&& 31)) from wv_us, Int32.xor_assoc, Int32.xor_self, Int32.xor_zero]
  · rw [aWall_n c, aWall_n c])
theorem qx_flip24 {F : Nat} (hF : 1000 ≤ F) {x1 x2 : Int32} {σ : Mem} {V : Nat → Int32} (a : vH 24 V σ) (h1 : 0 ≤ x1.toInt ∧ x1.toInt < (V 0).toInt) (h2 : 0 ≤ x2.toInt ∧ x2.toInt ≤ 7) : pc (f_X0_flip F 24 x1 x2 σ) (fun _ s => vH 24 (aWall V x1 x2) s ∧ o24 σ s) := by
  have h6 := a.1.1.2
  have n1 := ti_nat x1
  exact pc_mono (pc_and (ax_flip (by rw [vH_0 a]; exact h6)) (pc_pf (fr_X0_flip hF wt_h24))) (fun _ s q => ⟨⟨wvV_aWall a.1 (by omega), fun p hp hl => by rw [(q.1.1 ⟨h1.1, by rw [vH_0 a]; exact h1.2, h2.1, h2.2⟩).2 p hp]; exact weq_aWall (lim := 188) a.2 (by omega) (by omega) p hp hl⟩, o24_fr q.2 (fun c w => by unfold wf_5 at w; omega)⟩)
theorem qx_wealthWalled {F : Nat} (hF : 1000 ≤ F) {x1 x2 x3 x4 : Int32} {σ : Mem} {V : Nat → Int32} (a : vH 24 V σ) (h1 : 0 ≤ x2.toInt ∧ x2.toInt < (V 0).toInt) (h2 : 0 ≤ x3.toInt ∧ x3.toInt ≤ 7) : pc (f_X3_wealthWalled F x1 x2 x3 x4 σ) (fun r s => r = aWealth (aWall V x2 x3) x1 x4 8 ∧ vH 24 V s ∧ o24 σ s) := by
  rw [f_X3_wealthWalled_e]
  refine pc_bnd (qx_flip24 hF a h1 h2) (fun _ s2 q2 => pc_bnd (qx_reckH q2.1) (fun _ s4 q4 => pc_bnd (qx_wealth q4.1) (fun r s6 q6 => ?_)))
  rw [q6.2, q6.1]
  refine pc_bnd (qx_flip24 hF q4.1.1 ⟨h1.1, by rw [aWall_n (by omega)]; exact h1.2⟩ h2) (fun _ s8 q8 => pc_ret ⟨rfl, ?_, o24_tr q2.2 (o24_tr (o24_rk q4.2) q8.2)⟩)
  have w := q8.1
  rw [aWall_bk] at w
  exact w
/-- one view of one pane: the best, and how much -/
def aW1 (V : Nat → Int32) (x1 x2 : Int32) (p v : Nat) (bm : Int32 × Int32) : Int32 × Int32 :=
  if (V (12 + p) >>> (Int32.ofNat v &&& 31)) &&& (1 : Int32) = 0 then bm else if aWealth V x1 x2 8 - aWealth (aWall V (Int32.ofNat p) (Int32.ofNat v)) x1 x2 8 ≤ bm.2 then bm else ((10 : Int32) * Int32.ofNat p + Int32.ofNat v, aWealth V x1 x2 8 - aWealth (aWall V (Int32.ofNat p) (Int32.ofNat v)) x1 x2 8)
def aW2 (V : Nat → Int32) (x1 x2 : Int32) (p : Nat) (bm : Int32 × Int32) : Nat → Int32 × Int32
  | 0 => bm
  | v + 1 => aW1 V x1 x2 p v (aW2 V x1 x2 p bm v)
def aW3 (V : Nat → Int32) (x1 x2 : Int32) : Nat → Int32 × Int32
  | 0 => (-9, 0)
  | p + 1 => aW2 V x1 x2 p (aW3 V x1 x2 p) 8
def wOK (bm : Int32 × Int32) : Prop := 0 ≤ bm.2.toInt ∧ (bm.1 = -9 ∨ 0 ≤ bm.1.toInt)
theorem aW1_ok {V : Nat → Int32} {x1 x2 : Int32} {p v : Nat} {bm : Int32 × Int32} (h : wOK bm) (hp : p < 6) (hv : v < 8) : wOK (aW1 V x1 x2 p v bm) := by
  unfold aW1
  by_cases c : (V (12 + p) >>> (Int32.ofNat v &&& 31)) &&& (1 : Int32) = 0
  · rw [if_pos c]; exact h
  rw [if_neg c]
  by_cases d : aWealth V x1 x2 8 - aWealth (aWall V (Int32.ofNat p) (Int32.ofNat v)) x1 x2 8 ≤ bm.2
  · rw [if_pos d]; exact h
  rw [if_neg d]
  have d' := ti_nle d
  have h1 := h.1
  refine ⟨by show 0 ≤ (aWealth V x1 x2 8 - aWealth (aWall V (Int32.ofNat p) (Int32.ofNat v)) x1 x2 8).toInt; omega, Or.inr ?_⟩
  have ep := io_nat p (by omega)
  have ev := io_nat v (by omega)
  show 0 ≤ ((10 : Int32) * Int32.ofNat p + Int32.ofNat v).toInt
  have t10 : (10 : Int32).toInt = 10 := rfl
  have em : ((10 : Int32) * Int32.ofNat p).toInt = 10 * (Int32.ofNat p).toInt := by rw [ti_mul (by rw [t10]; omega) (by rw [t10]; omega), t10]
  rw [ti_add (by omega) (by omega)]
  omega
theorem aW2_ok {V : Nat → Int32} {x1 x2 : Int32} {p : Nat} {bm : Int32 × Int32} (h : wOK bm) (hp : p < 6) : ∀ v, v ≤ 8 → wOK (aW2 V x1 x2 p bm v) := fun v => by
  induction v with
  | zero => intro _; exact h
  | succ v ih => intro hv; exact aW1_ok (ih (by omega)) hp (by omega)
theorem aW3_ok {V : Nat → Int32} {x1 x2 : Int32} : ∀ p, p ≤ 6 → wOK (aW3 V x1 x2 p) := fun p => by
  induction p with
  | zero => intro _; exact ⟨Int.le_refl 0, Or.inl rfl⟩
  | succ p ih => intro hp; exact aW2_ok (ih (by omega)) (by omega) 8 (by omega)
def anWalls (V : Nat → Int32) (x1 x2 x3 : Int32) : Int32 := cF (cF (cF (cB (0 ≤ x1.toInt ∧ x1.toInt < (V 1).toInt)) (cN x2 0 999)) (cO x3 2)) (if x3 = 0 then (aW3 V x1 x2 (V 0).toNatClampNeg).1 else if (aW3 V x1 x2 (V 0).toNatClampNeg).1 = -9 then (aW3 V x1 x2 (V 0).toNatClampNeg).1 else (aW3 V x1 x2 (V 0).toNatClampNeg).2)
theorem aW1_0 {V : Nat → Int32} {x1 x2 : Int32} {p v : Nat} {bm : Int32 × Int32} (c : (V (12 + p) >>> (Int32.ofNat v &&& 31)) &&& (1 : Int32) = 0) : aW1 V x1 x2 p v bm = bm := if_pos c
theorem aW1_t {V : Nat → Int32} {x1 x2 : Int32} {p v : Nat} {bm : Int32 × Int32} (c : ¬ (V (12 + p) >>> (Int32.ofNat v &&& 31)) &&& (1 : Int32) = 0) (d : aWealth V x1 x2 8 - aWealth (aWall V (Int32.ofNat p) (Int32.ofNat v)) x1 x2 8 ≤ bm.2) : aW1 V x1 x2 p v bm = bm := (if_neg c).trans (if_pos d)
theorem aW1_f {V : Nat → Int32} {x1 x2 : Int32} {p v : Nat} {bm : Int32 × Int32} (c : ¬ (V (12 + p) >>> (Int32.ofNat v &&& 31)) &&& (1 : Int32) = 0) (d : ¬ aWealth V x1 x2 8 - aWealth (aWall V (Int32.ofNat p) (Int32.ofNat v)) x1 x2 8 ≤ bm.2) : aW1 V x1 x2 p v bm = ((10 : Int32) * Int32.ofNat p + Int32.ofNat v, aWealth V x1 x2 8 - aWealth (aWall V (Int32.ofNat p) (Int32.ofNat v)) x1 x2 8) := (if_neg c).trans (if_neg d)
theorem qx_walls {F : Nat} (hF : 1000 ≤ F) {x1 x2 x3 : Int32} {σ : Mem} {V : Nat → Int32} (h : vH 1 V σ) : pc (f_X3_walls F x1 x2 x3 σ) (fun r _ => r = anWalls V x1 x2 x3) := by
  have h5 := h.1.2.1.2
  have h6 := h.1.1
  have m0 := ti_nat (V 0)
  rw [f_X3_walls_e, f_X3_noLookerFar_e]
  refine pc_be (by rw [wt_bnd_eq (ax_noLooker (by rw [vH_2 h]; exact h5)), wt_bnd_eq ax_outside, wt_bnd_eq ax_firstOf]) (pc_be ax_notBelow (pc_be ax_firstOf ?_))
  rw [vH_2 h]
  unfold anWalls
  refine cq_end (fun e => pc_bnd (qx_reckon h) (fun _ s16 q16 => pc_bnd (qx_take hF q16.1) (fun _ s18 q18 => ?_)))
  have h18 := vH_o q16.1 q18.2
  have g18 : vG 1 V s18 := vG_e h5 q16.2 (fun k _ _ => q18.2 k (by omega))
  refine pc_bnd (qx_wealth ⟨h18, g18⟩) (fun r s20 q20 => ?_)
  rw [q20.2, q20.1]
  have inner : ∀ (k67 : Int32 → Int32 → Int32 → Mem → Option (Int32 × Mem)) (Q : Int32 → Mem → Prop) (p : Nat) (x8 : Int32) (bm : Int32 × Int32), x8.toInt = (p : Int) → (p : Int) < (V 0).toInt → wOK bm → (∀ s, vH 24 V s → o24 s18 s → pc (k67 (aW2 V x1 x2 p bm 8).1 (aW2 V x1 x2 p bm 8).2 (x8 + 1) s) Q) → ∀ (N v : Nat) (x6 x7 x9 : Int32) (s : Mem), x9.toInt = (v : Int) → v ≤ 8 → (x6, x7) = aW2 V x1 x2 p bm v → vH 24 V s → o24 s18 s → pc (lp_X3_walls_82 F k67 x1 x2 x3 (aWealth V x1 x2 8) x8 N x6 x7 x9 s) Q := by
    intro k67 Q p x8 bm hp hp6 hok hk N
    induction N with
    | zero => intro v x6 x7 x9 s h1 h2 h3 a o; exact pc_none rfl
    | succ N ih =>
      intro v x6 x7 x9 s h1 h2 h3 a o
      have e6 : x6 = (aW2 V x1 x2 p bm v).1 := congrArg Prod.fst h3
      have e7 : x7 = (aW2 V x1 x2 p bm v).2 := congrArg Prod.snd h3
      rw [lp_X3_walls_82_s]
      simp only [j_X3_walls_120_e, j_X3_walls_143_e]
      refine pc_ite (fun c => ?_) (fun c => ?_)
      · have d := ti_le c
        rw [tz_8] at d
        have v8 : v = 8 := by omega
        rw [v8] at e6 e7
        rw [e6, e7]
        exact hk s a o
      have d := ti_nle c
      rw [tz_8] at d
      have w2 := aW2_ok (V := V) (x1 := x1) (x2 := x2) hok (show p < 6 by omega) v h2
      have hs := vH_o h18 o
      refine pc_bnd (ax_shows (by rw [vH_0 hs]; omega) ⟨by omega, by rw [vH_0 hs]; omega⟩ ⟨by omega, by omega⟩) (fun r s3 q3 => ?_)
      have q31 := q3.2
      rw [tn_int hp, vH_1 hs (by omega), io_eq h1 (by omega)] at q31
      rw [q3.1]
      refine pc_ite (fun c0 => ?_) (fun c0 => ?_)
      · rw [q31] at c0
        refine pc_ite (fun c2 => ih (v + 1) _ _ _ _ (ti_nx h1 (by omega)) (by omega) (by show _ = aW1 V x1 x2 p v (aW2 V x1 x2 p bm v); rw [aW1_0 c0]; exact h3) a o) (fun c2 => absurd (Int32.le_iff_toInt_le.mpr (by rw [tz_0, e7]; exact w2.1)) c2)
      · rw [q31] at c0
        refine pc_bnd (qx_wealthWalled hF a ⟨by omega, by omega⟩ ⟨by omega, by omega⟩) (fun r s5 q5 => ?_)
        rw [q5.1, io_eq hp (by omega), io_eq h1 (by omega), e7]
        have o5 := o24_tr o q5.2.2
        have n9 : (Int32.ofNat v + 1).toInt = ((v + 1 : Nat) : Int) := by rw [← io_eq h1 (by omega)]; exact ti_nx h1 (by omega)
        rw [← io_eq hp (by omega)]
        refine pc_ite (fun c2 => ih (v + 1) _ _ _ _ n9 (by omega) ?_ q5.2.1 o5) (fun c2 => pc_lt (fun z1 hz => ih (v + 1) _ _ _ _ n9 (by omega) ?_ q5.2.1 o5))
        · rw [io_eq hp (by omega)] at c2
          show _ = aW1 V x1 x2 p v (aW2 V x1 x2 p bm v)
          rw [aW1_t c0 c2, ← e7]; exact h3
        · rw [io_eq hp (by omega)] at c2
          show _ = aW1 V x1 x2 p v (aW2 V x1 x2 p bm v)
          rw [aW1_f c0 c2, hz, io_eq hp (by omega)]
  have key : ∀ (N p : Nat) (x6 x7 x8 : Int32) (s : Mem), x8.toInt = (p : Int) → p ≤ (V 0).toNatClampNeg → (x6, x7) = aW3 V x1 x2 p → vH 24 V s → o24 s18 s → pc (lp_X3_walls_67 F x1 x2 x3 (aWealth V x1 x2 8) N x6 x7 x8 s) (fun r _ => r = if x3 = 0 then (aW3 V x1 x2 (V 0).toNatClampNeg).1 else if (aW3 V x1 x2 (V 0).toNatClampNeg).1 = -9 then (aW3 V x1 x2 (V 0).toNatClampNeg).1 else (aW3 V x1 x2 (V 0).toNatClampNeg).2) := by
    intro N
    induction N with
    | zero => intro p x6 x7 x8 s h1 h2 h3 a o; exact pc_none rfl
    | succ N ih =>
      intro p x6 x7 x8 s h1 h2 h3 a o
      have e6 : x6 = (aW3 V x1 x2 p).1 := congrArg Prod.fst h3
      have e7 : x7 = (aW3 V x1 x2 p).2 := congrArg Prod.snd h3
      rw [lp_X3_walls_67_s, o 1 (by decide), vH_0 h18]
      simp only [j_X3_walls_166_e]
      refine pc_ite (fun c => ?_) (fun c => ?_)
      · have d := ti_le c
        rw [show p = (V 0).toNatClampNeg by omega] at e6 e7
        rw [← e6, ← e7]
        exact pc_ite (fun c0 => pc_ret (by rw [if_pos c0])) (fun c0 => pc_ite (fun c9 => pc_ret (by rw [if_neg c0, if_pos c9])) (fun c9 => pc_ret (by rw [if_neg c0, if_neg c9])))
      have d := ti_nle c
      exact inner _ _ p x8 (aW3 V x1 x2 p) h1 (by omega) (aW3_ok p (by omega)) (fun z az oz => ih (p + 1) _ _ _ z (ti_nx h1 (by omega)) (by omega) rfl az oz) F 0 x6 x7 0 s rfl (by omega) h3 a o
  exact key F 0 (-9) 0 0 s18 rfl (by omega) rfl q18.1 o24_rf
theorem vM_wall {V : Nat → Int32} {s : Mem} {p : Nat} {x v : Int32} (h : vM V s) (hp : x.toInt = (p : Int)) (hp6 : p < 6) : vM (aWall V x v) (up2 s 103 p (V (12 + p) ^^^ ((1 : Int32) <<< (v &&& 31)))) := ⟨wvV_aWall h.1 (by rw [tn_int hp]; exact hp6), fun q hq => by
  have hj := wtJI_103 p hp6
  rw [wvM_at (q := 12 + p) (by omega) hj.1.symm hj.2.symm hq]
  unfold aWall
  rw [tn_int hp]
  exact upd_cg (h.2 q hq) rfl⟩
theorem qm_walls {F : Nat} {x1 x2 x3 : Int32} {s : Mem} {V : Nat → Int32} (h : vM V s) : pc (f_X4_walls F x1 x2 x3 s) (fun r _ => r = anWalls V x1 x2 x3) := by
  have h5 := h.1.2.1
  have h6 := h.1.1
  have m0 := ti_nat (V 0)
  rw [f_X4_walls_e]
  refine pc_lt (fun s6 g6 => ?_)
  have h' : vM V s6 := vM_up h g6
  clear g6
  simp only [j_X4_walls_25_e]
  refine pc_be (mx_isLooker (by rw [vM_L h']; exact h.1.2.1.1)) ?_
  rw [vM_L h']
  unfold anWalls
  by_cases c : 0 ≤ x1.toInt ∧ x1.toInt < (V 1).toInt
  · rw [if_pos c, if_neg (by decide), cB_t c, cF_z]
    refine pc_be mx_wrongN (pc_be mx_wrongBit ?_)
    refine mq_end (sg_cF sg_cN sg_cO) (fun e => ?_)
    have d2 := cN_0 (cF_0 e).1
    rw [tz_0, tz_999'] at d2
    have hx : 0 ≤ x2.toInt ∧ x2.toInt ≤ 9999 := ⟨d2.1, by omega⟩
    refine pc_bnd (qm_anew hx h') (fun r s11 q11 => ?_)
    rw [q11.1]
    have inner : ∀ (k62 : Int32 → Int32 → Int32 → Mem → Option (Int32 × Mem)) (Q : Int32 → Mem → Prop) (p : Nat) (x8 : Int32) (bm : Int32 × Int32), x8.toInt = (p : Int) → (p : Int) < (V 0).toInt → (∀ s, vM V s → pc (k62 (aW2 V x1 x2 p bm 8).1 (aW2 V x1 x2 p bm 8).2 (x8 + 1) s) Q) → ∀ (N v : Nat) (x6 x7 x9 : Int32) (s : Mem), x9.toInt = (v : Int) → v ≤ 8 → (x6, x7) = aW2 V x1 x2 p bm v → vM V s → pc (lp_X4_walls_74 F k62 x1 x2 x3 (aWealth V x1 x2 8) x8 N x6 x7 x9 s) Q := by
      intro k62 Q p x8 bm hp hp6 hk N
      induction N with
      | zero => intro v x6 x7 x9 s h1 h2 h3 a; exact pc_none rfl
      | succ N ih =>
        intro v x6 x7 x9 s h1 h2 h3 a
        have e6 : x6 = (aW2 V x1 x2 p bm v).1 := congrArg Prod.fst h3
        have e7 : x7 = (aW2 V x1 x2 p bm v).2 := congrArg Prod.snd h3
        rw [lp_X4_walls_74_s]
        simp only [j_X4_walls_155_e, j_X4_walls_171_e, j_X4_walls_173_e]
        refine pc_ite (fun c => ?_) (fun c => pc_chk (fun _ => ?_))
        · have d := ti_le c
          rw [tz_8] at d
          have v8 : v = 8 := by omega
          rw [v8] at e6 e7
          rw [e6, e7]
          exact hk s a
        have d := ti_nle c
        rw [tz_8] at d
        have n9 := ti_nx h1 (by omega)
        have ep := io_eq hp (by omega)
        have ev := io_eq h1 (by omega)
        rw [tn_int hp, vM_103 a (by omega), f_X4_hasBit_e]
        rcases ax_and1 (V (12 + p) >>> (x9 &&& 31)) with b | b
        · rw [b, if_neg (by decide)]
          refine pc_be rfl ?_
          rw [if_pos rfl]
          rw [ev] at b
          exact ih (v + 1) _ _ _ _ n9 (by omega) (by show _ = aW1 V x1 x2 p v (aW2 V x1 x2 p bm v); rw [aW1_0 b]; exact h3) a
        · rw [b, if_pos rfl]
          refine pc_be rfl ?_
          rw [if_neg (by decide)]
          have b' : ¬ (V (12 + p) >>> (Int32.ofNat v &&& 31)) &&& (1 : Int32) = 0 := by rw [← ev, b]; decide
          refine pc_lt (fun s4 g4 => ?_)
          rw [vM_103 a (by omega)] at g4
          have a4 : vM (aWall V x8 x9) s4 := by rw [g4]; exact vM_wall a hp (by omega)
          clear g4
          refine pc_bnd (qm_anew hx a4) (fun r5 s6 q => pc_lt (fun s7 g7 => ?_))
          have a7 : vM V s7 := by
            have w := vM_wall (v := x9) q.2.1 hp (by omega)
            rw [aWall_bk] at w
            rw [vM_103 q.2.1 (by omega)] at g7
            rw [g7]; exact w
          clear g7
          rw [q.1, e7]
          refine pc_ite (fun c2 => ?_) (fun c2 => ?_)
          · rw [if_pos c2]
            rw [ep, ev] at c2
            exact ih (v + 1) _ _ _ _ n9 (by omega) (by show _ = aW1 V x1 x2 p v (aW2 V x1 x2 p bm v); rw [aW1_t b' c2, ← e7]; exact h3) a7
          · rw [if_neg c2]
            rw [ep, ev] at c2
            exact ih (v + 1) _ _ _ _ n9 (by omega) (by show _ = aW1 V x1 x2 p v (aW2 V x1 x2 p bm v); rw [aW1_f b' c2, ep, ev]) a7
    have key : ∀ (N p : Nat) (x6 x7 x8 : Int32) (s : Mem), x8.toInt = (p : Int) → p ≤ (V 0).toNatClampNeg → (x6, x7) = aW3 V x1 x2 p → vM V s → pc (lp_X4_walls_62 F x1 x2 x3 (aWealth V x1 x2 8) N x6 x7 x8 s) (fun r _ => r = if x3 = 0 then (aW3 V x1 x2 (V 0).toNatClampNeg).1 else if (aW3 V x1 x2 (V 0).toNatClampNeg).1 = -9 then (aW3 V x1 x2 (V 0).toNatClampNeg).1 else (aW3 V x1 x2 (V 0).toNatClampNeg).2) := by
      intro N
      induction N with
      | zero => intro p x6 x7 x8 s h1 h2 h3 a; exact pc_none rfl
      | succ N ih =>
        intro p x6 x7 x8 s h1 h2 h3 a
        have e6 : x6 = (aW3 V x1 x2 p).1 := congrArg Prod.fst h3
        have e7 : x7 = (aW3 V x1 x2 p).2 := congrArg Prod.snd h3
        have ok := aW3_ok (V := V) (x1 := x1) (x2 := x2) p (by omega)
        rw [lp_X4_walls_62_s, vM_P a]
        simp only [j_X4_walls_194_e]
        refine pc_ite (fun c => ?_) (fun c => ?_)
        · have d := ti_le c
          rw [show p = (V 0).toNatClampNeg by omega] at e6 e7 ok
          rw [← e6, ← e7]
          have ok2 := ok.2
          rw [← e6] at ok2
          refine pc_ite (fun c0 => pc_ret (by rw [if_pos c0])) (fun c0 => pc_ite (fun c9 => pc_ret ?_) (fun c9 => pc_ret ?_))
          · rw [if_neg c0, if_neg (fun q => by rw [q] at c9; exact absurd c9 (by decide))]
          · rcases ok2 with z | z
            · rw [if_neg c0, if_pos z]
            · exact absurd (Int32.le_iff_toInt_le.mpr (by rw [tz_0]; exact z)) c9
        have d := ti_nle c
        exact inner _ _ p x8 (aW3 V x1 x2 p) h1 (by omega) (fun z az => ih (p + 1) _ _ _ z (ti_nx h1 (by omega)) (by omega) rfl az) F 0 x6 x7 0 s rfl (by omega) h3 a
    exact key F 0 (-9) 0 0 s11 rfl (by omega) rfl q11.2.1
  · rw [if_neg c, if_pos rfl, cB_f c, cF_n (a := -1) (by decide)]
    refine pc_be mx_wrongBit ?_
    rw [cF_n (a := -1) (by decide), if_neg (by decide)]
    exact mq_ref (cF_n (by decide))
