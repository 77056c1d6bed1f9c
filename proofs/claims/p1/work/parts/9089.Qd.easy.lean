/-! questions that both sides answer from the same vector -/
def vX (V : Nat → Int32) (σ : Mem) : Prop := wvV V ∧ (∀ p, p < 28 → wvX 1 σ p = V p) ∧ ∀ l t : Nat, (l : Int) < (V 1).toInt → t < 24 → σ (1 + 5 + l) t = wvN (V (28 + 24 * l + t))
theorem vV_c5 {V : Nat → Int32} (h : wvV V) {l t : Nat} (hl : (l : Int) < (V 1).toInt) (ht : t < 24) : (V (28 + 24 * l + t)).toInt = -9 ∨ (0 ≤ (V (28 + 24 * l + t)).toInt ∧ (V (28 + 24 * l + t)).toInt ≤ 5) := by
  have h6 := h.1.2
  rcases vV_c h hl ht with q | q
  · exact Or.inl q
  · exact Or.inr ⟨q.1, by omega⟩
theorem vX_of {lim : Nat} {σ : Mem} (hl : 148 ≤ lim) (h : rV lim σ) : vX (wvM σ) σ := by
  refine ⟨h.1, fun p hp => weq_lo h.2 (by omega) hp, fun l t hl1 ht => ?_⟩
  have h5 := h.1.2.1.2
  have n1 := ti_nat (wvM σ 1)
  have hj := wvJI_5 l (by omega) t ht
  have e := h.2 (28 + 24 * l + t) (by omega) ⟨fun _ _ => by omega, fun _ => by omega⟩
  unfold wvX at e
  rw [wvE_i (by omega), ← hj.1, ← hj.2, show 1 + (5 + l) = 1 + 5 + l by omega] at e
  rw [← e, wvN_N]
theorem vX_12 {V : Nat → Int32} {σ : Mem} (h : vX V σ) {i : Nat} (hi : i < 6) : σ (1 + 1) i = V (12 + i) := by
  have e := h.2.1 (12 + i) (by omega)
  have hj := wvJI_1 i hi
  unfold wvX at e
  rw [wvE_o (by omega), ← hj.1, ← hj.2] at e
  exact e
theorem vM_up {V : Nat → Int32} {s z : Mem} (h : vM V s) (hz : z = up2 s 101 10 0) : vM V z := ⟨h.1, fun p hp => by rw [hz, th_V hp]; exact h.2 p hp⟩
theorem eqq {lim : Nat} {σ : Mem} {o1 : Option (Int32 × Mem)} {o2 : Mem → Option (Int32 × Mem)} {A : (Nat → Int32) → Int32} (h : ∃ r1 s1 r2 s2, o1 = some (r1, s1) ∧ o2 s1 = some (r2, s2) ∧ wR lim s2) (hl : 148 ≤ lim) (hV : rV lim σ) (p0 : pc o1 (fun _ s => ∀ k, 101 ≤ k → s k = σ k)) (p1 : ∀ V, vX V σ → pc o1 (fun r _ => r = A V)) (p2 : ∀ V s, vM V s → pc (o2 s) (fun r _ => r = A V)) : ∃ r1 s1 r2 s2, o1 = some (r1, s1) ∧ o2 s1 = some (r2, s2) ∧ wR lim s2 ∧ r1 = r2 := by
  obtain ⟨r1, s1, r2, s2, e1, e2, w⟩ := h
  have a := p1 _ (vX_of hl hV) r1 s1 e1
  have hs := p0 r1 s1 e1
  have b := p2 (wvM σ) s1 ⟨hV.1, eMV hs⟩ r2 s2 e2
  exact ⟨r1, s1, r2, s2, e1, e2, w, a.trans b.symm⟩
theorem eqh {α : Type} {σ : Mem} {o1 : Option (α × Mem)} {o2 : Mem → Option (α × Mem)} {A : (Nat → Int32) → α} (h : ∃ r1 s1 r2 s2, o1 = some (r1, s1) ∧ o2 s1 = some (r2, s2) ∧ wR 188 s2) (hV : rV 188 σ) (p0 : pc o1 (fun _ s => ∀ k, 101 ≤ k → s k = σ k)) (p1 : ∀ V, vH 1 V σ → pc o1 (fun r _ => r = A V)) (p2 : ∀ V s, vM V s → pc (o2 s) (fun r _ => r = A V)) : ∃ r1 s1 r2 s2, o1 = some (r1, s1) ∧ o2 s1 = some (r2, s2) ∧ wR 188 s2 ∧ r1 = r2 := by
  obtain ⟨r1, s1, r2, s2, e1, e2, w⟩ := h
  have a := p1 _ hV r1 s1 e1
  have hs := p0 r1 s1 e1
  have b := p2 (wvM σ) s1 ⟨hV.1, eMV hs⟩ r2 s2 e2
  exact ⟨r1, s1, r2, s2, e1, e2, w, a.trans b.symm⟩
theorem cF_z {b : Int32} : cF 0 b = b := if_pos rfl
theorem cF_n {a b : Int32} (h : ¬ a = 0) : cF a b = a := if_neg h
theorem cq_end {F : Nat} {e val : Int32} {σ : Mem} {A : Option (Int32 × Mem)} (h : e = 0 → pc A (fun r _ => r = val)) : pc (if e = 0 then A else wt_bnd (f_X3_refuse F e σ) fun r s => some (r, s)) (fun r _ => r = cF e val) :=
  pc_ite (fun c => pc_mono (h c) (fun a s g => by rw [g, c, cF_z])) (fun c => pc_bnd ax_refuse (fun r s q => pc_ret (by rw [q.1, cF_n c])))
theorem mq_ref {F : Nat} {e X : Int32} {σ : Mem} (h : X = e) : pc (wt_bnd (f_X4_refuse F e σ) fun r s => some (r, s)) (fun r _ => r = X) := pc_bnd mx_refuse (fun r s q => pc_ret (q.1.trans h.symm))
/-! roster -/
def anRoster (V : Nat → Int32) (x1 x2 : Int32) : Int32 := cF (cF (cB (0 ≤ x1.toInt ∧ x1.toInt < (V 1).toInt)) (cB (0 ≤ x2.toInt ∧ x2.toInt ≤ 23))) (V (28 + 24 * x1.toNatClampNeg + x2.toNatClampNeg))
theorem qx_roster {F : Nat} {x1 x2 : Int32} {σ : Mem} {V : Nat → Int32} (h : vX V σ) : pc (f_X3_roster F x1 x2 σ) (fun r _ => r = anRoster V x1 x2) := by
  have e1 : σ 1 2 = V 1 := h.2.1 1 (by decide)
  rw [f_X3_roster_e]
  refine pc_be (ax_noLooker (by rw [e1]; exact h.1.2.1.2)) (pc_be ax_noHour (pc_be ax_firstOf ?_))
  rw [e1]
  unfold anRoster
  refine cq_end (fun e => pc_chk (fun b1 => pc_chk (fun b2 => pc_lt (fun z9 h9 => ?_))))
  obtain ⟨c1, c2⟩ := cF_0 e
  have d1 := cB_0 c1
  have d2 := cB_0 c2
  have n1 := ti_nat x1
  have n2 := ti_nat x2
  rw [h.2.2 x1.toNatClampNeg x2.toNatClampNeg (by omega) (by omega)] at h9
  have hb := vV_c5 h.1 (l := x1.toNatClampNeg) (t := x2.toNatClampNeg) (by omega) (by omega)
  generalize V (28 + 24 * x1.toNatClampNeg + x2.toNatClampNeg) = v at *
  refine pc_ite (fun c => pc_ret ?_) (fun c => pc_ret ?_)
  · have q := (wvN_9 hb).mp (h9.symm.trans c)
    rcases hb with b | b
    · exact Int32.toInt_inj.mp (by rw [b]; rfl)
    · omega
  · rw [h9] at c ⊢
    rcases hb with b | b
    · exact absurd ((wvN_9 (Or.inl b)).mpr (by omega)) c
    · exact wvN_s b
theorem qm_roster {F : Nat} {x1 x2 : Int32} {s : Mem} {V : Nat → Int32} (h : vM V s) : pc (f_X4_roster F x1 x2 s) (fun r _ => r = anRoster V x1 x2) := by
  rw [f_X4_roster_e]
  refine pc_lt (fun s3 h3 => ?_)
  have h' : vM V s3 := vM_up h h3
  clear h3
  have e1 : s3 101 3 = V 1 := h'.2 1 (by decide)
  have h5 := h.1.2.1.2
  simp only [j_X4_roster_34_e]
  refine pc_be (mx_isLooker (by rw [e1]; exact h.1.2.1.1)) ?_
  rw [e1]
  unfold anRoster
  by_cases c : 0 ≤ x1.toInt ∧ x1.toInt < (V 1).toInt
  · rw [if_pos c, if_neg (by decide), cB_t c]
    refine pc_be mx_isHour ?_
    by_cases c2 : 0 ≤ x2.toInt ∧ x2.toInt ≤ 23
    · rw [if_pos c2, if_neg (by decide), cB_t c2, cF_z, cF_z]
      have n1 := ti_nat x1
      have n2 := ti_nat x2
      refine pc_chk (fun _ => pc_ret ?_)
      rw [tn_24 (l := x1.toNatClampNeg) (k := x2.toNatClampNeg) (by omega) (by omega) (by omega) (by omega), vM_106 h' (by omega), show 28 + (24 * x1.toNatClampNeg + x2.toNatClampNeg) = 28 + 24 * x1.toNatClampNeg + x2.toNatClampNeg by omega]
    · rw [if_neg c2, if_pos rfl, cB_f c2, cF_z]
      exact mq_ref (cF_n (by decide))
  · rw [if_neg c, if_pos rfl, cB_f c]
    exact mq_ref (by rw [cF_n (a := -1) (by decide), cF_n (by decide)])
/-! paneOf -/
def anCount (V : Nat → Int32) (x : Int32) : Nat → Int32
  | 0 => 0
  | n + 1 => anCount V x n + (if V (28 + n) = x then 1 else 0)
def anPaneOf (V : Nat → Int32) (x1 x2 : Int32) : Int32 := cF (cF (cB (0 ≤ x1.toInt ∧ x1.toInt < (V 0).toInt)) (cO x2 2)) (if x2 = 0 then V (12 + x1.toNatClampNeg) else anCount V x1 (24 * (V 1).toNatClampNeg))
theorem anCount_s {V : Nat → Int32} {x : Int32} {l t : Nat} : anCount V x (24 * l + (t + 1)) = anCount V x (24 * l + t) + (if V (28 + 24 * l + t) = x then 1 else 0) := by
  rw [show 28 + 24 * l + t = 28 + (24 * l + t) by omega]; rfl
theorem qx_hoursAt_15 {F : Nat} {x1 x3 : Int32} {σ : Mem} {V : Nat → Int32} (h : vX V σ) (hx : 0 ≤ x1.toInt ∧ x1.toInt ≤ 5) {k4 : Int32 → Int32 → Mem → Option (Int32 × Mem)} {Q : Int32 → Mem → Prop} {l : Nat} (hl : x3.toInt = (l : Int)) (hl5 : (l : Int) < (V 1).toInt) (hk : ∀ x2, x2 = anCount V x1 (24 * (l + 1)) → pc (k4 x2 (x3 + 1) σ) Q) : ∀ (N t : Nat) (x2 x4 : Int32), x4.toInt = (t : Int) → t ≤ 24 → x2 = anCount V x1 (24 * l + t) → pc (lp_X0_hoursAt_15 F k4 1 x1 x3 N x2 x4 σ) Q := by
  intro N
  induction N with
  | zero => intro t x2 x4 h1 h2 h3; exact pc_none rfl
  | succ N ih =>
    intro t x2 x4 h1 h2 h3
    rw [lp_X0_hoursAt_15_s]
    simp only [j_X0_hoursAt_38_e]
    refine pc_ite (fun c => ?_) (fun c => pc_chk (fun _ => pc_chk (fun _ => ?_)))
    · have d := ti_le c
      rw [tz_24] at d
      exact hk _ (by rw [h3, show 24 * l + t = 24 * (l + 1) by omega])
    have d := ti_nle c
    rw [tz_24] at d
    rw [tn_int hl, tn_int h1, h.2.2 l t hl5 (by omega)]
    refine pc_ite (fun c9 => ih (t + 1) _ _ (ti_nx h1 (by omega)) (by omega) ?_) (fun c9 => ih (t + 1) _ _ (ti_nx h1 (by omega)) (by omega) ?_)
    · rw [anCount_s, if_pos ((wvN_x hx).mp c9), h3]
    · rw [anCount_s, if_neg (fun q => c9 ((wvN_x hx).mpr q)), h3, Int32.add_zero]
theorem qx_hoursAt {F : Nat} {x1 : Int32} {σ : Mem} {V : Nat → Int32} (h : vX V σ) (hx : 0 ≤ x1.toInt ∧ x1.toInt ≤ 5) : pc (f_X0_hoursAt F 1 x1 σ) (fun r s => r = anCount V x1 (24 * (V 1).toNatClampNeg) ∧ s = σ) := by
  have e1 : σ 1 2 = V 1 := h.2.1 1 (by decide)
  have n1 := ti_nat (V 1)
  have h5 := h.1.2.1.2
  have key : ∀ (N l : Nat) (x2 x3 : Int32), x3.toInt = (l : Int) → (l : Int) ≤ (V 1).toInt → x2 = anCount V x1 (24 * l) → pc (lp_X0_hoursAt_4 F 1 x1 N x2 x3 σ) (fun r s => r = anCount V x1 (24 * (V 1).toNatClampNeg) ∧ s = σ) := by
    intro N
    induction N with
    | zero => intro l x2 x3 h1 h2 h3; exact pc_none rfl
    | succ N ih =>
      intro l x2 x3 h1 h2 h3
      rw [lp_X0_hoursAt_4_s, e1]
      refine pc_ite (fun c => ?_) (fun c => ?_)
      · have d := ti_le c
        exact pc_ret ⟨by rw [h3, show l = (V 1).toNatClampNeg by omega], rfl⟩
      · have d := ti_nle c
        exact qx_hoursAt_15 h hx h1 (by omega) (fun y hy => ih (l + 1) y (x3 + 1) (ti_nx h1 (by omega)) (by omega) hy) F 0 x2 0 rfl (by omega) h3
  rw [f_X0_hoursAt_e]
  exact key F 0 0 0 rfl h.1.2.1.1 rfl
theorem qx_paneOf {F : Nat} {x1 x2 : Int32} {σ : Mem} {V : Nat → Int32} (h : vX V σ) : pc (f_X3_paneOf F x1 x2 σ) (fun r _ => r = anPaneOf V x1 x2) := by
  have e0 : σ 1 0 = V 0 := h.2.1 0 (by decide)
  rw [f_X3_paneOf_e]
  refine pc_be (ax_noPane (by rw [e0]; exact h.1.1.2)) (pc_be ax_notBelow (pc_be ax_firstOf ?_))
  rw [e0]
  unfold anPaneOf
  refine cq_end (fun e => ?_)
  obtain ⟨c1, c2⟩ := cF_0 e
  have d1 := cB_0 c1
  have h6 := h.1.1.2
  refine pc_ite (fun c => pc_chk (fun b => pc_ret ?_)) (fun c => pc_bnd (qx_hoursAt h ⟨d1.1, by omega⟩) (fun r s q => pc_ret ?_))
  · rw [if_pos c]; exact vX_12 h b.2.2
  · rw [if_neg c]; exact q.1
theorem ti_24 {x : Int32} (h : 0 ≤ x.toInt ∧ x.toInt ≤ 5) : ((24 : Int32) * x).toInt = 24 * x.toInt := by rw [ti_mul (by rw [tz_24]; omega) (by rw [tz_24]; omega), tz_24]
theorem qm_paneOf_47 {F : Nat} {x1 x2 : Int32} {s : Mem} {V : Nat → Int32} (h : vM V s) : ∀ (N i : Nat) (x3 x4 : Int32), x4.toInt = (i : Int) → (i : Int) ≤ 24 * (V 1).toInt → x3 = anCount V x1 i → pc (lp_X4_paneOf_47 F x1 x2 N x3 x4 s) (fun r _ => r = if x2 = 0 then V (12 + x1.toNatClampNeg) else anCount V x1 (24 * (V 1).toNatClampNeg)) := by
  have e1 : s 101 3 = V 1 := h.2 1 (by decide)
  have n1 := ti_nat (V 1)
  have h5 := h.1.2.1
  have t24 := ti_24 h5
  intro N
  induction N with
  | zero => intro i x3 x4 h1 h2 h3; exact pc_none rfl
  | succ N ih =>
    intro i x3 x4 h1 h2 h3
    rw [lp_X4_paneOf_47_s, e1]
    simp only [j_X4_paneOf_76_e]
    refine pc_ite (fun c => ?_) (fun c => pc_chk (fun _ => ?_))
    · have d := ti_le c
      rw [t24] at d
      refine pc_ite (fun c0 => pc_chk (fun b => pc_ret ?_)) (fun c0 => pc_ret ?_)
      · rw [if_pos c0]; exact vM_103 h b.2.2
      · rw [if_neg c0, h3, show i = 24 * (V 1).toNatClampNeg by omega]
    have d := ti_nle c
    rw [t24] at d
    rw [tn_int h1, vM_106 h (by omega)]
    refine pc_ite (fun c9 => ih (i + 1) _ _ (ti_nx h1 (by omega)) (by omega) ?_) (fun c9 => ih (i + 1) _ _ (ti_nx h1 (by omega)) (by omega) ?_)
    · show x3 + 1 = anCount V x1 i + _
      rw [if_pos c9, h3]
    · show x3 + 0 = anCount V x1 i + _
      rw [if_neg c9, h3]
theorem qm_paneOf {F : Nat} {x1 x2 : Int32} {s : Mem} {V : Nat → Int32} (h : vM V s) : pc (f_X4_paneOf F x1 x2 s) (fun r _ => r = anPaneOf V x1 x2) := by
  rw [f_X4_paneOf_e]
  refine pc_lt (fun s7 h7 => ?_)
  have h' : vM V s7 := vM_up h h7
  clear h7
  have e0 : s7 101 1 = V 0 := h'.2 0 (by decide)
  have hP : f_X4_isPane F x1 s7 = some (if 0 ≤ x1.toInt ∧ x1.toInt < (V 0).toInt then 1 else 0, s7) := by
    rw [mx_isPane (by rw [e0]; exact h.1.1.1), e0]
  simp only [j_X4_paneOf_23_e, j_X4_paneOf_38_e]
  refine pc_be hP ?_
  unfold anPaneOf
  by_cases c : 0 ≤ x1.toInt ∧ x1.toInt < (V 0).toInt
  · rw [if_pos c, if_neg (by decide), cB_t c, cF_z]
    refine pc_be (mx_in32 (lo := 0) (hi := 1) rfl rfl) ?_
    by_cases c2 : 0 ≤ x2.toInt ∧ x2.toInt ≤ 1
    · have hO : cO x2 2 = 0 := if_pos ⟨c2.1, by rw [tz_2]; omega⟩
      rw [if_pos c2, if_neg (by decide), hO, cF_z]
      exact qm_paneOf_47 h' F 0 0 0 rfl (by have := h.1.2.1.1; omega) rfl
    · have hO : cO x2 2 = -2 := if_neg (fun q => c2 ⟨q.1, by have := q.2; rw [tz_2] at this; omega⟩)
      rw [if_neg c2, if_pos rfl, hO]
      refine pc_be hP ?_
      rw [if_pos c, if_neg (by decide)]
      exact mq_ref (cF_n (by decide))
  · rw [if_neg c, if_pos rfl, cB_f c]
    refine pc_be hP ?_
    rw [if_neg c, if_pos rfl]
    exact mq_ref (by rw [cF_n (a := -1) (by decide), cF_n (by decide)])
/-! shown -/
def anBit (w v : Int32) : Int32 := (w >>> (v &&& 31)) &&& 1
def anShown1 (V : Nat → Int32) (v : Int32) : Nat → Int32
  | 0 => 0
  | n + 1 => anShown1 V v n + anBit (V (12 + n)) v
def anShown (V : Nat → Int32) (x1 : Int32) : Int32 := cF (cB (0 ≤ x1.toInt ∧ x1.toInt ≤ 7)) (anShown1 V x1 (V 0).toNatClampNeg)
theorem qx_timesShown {F : Nat} {x1 : Int32} {σ : Mem} {V : Nat → Int32} (h : vX V σ) (hx : 0 ≤ x1.toInt ∧ x1.toInt ≤ 7) : pc (f_X0_timesShown F 1 x1 σ) (fun r s => r = anShown1 V x1 (V 0).toNatClampNeg ∧ s = σ) := by
  have e0 : σ 1 0 = V 0 := h.2.1 0 (by decide)
  have n0 := ti_nat (V 0)
  have h6 := h.1.1.2
  have key : ∀ (N i : Nat) (x2 x3 : Int32), x3.toInt = (i : Int) → (i : Int) ≤ (V 0).toInt → x2 = anShown1 V x1 i → pc (lp_X0_timesShown_4 F 1 x1 N x2 x3 σ) (fun r s => r = anShown1 V x1 (V 0).toNatClampNeg ∧ s = σ) := by
    intro N
    induction N with
    | zero => intro i x2 x3 h1 h2 h3; exact pc_none rfl
    | succ N ih =>
      intro i x2 x3 h1 h2 h3
      rw [lp_X0_timesShown_4_s, e0]
      simp only [j_X0_timesShown_24_e]
      refine pc_ite (fun c => ?_) (fun c => ?_)
      · have d := ti_le c
        exact pc_ret ⟨by rw [h3, show i = (V 0).toNatClampNeg by omega], rfl⟩
      · have d := ti_nle c
        refine pc_bnd (ax_shows (by rw [e0]; exact h6) ⟨by omega, by rw [e0]; omega⟩ hx) (fun r s q => ?_)
        obtain ⟨q1, q2⟩ := q
        rw [q1]
        rw [tn_int h1, vX_12 h (by omega)] at q2
        have hs : anShown1 V x1 (i + 1) = x2 + r := by rw [q2, h3]; rfl
        refine pc_ite (fun c9 => ih (i + 1) _ _ (ti_nx h1 (by omega)) (by omega) ?_) (fun c9 => ih (i + 1) _ _ (ti_nx h1 (by omega)) (by omega) ?_)
        · rw [hs, c9, Int32.add_zero]
        · have hr : r = 1 := by
            rcases ax_and1 ((V (12 + i)) >>> (x1 &&& 31)) with e | e
            · exact absurd (q2.trans e) c9
            · exact q2.trans e
          rw [hs, hr]
  rw [f_X0_timesShown_e]
  exact key F 0 0 0 rfl h.1.1.1 rfl
theorem qx_shown {F : Nat} {x1 : Int32} {σ : Mem} {V : Nat → Int32} (h : vX V σ) : pc (f_X3_shown F x1 σ) (fun r _ => r = anShown V x1) := by
  rw [f_X3_shown_e]
  refine pc_be ax_isView ?_
  unfold anShown
  by_cases c : 0 ≤ x1.toInt ∧ x1.toInt ≤ 7
  · rw [if_pos c, if_neg (by decide), cB_t c, cF_z]
    exact pc_bnd (qx_timesShown h c) (fun r s q => pc_ret q.1)
  · rw [if_neg c, if_pos rfl, cB_f c]
    exact pc_bnd ax_refuse (fun r s q => pc_ret (by rw [q.1, cF_n (by decide)]))
theorem qm_shown_22 {F : Nat} {x1 : Int32} {s : Mem} {V : Nat → Int32} (h : vM V s) : ∀ (N i : Nat) (x2 x3 : Int32), x3.toInt = (i : Int) → (i : Int) ≤ (V 0).toInt → x2 = anShown1 V x1 i → pc (lp_X4_shown_22 F x1 N x2 x3 s) (fun r _ => r = anShown1 V x1 (V 0).toNatClampNeg) := by
  have e0 : s 101 1 = V 0 := h.2 0 (by decide)
  have n0 := ti_nat (V 0)
  have h6 := h.1.1.2
  intro N
  induction N with
  | zero => intro i x2 x3 h1 h2 h3; exact pc_none rfl
  | succ N ih =>
    intro i x2 x3 h1 h2 h3
    rw [lp_X4_shown_22_s, e0]
    simp only [j_X4_shown_49_e]
    refine pc_ite (fun c => ?_) (fun c => pc_chk (fun _ => ?_))
    · have d := ti_le c
      exact pc_ret (by rw [h3, show i = (V 0).toNatClampNeg by omega])
    · have d := ti_nle c
      rw [tn_int h1, vM_103 h (by omega), f_X4_hasBit_e]
      have hs : anShown1 V x1 (i + 1) = x2 + anBit (V (12 + i)) x1 := by rw [h3]; rfl
      have hb : anBit (V (12 + i)) x1 = 0 ∨ anBit (V (12 + i)) x1 = 1 := ax_and1 ((V (12 + i)) >>> (x1 &&& 31))
      by_cases c9 : ((V (12 + i)) >>> (x1 &&& 31)) &&& (1 : Int32) = 1
      · rw [if_pos c9]
        refine pc_be rfl ?_
        rw [if_neg (by decide)]
        refine ih (i + 1) _ _ (ti_nx h1 (by omega)) (by omega) ?_
        rw [hs, show anBit (V (12 + i)) x1 = 1 from c9]
      · rw [if_neg c9]
        refine pc_be rfl ?_
        rw [if_pos rfl]
        refine ih (i + 1) _ _ (ti_nx h1 (by omega)) (by omega) ?_
        rw [hs, hb.resolve_right c9]
theorem qm_shown {F : Nat} {x1 : Int32} {s : Mem} {V : Nat → Int32} (h : vM V s) : pc (f_X4_shown F x1 s) (fun r _ => r = anShown V x1) := by
  rw [f_X4_shown_e]
  refine pc_lt (fun s4 h4 => ?_)
  have h' : vM V s4 := vM_up h h4
  clear h4
  refine pc_be mx_isView ?_
  unfold anShown
  by_cases c : 0 ≤ x1.toInt ∧ x1.toInt ≤ 7
  · rw [if_pos c, if_neg (by decide), cB_t c, cF_z]
    exact qm_shown_22 h' F 0 0 0 rfl h.1.1.1 rfl
  · rw [if_neg c, if_pos rfl, cB_f c]
    exact mq_ref (cF_n (by decide))
/-! busy -/
def anStd1 (V : Nat → Int32) (t : Nat) : Nat → Int32
  | 0 => 0
  | l + 1 => anStd1 V t l + (if (V (28 + 24 * l + t)).toInt < 0 then 0 else 1)
def anStd (V : Nat → Int32) (t : Nat) : Int32 := anStd1 V t (V 1).toNatClampNeg
def anBest (V : Nat → Int32) : Nat → Nat
  | 0 => 0
  | n + 1 => if anStd V (n + 1) ≤ anStd V (anBest V n) then anBest V n else n + 1
theorem anBest_le {V : Nat → Int32} : ∀ n, anBest V n ≤ n := fun n => by
  induction n with
  | zero => exact Nat.le_refl _
  | succ n ih =>
    show (if anStd V (n + 1) ≤ anStd V (anBest V n) then anBest V n else n + 1) ≤ n + 1
    by_cases c : anStd V (n + 1) ≤ anStd V (anBest V n)
    · rw [if_pos c]; omega
    · rw [if_neg c]; omega
def anBusy (V : Nat → Int32) (x1 : Int32) : Int32 := cF (cO x1 2) (if x1 = 0 then Int32.ofNat (anBest V 23) else anStd V (anBest V 23))
theorem qx_standingIn {F : Nat} {x1 : Int32} {t : Nat} {σ : Mem} {V : Nat → Int32} (h : vX V σ) (ht : x1.toInt = (t : Int)) (h24 : t < 24) : pc (f_X0_standingIn F 1 x1 σ) (fun r s => r = anStd V t ∧ s = σ) := by
  have e1 : σ 1 2 = V 1 := h.2.1 1 (by decide)
  have n1 := ti_nat (V 1)
  have h5 := h.1.2.1.2
  have key : ∀ (N l : Nat) (x2 x3 : Int32), x3.toInt = (l : Int) → (l : Int) ≤ (V 1).toInt → x2 = anStd1 V t l → pc (lp_X0_standingIn_4 F 1 x1 N x2 x3 σ) (fun r s => r = anStd V t ∧ s = σ) := by
    intro N
    induction N with
    | zero => intro l x2 x3 h1 h2 h3; exact pc_none rfl
    | succ N ih =>
      intro l x2 x3 h1 h2 h3
      rw [lp_X0_standingIn_4_s, e1]
      simp only [j_X0_standingIn_28_e]
      refine pc_ite (fun c => ?_) (fun c => pc_chk (fun _ => pc_chk (fun _ => ?_)))
      · have d := ti_le c
        exact pc_ret ⟨by rw [h3, show l = (V 1).toNatClampNeg by omega]; rfl, rfl⟩
      · have d := ti_nle c
        rw [tn_int h1, tn_int ht, h.2.2 l t (by omega) h24]
        have hb := wvN_9 (vV_c5 h.1 (l := l) (t := t) (by omega) h24)
        refine pc_ite (fun c9 => ih (l + 1) _ _ (ti_nx h1 (by omega)) (by omega) ?_) (fun c9 => ih (l + 1) _ _ (ti_nx h1 (by omega)) (by omega) ?_)
        · show x2 = anStd1 V t l + _
          rw [if_pos (hb.mp c9), h3, Int32.add_zero]
        · show x2 + 1 = anStd1 V t l + _
          rw [if_neg (fun q => c9 (hb.mpr q)), h3]
  rw [f_X0_standingIn_e]
  exact key F 0 0 0 rfl h.1.2.1.1 rfl
theorem qx_busy_24 {F : Nat} {x1 : Int32} {σ : Mem} {V : Nat → Int32} (h : vX V σ) : ∀ (N t : Nat) (x3 x4 x5 : Int32), x5.toInt = (t : Int) → t ≤ 24 → ((t = 0 ∧ x3 = 0 ∧ x4 = 0) ∨ (1 ≤ t ∧ x3 = Int32.ofNat (anBest V (t - 1)) ∧ x4 = anStd V (anBest V (t - 1)))) → pc (lp_X3_busy_24 F x1 N x3 x4 x5 σ) (fun r _ => r = if x1 = 0 then Int32.ofNat (anBest V 23) else anStd V (anBest V 23)) := by
  intro N
  induction N with
  | zero => intro t x3 x4 x5 h1 h2 h3; exact pc_none rfl
  | succ N ih =>
    intro t x3 x4 x5 h1 h2 h3
    rw [lp_X3_busy_24_s]
    simp only [j_X3_busy_56_e]
    refine pc_ite (fun c => ?_) (fun c => ?_)
    · have d := ti_le c
      rw [tz_24] at d
      have t24 : t = 24 := by omega
      subst t24
      rcases h3 with h3 | ⟨-, g3, g4⟩
      · exact absurd h3.1 (by decide)
      · exact pc_ite (fun c0 => pc_ret (by rw [if_pos c0]; exact g3)) (fun c0 => pc_ret (by rw [if_neg c0]; exact g4))
    · have d := ti_nle c
      rw [tz_24] at d
      refine pc_bnd (qx_standingIn h h1 (by omega)) (fun r s q => ?_)
      obtain ⟨q1, q2⟩ := q
      rw [q2]
      rcases h3 with ⟨g0, g3, g4⟩ | ⟨g0, g3, g4⟩
      · subst g0
        have hn : 0 ≤ (anStd V 0).toInt := by
          have : ∀ l, l ≤ 5 → 0 ≤ (anStd1 V 0 l).toInt ∧ (anStd1 V 0 l).toInt ≤ l := fun l => by
            induction l with
            | zero => intro _; exact ⟨Int.le_refl 0, Int.le_refl 0⟩
            | succ l ihl =>
              intro hl
              have b := ihl (by omega)
              show 0 ≤ (anStd1 V 0 l + (if (V (28 + 24 * l + 0)).toInt < 0 then (0 : Int32) else 1)).toInt ∧ (anStd1 V 0 l + (if (V (28 + 24 * l + 0)).toInt < 0 then (0 : Int32) else 1)).toInt ≤ ((l + 1 : Nat) : Int)
              by_cases cv : (V (28 + 24 * l + 0)).toInt < 0
              · rw [if_pos cv, Int32.add_zero]; omega
              · rw [if_neg cv, ti_add (by rw [tz_1]; omega) (by rw [tz_1]; omega), tz_1]; omega
          have n1 := ti_nat (V 1)
          have h5 := h.1.2.1.2
          exact (this (V 1).toNatClampNeg (by omega)).1
        refine pc_ite (fun c9 => ih 1 _ _ _ (ti_nx h1 (by omega)) (by omega) (Or.inr ⟨by omega, g3, ?_⟩)) (fun c9 => ih 1 _ _ _ (ti_nx h1 (by omega)) (by omega) (Or.inr ⟨by omega, ?_, q1⟩))
        · have e := ti_le c9
          rw [g4, tz_0, q1] at e
          rw [g4]
          exact Int32.toInt_inj.mp (by rw [tz_0]; show 0 = (anStd V 0).toInt; omega)
        · exact Int32.toInt_inj.mp (by rw [h1]; rfl)
      · have hb : anBest V (t + 1 - 1) = if anStd V t ≤ anStd V (anBest V (t - 1)) then anBest V (t - 1) else t := by
          obtain ⟨u, rfl⟩ : ∃ u, t = u + 1 := ⟨t - 1, by omega⟩
          rfl
        rw [q1, g4]
        refine pc_ite (fun c9 => ih (t + 1) _ _ _ (ti_nx h1 (by omega)) (by omega) (Or.inr ⟨by omega, ?_, ?_⟩)) (fun c9 => ih (t + 1) _ _ _ (ti_nx h1 (by omega)) (by omega) (Or.inr ⟨by omega, ?_, ?_⟩))
        · rw [hb, if_pos c9]; exact g3
        · rw [hb, if_pos c9]
        · rw [hb, if_neg c9]; exact io_eq h1 (by omega)
        · rw [hb, if_neg c9]
theorem qx_busy {F : Nat} {x1 : Int32} {σ : Mem} {V : Nat → Int32} (h : vX V σ) : pc (f_X3_busy F x1 σ) (fun r _ => r = anBusy V x1) := by
  rw [f_X3_busy_e]
  refine pc_be ax_notBelow ?_
  unfold anBusy
  exact cq_end (fun _ => qx_busy_24 h F 0 0 0 0 rfl (by omega) (Or.inl ⟨rfl, rfl, rfl⟩))
theorem qm_standing {F : Nat} {x1 : Int32} {t : Nat} {s : Mem} {V : Nat → Int32} (h : vM V s) (ht : x1.toInt = (t : Int)) (h24 : t < 24) : pc (f_X4_standing F x1 s) (fun r z => r = anStd V t ∧ z = s) := by
  have e1 : s 101 3 = V 1 := h.2 1 (by decide)
  have n1 := ti_nat (V 1)
  have h5 := h.1.2.1.2
  have key : ∀ (N l : Nat) (x2 x3 : Int32), x3.toInt = (l : Int) → (l : Int) ≤ (V 1).toInt → x2 = anStd1 V t l → pc (lp_X4_standing_4 F x1 N x2 x3 s) (fun r z => r = anStd V t ∧ z = s) := by
    intro N
    induction N with
    | zero => intro l x2 x3 h1 h2 h3; exact pc_none rfl
    | succ N ih =>
      intro l x2 x3 h1 h2 h3
      rw [lp_X4_standing_4_s, e1]
      simp only [j_X4_standing_32_e]
      refine pc_ite (fun c => ?_) (fun c => pc_chk (fun _ => ?_))
      · have d := ti_le c
        exact pc_ret ⟨by rw [h3, show l = (V 1).toNatClampNeg by omega]; rfl, rfl⟩
      · have d := ti_nle c
        rw [tn_24 h1 ht (by omega) h24, vM_106 h (by omega), show 28 + (24 * l + t) = 28 + 24 * l + t by omega]
        refine pc_ite (fun c9 => ih (l + 1) _ _ (ti_nx h1 (by omega)) (by omega) ?_) (fun c9 => ih (l + 1) _ _ (ti_nx h1 (by omega)) (by omega) ?_)
        · show x2 + 0 = anStd1 V t l + _
          have := ti_lt c9
          rw [tz_0] at this
          rw [if_pos this, h3]
        · show x2 + 1 = anStd1 V t l + _
          have := ti_nlt c9
          rw [tz_0] at this
          rw [if_neg (by omega), h3]
  rw [f_X4_standing_e]
  exact key F 0 0 0 rfl h.1.2.1.1 rfl
theorem qm_busy_26 {F : Nat} {x1 : Int32} {s : Mem} {V : Nat → Int32} (h : vM V s) : ∀ (N t : Nat) (x2 x3 : Int32), x3.toInt = ((t + 1 : Nat) : Int) → t + 1 ≤ 24 → x2 = Int32.ofNat (anBest V t) → pc (lp_X4_busy_26 F x1 N x2 x3 s) (fun r _ => r = if x1 = 0 then Int32.ofNat (anBest V 23) else anStd V (anBest V 23)) := by
  intro N
  induction N with
  | zero => intro t x2 x3 h1 h2 h3; exact pc_none rfl
  | succ N ih =>
    intro t x2 x3 h1 h2 h3
    have hle := anBest_le (V := V) t
    have hx2 : x2.toInt = (anBest V t : Int) := by rw [h3]; exact io_nat _ (by omega)
    rw [lp_X4_busy_26_s]
    simp only [j_X4_busy_50_e]
    refine pc_ite (fun c => ?_) (fun c => ?_)
    · have d := ti_le c
      rw [tz_24] at d
      have t24 : t = 23 := by omega
      subst t24
      refine pc_ite (fun c0 => pc_ret (by rw [if_pos c0]; exact h3)) (fun c0 => pc_bnd (qm_standing h hx2 (by omega)) (fun r z q => pc_ret ?_))
      rw [if_neg c0]
      exact q.1
    · have d := ti_nle c
      rw [tz_24] at d
      refine pc_bnd (qm_standing h h1 (by omega)) (fun r z q => ?_)
      obtain ⟨q1, q2⟩ := q
      rw [q2]
      refine pc_bnd (qm_standing h hx2 (by omega)) (fun r' z' q' => ?_)
      obtain ⟨q3, q4⟩ := q'
      rw [q4, q1, q3]
      have hb : anBest V (t + 1) = if anStd V (t + 1) ≤ anStd V (anBest V t) then anBest V t else t + 1 := rfl
      refine pc_ite (fun c9 => ih (t + 1) _ _ (ti_nx h1 (by omega)) (by omega) ?_) (fun c9 => ih (t + 1) _ _ (ti_nx h1 (by omega)) (by omega) ?_)
      · rw [hb, if_pos c9]; exact h3
      · rw [hb, if_neg c9]; exact io_eq h1 (by omega)
theorem qm_busy {F : Nat} {x1 : Int32} {s : Mem} {V : Nat → Int32} (h : vM V s) : pc (f_X4_busy F x1 s) (fun r _ => r = anBusy V x1) := by
  rw [f_X4_busy_e]
  refine pc_lt (fun s7 h7 => ?_)
  have h' : vM V s7 := vM_up h h7
  clear h7
  refine pc_be (mx_in32 (lo := 0) (hi := 1) rfl rfl) ?_
  unfold anBusy
  by_cases c2 : 0 ≤ x1.toInt ∧ x1.toInt ≤ 1
  · have hO : cO x1 2 = 0 := if_pos ⟨c2.1, by rw [tz_2]; omega⟩
    rw [if_pos c2, if_neg (by decide), hO, cF_z]
    exact qm_busy_26 h' F 0 0 1 rfl (by omega) rfl
  · have hO : cO x1 2 = -2 := if_neg (fun q => c2 ⟨q.1, by have := q.2; rw [tz_2] at this; omega⟩)
    rw [if_neg c2, if_pos rfl, hO]
    exact mq_ref (cF_n (by decide))
/-! together -/
def anTog1 (V : Nat → Int32) (a b : Nat) : Nat → Int32
  | 0 => 0
  | t + 1 => anTog1 V a b t ||| (if (V (28 + 24 * a + t)).toInt < 0 then 0 else if V (28 + 24 * a + t) = V (28 + 24 * b + t) then (1 : Int32) <<< (Int32.ofNat t &&& 31) else 0)
def anTogether (V : Nat → Int32) (x1 x2 : Int32) : Int32 := cF (cB ((0 ≤ x1.toInt ∧ x1.toInt < (V 1).toInt) ∧ (0 ≤ x2.toInt ∧ x2.toInt < (V 1).toInt) ∧ ¬ x1 = x2)) (anTog1 V x1.toNatClampNeg x2.toNatClampNeg 24)
theorem qx_noPair {F : Nat} {x1 x2 : Int32} {σ : Mem} {V : Nat → Int32} (h : vX V σ) : f_X3_noPair F x1 x2 σ = some (cB ((0 ≤ x1.toInt ∧ x1.toInt < (V 1).toInt) ∧ (0 ≤ x2.toInt ∧ x2.toInt < (V 1).toInt) ∧ ¬ x1 = x2), σ) := by
  have e1 : σ 1 2 = V 1 := h.2.1 1 (by decide)
  have h5 := h.1.2.1.2
  rw [f_X3_noPair_e]
  simp only [j_X3_noPair_31_e]
  rw [wt_bnd_eq (ax_isLooker (by rw [e1]; exact h5)), e1]
  by_cases c1 : 0 ≤ x1.toInt ∧ x1.toInt < (V 1).toInt
  · rw [if_pos c1, if_neg (by decide), wt_bnd_eq (ax_isLooker (by rw [e1]; exact h5)), e1]
    by_cases c2 : 0 ≤ x2.toInt ∧ x2.toInt < (V 1).toInt
    · rw [if_pos c2, if_neg (by decide)]
      by_cases c3 : x1 = x2
      · rw [if_pos c3, cB_f (fun q => q.2.2 c3)]
      · rw [if_neg c3, cB_t ⟨c1, c2, c3⟩]
    · rw [if_neg c2, if_pos rfl, cB_f (fun q => c2 q.2.1)]
  · rw [if_neg c1, if_pos rfl, cB_f (fun q => c1 q.1)]
theorem qm_areTwo {F : Nat} {x1 x2 : Int32} {s : Mem} {V : Nat → Int32} (h : vM V s) : f_X4_areTwo F x1 x2 s = some (if ((0 ≤ x1.toInt ∧ x1.toInt < (V 1).toInt) ∧ (0 ≤ x2.toInt ∧ x2.toInt < (V 1).toInt) ∧ ¬ x1 = x2) then 1 else 0, s) := by
  have e1 : s 101 3 = V 1 := h.2 1 (by decide)
  have h5 := h.1.2.1.1
  rw [f_X4_areTwo_e]
  simp only [j_X4_areTwo_25_e]
  rw [wt_bnd_eq (mx_isLooker (by rw [e1]; exact h5)), e1]
  by_cases c1 : 0 ≤ x1.toInt ∧ x1.toInt < (V 1).toInt
  · rw [if_pos c1, if_neg (by decide), wt_bnd_eq (mx_isLooker (by rw [e1]; exact h5)), e1]
    by_cases c2 : 0 ≤ x2.toInt ∧ x2.toInt < (V 1).toInt
    · rw [if_pos c2, if_neg (by decide)]
      by_cases c3 : x1 = x2
      · rw [if_pos c3, if_neg (fun q : ((0 ≤ x1.toInt ∧ x1.toInt < (V 1).toInt) ∧ (0 ≤ x2.toInt ∧ x2.toInt < (V 1).toInt) ∧ ¬ x1 = x2) => q.2.2 c3)]
      · rw [if_neg c3, if_pos (show ((0 ≤ x1.toInt ∧ x1.toInt < (V 1).toInt) ∧ (0 ≤ x2.toInt ∧ x2.toInt < (V 1).toInt) ∧ ¬ x1 = x2) from ⟨c1, c2, c3⟩)]
    · rw [if_neg c2, if_pos rfl, if_neg (fun q : ((0 ≤ x1.toInt ∧ x1.toInt < (V 1).toInt) ∧ (0 ≤ x2.toInt ∧ x2.toInt < (V 1).toInt) ∧ ¬ x1 = x2) => c2 q.2.1)]
  · rw [if_neg c1, if_pos rfl, if_neg (fun q : ((0 ≤ x1.toInt ∧ x1.toInt < (V 1).toInt) ∧ (0 ≤ x2.toInt ∧ x2.toInt < (V 1).toInt) ∧ ¬ x1 = x2) => c1 q.1)]
theorem wvN_inj {a b : Int32} : wvN a = wvN b ↔ a = b := ⟨fun q => by rw [← wvN_N a, q, wvN_N], fun q => by rw [q]⟩
theorem qx_together_23 {F : Nat} {x1 x2 : Int32} {a b : Nat} {σ : Mem} {V : Nat → Int32} (h : vX V σ) (ha : x1.toInt = (a : Int)) (hb : x2.toInt = (b : Int)) (ha5 : (a : Int) < (V 1).toInt) (hb5 : (b : Int) < (V 1).toInt) : ∀ (N t : Nat) (x4 x5 : Int32), x5.toInt = (t : Int) → t ≤ 24 → x4 = anTog1 V a b t → pc (lp_X3_together_23 F x1 x2 N x4 x5 σ) (fun r _ => r = anTog1 V a b 24) := by
  intro N
  induction N with
  | zero => intro t x4 x5 h1 h2 h3; exact pc_none rfl
  | succ N ih =>
    intro t x4 x5 h1 h2 h3
    rw [lp_X3_together_23_s]
    simp only [j_X3_together_77_e]
    refine pc_ite (fun c => ?_) (fun c => pc_chk (fun _ => pc_chk (fun _ => pc_lt (fun z3 hz => ?_))))
    · have d := ti_le c
      rw [tz_24] at d
      exact pc_ret (by rw [h3, show t = 24 by omega])
    · have d := ti_nle c
      rw [tz_24] at d
      rw [tn_int ha, tn_int h1, h.2.2 a t ha5 (by omega)] at hz
      have hv := wvN_9 (vV_c5 h.1 (l := a) (t := t) ha5 (by omega))
      rw [← hz] at hv
      have hs : anTog1 V a b (t + 1) = anTog1 V a b t ||| (if (V (28 + 24 * a + t)).toInt < 0 then 0 else if V (28 + 24 * a + t) = V (28 + 24 * b + t) then (1 : Int32) <<< (Int32.ofNat t &&& 31) else 0) := rfl
      refine pc_ite (fun c9 => ih (t + 1) _ _ (ti_nx h1 (by omega)) (by omega) ?_) (fun c9 => pc_chk (fun _ => ?_))
      · rw [hs, if_pos (hv.mp c9), Int32.or_zero, h3]
      · rw [tn_int hb, tn_int h1, h.2.2 b t hb5 (by omega), hz]
        rw [if_neg (fun q => c9 (hv.mpr q))] at hs
        refine pc_ite (fun c8 => pc_lt (fun z5 hz5 => ih (t + 1) _ _ (ti_nx h1 (by omega)) (by omega) ?_)) (fun c8 => ih (t + 1) _ _ (ti_nx h1 (by omega)) (by omega) ?_)
        · rw [hz5, hs, if_pos (wvN_inj.mp c8).symm, h3, io_eq h1 (by omega)]
        · rw [hs, if_neg (fun q => c8 (wvN_inj.mpr q.symm)), Int32.or_zero, h3]
theorem qx_together {F : Nat} {x1 x2 : Int32} {σ : Mem} {V : Nat → Int32} (h : vX V σ) : pc (f_X3_together F x1 x2 σ) (fun r _ => r = anTogether V x1 x2) := by
  rw [f_X3_together_e]
  refine pc_be (qx_noPair h) ?_
  unfold anTogether
  refine cq_end (fun e => ?_)
  obtain ⟨c1, c2, c3⟩ := cB_0 e
  have n1 := ti_nat x1
  have n2 := ti_nat x2
  exact qx_together_23 h (by omega) (by omega) (by omega) (by omega) F 0 0 0 rfl (by omega) rfl
theorem qm_together_25 {F : Nat} {x1 x2 : Int32} {a b : Nat} {s : Mem} {V : Nat → Int32} (h : vM V s) (ha : x1.toInt = (a : Int)) (hb : x2.toInt = (b : Int)) (ha5 : a < 5) (hb5 : b < 5) : ∀ (N t : Nat) (x3 x4 : Int32), x4.toInt = (t : Int) → t ≤ 24 → x3 = anTog1 V a b t → pc (lp_X4_together_25 F x1 x2 N x3 x4 s) (fun r _ => r = anTog1 V a b 24) := by
  intro N
  induction N with
  | zero => intro t x3 x4 h1 h2 h3; exact pc_none rfl
  | succ N ih =>
    intro t x3 x4 h1 h2 h3
    rw [lp_X4_together_25_s]
    simp only [j_X4_together_76_e, j_X4_together_77_e]
    refine pc_ite (fun c => ?_) (fun c => pc_chk (fun _ => pc_lt (fun z2 hz => ?_)))
    · have d := ti_le c
      rw [tz_24] at d
      exact pc_ret (by rw [h3, show t = 24 by omega])
    · have d := ti_nle c
      rw [tz_24] at d
      rw [tn_24 ha h1 ha5 (by omega), vM_106 h (by omega), show 28 + (24 * a + t) = 28 + 24 * a + t by omega] at hz
      have hs : anTog1 V a b (t + 1) = anTog1 V a b t ||| (if (V (28 + 24 * a + t)).toInt < 0 then 0 else if V (28 + 24 * a + t) = V (28 + 24 * b + t) then (1 : Int32) <<< (Int32.ofNat t &&& 31) else 0) := rfl
      rw [← hz] at hs
      refine pc_ite (fun c9 => ih (t + 1) _ _ (ti_nx h1 (by omega)) (by omega) ?_) (fun c9 => pc_chk (fun _ => ?_))
      · have := ti_lt c9
        rw [tz_0] at this
        rw [hs, if_pos this, h3]
      · have := ti_nlt c9
        rw [tz_0] at this
        rw [if_neg (by omega)] at hs
        rw [tn_24 hb h1 hb5 (by omega), vM_106 h (by omega), show 28 + (24 * b + t) = 28 + 24 * b + t by omega]
        refine pc_ite (fun c8 => ih (t + 1) _ _ (ti_nx h1 (by omega)) (by omega) ?_) (fun c8 => ih (t + 1) _ _ (ti_nx h1 (by omega)) (by omega) ?_)
        · rw [hs, if_pos c8, h3, io_eq h1 (by omega)]
        · rw [hs, if_neg c8, h3]
theorem qm_together {F : Nat} {x1 x2 : Int32} {s : Mem} {V : Nat → Int32} (h : vM V s) : pc (f_X4_together F x1 x2 s) (fun r _ => r = anTogether V x1 x2) := by
  rw [f_X4_together_e]
  refine pc_lt (fun s4 h4 => ?_)
  have h' : vM V s4 := vM_up h h4
  clear h4
  refine pc_be (qm_areTwo h') ?_
  unfold anTogether
  by_cases c : ((0 ≤ x1.toInt ∧ x1.toInt < (V 1).toInt) ∧ (0 ≤ x2.toInt ∧ x2.toInt < (V 1).toInt) ∧ ¬ x1 = x2)
  · rw [if_pos c, if_neg (by decide), cB_t c, cF_z]
    obtain ⟨c1, c2, c3⟩ := c
    have n1 := ti_nat x1
    have n2 := ti_nat x2
    have h5 := h.1.2.1.2
    exact qm_together_25 h' (a := x1.toNatClampNeg) (b := x2.toNatClampNeg) (by omega) (by omega) (by omega) (by omega) F 0 0 0 rfl (by omega) rfl
  · rw [if_neg c, if_pos rfl, cB_f c]
    exact mq_ref (cF_n (by decide))
