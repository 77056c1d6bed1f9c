section
/-! questions: both sides stay alike -/
def cRest (c : Nat) : Prop := cX c ∨ cI c ∨ (71 ≤ c ∧ c ≤ 82) ∨ c = 117 ∨ c = 3004 ∨ c = 3005 ∨ c = 1030 ∨ cL c ∨ cW c
theorem rS_ve {σ z : Mem} (hV : wvV (wvM σ)) (h : rS σ) (e : ag cRest σ z) (v : VE (wvM σ) z) : rS z := by
  have e1 : z 70 4 = σ 70 4 := e 70 4 (Or.inr (Or.inr (Or.inr (Or.inr (Or.inl rfl)))))
  have e2 : z 70 5 = σ 70 5 := e 70 5 (Or.inr (Or.inr (Or.inr (Or.inr (Or.inr (Or.inl rfl))))))
  have e3 : z 101 30 = σ 101 30 := e 101 30 (Or.inr (Or.inr (Or.inr (Or.inr (Or.inr (Or.inr (Or.inl rfl)))))))
  have e4 : ∀ i, z 117 i = σ 117 i := fun i => e 117 i (Or.inr (Or.inr (Or.inr (Or.inl rfl))))
  have e5 : ∀ k, 71 ≤ k → k ≤ 82 → ∀ i, z k i = σ k i := fun k a b i => e k i (Or.inr (Or.inr (Or.inl (by rw [wcid_hi (by omega)]; exact ⟨a, b⟩))))
  have eT : ∀ j p, p < 188 → wsT z (σ 101 30).toNatClampNeg j p = wsT σ (σ 101 30).toNatClampNeg j p := fun j p hp => by
    unfold wsT
    rw [v p hp, e4]
  refine ⟨by rw [e2, e3]; exact h.1, fun j hj => ?_⟩
  rw [e3] at hj ⊢
  rw [e1]
  have b := wvV_b (rS_V hV h (j := j + 1) (by omega))
  have hm : ((σ 70 4).toNatClampNeg + j) % 8 < 8 := Nat.mod_lt _ (by decide)
  exact ⟨wvV_cg (h.2 j hj).1 (fun p hp => eT j p hp), wsU_cg (h.2 j hj).2 b.1 b.2 (e5 71 (by omega) (by omega) _) (e5 72 (by omega) (by omega) _) (e5 73 (by omega) (by omega) _) (funext fun i => e5 _ (by omega) (by omega) i) (fun p hp => eT j p hp) (fun p hp => eT _ p hp)⟩
theorem wR_ve {lim : Nat} {σ s z : Mem} (hl : 28 ≤ lim ∧ lim ≤ 188) (h : wR lim σ) (xs : wiX s) (mz : wiM z) (m2 : ∀ k, k < 101 → z k = s k) (e : ag cRest σ z) (v : VE (wvM σ) z) : wR lim z := by
  obtain ⟨hX, hM, hV, hI, hS, hL, hW⟩ := h
  refine ⟨wx_congr xs m2, mz, ⟨wvV_cg hV.1 v, weq_cg hV.2 hl.1 (fun p hp => v p (by omega)) (fun p hp => ag_wvX wt_h1 (ag_mono e (fun c hc => Or.inl (by unfold cX; omega))) (by omega))⟩, rI_ag hl hI (ag_mono e (fun c hc => Or.inr (Or.inl hc))), rS_ve hV.1 hS e v, rL_ag hL (ag_mono e (fun c hc => ?_)), rW_ag hW (ag_mono e (fun c hc => ?_))⟩
  · exact Or.inr (Or.inr (Or.inr (Or.inr (Or.inr (Or.inr (Or.inr (Or.inl hc)))))))
  · exact Or.inr (Or.inr (Or.inr (Or.inr (Or.inr (Or.inr (Or.inr (Or.inr hc)))))))
theorem VE_s {σ s z : Mem} (x2 : ∀ k, 101 ≤ k → s k = σ k) (v : VE (wvM s) z) : VE (wvM σ) z := fun p hp => (v p hp).trans (eMV x2 p hp)
theorem wR_m0 : wR 188 wt_m0 := by
  have h0 : ∀ i, (wt_m0 101 i) = 0 := fun _ => rfl
  refine ⟨⟨fun h hh => ?_, by decide, by decide, by decide, by decide⟩, fun k i hk => ?_, ⟨⟨by decide, by decide, by decide, fun p a b => ?_, fun p a b c => ?_, fun l hl => ?_, fun p a b c => ?_⟩, fun p hp hv => ?_⟩, ⟨rfl, fun n => absurd rfl n⟩, rS_0 rfl rfl, ⟨rfl, fun i hi => absurd hi (Nat.not_lt_zero i)⟩, ⟨rfl, fun i hi => absurd hi (Nat.not_lt_zero i)⟩⟩
  · rcases wt_Hcs hh with e | e | e <;> subst e <;> decide
  · have hb : wiB i 0 := ⟨fun _ => by decide, fun _ => by decide, fun _ _ => by decide⟩
    have hb2 : wiB (i % 188) 0 := ⟨fun _ => by decide, fun _ => by decide, fun _ _ => by decide⟩
    by_cases e : k = 106
    · subst e
      exact wm_106 (by show -9 ≤ (-9 : Int32).toInt ∧ (-9 : Int32).toInt ≤ 5; decide)
    by_cases e2 : k = 102
    · subst e2; exact wm_free (by decide) (by decide) (by decide) (by decide)
    have h0 : wt_m0 k i = 0 := by
      unfold wt_m0
      rw [if_neg (by omega), if_neg e]
    rw [h0]
    exact ⟨fun _ => ⟨fun _ => by decide, fun _ => by decide, fun _ => by decide, fun _ => by decide, fun _ => by decide, fun _ => by decide, fun _ => by decide⟩, fun h => absurd h e, fun _ => by decide, fun _ => hb, fun _ => hb2⟩
  · have q : ∀ p, p < 12 → 4 ≤ p → 0 ≤ (wvM wt_m0 p).toInt ∧ (wvM wt_m0 p).toInt ≤ 9 := by decide +kernel
    exact q p b a
  · exfalso
    have := c.1 a b
    exact absurd this (Nat.not_lt_zero _)
  · exfalso
    have e : (wvM wt_m0 1).toInt = 0 := by decide
    rw [e] at hl
    omega
  · exfalso
    have := c.2 a
    exact absurd this (Nat.not_lt_zero _)
  · have q : ∀ p, p < 28 → wvX 1 wt_m0 p = wvM wt_m0 p := by decide +kernel
    by_cases e : p < 28
    · exact q p e
    · exfalso
      by_cases e2 : p < 148
      · exact absurd (hv.1 (by omega) e2) (Nat.not_lt_zero _)
      · exact absurd (hv.2 (by omega)) (Nat.not_lt_zero _)
end
section
/-! questions that both sides answer from the same vector -/
def vX (V : Nat → Int32) (σ : Mem) : Prop := wvV V ∧ (∀ p, p < 28 → wvX 1 σ p = V p) ∧ ∀ l t : Nat, (l : Int) < (V 1).toInt → t < 24 → σ (1 + 5 + l) t = wvN (V (28 + 24 * l + t))
theorem vV_c5 {V : Nat → Int32} (h : wvV V) {l t : Nat} (hl : (l : Int) < (V 1).toInt) (ht : t < 24) : (V (28 + 24 * l + t)).toInt = -9 ∨ (0 ≤ (V (28 + 24 * l + t)).toInt ∧ (V (28 + 24 * l + t)).toInt ≤ 5) := by
  have h6 := h.1.2
  rcases vV_c h hl ht with q | q
  · exact Or.inl q
  · exact Or.inr ⟨q.1, by omega⟩
theorem vX_of {lim : Nat} {σ : Mem} (hl : 148 ≤ lim) (h : rV lim σ) : vX (wvM σ) σ := by
  refine ⟨h.1, fun p hp => weq_lo h.2 (by omega) hp, fun l t hl1 ht => ?_⟩
  have h5 := h.1.2.1.2
  have n1 := ti_nat (wvM σ 1)
  have hj := wvJI_5 l (by omega) t ht
  have e := h.2 (28 + 24 * l + t) (by omega) ⟨fun _ _ => by omega, fun _ => by omega⟩
  unfold wvX at e
  rw [wvE_i (by omega), ← hj.1, ← hj.2, show 1 + (5 + l) = 1 + 5 + l by omega] at e
  rw [← e, wvN_N]
theorem vX_12 {V : Nat → Int32} {σ : Mem} (h : vX V σ) {i : Nat} (hi : i < 6) : σ (1 + 1) i = V (12 + i) := by
  have e := h.2.1 (12 + i) (by omega)
  have hj := wvJI_1 i hi
  unfold wvX at e
  rw [wvE_o (by omega), ← hj.1, ← hj.2] at e
  exact e
theorem vM_up {V : Nat → Int32} {s z : Mem} (h : vM V s) (hz : z = up2 s 101 10 0) : vM V z := ⟨h.1, fun p hp => by rw [hz, th_V hp]; exact h.2 p hp⟩
theorem eqq {lim : Nat} {σ : Mem} {o1 : Option (Int32 × Mem)} {o2 : Mem → Option (Int32 × Mem)} {A : (Nat → Int32) → Int32} (h : ∃ r1 s1 r2 s2, o1 = some (r1, s1) ∧ o2 s1 = some (r2, s2) ∧ wR lim s2) (hl : 148 ≤ lim) (hV : rV lim σ) (p0 : pc o1 (fun _ s => ∀ k, 101 ≤ k → s k = σ k)) (p1 : ∀ V, vX V σ → pc o1 (fun r _ => r = A V)) (p2 : ∀ V s, vM V s → pc (o2 s) (fun r _ => r = A V)) : ∃ r1 s1 r2 s2, o1 = some (r1, s1) ∧ o2 s1 = some (r2, s2) ∧ wR lim s2 ∧ r1 = r2 := by
  obtain ⟨r1, s1, r2, s2, e1, e2, w⟩ := h
  have a := p1 _ (vX_of hl hV) r1 s1 e1
  have hs := p0 r1 s1 e1
  have b := p2 (wvM σ) s1 ⟨hV.1, eMV hs⟩ r2 s2 e2
  exact ⟨r1, s1, r2, s2, e1, e2, w, a.trans b.symm⟩
theorem eqh {α : Type} {σ : Mem} {o1 : Option (α × Mem)} {o2 : Mem → Option (α × Mem)} {A : (Nat → Int32) → α} (h : ∃ r1 s1 r2 s2, o1 = some (r1, s1) ∧ o2 s1 = some (r2, s2) ∧ wR 188 s2) (hV : rV 188 σ) (p0 : pc o1 (fun _ s => ∀ k, 101 ≤ k → s k = σ k)) (p1 : ∀ V, vH 1 V σ → pc o1 (fun r _ => r = A V)) (p2 : ∀ V s, vM V s → pc (o2 s) (fun r _ => r = A V)) : ∃ r1 s1 r2 s2, o1 = some (r1, s1) ∧ o2 s1 = some (r2, s2) ∧ wR 188 s2 ∧ r1 = r2 := by
  obtain ⟨r1, s1, r2, s2, e1, e2, w⟩ := h
  have a := p1 _ hV r1 s1 e1
  have hs := p0 r1 s1 e1
  have b := p2 (wvM σ) s1 ⟨hV.1, eMV hs⟩ r2 s2 e2
  exact ⟨r1, s1, r2, s2, e1, e2, w, a.trans b.symm⟩
theorem cF_z {b : Int32} : cF 0 b = b := if_pos rfl
theorem cF_n {a b : Int32} (h : ¬ a = 0) : cF a b = a := if_neg h
theorem cq_end {F : Nat} {e val : Int32} {σ : Mem} {A : Option (Int32 × Mem)} (h : e = 0 → pc A (fun r _ => r = val)) : pc (if e = 0 then A else wt_bnd (f_X3_refuse F e σ) fun r s => some (r, s)) (fun r _ => r = cF e val) :=
  pc_ite (fun c => pc_mono (h c) (fun a s g => by rw [g, c, cF_z])) (fun c => pc_bnd ax_refuse (fun r s q => pc_ret (by rw [q.1, cF_n c])))
theorem mq_ref {F : Nat} {e X : Int32} {σ : Mem} (h : X = e) : pc (wt_bnd (f_X4_refuse F e σ) fun r s => some (r, s)) (fun r _ => r = X) := pc_bnd mx_refuse (fun r s q => pc_ret (q.1.trans h.symm))
/-! roster -/
def anRoster (V : Nat → Int32) (x1 x2 : Int32) : Int32 := cF (cF (cB (0 ≤ x1.toInt ∧ x1.toInt < (V 1).toInt)) (cB (0 ≤ x2.toInt ∧ x2.toInt ≤ 23))) (V (28 + 24 * x1.toNatClampNeg + x2.toNatClampNeg))
theorem qx_roster {F : Nat} {x1 x2 : Int32} {σ : Mem} {V : Nat → Int32} (h : vX V σ) : pc (f_X3_roster F x1 x2 σ) (fun r _ => r = anRoster V x1 x2) := by
  have e1 : σ 1 2 = V 1 := h.2.1 1 (by decide)
  rw [f_X3_roster_e]
  refine pc_be (ax_noLooker (by rw [e1]; exact h.1.2.1.2)) (pc_be ax_noHour (pc_be ax_firstOf ?_))
  rw [e1]
  unfold anRoster
  refine cq_end (fun e => pc_chk (fun b1 => pc_chk (fun b2 => pc_lt (fun z9 h9 => ?_))))
  obtain ⟨c1, c2⟩ := cF_0 e
  have d1 := cB_0 c1
  have d2 := cB_0 c2
  have n1 := ti_nat x1
  have n2 := ti_nat x2
  rw [h.2.2 x1.toNatClampNeg x2.toNatClampNeg (by omega) (by omega)] at h9
  have hb := vV_c5 h.1 (l := x1.toNatClampNeg) (t := x2.toNatClampNeg) (by omega) (by omega)
  generalize V (28 + 24 * x1.toNatClampNeg + x2.toNatClampNeg) = v at *
  refine pc_ite (fun c => pc_ret ?_) (fun c => pc_ret ?_)
  · have q := (wvN_9 hb).mp (h9.symm.trans c)
    rcases hb with b | b
    · exact Int32.toInt_inj.mp (by rw [b]; rfl)
    · omega
  · rw [h9] at c ⊢
    rcases hb with b | b
    · exact absurd ((wvN_9 (Or.inl b)).mpr (by omega)) c
    · exact wvN_s b
theorem qm_roster {F : Nat} {x1 x2 : Int32} {s : Mem} {V : Nat → Int32} (h : vM V s) : pc (f_X4_roster F x1 x2 s) (fun r _ => r = anRoster V x1 x2) := by
  rw [f_X4_roster_e]
  refine pc_lt (fun s3 h3 => ?_)
  have h' : vM V s3 := vM_up h h3
  clear h3
  have e1 : s3 101 3 = V 1 := h'.2 1 (by decide)
  have h5 := h.1.2.1.2
  simp only [j_X4_roster_34_e]
  refine pc_be (mx_isLooker (by rw [e1]; exact h.1.2.1.1)) ?_
  rw [e1]
  unfold anRoster
  by_cases c : 0 ≤ x1.toInt ∧ x1.toInt < (V 1).toInt
  · rw [if_pos c, if_neg (by decide), cB_t c]
    refine pc_be mx_isHour ?_
    by_cases c2 : 0 ≤ x2.toInt ∧ x2.toInt ≤ 23
    · rw [if_pos c2, if_neg (by decide), cB_t c2, cF_z, cF_z]
      have n1 := ti_nat x1
      have n2 := ti_nat x2
      refine pc_chk (fun _ => pc_ret ?_)
      rw [tn_24 (l := x1.toNatClampNeg) (k := x2.toNatClampNeg) (by omega) (by omega) (by omega) (by omega), vM_106 h' (by omega), show 28 + (24 * x1.toNatClampNeg + x2.toNatClampNeg) = 28 + 24 * x1.toNatClampNeg + x2.toNatClampNeg by omega]
    · rw [if_neg c2, if_pos rfl, cB_f c2, cF_z]
      exact mq_ref (cF_n (by decide))
  · rw [if_neg c, if_pos rfl, cB_f c]
    exact mq_ref (by rw [cF_n (a := -1) (by decide), cF_n (by decide)])
/-! paneOf -/
def anCount (V : Nat → Int32) (x : Int32) : Nat → Int32
  | 0 => 0
  | n + 1 => anCount V x n + (if V (28 + n) = x then 1 else 0)
def anPaneOf (V : Nat → Int32) (x1 x2 : Int32) : Int32 := cF (cF (cB (0 ≤ x1.toInt ∧ x1.toInt < (V 0).toInt)) (cO x2 2)) (if x2 = 0 then V (12 + x1.toNatClampNeg) else anCount V x1 (24 * (V 1).toNatClampNeg))
theorem anCount_s {V : Nat → Int32} {x : Int32} {l t : Nat} : anCount V x (24 * l + (t + 1)) = anCount V x (24 * l + t) + (if V (28 + 24 * l + t) = x then 1 else 0) := by
  rw [show 28 + 24 * l + t = 28 + (24 * l + t) by omega]; rfl
theorem qx_hoursAt_15 {F : Nat} {x1 x3 : Int32} {σ : Mem} {V : Nat → Int32} (h : vX V σ) (hx : 0 ≤ x1.toInt ∧ x1.toInt ≤ 5) {k4 : Int32 → Int32 → Mem → Option (Int32 × Mem)} {Q : Int32 → Mem → Prop} {l : Nat} (hl : x3.toInt = (l : Int)) (hl5 : (l : Int) < (V 1).toInt) (hk : ∀ x2, x2 = anCount V x1 (24 * (l + 1)) → pc (k4 x2 (x3 + 1) σ) Q) : ∀ (N t : Nat) (x2 x4 : Int32), x4.toInt = (t : Int) → t ≤ 24 → x2 = anCount V x1 (24 * l + t) → pc (lp_X0_hoursAt_15 F k4 1 x1 x3 N x2 x4 σ) Q := by
  intro N
  induction N with
  | zero => intro t x2 x4 h1 h2 h3; exact pc_none rfl
  | succ N ih =>
    intro t x2 x4 h1 h2 h3
    rw [lp_X0_hoursAt_15_s]
    simp only [j_X0_hoursAt_38_e]
    refine pc_ite (fun c => ?_) (fun c => pc_chk (fun _ => pc_chk (fun _ => ?_)))
    · have d := ti_le c
      rw [tz_24] at d
      exact hk _ (by rw [h3, show 24 * l + t = 24 * (l + 1) by omega])
    have d := ti_nle c
    rw [tz_24] at d
    rw [tn_int hl, tn_int h1, h.2.2 l t hl5 (by omega)]
    refine pc_ite (fun c9 => ih (t + 1) _ _ (ti_nx h1 (by omega)) (by omega) ?_) (fun c9 => ih (t + 1) _ _ (ti_nx h1 (by omega)) (by omega) ?_)
    · rw [anCount_s, if_pos ((wvN_x hx).mp c9), h3]
    · rw [anCount_s, if_neg (fun q => c9 ((wvN_x hx).mpr q)), h3, Int32.add_zero]
theorem qx_hoursAt {F : Nat} {x1 : Int32} {σ : Mem} {V : Nat → Int32} (h : vX V σ) (hx : 0 ≤ x1.toInt ∧ x1.toInt ≤ 5) : pc (f_X0_hoursAt F 1 x1 σ) (fun r s => r = anCount V x1 (24 * (V 1).toNatClampNeg) ∧ s = σ) := by
  have e1 : σ 1 2 = V 1 := h.2.1 1 (by decide)
  have n1 := ti_nat (V 1)
  have h5 := h.1.2.1.2
  have key : ∀ (N l : Nat) (x2 x3 : Int32), x3.toInt = (l : Int) → (l : Int) ≤ (V 1).toInt → x2 = anCount V x1 (24 * l) → pc (lp_X0_hoursAt_4 F 1 x1 N x2 x3 σ) (fun r s => r = anCount V x1 (24 * (V 1).toNatClampNeg) ∧ s = σ) := by
    intro N
    induction N with
    | zero => intro l x2 x3 h1 h2 h3; exact pc_none rfl
    | succ N ih =>
      intro l x2 x3 h1 h2 h3
      rw [lp_X0_hoursAt_4_s, e1]
      refine pc_ite (fun c => ?_) (fun c => ?_)
      · have d := ti_le c
        exact pc_ret ⟨by rw [h3, show l = (V 1).toNatClampNeg by omega], rfl⟩
      · have d := ti_nle c
        exact qx_hoursAt_15 h hx h1 (by omega) (fun y hy => ih (l + 1) y (x3 + 1) (ti_nx h1 (by omega)) (by omega) hy) F 0 x2 0 rfl (by omega) h3
  rw [f_X0_hoursAt_e]
  exact key F 0 0 0 rfl h.1.2.1.1 rfl
theorem qx_paneOf {F : Nat} {x1 x2 : Int32} {σ : Mem} {V : Nat → Int32} (h : vX V σ) : pc (f_X3_paneOf F x1 x2 σ) (fun r _ => r = anPaneOf V x1 x2) := by
  have e0 : σ 1 0 = V 0 := h.2.1 0 (by decide)
  rw [f_X3_paneOf_e]
  refine pc_be (ax_noPane (by rw [e0]; exact h.1.1.2)) (pc_be ax_notBelow (pc_be ax_firstOf ?_))
  rw [e0]
  unfold anPaneOf
  refine cq_end (fun e => ?_)
  obtain ⟨c1, c2⟩ := cF_0 e
  have d1 := cB_0 c1
  have h6 := h.1.1.2
  refine pc_ite (fun c => pc_chk (fun b => pc_ret ?_)) (fun c => pc_bnd (qx_hoursAt h ⟨d1.1, by omega⟩) (fun r s q => pc_ret ?_))
  · rw [if_pos c]; exact vX_12 h b.2.2
  · rw [if_neg c]; exact q.1
theorem ti_24 {x : Int32} (h : 0 ≤ x.toInt ∧ x.toInt ≤ 5) : ((24 : Int32) * x).toInt = 24 * x.toInt := by rw [ti_mul (by rw [tz_24]; omega) (by rw [tz_24]; omega), tz_24]
theorem qm_paneOf_47 {F : Nat} {x1 x2 : Int32} {s : Mem} {V : Nat → Int32} (h : vM V s) : ∀ (N i : Nat) (x3 x4 : Int32), x4.toInt = (i : Int) → (i : Int) ≤ 24 * (V 1).toInt → x3 = anCount V x1 i → pc (lp_X4_paneOf_47 F x1 x2 N x3 x4 s) (fun r _ => r = if x2 = 0 then V (12 + x1.toNatClampNeg) else anCount V x1 (24 * (V 1).toNatClampNeg)) := by
  have e1 : s 101 3 = V 1 := h.2 1 (by decide)
  have n1 := ti_nat (V 1)
  have h5 := h.1.2.1
  have t24 := ti_24 h5
  intro N
  induction N with
  | zero => intro i x3 x4 h1 h2 h3; exact pc_none rfl
  | succ N ih =>
    intro i x3 x4 h1 h2 h3
    rw [lp_X4_paneOf_47_s, e1]
    simp only [j_X4_paneOf_76_e]
    refine pc_ite (fun c => ?_) (fun c => pc_chk (fun _ => ?_))
    · have d := ti_le c
      rw [t24] at d
      refine pc_ite (fun c0 => pc_chk (fun b => pc_ret ?_)) (fun c0 => pc_ret ?_)
      · rw [if_pos c0]; exact vM_103 h b.2.2
      · rw [if_neg c0, h3, show i = 24 * (V 1).toNatClampNeg by omega]
    have d := ti_nle c
    rw [t24] at d
    rw [tn_int h1, vM_106 h (by omega)]
    refine pc_ite (fun c9 => ih (i + 1) _ _ (ti_nx h1 (by omega)) (by omega) ?_) (fun c9 => ih (i + 1) _ _ (ti_nx h1 (by omega)) (by omega) ?_)
    · show x3 + 1 = anCount V x1 i + _
      rw [if_pos c9, h3]
    · show x3 + 0 = anCount V x1 i + _
      rw [if_neg c9, h3]
theorem qm_paneOf {F : Nat} {x1 x2 : Int32} {s : Mem} {V : Nat → Int32} (h : vM V s) : pc (f_X4_paneOf F x1 x2 s) (fun r _ => r = anPaneOf V x1 x2) := by
  rw [f_X4_paneOf_e]
  refine pc_lt (fun s7 h7 => ?_)
  have h' : vM V s7 := vM_up h h7
  clear h7
  have e0 : s7 101 1 = V 0 := h'.2 0 (by decide)
  have hP : f_X4_isPane F x1 s7 = some (if 0 ≤ x1.toInt ∧ x1.toInt < (V 0).toInt then 1 else 0, s7) := by
    rw [mx_isPane (by rw [e0]; exact h.1.1.1), e0]
  simp only [j_X4_paneOf_23_e, j_X4_paneOf_38_e]
  refine pc_be hP ?_
  unfold anPaneOf
  by_cases c : 0 ≤ x1.toInt ∧ x1.toInt < (V 0).toInt
  · rw [if_pos c, if_neg (by decide), cB_t c, cF_z]
    refine pc_be (mx_in32 (lo := 0) (hi := 1) rfl rfl) ?_
    by_cases c2 : 0 ≤ x2.toInt ∧ x2.toInt ≤ 1
    · have hO : cO x2 2 = 0 := if_pos ⟨c2.1, by rw [tz_2]; omega⟩
      rw [if_pos c2, if_neg (by decide), hO, cF_z]
      exact qm_paneOf_47 h' F 0 0 0 rfl (by have := h.1.2.1.1; omega) rfl
    · have hO : cO x2 2 = -2 := if_neg (fun q => c2 ⟨q.1, by have := q.2; rw [tz_2] at this; omega⟩)
      rw [if_neg c2, if_pos rfl, hO]
      refine pc_be hP ?_
      rw [if_pos c, if_neg (by decide)]
      exact mq_ref (cF_n (by decide))
  · rw [if_neg c, if_pos rfl, cB_f c]
    refine pc_be hP ?_
    rw [if_neg c, if_pos rfl]
    exact mq_ref (by rw [cF_n (a := -1) (by decide), cF_n (by decide)])
/-! shown -/
def anBit (w v : Int32) : Int32 := (w >>> (v &&& 31)) &&& 1
def anShown1 (V : Nat → Int32) (v : Int32) : Nat → Int32
  | 0 => 0
  | n + 1 => anShown1 V v n + anBit (V (12 + n)) v
def anShown (V : Nat → Int32) (x1 : Int32) : Int32 := cF (cB (0 ≤ x1.toInt ∧ x1.toInt ≤ 7)) (anShown1 V x1 (V 0).toNatClampNeg)
theorem qx_timesShown {F : Nat} {x1 : Int32} {σ : Mem} {V : Nat → Int32} (h : vX V σ) (hx : 0 ≤ x1.toInt ∧ x1.toInt ≤ 7) : pc (f_X0_timesShown F 1 x1 σ) (fun r s => r = anShown1 V x1 (V 0).toNatClampNeg ∧ s = σ) := by
  have e0 : σ 1 0 = V 0 := h.2.1 0 (by decide)
  have n0 := ti_nat (V 0)
  have h6 := h.1.1.2
  have key : ∀ (N i : Nat) (x2 x3 : Int32), x3.toInt = (i : Int) → (i : Int) ≤ (V 0).toInt → x2 = anShown1 V x1 i → pc (lp_X0_timesShown_4 F 1 x1 N x2 x3 σ) (fun r s => r = anShown1 V x1 (V 0).toNatClampNeg ∧ s = σ) := by
    intro N
    induction N with
    | zero => intro i x2 x3 h1 h2 h3; exact pc_none rfl
    | succ N ih =>
      intro i x2 x3 h1 h2 h3
      rw [lp_X0_timesShown_4_s, e0]
      simp only [j_X0_timesShown_24_e]
      refine pc_ite (fun c => ?_) (fun c => ?_)
      · have d := ti_le c
        exact pc_ret ⟨by rw [h3, show i = (V 0).toNatClampNeg by omega], rfl⟩
      · have d := ti_nle c
        refine pc_bnd (ax_shows (by rw [e0]; exact h6) ⟨by omega, by rw [e0]; omega⟩ hx) (fun r s q => ?_)
        obtain ⟨q1, q2⟩ := q
        rw [q1]
        rw [tn_int h1, vX_12 h (by omega)] at q2
        have hs : anShown1 V x1 (i + 1) = x2 + r := by rw [q2, h3]; rfl
        refine pc_ite (fun c9 => ih (i + 1) _ _ (ti_nx h1 (by omega)) (by omega) ?_) (fun c9 => ih (i + 1) _ _ (ti_nx h1 (by omega)) (by omega) ?_)
        · rw [hs, c9, Int32.add_zero]
        · have hr : r = 1 := by
            rcases ax_and1 ((V (12 + i)) >>> (x1 &&& 31)) with e | e
            · exact absurd (q2.trans e) c9
            · exact q2.trans e
          rw [hs, hr]
  rw [f_X0_timesShown_e]
  exact key F 0 0 0 rfl h.1.1.1 rfl
theorem qx_shown {F : Nat} {x1 : Int32} {σ : Mem} {V : Nat → Int32} (h : vX V σ) : pc (f_X3_shown F x1 σ) (fun r _ => r = anShown V x1) := by
  rw [f_X3_shown_e]
  refine pc_be ax_isView ?_
  unfold anShown
  by_cases c : 0 ≤ x1.toInt ∧ x1.toInt ≤ 7
  · rw [if_pos c, if_neg (by decide), cB_t c, cF_z]
    exact pc_bnd (qx_timesShown h c) (fun r s q => pc_ret q.1)
  · rw [if_neg c, if_pos rfl, cB_f c]
    exact pc_bnd ax_refuse (fun r s q => pc_ret (by rw [q.1, cF_n (by decide)]))
theorem qm_shown_22 {F : Nat} {x1 : Int32} {s : Mem} {V : Nat → Int32} (h : vM V s) : ∀ (N i : Nat) (x2 x3 : Int32), x3.toInt = (i : Int) → (i : Int) ≤ (V 0).toInt → x2 = anShown1 V x1 i → pc (lp_X4_shown_22 F x1 N x2 x3 s) (fun r _ => r = anShown1 V x1 (V 0).toNatClampNeg) := by
  have e0 : s 101 1 = V 0 := h.2 0 (by decide)
  have n0 := ti_nat (V 0)
  have h6 := h.1.1.2
  intro N
  induction N with
  | zero => intro i x2 x3 h1 h2 h3; exact pc_none rfl
  | succ N ih =>
    intro i x2 x3 h1 h2 h3
    rw [lp_X4_shown_22_s, e0]
    simp only [j_X4_shown_49_e]
    refine pc_ite (fun c => ?_) (fun c => pc_chk (fun _ => ?_))
    · have d := ti_le c
      exact pc_ret (by rw [h3, show i = (V 0).toNatClampNeg by omega])
    · have d := ti_nle c
      rw [tn_int h1, vM_103 h (by omega), f_X4_hasBit_e]
      have hs : anShown1 V x1 (i + 1) = x2 + anBit (V (12 + i)) x1 := by rw [h3]; rfl
      have hb : anBit (V (12 + i)) x1 = 0 ∨ anBit (V (12 + i)) x1 = 1 := ax_and1 ((V (12 + i)) >>> (x1 &&& 31))
      by_cases c9 : ((V (12 + i)) >>> (x1 &&& 31)) &&& (1 : Int32) = 1
      · rw [if_pos c9]
        refine pc_be rfl ?_
        rw [if_neg (by decide)]
        refine ih (i + 1) _ _ (ti_nx h1 (by omega)) (by omega) ?_
        rw [hs, show anBit (V (12 + i)) x1 = 1 from c9]
      · rw [if_neg c9]
        refine pc_be rfl ?_
        rw [if_pos rfl]
        refine ih (i + 1) _ _ (ti_nx h1 (by omega)) (by omega) ?_
        rw [hs, hb.resolve_right c9]
theorem qm_shown {F : Nat} {x1 : Int32} {s : Mem} {V : Nat → Int32} (h : vM V s) : pc (f_X4_shown F x1 s) (fun r _ => r = anShown V x1) := by
  rw [f_X4_shown_e]
  refine pc_lt (fun s4 h4 => ?_)
  have h' : vM V s4 := vM_up h h4
  clear h4
  refine pc_be mx_isView ?_
  unfold anShown
  by_cases c : 0 ≤ x1.toInt ∧ x1.toInt ≤ 7
  · rw [if_pos c, if_neg (by decide), cB_t c, cF_z]
    exact qm_shown_22 h' F 0 0 0 rfl h.1.1.1 rfl
  · rw [if_neg c, if_pos rfl, cB_f c]
    exact mq_ref (cF_n (by decide))
/-! busy -/
def anStd1 (V : Nat → Int32) (t : Nat) : Nat → Int32
  | 0 => 0
  | l + 1 => anStd1 V t l + (if (V (28 + 24 * l + t)).toInt < 0 then 0 else 1)
def anStd (V : Nat → Int32) (t : Nat) : Int32 := anStd1 V t (V 1).toNatClampNeg
def anBest (V : Nat → Int32) : Nat → Nat
  | 0 => 0
  | n + 1 => if anStd V (n + 1) ≤ anStd V (anBest V n) then anBest V n else n + 1
theorem anBest_le {V : Nat → Int32} : ∀ n, anBest V n ≤ n := fun n => by
  induction n with
  | zero => exact Nat.le_refl _
  | succ n ih =>
    show (if anStd V (n + 1) ≤ anStd V (anBest V n) then anBest V n else n + 1) ≤ n + 1
    by_cases c : anStd V (n + 1) ≤ anStd V (anBest V n)
    · rw [if_pos c]; omega
    · rw [if_neg c]; omega
def anBusy (V : Nat → Int32) (x1 : Int32) : Int32 := cF (cO x1 2) (if x1 = 0 then Int32.ofNat (anBest V 23) else anStd V (anBest V 23))
theorem qx_standingIn {F : Nat} {x1 : Int32} {t : Nat} {σ : Mem} {V : Nat → Int32} (h : vX V σ) (ht : x1.toInt = (t : Int)) (h24 : t < 24) : pc (f_X0_standingIn F 1 x1 σ) (fun r s => r = anStd V t ∧ s = σ) := by
  have e1 : σ 1 2 = V 1 := h.2.1 1 (by decide)
  have n1 := ti_nat (V 1)
  have h5 := h.1.2.1.2
  have key : ∀ (N l : Nat) (x2 x3 : Int32), x3.toInt = (l : Int) → (l : Int) ≤ (V 1).toInt → x2 = anStd1 V t l → pc (lp_X0_standingIn_4 F 1 x1 N x2 x3 σ) (fun r s => r = anStd V t ∧ s = σ) := by
    intro N
    induction N with
    | zero => intro l x2 x3 h1 h2 h3; exact pc_none rfl
    | succ N ih =>
      intro l x2 x3 h1 h2 h3
      rw [lp_X0_standingIn_4_s, e1]
      simp only [j_X0_standingIn_28_e]
      refine pc_ite (fun c => ?_) (fun c => pc_chk (fun _ => pc_chk (fun _ => ?_)))
      · have d := ti_le c
        exact pc_ret ⟨by rw [h3, show l = (V 1).toNatClampNeg by omega]; rfl, rfl⟩
      · have d := ti_nle c
        rw [tn_int h1, tn_int ht, h.2.2 l t (by omega) h24]
        have hb := wvN_9 (vV_c5 h.1 (l := l) (t := t) (by omega) h24)
        refine pc_ite (fun c9 => ih (l + 1) _ _ (ti_nx h1 (by omega)) (by omega) ?_) (fun c9 => ih (l + 1) _ _ (ti_nx h1 (by omega)) (by omega) ?_)
        · show x2 = anStd1 V t l + _
          rw [if_pos (hb.mp c9), h3, Int32.add_zero]
        · show x2 + 1 = anStd1 V t l + _
          rw [if_neg (fun q => c9 (hb.mpr q)), h3]
  rw [f_X0_standingIn_e]
  exact key F 0 0 0 rfl h.1.2.1.1 rfl
theorem qx_busy_24 {F : Nat} {x1 : Int32} {σ : Mem} {V : Nat → Int32} (h : vX V σ) : ∀ (N t : Nat) (x3 x4 x5 : Int32), x5.toInt = (t : Int) → t ≤ 24 → ((t = 0 ∧ x3 = 0 ∧ x4 = 0) ∨ (1 ≤ t ∧ x3 = Int32.ofNat (anBest V (t - 1)) ∧ x4 = anStd V (anBest V (t - 1)))) → pc (lp_X3_busy_24 F x1 N x3 x4 x5 σ) (fun r _ => r = if x1 = 0 then Int32.ofNat (anBest V 23) else anStd V (anBest V 23)) := by
  intro N
  induction N with
  | zero => intro t x3 x4 x5 h1 h2 h3; exact pc_none rfl
  | succ N ih =>
    intro t x3 x4 x5 h1 h2 h3
    rw [lp_X3_busy_24_s]
    simp only [j_X3_busy_56_e]
    refine pc_ite (fun c => ?_) (fun c => ?_)
    · have d := ti_le c
      rw [tz_24] at d
      have t24 : t = 24 := by omega
      subst t24
      rcases h3 with h3 | ⟨-, g3, g4⟩
      · exact absurd h3.1 (by decide)
      · exact pc_ite (fun c0 => pc_ret (by rw [if_pos c0]; exact g3)) (fun c0 => pc_ret (by rw [if_neg c0]; exact g4))
    · have d := ti_nle c
      rw [tz_24] at d
      refine pc_bnd (qx_standingIn h h1 (by omega)) (fun r s q => ?_)
      obtain ⟨q1, q2⟩ := q
      rw [q2]
      rcases h3 with ⟨g0, g3, g4⟩ | ⟨g0, g3, g4⟩
      · subst g0
        have hn : 0 ≤ (anStd V 0).toInt := by
          have : ∀ l, l ≤ 5 → 0 ≤ (anStd1 V 0 l).toInt ∧ (anStd1 V 0 l).toInt ≤ l := fun l => by
            induction l with
            | zero => intro _; exact ⟨Int.le_refl 0, Int.le_refl 0⟩
            | succ l ihl =>
              intro hl
              have b := ihl (by omega)
              show 0 ≤ (anStd1 V 0 l + (if (V (28 + 24 * l + 0)).toInt < 0 then (0 : Int32) else 1)).toInt ∧ (anStd1 V 0 l + (if (V (28 + 24 * l + 0)).toInt < 0 then (0 : Int32) else 1)).toInt ≤ ((l + 1 : Nat) : Int)
              by_cases cv : (V (28 + 24 * l + 0)).toInt < 0
              · rw [if_pos cv, Int32.add_zero]; omega
              · rw [if_neg cv, ti_add (by rw [tz_1]; omega) (by rw [tz_1]; omega), tz_1]; omega
          have n1 := ti_nat (V 1)
          have h5 := h.1.2.1.2
          exact (this (V 1).toNatClampNeg (by omega)).1
        refine pc_ite (fun c9 => ih 1 _ _ _ (ti_nx h1 (by omega)) (by omega) (Or.inr ⟨by omega, g3, ?_⟩)) (fun c9 => ih 1 _ _ _ (ti_nx h1 (by omega)) (by omega) (Or.inr ⟨by omega, ?_, q1⟩))
        · have e := ti_le c9
          rw [g4, tz_0, q1] at e
          rw [g4]
          exact Int32.toInt_inj.mp (by rw [tz_0]; show 0 = (anStd V 0).toInt; omega)
        · exact Int32.toInt_inj.mp (by rw [h1]; rfl)
      · have hb : anBest V (t + 1 - 1) = if anStd V t ≤ anStd V (anBest V (t - 1)) then anBest V (t - 1) else t := by
          obtain ⟨u, rfl⟩ : ∃ u, t = u + 1 := ⟨t - 1, by omega⟩
          rfl
        rw [q1, g4]
        refine pc_ite (fun c9 => ih (t + 1) _ _ _ (ti_nx h1 (by omega)) (by omega) (Or.inr ⟨by omega, ?_, ?_⟩)) (fun c9 => ih (t + 1) _ _ _ (ti_nx h1 (by omega)) (by omega) (Or.inr ⟨by omega, ?_, ?_⟩))
        · rw [hb, if_pos c9]; exact g3
        · rw [hb, if_pos c9]
        · rw [hb, if_neg c9]; exact io_eq h1 (by omega)
        · rw [hb, if_neg c9]
theorem qx_busy {F : Nat} {x1 : Int32} {σ : Mem} {V : Nat → Int32} (h : vX V σ) : pc (f_X3_busy F x1 σ) (fun r _ => r = anBusy V x1) := by
  rw [f_X3_busy_e]
  refine pc_be ax_notBelow ?_
  unfold anBusy
  exact cq_end (fun _ => qx_busy_24 h F 0 0 0 0 rfl (by omega) (Or.inl ⟨rfl, rfl, rfl⟩))
theorem qm_standing {F : Nat} {x1 : Int32} {t : Nat} {s : Mem} {V : Nat → Int32} (h : vM V s) (ht : x1.toInt = (t : Int)) (h24 : t < 24) : pc (f_X4_standing F x1 s) (fun r z => r = anStd V t ∧ z = s) := by
  have e1 : s 101 3 = V 1 := h.2 1 (by decide)
  have n1 := ti_nat (V 1)
  have h5 := h.1.2.1.2
  have key : ∀ (N l : Nat) (x2 x3 : Int32), x3.toInt = (l : Int) → (l : Int) ≤ (V 1).toInt → x2 = anStd1 V t l → pc (lp_X4_standing_4 F x1 N x2 x3 s) (fun r z => r = anStd V t ∧ z = s) := by
    intro N
    induction N with
    | zero => intro l x2 x3 h1 h2 h3; exact pc_none rfl
    | succ N ih =>
      intro l x2 x3 h1 h2 h3
      rw [lp_X4_standing_4_s, e1]
      simp only [j_X4_standing_32_e]
      refine pc_ite (fun c => ?_) (fun c => pc_chk (fun _ => ?_))
      · have d := ti_le c
        exact pc_ret ⟨by rw [h3, show l = (V 1).toNatClampNeg by omega]; rfl, rfl⟩
      · have d := ti_nle c
        rw [tn_24 h1 ht (by omega) h24, vM_106 h (by omega), show 28 + (24 * l + t) = 28 + 24 * l + t by omega]
        refine pc_ite (fun c9 => ih (l + 1) _ _ (ti_nx h1 (by omega)) (by omega) ?_) (fun c9 => ih (l + 1) _ _ (ti_nx h1 (by omega)) (by omega) ?_)
        · show x2 + 0 = anStd1 V t l + _
          have := ti_lt c9
          rw [tz_0] at this
          rw [if_pos this, h3]
        · show x2 + 1 = anStd1 V t l + _
          have := ti_nlt c9
          rw [tz_0] at this
          rw [if_neg (by omega), h3]
  rw [f_X4_standing_e]
  exact key F 0 0 0 rfl h.1.2.1.1 rfl
theorem qm_busy_26 {F : Nat} {x1 : Int32} {s : Mem} {V : Nat → Int32} (h : vM V s) : ∀ (N t : Nat) (x2 x3 : Int32), x3.toInt = ((t + 1 : Nat) : Int) → t + 1 ≤ 24 → x2 = Int32.ofNat (anBest V t) → pc (lp_X4_busy_26 F x1 N x2 x3 s) (fun r _ => r = if x1 = 0 then Int32.ofNat (anBest V 23) else anStd V (anBest V 23)) := by
  intro N
  induction N with
  | zero => intro t x2 x3 h1 h2 h3; exact pc_none rfl
  | succ N ih =>
    intro t x2 x3 h1 h2 h3
    have hle := anBest_le (V := V) t
    have hx2 : x2.toInt = (anBest V t : Int) := by rw [h3]; exact io_nat _ (by omega)
    rw [lp_X4_busy_26_s]
    simp only [j_X4_busy_50_e]
    refine pc_ite (fun c => ?_) (fun c => ?_)
    · have d := ti_le c
      rw [tz_24] at d
      have t24 : t = 23 := by omega
      subst t24
      refine pc_ite (fun c0 => pc_ret (by rw [if_pos c0]; exact h3)) (fun c0 => pc_bnd (qm_standing h hx2 (by omega)) (fun r z q => pc_ret ?_))
      rw [if_neg c0]
      exact q.1
    · have d := ti_nle c
      rw [tz_24] at d
      refine pc_bnd (qm_standing h h1 (by omega)) (fun r z q => ?_)
      obtain ⟨q1, q2⟩ := q
      rw [q2]
      refine pc_bnd (qm_standing h hx2 (by omega)) (fun r' z' q' => ?_)
      obtain ⟨q3, q4⟩ := q'
      rw [q4, q1, q3]
      have hb : anBest V (t + 1) = if anStd V (t + 1) ≤ anStd V (anBest V t) then anBest V t else t + 1 := rfl
      refine pc_ite (fun c9 => ih (t + 1) _ _ (ti_nx h1 (by omega)) (by omega) ?_) (fun c9 => ih (t + 1) _ _ (ti_nx h1 (by omega)) (by omega) ?_)
      · rw [hb, if_pos c9]; exact h3
      · rw [hb, if_neg c9]; exact io_eq h1 (by omega)
theorem qm_busy {F : Nat} {x1 : Int32} {s : Mem} {V : Nat → Int32} (h : vM V s) : pc (f_X4_busy F x1 s) (fun r _ => r = anBusy V x1) := by
  rw [f_X4_busy_e]
  refine pc_lt (fun s7 h7 => ?_)
  have h' : vM V s7 := vM_up h h7
  clear h7
  refine pc_be (mx_in32 (lo := 0) (hi := 1) rfl rfl) ?_
  unfold anBusy
  by_cases c2 : 0 ≤ x1.toInt ∧ x1.toInt ≤ 1
  · have hO : cO x1 2 = 0 := if_pos ⟨c2.1, by rw [tz_2]; omega⟩
    rw [if_pos c2, if_neg (by decide), hO, cF_z]
    exact qm_busy_26 h' F 0 0 1 rfl (by omega) rfl
  · have hO : cO x1 2 = -2 := if_neg (fun q => c2 ⟨q.1, by have := q.2; rw [tz_2] at this; omega⟩)
    rw [if_neg c2, if_pos rfl, hO]
    exact mq_ref (cF_n (by decide))
/-! together -/
def anTog1 (V : Nat → Int32) (a b : Nat) : Nat → Int32
  | 0 => 0
  | t + 1 => anTog1 V a b t ||| (if (V (28 + 24 * a + t)).toInt < 0 then 0 else if V (28 + 24 * a + t) = V (28 + 24 * b + t) then (1 : Int32) <<< (Int32.ofNat t &&& 31) else 0)
def anTogether (V : Nat → Int32) (x1 x2 : Int32) : Int32 := cF (cB ((0 ≤ x1.toInt ∧ x1.toInt < (V 1).toInt) ∧ (0 ≤ x2.toInt ∧ x2.toInt < (V 1).toInt) ∧ ¬ x1 = x2)) (anTog1 V x1.toNatClampNeg x2.toNatClampNeg 24)
theorem qx_noPair {F : Nat} {x1 x2 : Int32} {σ : Mem} {V : Nat → Int32} (h : vX V σ) : f_X3_noPair F x1 x2 σ = some (cB ((0 ≤ x1.toInt ∧ x1.toInt < (V 1).toInt) ∧ (0 ≤ x2.toInt ∧ x2.toInt < (V 1).toInt) ∧ ¬ x1 = x2), σ) := by
  have e1 : σ 1 2 = V 1 := h.2.1 1 (by decide)
  have h5 := h.1.2.1.2
  rw [f_X3_noPair_e]
  simp only [j_X3_noPair_31_e]
  rw [wt_bnd_eq (ax_isLooker (by rw [e1]; exact h5)), e1]
  by_cases c1 : 0 ≤ x1.toInt ∧ x1.toInt < (V 1).toInt
  · rw [if_pos c1, if_neg (by decide), wt_bnd_eq (ax_isLooker (by rw [e1]; exact h5)), e1]
    by_cases c2 : 0 ≤ x2.toInt ∧ x2.toInt < (V 1).toInt
    · rw [if_pos c2, if_neg (by decide)]
      by_cases c3 : x1 = x2
      · rw [if_pos c3, cB_f (fun q => q.2.2 c3)]
      · rw [if_neg c3, cB_t ⟨c1, c2, c3⟩]
    · rw [if_neg c2, if_pos rfl, cB_f (fun q => c2 q.2.1)]
  · rw [if_neg c1, if_pos rfl, cB_f (fun q => c1 q.1)]
theorem qm_areTwo {F : Nat} {x1 x2 : Int32} {s : Mem} {V : Nat → Int32} (h : vM V s) : f_X4_areTwo F x1 x2 s = some (if ((0 ≤ x1.toInt ∧ x1.toInt < (V 1).toInt) ∧ (0 ≤ x2.toInt ∧ x2.toInt < (V 1).toInt) ∧ ¬ x1 = x2) then 1 else 0, s) := by
  have e1 : s 101 3 = V 1 := h.2 1 (by decide)
  have h5 := h.1.2.1.1
  rw [f_X4_areTwo_e]
  simp only [j_X4_areTwo_25_e]
  rw [wt_bnd_eq (mx_isLooker (by rw [e1]; exact h5)), e1]
  by_cases c1 : 0 ≤ x1.toInt ∧ x1.toInt < (V 1).toInt
  · rw [if_pos c1, if_neg (by decide), wt_bnd_eq (mx_isLooker (by rw [e1]; exact h5)), e1]
    by_cases c2 : 0 ≤ x2.toInt ∧ x2.toInt < (V 1).toInt
    · rw [if_pos c2, if_neg (by decide)]
      by_cases c3 : x1 = x2
      · rw [if_pos c3, if_neg (fun q : ((0 ≤ x1.toInt ∧ x1.toInt < (V 1).toInt) ∧ (0 ≤ x2.toInt ∧ x2.toInt < (V 1).toInt) ∧ ¬ x1 = x2) => q.2.2 c3)]
      · rw [if_neg c3, if_pos (show ((0 ≤ x1.toInt ∧ x1.toInt < (V 1).toInt) ∧ (0 ≤ x2.toInt ∧ x2.toInt < (V 1).toInt) ∧ ¬ x1 = x2) from ⟨c1, c2, c3⟩)]
    · rw [if_neg c2, if_pos rfl, if_neg (fun q : ((0 ≤ x1.toInt ∧ x1.toInt < (V 1).toInt) ∧ (0 ≤ x2.toInt ∧ x2.toInt < (V 1).toInt) ∧ ¬ x1 = x2) => c2 q.2.1)]
  · rw [if_neg c1, if_pos rfl, if_neg (fun q : ((0 ≤ x1.toInt ∧ x1.toInt < (V 1).toInt) ∧ (0 ≤ x2.toInt ∧ x2.toInt < (V 1).toInt) ∧ ¬ x1 = x2) => c1 q.1)]
theorem wvN_inj {a b : Int32} : wvN a = wvN b ↔ a = b := ⟨fun q => by rw [← wvN_N a, q, wvN_N], fun q => by rw [q]⟩
theorem qx_together_23 {F : Nat} {x1 x2 : Int32} {a b : Nat} {σ : Mem} {V : Nat → Int32} (h : vX V σ) (ha : x1.toInt = (a : Int)) (hb : x2.toInt = (b : Int)) (ha5 : (a : Int) < (V 1).toInt) (hb5 : (b : Int) < (V 1).toInt) : ∀ (N t : Nat) (x4 x5 : Int32), x5.toInt = (t : Int) → t ≤ 24 → x4 = anTog1 V a b t → pc (lp_X3_together_23 F x1 x2 N x4 x5 σ) (fun r _ => r = anTog1 V a b 24) := by
  intro N
  induction N with
  | zero => intro t x4 x5 h1 h2 h3; exact pc_none rfl
  | succ N ih =>
    intro t x4 x5 h1 h2 h3
    rw [lp_X3_together_23_s]
    simp only [j_X3_together_77_e]
    refine pc_ite (fun c => ?_) (fun c => pc_chk (fun _ => pc_chk (fun _ => pc_lt (fun z3 hz => ?_))))
    · have d := ti_le c
      rw [tz_24] at d
      exact pc_ret (by rw [h3, show t = 24 by omega])
    · have d := ti_nle c
      rw [tz_24] at d
      rw [tn_int ha, tn_int h1, h.2.2 a t ha5 (by omega)] at hz
      have hv := wvN_9 (vV_c5 h.1 (l := a) (t := t) ha5 (by omega))
      rw [← hz] at hv
      have hs : anTog1 V a b (t + 1) = anTog1 V a b t ||| (if (V (28 + 24 * a + t)).toInt < 0 then 0 else if V (28 + 24 * a + t) = V (28 + 24 * b + t) then (1 : Int32) <<< (Int32.ofNat t &&& 31) else 0) := rfl
      refine pc_ite (fun c9 => ih (t + 1) _ _ (ti_nx h1 (by omega)) (by omega) ?_) (fun c9 => pc_chk (fun _ => ?_))
      · rw [hs, if_pos (hv.mp c9), Int32.or_zero, h3]
      · rw [tn_int hb, tn_int h1, h.2.2 b t hb5 (by omega), hz]
        rw [if_neg (fun q => c9 (hv.mpr q))] at hs
        refine pc_ite (fun c8 => pc_lt (fun z5 hz5 => ih (t + 1) _ _ (ti_nx h1 (by omega)) (by omega) ?_)) (fun c8 => ih (t + 1) _ _ (ti_nx h1 (by omega)) (by omega) ?_)
        · rw [hz5, hs, if_pos (wvN_inj.mp c8).symm, h3, io_eq h1 (by omega)]
        · rw [hs, if_neg (fun q => c8 (wvN_inj.mpr q.symm)), Int32.or_zero, h3]
theorem qx_together {F : Nat} {x1 x2 : Int32} {σ : Mem} {V : Nat → Int32} (h : vX V σ) : pc (f_X3_together F x1 x2 σ) (fun r _ => r = anTogether V x1 x2) := by
  rw [f_X3_together_e]
  refine pc_be (qx_noPair h) ?_
  unfold anTogether
  refine cq_end (fun e => ?_)
  obtain ⟨c1, c2, c3⟩ := cB_0 e
  have n1 := ti_nat x1
  have n2 := ti_nat x2
  exact qx_together_23 h (by omega) (by omega) (by omega) (by omega) F 0 0 0 rfl (by omega) rfl
theorem qm_together_25 {F : Nat} {x1 x2 : Int32} {a b : Nat} {s : Mem} {V : Nat → Int32} (h : vM V s) (ha : x1.toInt = (a : Int)) (hb : x2.toInt = (b : Int)) (ha5 : a < 5) (hb5 : b < 5) : ∀ (N t : Nat) (x3 x4 : Int32), x4.toInt = (t : Int) → t ≤ 24 → x3 = anTog1 V a b t → pc (lp_X4_together_25 F x1 x2 N x3 x4 s) (fun r _ => r = anTog1 V a b 24) := by
  intro N
  induction N with
  | zero => intro t x3 x4 h1 h2 h3; exact pc_none rfl
  | succ N ih =>
    intro t x3 x4 h1 h2 h3
    rw [lp_X4_together_25_s]
    simp only [j_X4_together_76_e, j_X4_together_77_e]
    refine pc_ite (fun c => ?_) (fun c => pc_chk (fun _ => pc_lt (fun z2 hz => ?_)))
    · have d := ti_le c
      rw [tz_24] at d
      exact pc_ret (by rw [h3, show t = 24 by omega])
    · have d := ti_nle c
      rw [tz_24] at d
      rw [tn_24 ha h1 ha5 (by omega), vM_106 h (by omega), show 28 + (24 * a + t) = 28 + 24 * a + t by omega] at hz
      have hs : anTog1 V a b (t + 1) = anTog1 V a b t ||| (if (V (28 + 24 * a + t)).toInt < 0 then 0 else if V (28 + 24 * a + t) = V (28 + 24 * b + t) then (1 : Int32) <<< (Int32.ofNat t &&& 31) else 0) := rfl
      rw [← hz] at hs
      refine pc_ite (fun c9 => ih (t + 1) _ _ (ti_nx h1 (by omega)) (by omega) ?_) (fun c9 => pc_chk (fun _ => ?_))
      · have := ti_lt c9
        rw [tz_0] at this
        rw [hs, if_pos this, h3]
      · have := ti_nlt c9
        rw [tz_0] at this
        rw [if_neg (by omega)] at hs
        rw [tn_24 hb h1 hb5 (by omega), vM_106 h (by omega), show 28 + (24 * b + t) = 28 + 24 * b + t by omega]
        refine pc_ite (fun c8 => ih (t + 1) _ _ (ti_nx h1 (by omega)) (by omega) ?_) (fun c8 => ih (t + 1) _ _ (ti_nx h1 (by omega)) (by omega) ?_)
        · rw [hs, if_pos c8, h3, io_eq h1 (by omega)]
        · rw [hs, if_neg c8, h3]
theorem qm_together {F : Nat} {x1 x2 : Int32} {s : Mem} {V : Nat → Int32} (h : vM V s) : pc (f_X4_together F x1 x2 s) (fun r _ => r = anTogether V x1 x2) := by
  rw [f_X4_together_e]
  refine pc_lt (fun s4 h4 => ?_)
  have h' : vM V s4 := vM_up h h4
  clear h4
  refine pc_be (qm_areTwo h') ?_
  unfold anTogether
  by_cases c : ((0 ≤ x1.toInt ∧ x1.toInt < (V 1).toInt) ∧ (0 ≤ x2.toInt ∧ x2.toInt < (V 1).toInt) ∧ ¬ x1 = x2)
  · rw [if_pos c, if_neg (by decide), cB_t c, cF_z]
    obtain ⟨c1, c2, c3⟩ := c
    have n1 := ti_nat x1
    have n2 := ti_nat x2
    have h5 := h.1.2.1.2
    exact qm_together_25 h' (a := x1.toNatClampNeg) (b := x2.toNatClampNeg) (by omega) (by omega) (by omega) (by omega) F 0 0 0 rfl (by omega) rfl
  · rw [if_neg c, if_pos rfl, cB_f c]
    exact mq_ref (cF_n (by decide))
end
section
/-! who holds a view -/
def aTop (V : Nat → Int32) (x : Int32) (v : Nat) : Nat → Int32 × Int32 × Int32 × Int32
  | 0 => (-9, 0, 0, 0)
  | l + 1 => if aBehind V x l v ≤ (aTop V x v l).2.1 then ((aTop V x v l).1, (aTop V x v l).2.1, (aTop V x v l).2.2.1 + aBehind V x l v, if aBehind V x l v = (aTop V x v l).2.1 then 1 else (aTop V x v l).2.2.2) else (Int32.ofNat l, aBehind V x l v, (aTop V x v l).2.2.1 + aBehind V x l v, 0)
def aHold (V : Nat → Int32) (x : Int32) (v : Nat) : Int32 :=
  if V 2 = 1 then (if (aTop V x v (V 1).toNatClampNeg).2.2.2 = 0 then (aTop V x v (V 1).toNatClampNeg).1 else -9) else if V 2 = 2 then (if (aTop V x v (V 1).toNatClampNeg).2.2.1 - (aTop V x v (V 1).toNatClampNeg).2.1 < (aTop V x v (V 1).toNatClampNeg).2.1 then (aTop V x v (V 1).toNatClampNeg).1 else -9) else (aTop V x v (V 1).toNatClampNeg).1
theorem aTop_le {V : Nat → Int32} {x : Int32} {v l : Nat} (h : aBehind V x l v ≤ (aTop V x v l).2.1) : aTop V x v (l + 1) = ((aTop V x v l).1, (aTop V x v l).2.1, (aTop V x v l).2.2.1 + aBehind V x l v, if aBehind V x l v = (aTop V x v l).2.1 then 1 else (aTop V x v l).2.2.2) := by
  show (if aBehind V x l v ≤ (aTop V x v l).2.1 then _ else _) = _
  rw [if_pos h]
theorem aTop_gt {V : Nat → Int32} {x : Int32} {v l : Nat} (h : ¬ aBehind V x l v ≤ (aTop V x v l).2.1) : aTop V x v (l + 1) = (Int32.ofNat l, aBehind V x l v, (aTop V x v l).2.2.1 + aBehind V x l v, 0) := by
  show (if aBehind V x l v ≤ (aTop V x v l).2.1 then _ else _) = _
  rw [if_neg h]
/-- the numbers of the run within their bounds -/
theorem aTop_b {V : Nat → Int32} (hv : wvV V) {x : Int32} (hx : 0 ≤ x.toInt ∧ x.toInt ≤ 9999) {v : Nat} (hv8 : v < 8) : ∀ l : Nat, (l : Int) ≤ (V 1).toInt → (((aTop V x v l).1 = -9) ∨ (0 ≤ (aTop V x v l).1.toInt ∧ (aTop V x v l).1.toInt < (l : Int))) ∧ (0 ≤ (aTop V x v l).2.1.toInt ∧ (aTop V x v l).2.1.toInt ≤ 99999) ∧ (0 ≤ (aTop V x v l).2.2.1.toInt ∧ (aTop V x v l).2.2.1.toInt ≤ 99999 * (l : Int)) ∧ ((aTop V x v l).2.2.2 = 0 ∨ (aTop V x v l).2.2.2 = 1) := fun l => by
  induction l with
  | zero => intro _; exact ⟨Or.inl rfl, ⟨Int.le_refl 0, (by decide : (0 : Int) ≤ 99999)⟩, ⟨Int.le_refl 0, Int.le_refl 0⟩, Or.inl rfl⟩
  | succ l ih =>
    intro hl
    obtain ⟨b1, b2, b3, b4⟩ := ih (by omega)
    have h5 := hv.2.1.2
    have g := aBehind_b hv (l := l) (by omega) hv8 hx
    have es : ((aTop V x v l).2.2.1 + aBehind V x l v).toInt = (aTop V x v l).2.2.1.toInt + (aBehind V x l v).toInt := ti_add (by omega) (by omega)
    by_cases c : aBehind V x l v ≤ (aTop V x v l).2.1
    · rw [aTop_le c]
      refine ⟨b1.imp id (fun q => ⟨q.1, by show (aTop V x v l).1.toInt < _; omega⟩), b2, ?_, ?_⟩
      · show 0 ≤ ((aTop V x v l).2.2.1 + aBehind V x l v).toInt ∧ ((aTop V x v l).2.2.1 + aBehind V x l v).toInt ≤ _
        rw [es]; omega
      · show (if aBehind V x l v = (aTop V x v l).2.1 then (1 : Int32) else (aTop V x v l).2.2.2) = 0 ∨ (if aBehind V x l v = (aTop V x v l).2.1 then (1 : Int32) else (aTop V x v l).2.2.2) = 1
        by_cases d : aBehind V x l v = (aTop V x v l).2.1
        · rw [if_pos d]; exact Or.inr rfl
        · rw [if_neg d]; exact b4
    · rw [aTop_gt c]
      refine ⟨Or.inr ?_, g, ?_, Or.inl rfl⟩
      · show 0 ≤ (Int32.ofNat l).toInt ∧ (Int32.ofNat l).toInt < ((l + 1 : Nat) : Int)
        rw [io_nat l (by omega)]; omega
      · show 0 ≤ ((aTop V x v l).2.2.1 + aBehind V x l v).toInt ∧ ((aTop V x v l).2.2.1 + aBehind V x l v).toInt ≤ _
        rw [es]; omega
/-- the class -/
theorem qx_holder_15 {F h : Nat} {x1 x2 : Int32} {v : Nat} {σ : Mem} {V : Nat → Int32} (a : vH h V σ) (g : vG h V σ) (hv : x1.toInt = (v : Int)) (hv8 : v < 8) : ∀ (N l : Nat) (x3 x4 x5 x6 x7 : Int32), x7.toInt = (l : Int) → (l : Int) ≤ (V 1).toInt → (x3, x4, x5, x6) = aTop V x2 v l → pc (lp_X0_holder_15 F h x1 x2 N x3 x4 x5 x6 x7 σ) (fun r s => r = aHold V x2 v ∧ s = σ) := by
  have h5 := a.1.2.1.2
  have n1 := ti_nat (V 1)
  intro N
  induction N with
  | zero => intro l x3 x4 x5 x6 x7 h1 h2 h3; exact pc_none rfl
  | succ N ih =>
    intro l x3 x4 x5 x6 x7 h1 h2 h3
    have e3 : x3 = (aTop V x2 v l).1 := congrArg Prod.fst h3
    have e4 : x4 = (aTop V x2 v l).2.1 := congrArg (fun q => q.2.1) h3
    have e5 : x5 = (aTop V x2 v l).2.2.1 := congrArg (fun q => q.2.2.1) h3
    have e6 : x6 = (aTop V x2 v l).2.2.2 := congrArg (fun q => q.2.2.2) h3
    rw [lp_X0_holder_15_s, vH_2 a, vH_8 a]
    simp only [j_X0_holder_71_e, j_X0_holder_90_e, j_X0_holder_108_e, j_X0_holder_111_e]
    rw [vH_8 a]
    refine pc_ite (fun c => ?_) (fun c => pc_bnd (qx_behind a g h1 ?_ hv hv8) (fun r s q => ?_))
    · have d := ti_le c
      have el : (V 1).toNatClampNeg = l := by omega
      unfold aHold
      rw [el, ← e3, ← e4, ← e5, ← e6]
      refine pc_ite (fun c1 => ?_) (fun c1 => ?_)
      · rw [if_pos c1]
        refine pc_ite (fun c2 => ?_) (fun c2 => pc_ret ⟨by rw [if_neg c2], rfl⟩)
        rw [if_pos c2]
        refine pc_ite (fun c3 => ?_) (fun _ => pc_ret ⟨rfl, rfl⟩)
        exact absurd (c1.symm.trans c3) (by decide)
      · rw [if_neg c1]
        refine pc_ite (fun c2 => ?_) (fun c2 => pc_ret ⟨by rw [if_neg c2], rfl⟩)
        rw [if_pos c2]
        exact pc_ite (fun c3 => pc_ret ⟨by rw [if_pos c3], rfl⟩) (fun c3 => pc_ret ⟨by rw [if_neg c3], rfl⟩)
    · have d := ti_nle c
      omega
    · have d := ti_nle c
      obtain ⟨q1, q2⟩ := q
      rw [q2, q1]
      refine pc_ite (fun c1 => pc_ite (fun c2 => ih (l + 1) _ _ _ _ _ (ti_nx h1 (by omega)) (by omega) ?_) (fun c2 => ih (l + 1) _ _ _ _ _ (ti_nx h1 (by omega)) (by omega) ?_)) (fun c1 => ih (l + 1) _ _ _ _ _ (ti_nx h1 (by omega)) (by omega) ?_)
      · rw [e4] at c1 c2
        rw [aTop_le c1, if_pos c2, e3, e4, e5]
      · rw [e4] at c1 c2
        rw [aTop_le c1, if_neg c2, e3, e4, e5, e6]
      · rw [e4] at c1
        rw [aTop_gt c1, e5, io_eq h1 (by omega)]
theorem qx_holder {F h : Nat} {x1 x2 : Int32} {v : Nat} {σ : Mem} {V : Nat → Int32} (a : vH h V σ) (g : vG h V σ) (hv : x1.toInt = (v : Int)) (hv8 : v < 8) : pc (f_X0_holder F h x1 x2 σ) (fun r s => r = aHold V x2 v ∧ s = σ) := by
  rw [f_X0_holder_e]
  exact qx_holder_15 a g hv hv8 F 0 _ _ _ _ _ rfl a.1.2.1.1 rfl
/-- the reference: what lies in 110 is what is behind each -/
theorem qm_ownerLooked_13 {F : Nat} {x : Int32} (hx : 0 ≤ x.toInt ∧ x.toInt ≤ 9999) {v : Nat} (hv8 : v < 8) {s : Mem} {V : Nat → Int32} (h : vM V s) (hC : ∀ l : Nat, (l : Int) < (V 1).toInt → s 110 l = aBehind V x l v) : ∀ (N l : Nat) (x1 x2 x3 x4 x5 : Int32), x5.toInt = (l : Int) → (l : Int) ≤ (V 1).toInt → x1 = (aTop V x v l).1 → x2 = (aTop V x v l).2.1 → x3 = (aTop V x v l).2.2.1 → (x4 = if (aTop V x v l).2.2.2 = 0 then 1 else 0) → pc (lp_X4_ownerLooked_13 F N x1 x2 x3 x4 x5 s) (fun r z => r = aHold V x v ∧ z = s) := by
  have h5 := h.1.2.1
  have n1 := ti_nat (V 1)
  intro N
  induction N with
  | zero => intro l x1 x2 x3 x4 x5 h1 h2 e1 e2 e3 e4; exact pc_none rfl
  | succ N ih =>
    intro l x1 x2 x3 x4 x5 h1 h2 e1 e2 e3 e4
    obtain ⟨b1, b2, b3, b4⟩ := aTop_b h.1 hx hv8 l h2
    rw [lp_X4_ownerLooked_13_s, vM_L h, vM_W h]
    simp only [j_X4_ownerLooked_157_e, j_X4_ownerLooked_156_e, j_X4_ownerLooked_152_e, j_X4_ownerLooked_137_e, j_X4_ownerLooked_96_e, j_X4_ownerLooked_73_e, j_X4_ownerLooked_54_e, j_X4_ownerLooked_49_e, j_X4_ownerLooked_53_e]
    rw [vM_W h]
    refine pc_ite (fun c => ?_) (fun c => pc_chk (fun w => ?_))
    · have d := ti_le c
      have el : (V 1).toNatClampNeg = l := by omega
      unfold aHold
      rw [el, ← e1, ← e2, ← e3]
      simp only [↓reduceIte, (eq_false (by decide) : ((1 : Int32) = 0) = False)]
      rw [← e1] at b1
      rw [← e2] at b2
      rw [← e3] at b3
      refine pc_ite (fun c0 => pc_ret ⟨?_, rfl⟩) (fun c0 => ?_)
      · have d0 := ti_lt c0
        rw [tz_0] at d0
        have e9 : x1 = -9 := by
          rcases b1 with q | q
          · exact q
          · omega
        rw [e9, ite_self, ite_self, ite_self, ite_self]
      refine pc_ite (fun c1 => pc_ret ⟨?_, rfl⟩) (fun c1 => ?_)
      · rw [if_neg (by rw [c1]; decide), if_neg (by rw [c1]; decide)]
      refine pc_ite (fun c2 => ?_) (fun c2 => ?_)
      · rw [if_pos c2]
        refine pc_ite (fun c3 => pc_ite (fun c4 => absurd (c2.symm.trans c4) (by decide)) (fun _ => pc_ret ⟨?_, rfl⟩)) (fun c3 => pc_ret ⟨?_, rfl⟩)
        · rw [e4] at c3
          by_cases ct : (aTop V x v l).2.2.2 = 0
          · rw [if_pos ct] at c3; exact absurd c3 (by decide)
          · rw [if_neg ct]
        · rw [e4] at c3
          by_cases ct : (aTop V x v l).2.2.2 = 0
          · rw [if_pos ct]
          · rw [if_neg ct] at c3; exact absurd rfl c3
      · rw [if_neg c2]
        have hl5 : (l : Int) ≤ 5 := by omega
        have em : ((2 : Int32) * x2).toInt = 2 * x2.toInt := by rw [ti_mul (by rw [tz_2]; omega) (by rw [tz_2]; omega), tz_2]
        have ed : (x3 - x2).toInt = x3.toInt - x2.toInt := ti_sub (by omega) (by omega)
        refine pc_ite (fun c3 => pc_ite (fun c4 => pc_ret ⟨?_, rfl⟩) (fun c4 => pc_ret ⟨?_, rfl⟩)) (fun c3 => pc_ret ⟨?_, rfl⟩)
        · have d4 := ti_le c4
          rw [if_pos c3, if_neg (fun q => by have := ti_lt q; omega)]
        · have d4 := ti_nle c4
          rw [if_pos c3, if_pos (Int32.lt_iff_toInt_lt.mpr (by omega))]
        · exfalso
          have k0 := ti_ne c1
          have k1 := ti_ne c2
          have k2 := ti_ne c3
          have hW := h.1.2.2.1
          rw [tz_0] at k0
          rw [tz_1] at k1
          rw [tz_2] at k2
          omega
    · have d := ti_nle c
      rw [tn_int h1, hC l (by omega)]
      have g := aBehind_b h.1 (l := l) (by omega) hv8 hx
      have n5 : (x5 + 1).toInt = ((l + 1 : Nat) : Int) := ti_nx h1 (by omega)
      by_cases c1 : aBehind V x l v ≤ x2
      · have c1' : ¬ x2 < aBehind V x l v := fun q => by have := ti_lt q; have := ti_le c1; omega
        have c1e : aBehind V x l v ≤ (aTop V x v l).2.1 := by rw [← e2]; exact c1
        have step : ∀ y, (y = if (aTop V x v (l + 1)).2.2.2 = 0 then (1 : Int32) else 0) → pc (wt_chk x5 5 <| if aBehind V x l v ≤ x2 then wt_chk x5 5 <| if aBehind V x l v ≤ x2 then wt_chk x5 5 <| wt_lt (x3 + aBehind V x l v) fun z2 => lp_X4_ownerLooked_13 F N x1 x2 z2 y (x5 + 1) s else wt_chk x5 5 <| wt_lt (x3 + aBehind V x l v) fun z2 => lp_X4_ownerLooked_13 F N x1 (aBehind V x l v) z2 y (x5 + 1) s else wt_chk x5 5 <| if aBehind V x l v ≤ x2 then wt_chk x5 5 <| wt_lt (x3 + aBehind V x l v) fun z2 => lp_X4_ownerLooked_13 F N x5 x2 z2 y (x5 + 1) s else wt_chk x5 5 <| wt_lt (x3 + aBehind V x l v) fun z2 => lp_X4_ownerLooked_13 F N x5 (aBehind V x l v) z2 y (x5 + 1) s) (fun r z => r = aHold V x v ∧ z = s) := fun y hy => by
          refine pc_chk (fun _ => ?_)
          rw [if_pos c1]
          refine pc_chk (fun _ => ?_)
          rw [if_pos c1]
          exact pc_chk (fun _ => pc_lt (fun z2 hz => ih (l + 1) _ _ _ _ _ n5 (by omega) (by rw [aTop_le c1e]; exact e1) (by rw [aTop_le c1e]; exact e2) (by rw [aTop_le c1e, hz, e3]) hy))
        rw [if_neg c1']
        have hy0 : aBehind V x l v = (aTop V x v l).2.1 → (0 : Int32) = if (aTop V x v (l + 1)).2.2.2 = 0 then (1 : Int32) else 0 := fun q => by
          rw [aTop_le c1e, if_pos q]; exact (if_neg (show ¬ (1 : Int32) = 0 by decide)).symm
        have hyn : ¬ aBehind V x l v = (aTop V x v l).2.1 → x4 = if (aTop V x v (l + 1)).2.2.2 = 0 then (1 : Int32) else 0 := fun q => by
          rw [aTop_le c1e, if_neg q]; exact e4
        refine pc_ite (fun c2 => step 0 ?_) (fun c2 => pc_ite (fun c3 => step 0 (hy0 ?_)) (fun c3 => step 1 ?_))
        · by_cases q : aBehind V x l v = (aTop V x v l).2.1
          · exact hy0 q
          · rw [← hyn q, c2]
        · have d3 := ti_le c3
          have d1 := ti_le c1
          exact Int32.toInt_inj.mp (by rw [← e2]; omega)
        · have q : ¬ aBehind V x l v = (aTop V x v l).2.1 := fun q => c3 (Int32.le_iff_toInt_le.mpr (by rw [q, ← e2]; exact Int.le_refl _))
          rw [← hyn q]
          rcases b4 with t | t
          · rw [e4, if_pos t]
          · rw [e4, t] at c2
            exact absurd (if_neg (by decide)) c2
      · have c1' : x2 < aBehind V x l v := Int32.lt_iff_toInt_lt.mpr (ti_nle c1)
        have c1e : ¬ aBehind V x l v ≤ (aTop V x v l).2.1 := by rw [← e2]; exact c1
        rw [if_pos c1']
        refine pc_chk (fun _ => ?_)
        rw [if_neg c1]
        refine pc_chk (fun _ => ?_)
        rw [if_neg c1]
        exact pc_chk (fun _ => pc_lt (fun z2 hz => ih (l + 1) _ _ _ _ _ n5 (by omega) (by rw [aTop_gt c1e]; exact io_eq h1 (by omega)) (by rw [aTop_gt c1e]) (by rw [aTop_gt c1e, hz, e3]) (by rw [aTop_gt c1e, if_pos rfl])))
theorem qm_ownerIn {F : Nat} {x1 x2 : Int32} (hx : 0 ≤ x2.toInt ∧ x2.toInt ≤ 9999) {v : Nat} (hv : x1.toInt = (v : Int)) (hv8 : v < 8) {s : Mem} {V : Nat → Int32} (h : vM V s) (b : vB V s) : pc (f_X4_ownerIn F x1 x2 s) (fun r z => r = aHold V x2 v ∧ ∀ k, ¬ k = 110 → z k = s k) := by
  have h5 := h.1.2.1
  have key : ∀ (N l : Nat) (x3 : Int32) (σ : Mem), x3.toInt = (l : Int) → (l : Int) ≤ (V 1).toInt → (∀ k, ¬ k = 110 → σ k = s k) → (∀ m : Nat, m < l → σ 110 m = aBehind V x2 m v) → pc (lp_X4_ownerIn_2 F x1 x2 N x3 σ) (fun r z => r = aHold V x2 v ∧ ∀ k, ¬ k = 110 → z k = s k) := by
    intro N
    induction N with
    | zero => intro l x3 σ h1 h2 h3 h4; exact pc_none rfl
    | succ N ih =>
      intro l x3 σ h1 h2 h3 h4
      rw [lp_X4_ownerIn_2_s, h3 101 (by decide), vM_L h]
      refine pc_ite (fun c => ?_) (fun c => pc_chk (fun _ => pc_be mx_held (pc_chk (fun _ => pc_lt (fun s7 h7 => ?_)))))
      · have d := ti_le c
        have hM : vM V σ := vM_109 h (fun k _ q => h3 k q)
        rw [f_X4_ownerLooked_e]
        refine pc_bnd (qm_ownerLooked_13 hx hv8 hM (fun m hm => h4 m (by omega)) F 0 _ _ _ _ _ rfl h5.1 rfl rfl rfl (if_pos (show (aTop V x2 v 0).2.2.2 = 0 from rfl)).symm) (fun r z q => pc_ret ⟨q.1, fun k hk => by rw [q.2]; exact h3 k hk⟩)
      · have d := ti_nle c
        rw [tn_8 h1 hv (by omega) hv8, tn_int h1, h3 107 (by decide), h3 109 (by decide), vM_107 h (by omega), b l (by omega) v hv8] at h7
        have hA : aBehind V x2 l v = wt_min 99999 (V (148 + (8 * l + v)) + x2 * aGain V l v 24) := by
          unfold aBehind
          rw [show 148 + 8 * l + v = 148 + (8 * l + v) by omega]
        rw [← hA] at h7
        refine ih (l + 1) _ _ (ti_nx h1 (by omega)) (by omega) (fun k hk => by rw [h7, up2_k hk, h3 k hk]) (fun m hm => ?_)
        rw [h7]
        by_cases e : m = l
        · subst e; rw [up2_s]
        · rw [up2_i e]; exact h4 m (by omega)
  rw [f_X4_ownerIn_e]
  exact key F 0 0 s rfl h5.1 (fun _ _ => rfl) (fun m hm => absurd hm (Nat.not_lt_zero m))
end
section
/-! questions of who holds what -/
def cRdy (V : Nat → Int32) (s : Mem) : Prop := vH 1 V s ∧ vG 1 V s
def mRdy (V : Nat → Int32) (s : Mem) : Prop := vM V s ∧ vB V s
theorem qx_reckon {F : Nat} {σ : Mem} {V : Nat → Int32} (a : vH 1 V σ) : pc (f_X0_reckon F 1 σ) (fun _ s => cRdy V s) := pc_mono (ax_reckon a) (fun _ _ q => ⟨vH_k a q.1, q.2⟩)
theorem qm_lay {F : Nat} {s : Mem} {V : Nat → Int32} (h : vM V s) : pc (f_X4_layBrings F s) (fun _ z => mRdy V z) := pc_mono (mx_layBrings h) (fun _ _ q => ⟨vM_109 h (fun k a _ => q.1 k a), q.2⟩)
theorem qx_hold {F : Nat} {x1 x2 : Int32} {v : Nat} {σ : Mem} {V : Nat → Int32} (a : cRdy V σ) (hv : x1.toInt = (v : Int)) (hv8 : v < 8) : pc (f_X0_holder F 1 x1 x2 σ) (fun r s => r = aHold V x2 v ∧ s = σ) := qx_holder a.1 a.2 hv hv8
theorem qm_own {F : Nat} {x1 x2 : Int32} (hx : 0 ≤ x2.toInt ∧ x2.toInt ≤ 9999) {v : Nat} (hv : x1.toInt = (v : Int)) (hv8 : v < 8) {s : Mem} {V : Nat → Int32} (h : mRdy V s) : pc (f_X4_ownerIn F x1 x2 s) (fun r z => r = aHold V x2 v ∧ mRdy V z) := pc_mono (qm_ownerIn hx hv hv8 h.1 h.2) (fun r z q => ⟨q.1, vM_109 h.1 (fun k _ b => q.2 k b), fun m hm w hw => by rw [q.2 109 (by decide)]; exact h.2 m hm w hw⟩)
theorem aHold_b {V : Nat → Int32} (hv : wvV V) {x : Int32} (hx : 0 ≤ x.toInt ∧ x.toInt ≤ 9999) {v : Nat} (hv8 : v < 8) : aHold V x v = -9 ∨ (0 ≤ (aHold V x v).toInt ∧ (aHold V x v).toInt < (V 1).toInt) := by
  have n1 := ti_nat (V 1)
  have h1 := hv.2.1.1
  have b := (aTop_b hv hx hv8 (V 1).toNatClampNeg (by omega)).1
  have b' : (aTop V x v (V 1).toNatClampNeg).1 = -9 ∨ (0 ≤ (aTop V x v (V 1).toNatClampNeg).1.toInt ∧ (aTop V x v (V 1).toNatClampNeg).1.toInt < (V 1).toInt) := b.imp id (fun q => ⟨q.1, by omega⟩)
  unfold aHold
  by_cases c1 : V 2 = 1
  · rw [if_pos c1]
    by_cases c2 : (aTop V x v (V 1).toNatClampNeg).2.2.2 = 0
    · rw [if_pos c2]; exact b'
    · rw [if_neg c2]; exact Or.inl rfl
  · rw [if_neg c1]
    by_cases c2 : V 2 = 2
    · rw [if_pos c2]
      by_cases c3 : (aTop V x v (V 1).toNatClampNeg).2.2.1 - (aTop V x v (V 1).toNatClampNeg).2.1 < (aTop V x v (V 1).toNatClampNeg).2.1
      · rw [if_pos c3]; exact b'
      · rw [if_neg c3]; exact Or.inl rfl
    · rw [if_neg c2]; exact b'
theorem aHold_0 {V : Nat → Int32} (hv : wvV V) {x : Int32} (hx : 0 ≤ x.toInt ∧ x.toInt ≤ 9999) {v : Nat} (hv8 : v < 8) : 0 ≤ aHold V x v ↔ ¬ aHold V x v = -9 := by
  rcases aHold_b hv hx hv8 with b | b
  · rw [b]; exact ⟨fun q => absurd q (by decide), fun q => absurd rfl q⟩
  · exact ⟨fun _ q => by rw [q] at b; exact absurd b.1 (by decide), fun _ => Int32.le_iff_toInt_le.mpr (by rw [tz_0]; exact b.1)⟩
theorem mq_end {F : Nat} {e val : Int32} (he : sg e) {s : Mem} {A : Option (Int32 × Mem)} (h : e = 0 → pc A (fun r _ => r = val)) : pc (if 0 ≤ e then A else wt_bnd (f_X4_refuse F e s) fun r z => some (r, z)) (fun r _ => r = cF e val) := by
  refine pc_ite (fun c => ?_) (fun c => mq_ref (cF_n (fun q => c (by rw [q]; decide))))
  have d := ti_le c
  rw [tz_0] at d
  have e0 : e = 0 := by
    rcases he with q | q
    · exact q
    · omega
  exact pc_mono (h e0) (fun a s g => by rw [g, e0, cF_z])
theorem mx_wrongBit {F : Nat} {x0 x1 : Int32} {σ : Mem} : f_X4_wrongBit F x0 x1 (1 : Int32) σ = some (cF x0 (cO x1 2), σ) := by
  rw [f_X4_wrongBit_e]
  simp only [j_X4_wrongBit_20_e]
  by_cases c : x0 = 0
  · rw [if_pos c, wt_bnd_eq (mx_in32 (lo := 0) (hi := 1) rfl rfl), c, cF_z]
    by_cases d : 0 ≤ x1.toInt ∧ x1.toInt ≤ 1
    · have hO : cO x1 2 = 0 := if_pos ⟨d.1, by rw [tz_2]; omega⟩
      rw [if_pos d, if_neg (by decide), hO]
    · have hO : cO x1 2 = -2 := if_neg (fun q => d ⟨q.1, by have := q.2; rw [tz_2] at this; omega⟩)
      rw [if_neg d, if_pos rfl, hO]
  · rw [if_neg c, cF_n c]
theorem tz_999' : (999 : Int32).toInt = 999 := rfl
/-! owner -/
def anOwner (V : Nat → Int32) (x1 x2 : Int32) : Int32 := cF (cF (cB (0 ≤ x1.toInt ∧ x1.toInt ≤ 7)) (cN x2 0 999)) (aHold V x2 x1.toNatClampNeg)
theorem qx_owner {F : Nat} {x1 x2 : Int32} {σ : Mem} {V : Nat → Int32} (h : vH 1 V σ) : pc (f_X3_owner F x1 x2 σ) (fun r _ => r = anOwner V x1 x2) := by
  rw [f_X3_owner_e]
  refine pc_be ax_noView (pc_be ax_outside (pc_be ax_firstOf ?_))
  unfold anOwner
  refine cq_end (fun e => pc_bnd (qx_reckon h) (fun _ s q => ?_))
  have d1 := cB_0 (cF_0 e).1
  have n1 := ti_nat x1
  exact pc_bnd (qx_hold q (v := x1.toNatClampNeg) (by omega) (by omega)) (fun r z w => pc_ret w.1)
theorem qm_owner {F : Nat} {x1 x2 : Int32} {s : Mem} {V : Nat → Int32} (h : vM V s) : pc (f_X4_owner F x1 x2 s) (fun r _ => r = anOwner V x1 x2) := by
  rw [f_X4_owner_e]
  refine pc_lt (fun s7 h7 => ?_)
  have h' : vM V s7 := vM_up h h7
  clear h7
  simp only [j_X4_owner_24_e]
  refine pc_be mx_isView ?_
  unfold anOwner
  by_cases c : 0 ≤ x1.toInt ∧ x1.toInt ≤ 7
  · rw [if_pos c, if_neg (by decide), cB_t c, cF_z]
    refine pc_be mx_wrongN ?_
    refine mq_end sg_cN (fun e => pc_bnd (qm_lay h') (fun _ z q => ?_))
    have d2 := cN_0 e
    rw [tz_0, tz_999'] at d2
    have n1 := ti_nat x1
    exact pc_bnd (qm_own ⟨d2.1, by omega⟩ (v := x1.toNatClampNeg) (by omega) (by omega) q) (fun r z w => pc_ret w.1)
  · rw [if_neg c, if_pos rfl, cB_f c, cF_n (a := -1) (by decide)]
    exact mq_end (Or.inr (by decide)) (fun q => absurd q (by decide))
/-! from -/
def anFrom1 (V : Nat → Int32) (x1 : Int32) (v : Nat) : Nat → Int32 → Int32
  | 0, _ => -9
  | k + 1, x => if aHold V x v = x1 then x else anFrom1 V x1 v k (x + 1)
def anFrom (V : Nat → Int32) (x1 x2 : Int32) : Int32 := cF (cF (cB (0 ≤ x1.toInt ∧ x1.toInt < (V 1).toInt)) (cB (0 ≤ x2.toInt ∧ x2.toInt ≤ 7))) (anFrom1 V x1 x2.toNatClampNeg 1000 0)
theorem qx_from_33 {F : Nat} {x1 x2 : Int32} {v : Nat} {σ : Mem} {V : Nat → Int32} (a : cRdy V σ) (hv : x2.toInt = (v : Int)) (hv8 : v < 8) : ∀ (N k i : Nat) (x4 : Int32), x4.toInt = (i : Int) → i + k = 1000 → pc (lp_X3_from_33 F x1 x2 N x4 σ) (fun r _ => r = anFrom1 V x1 v k x4) := by
  intro N
  induction N with
  | zero => intro k i x4 h1 h2; exact pc_none rfl
  | succ N ih =>
    intro k i x4 h1 h2
    rw [lp_X3_from_33_s]
    refine pc_ite (fun c => ?_) (fun c => pc_bnd (qx_hold a hv hv8) (fun r s q => ?_))
    · have d := ti_lt c
      rw [tz_999'] at d
      rw [show k = 0 by omega]
      exact pc_ret rfl
    · have d := ti_nlt c
      rw [tz_999'] at d
      obtain ⟨k', rfl⟩ : ∃ k', k = k' + 1 := ⟨k - 1, by omega⟩
      rw [q.2, q.1]
      refine pc_ite (fun e => pc_ret ?_) (fun e => pc_mono (ih k' (i + 1) _ (ti_nx h1 (by omega)) (by omega)) (fun r s w => ?_))
      · show x4 = if aHold V x4 v = x1 then x4 else _
        rw [if_pos e]
      · show r = if aHold V x4 v = x1 then x4 else _
        rw [if_neg e]; exact w
theorem qx_from {F : Nat} {x1 x2 : Int32} {σ : Mem} {V : Nat → Int32} (h : vH 1 V σ) : pc (f_X3_from F x1 x2 σ) (fun r _ => r = anFrom V x1 x2) := by
  rw [f_X3_from_e]
  refine pc_be (ax_noLooker (by rw [vH_2 h]; exact h.1.2.1.2)) (pc_be ax_noView (pc_be ax_firstOf ?_))
  rw [vH_2 h]
  unfold anFrom
  refine cq_end (fun e => pc_bnd (qx_reckon h) (fun _ s q => ?_))
  have d2 := cB_0 (cF_0 e).2
  have n2 := ti_nat x2
  exact qx_from_33 q (v := x2.toNatClampNeg) (by omega) (by omega) F 1000 0 0 rfl rfl
theorem qm_from_32 {F : Nat} {x1 x2 : Int32} {v : Nat} {V : Nat → Int32} (hv : x2.toInt = (v : Int)) (hv8 : v < 8) : ∀ (N k i : Nat) (x4 : Int32) (s : Mem), mRdy V s → x4.toInt = (i : Int) → i + k = 1000 → pc (lp_X4_from_32 F x1 x2 N x4 s) (fun r _ => r = anFrom1 V x1 v k x4) := by
  intro N
  induction N with
  | zero => intro k i x4 s a h1 h2; exact pc_none rfl
  | succ N ih =>
    intro k i x4 s a h1 h2
    rw [lp_X4_from_32_s]
    refine pc_ite (fun c => ?_) (fun c => ?_)
    · have d := ti_lt c
      rw [tz_999'] at d
      rw [show k = 0 by omega]
      exact pc_ret rfl
    · have d := ti_nlt c
      rw [tz_999'] at d
      obtain ⟨k', rfl⟩ : ∃ k', k = k' + 1 := ⟨k - 1, by omega⟩
      refine pc_bnd (qm_own ⟨by omega, by omega⟩ hv hv8 a) (fun r s q => ?_)
      rw [q.1]
      refine pc_ite (fun e => pc_ret ?_) (fun e => pc_mono (ih k' (i + 1) _ _ q.2 (ti_nx h1 (by omega)) (by omega)) (fun r s w => ?_))
      · show x4 = if aHold V x4 v = x1 then x4 else _
        rw [if_pos e]
      · show r = if aHold V x4 v = x1 then x4 else _
        rw [if_neg e]; exact w
theorem qm_from {F : Nat} {x1 x2 : Int32} {s : Mem} {V : Nat → Int32} (h : vM V s) : pc (f_X4_from F x1 x2 s) (fun r _ => r = anFrom V x1 x2) := by
  rw [f_X4_from_e]
  refine pc_lt (fun s5 h5 => ?_)
  have h' : vM V s5 := vM_up h h5
  clear h5
  simp only [j_X4_from_20_e]
  refine pc_be (mx_isLooker (by rw [vM_L h']; exact h.1.2.1.1)) ?_
  rw [vM_L h']
  unfold anFrom
  by_cases c : 0 ≤ x1.toInt ∧ x1.toInt < (V 1).toInt
  · rw [if_pos c, if_neg (by decide), cB_t c, cF_z]
    refine pc_be mx_isView ?_
    by_cases c2 : 0 ≤ x2.toInt ∧ x2.toInt ≤ 7
    · rw [if_pos c2, if_neg (by decide), cB_t c2, cF_z]
      have n2 := ti_nat x2
      exact pc_bnd (qm_lay h') (fun _ z q => qm_from_32 (v := x2.toNatClampNeg) (by omega) (by omega) F 1000 0 0 z q rfl rfl)
    · rw [if_neg c2, if_pos rfl, cB_f c2]
      exact mq_ref (cF_n (by decide))
  · rw [if_neg c, if_pos rfl, cB_f c]
    exact mq_ref (by rw [cF_n (a := -1) (by decide), cF_n (by decide)])
/-! lost -/
def anLost1 (V : Nat → Int32) (x1 : Int32) (v : Nat) : Nat → Int32 → Int32
  | 0, _ => -9
  | k + 1, x => if aHold V x v = x1 then anLost1 V x1 v k (x + 1) else x
def anLost (V : Nat → Int32) (x1 : Int32) : Int32 := cF (cB (0 ≤ x1.toInt ∧ x1.toInt ≤ 7)) (if aHold V 0 x1.toNatClampNeg = -9 then -3 else anLost1 V (aHold V 0 x1.toNatClampNeg) x1.toNatClampNeg 999 1)
theorem qx_lost_45 {F : Nat} {x1 x2 : Int32} {v : Nat} {σ : Mem} {V : Nat → Int32} (a : cRdy V σ) (hv : x1.toInt = (v : Int)) (hv8 : v < 8) : ∀ (N k i : Nat) (x4 : Int32), x4.toInt = (i : Int) → i + k = 1000 → pc (lp_X3_lost_45 F x1 x2 N x4 σ) (fun r _ => r = anLost1 V x2 v k x4) := by
  intro N
  induction N with
  | zero => intro k i x4 h1 h2; exact pc_none rfl
  | succ N ih =>
    intro k i x4 h1 h2
    rw [lp_X3_lost_45_s]
    refine pc_ite (fun c => ?_) (fun c => pc_bnd (qx_hold a hv hv8) (fun r s q => ?_))
    · have d := ti_lt c
      rw [tz_999'] at d
      rw [show k = 0 by omega]
      exact pc_ret rfl
    · have d := ti_nlt c
      rw [tz_999'] at d
      obtain ⟨k', rfl⟩ : ∃ k', k = k' + 1 := ⟨k - 1, by omega⟩
      rw [q.2, q.1]
      refine pc_ite (fun e => pc_mono (ih k' (i + 1) _ (ti_nx h1 (by omega)) (by omega)) (fun r s w => ?_)) (fun e => pc_ret ?_)
      · show r = if aHold V x4 v = x2 then _ else x4
        rw [if_pos e]; exact w
      · show x4 = if aHold V x4 v = x2 then _ else x4
        rw [if_neg e]
theorem qx_lost {F : Nat} {x1 : Int32} {σ : Mem} {V : Nat → Int32} (h : vH 1 V σ) : pc (f_X3_lost F x1 σ) (fun r _ => r = anLost V x1) := by
  rw [f_X3_lost_e]
  refine pc_be ax_isView ?_
  unfold anLost
  by_cases c : 0 ≤ x1.toInt ∧ x1.toInt ≤ 7
  · rw [if_pos c, if_neg (by decide), cB_t c, cF_z]
    have n1 := ti_nat x1
    refine pc_bnd (qx_reckon h) (fun _ s q => pc_bnd (qx_hold q (v := x1.toNatClampNeg) (by omega) (by omega)) (fun r z w => ?_))
    rw [w.1, w.2]
    refine pc_ite (fun e => pc_bnd ax_refuse (fun r y u => pc_ret ?_)) (fun e => ?_)
    · rw [u.1, if_pos e]
    · rw [if_neg e]
      exact qx_lost_45 q (by omega) (by omega) F 999 1 1 rfl rfl
  · rw [if_neg c, if_pos rfl, cB_f c]
    exact pc_bnd ax_refuse (fun r y u => pc_ret (by rw [u.1, cF_n (by decide)]))
theorem qm_lost_42 {F : Nat} {x1 x2 : Int32} {v : Nat} {V : Nat → Int32} (hv : x1.toInt = (v : Int)) (hv8 : v < 8) : ∀ (N k i : Nat) (x4 : Int32) (s : Mem), mRdy V s → x4.toInt = (i : Int) → i + k = 1000 → pc (lp_X4_lost_42 F x1 x2 N x4 s) (fun r _ => r = anLost1 V x2 v k x4) := by
  intro N
  induction N with
  | zero => intro k i x4 s a h1 h2; exact pc_none rfl
  | succ N ih =>
    intro k i x4 s a h1 h2
    rw [lp_X4_lost_42_s]
    refine pc_ite (fun c => ?_) (fun c => ?_)
    · have d := ti_lt c
      rw [tz_999'] at d
      rw [show k = 0 by omega]
      exact pc_ret rfl
    · have d := ti_nlt c
      rw [tz_999'] at d
      obtain ⟨k', rfl⟩ : ∃ k', k = k' + 1 := ⟨k - 1, by omega⟩
      refine pc_bnd (qm_own ⟨by omega, by omega⟩ hv hv8 a) (fun r s q => ?_)
      rw [q.1]
      refine pc_ite (fun e => pc_mono (ih k' (i + 1) _ _ q.2 (ti_nx h1 (by omega)) (by omega)) (fun r s w => ?_)) (fun e => pc_ret ?_)
      · show r = if aHold V x4 v = x2 then _ else x4
        rw [if_pos e]; exact w
      · show x4 = if aHold V x4 v = x2 then _ else x4
        rw [if_neg e]
theorem qm_lost {F : Nat} {x1 : Int32} {s : Mem} {V : Nat → Int32} (h : vM V s) : pc (f_X4_lost F x1 s) (fun r _ => r = anLost V x1) := by
  rw [f_X4_lost_e]
  refine pc_lt (fun s3 h3 => ?_)
  have h' : vM V s3 := vM_up h h3
  clear h3
  refine pc_be mx_isView ?_
  unfold anLost
  by_cases c : 0 ≤ x1.toInt ∧ x1.toInt ≤ 7
  · rw [if_pos c, if_neg (by decide), cB_t c, cF_z]
    have n1 := ti_nat x1
    refine pc_bnd (qm_lay h') (fun _ z q => pc_bnd (qm_own (x2 := 0) (by decide) (v := x1.toNatClampNeg) (by omega) (by omega) q) (fun r y w => ?_))
    rw [w.1]
    have h0 := aHold_0 h.1 (x := 0) (by decide) (v := x1.toNatClampNeg) (by omega)
    refine pc_ite (fun e => ?_) (fun e => mq_ref ?_)
    · rw [if_neg (h0.mp e)]
      exact qm_lost_42 (by omega) (by omega) F 999 1 1 y w.2 rfl rfl
    · rw [if_pos (Classical.byContradiction (fun n => e (h0.mpr n)))]
  · rw [if_neg c, if_pos rfl, cB_f c]
    exact mq_ref (cF_n (by decide))
/-! counts -/
def anCounts (V : Nat → Int32) (x1 x2 x3 : Int32) : Int32 := cF (cF (cF (cB (0 ≤ x1.toInt ∧ x1.toInt < (V 1).toInt)) (cB (0 ≤ x2.toInt ∧ x2.toInt ≤ 7))) (cO x3 2)) (if x3 = 0 then V (148 + 8 * x1.toNatClampNeg + x2.toNatClampNeg) else aGain V x1.toNatClampNeg x2.toNatClampNeg 24)
theorem qx_counts {F : Nat} {x1 x2 x3 : Int32} {σ : Mem} {V : Nat → Int32} (h : vH 1 V σ) : pc (f_X3_counts F x1 x2 x3 σ) (fun r _ => r = anCounts V x1 x2 x3) := by
  rw [f_X3_counts_e]
  refine pc_be (ax_noLooker (by rw [vH_2 h]; exact h.1.2.1.2)) (pc_be ax_noView (pc_be ax_firstOf (pc_be ax_notBelow (pc_be ax_firstOf ?_))))
  rw [vH_2 h]
  unfold anCounts
  refine cq_end (fun e => pc_bnd (qx_reckon h) (fun _ s q => ?_))
  have d1 := cB_0 (cF_0 (cF_0 e).1).1
  have d2 := cB_0 (cF_0 (cF_0 e).1).2
  have n1 := ti_nat x1
  have n2 := ti_nat x2
  refine pc_ite (fun c => pc_chk (fun _ => pc_chk (fun _ => pc_ret ?_))) (fun c => pc_chk (fun _ => pc_chk (fun _ => pc_ret ?_)))
  · rw [if_pos c]; exact vH_n q.1 (by omega) (by omega)
  · rw [if_neg c]; exact q.2 _ (by omega) _ (by omega)
theorem qm_counts {F : Nat} {x1 x2 x3 : Int32} {s : Mem} {V : Nat → Int32} (h : vM V s) : pc (f_X4_counts F x1 x2 x3 s) (fun r _ => r = anCounts V x1 x2 x3) := by
  rw [f_X4_counts_e]
  refine pc_lt (fun s6 h6 => ?_)
  have h' : vM V s6 := vM_up h h6
  clear h6
  simp only [j_X4_counts_29_e, j_X4_counts_30_e]
  refine pc_be (mx_isLooker (by rw [vM_L h']; exact h.1.2.1.1)) ?_
  rw [vM_L h']
  unfold anCounts
  have h5 := h.1.2.1.2
  by_cases c : 0 ≤ x1.toInt ∧ x1.toInt < (V 1).toInt
  · rw [if_pos c, if_neg (by decide), cB_t c, cF_z]
    refine pc_be mx_isView ?_
    by_cases c2 : 0 ≤ x2.toInt ∧ x2.toInt ≤ 7
    · rw [if_pos c2, if_neg (by decide), cB_t c2, cF_z]
      have n1 := ti_nat x1
      have n2 := ti_nat x2
      refine pc_be mx_wrongBit ?_
      rw [cF_z]
      refine mq_end sg_cO (fun e => pc_ite (fun c3 => pc_chk (fun _ => pc_ret ?_)) (fun c3 => pc_bnd (mx_bringsOf h' (l := x1.toNatClampNeg) (v := x2.toNatClampNeg) (by omega) (by omega) (by omega) (by omega)) (fun r z q => pc_ret ?_)))
      · rw [if_pos c3, tn_8 (l := x1.toNatClampNeg) (k := x2.toNatClampNeg) (by omega) (by omega) (by omega) (by omega), vM_107 h' (by omega), show 148 + (8 * x1.toNatClampNeg + x2.toNatClampNeg) = 148 + 8 * x1.toNatClampNeg + x2.toNatClampNeg by omega]
      · rw [if_neg c3]; exact q.1
    · rw [if_neg c2, if_pos rfl, cB_f c2, cF_n (a := -1) (by decide)]
      exact mq_end (Or.inr (by decide)) (fun q => absurd q (by decide))
  · rw [if_neg c, if_pos rfl, cB_f c, cF_n (a := -1) (by decide), cF_n (a := -1) (by decide)]
    exact mq_end (Or.inr (by decide)) (fun q => absurd q (by decide))
end
section
/-! views as bits: who holds which -/
def orB (b : Nat → Bool) : Nat → Int32
  | 0 => 0
  | v + 1 => orB b v ||| (if b v = true then (1 : Int32) <<< (Int32.ofNat v &&& 31) else 0)
theorem orB_cg {a b : Nat → Bool} : ∀ n, (∀ v, v < n → a v = b v) → orB a n = orB b n := fun n => by
  induction n with
  | zero => intro _; rfl
  | succ n ih => intro h; show orB a n ||| _ = orB b n ||| _; rw [ih (fun v hv => h v (by omega)), h n (by omega)]
def fB (b0 b1 b2 b3 b4 b5 b6 b7 : Bool) (v : Nat) : Bool := if v = 0 then b0 else if v = 1 then b1 else if v = 2 then b2 else if v = 3 then b3 else if v = 4 then b4 else if v = 5 then b5 else if v = 6 then b6 else b7
theorem fB_of (b : Nat → Bool) : ∀ v, v < 8 → b v = fB (b 0) (b 1) (b 2) (b 3) (b 4) (b 5) (b 6) (b 7) v := fun v hv => by
  rcases (show v = 0 ∨ v = 1 ∨ v = 2 ∨ v = 3 ∨ v = 4 ∨ v = 5 ∨ v = 6 ∨ v = 7 by omega) with rfl | rfl | rfl | rfl | rfl | rfl | rfl | rfl <;> rfl
theorem orB_bit0 : ∀ b0 b1 b2 b3 b4 b5 b6 b7 : Bool, ∀ v, v < 8 → (((orB (fB b0 b1 b2 b3 b4 b5 b6 b7) 8 >>> (Int32.ofNat v &&& 31)) &&& (1 : Int32) = 1) ↔ fB b0 b1 b2 b3 b4 b5 b6 b7 v = true) := by decide +kernel
theorem orB_bit (b : Nat → Bool) {v : Nat} (hv : v < 8) : (orB b 8 >>> (Int32.ofNat v &&& 31)) &&& (1 : Int32) = 1 ↔ b v = true := by
  rw [orB_cg 8 (fB_of b), fB_of b v hv]
  exact orB_bit0 _ _ _ _ _ _ _ _ v hv
theorem orB_sub0 : ∀ b0 b1 b2 b3 b4 b5 b6 b7 : Bool, (255 : Int32) - ((255 : Int32) - orB (fB b0 b1 b2 b3 b4 b5 b6 b7) 8) = orB (fB b0 b1 b2 b3 b4 b5 b6 b7) 8 := by decide +kernel
theorem orB_sub (b : Nat → Bool) : (255 : Int32) - ((255 : Int32) - orB b 8) = orB b 8 := by
  rw [orB_cg 8 (fB_of b)]
  exact orB_sub0 _ _ _ _ _ _ _ _
/-- the views that `who` holds after n days -/
def aBits (V : Nat → Int32) (who n : Int32) : Nat → Int32 := orB (fun v => decide (aHold V n v = who))
theorem aBits_t {V : Nat → Int32} {who n : Int32} {v : Nat} (h : aHold V n v = who) : aBits V who n (v + 1) = aBits V who n v ||| (1 : Int32) <<< (Int32.ofNat v &&& 31) := by
  show orB _ v ||| (if decide (aHold V n v = who) = true then _ else _) = _
  rw [if_pos (decide_eq_true h)]
  rfl
theorem aBits_f {V : Nat → Int32} {who n : Int32} {v : Nat} (h : ¬ aHold V n v = who) : aBits V who n (v + 1) = aBits V who n v := by
  show orB _ v ||| (if decide (aHold V n v = who) = true then _ else _) = _
  rw [if_neg (by rw [decide_eq_true_eq]; exact h), Int32.or_zero]
  rfl
/-- and what they are worth -/
def aWealth (V : Nat → Int32) (who n : Int32) : Nat → Int32
  | 0 => 0
  | v + 1 => aWealth V who n v + (if aHold V n v = who then V (4 + v) else 0)
theorem qx_holdings {F h : Nat} {x1 x2 : Int32} {σ : Mem} {V : Nat → Int32} (a : vH h V σ ∧ vG h V σ) : pc (f_X0_holdings F h x1 x2 σ) (fun r s => r = aBits V x1 x2 8 ∧ s = σ) := by
  have key : ∀ (N v : Nat) (x3 x4 : Int32), x4.toInt = (v : Int) → v ≤ 8 → x3 = aBits V x1 x2 v → pc (lp_X0_holdings_5 F h x1 x2 N x3 x4 σ) (fun r s => r = aBits V x1 x2 8 ∧ s = σ) := by
    intro N
    induction N with
    | zero => intro v x3 x4 h1 h2 h3; exact pc_none rfl
    | succ N ih =>
      intro v x3 x4 h1 h2 h3
      rw [lp_X0_holdings_5_s]
      simp only [j_X0_holdings_30_e]
      refine pc_ite (fun c => ?_) (fun c => ?_)
      · have d := ti_le c
        rw [tz_8] at d
        exact pc_ret ⟨by rw [h3, show v = 8 by omega], rfl⟩
      have d := ti_nle c
      rw [tz_8] at d
      refine pc_bnd (qx_holder a.1 a.2 h1 (by omega)) (fun r s q => ?_)
      rw [q.2, q.1]
      refine pc_ite (fun e => pc_lt (fun z3 hz => ih (v + 1) _ _ (ti_nx h1 (by omega)) (by omega) ?_)) (fun e => ih (v + 1) _ _ (ti_nx h1 (by omega)) (by omega) ?_)
      · rw [hz, aBits_t e, h3, io_eq h1 (by omega)]
      · rw [aBits_f e, h3]
  rw [f_X0_holdings_e]
  exact key F 0 0 0 rfl (by omega) rfl
theorem qx_wealth {F h : Nat} {x1 x2 : Int32} {σ : Mem} {V : Nat → Int32} (a : vH h V σ ∧ vG h V σ) : pc (f_X0_wealth F h x1 x2 σ) (fun r s => r = aWealth V x1 x2 8 ∧ s = σ) := by
  have key : ∀ (N v : Nat) (x3 x4 : Int32), x4.toInt = (v : Int) → v ≤ 8 → x3 = aWealth V x1 x2 v → pc (lp_X0_wealth_5 F h x1 x2 N x3 x4 σ) (fun r s => r = aWealth V x1 x2 8 ∧ s = σ) := by
    intro N
    induction N with
    | zero => intro v x3 x4 h1 h2 h3; exact pc_none rfl
    | succ N ih =>
      intro v x3 x4 h1 h2 h3
      rw [lp_X0_wealth_5_s]
      simp only [j_X0_wealth_33_e]
      refine pc_ite (fun c => ?_) (fun c => ?_)
      · have d := ti_le c
        rw [tz_8] at d
        exact pc_ret ⟨by rw [h3, show v = 8 by omega], rfl⟩
      have d := ti_nle c
      rw [tz_8] at d
      refine pc_bnd (qx_holder a.1 a.2 h1 (by omega)) (fun r s q => ?_)
      rw [q.2, q.1]
      have hs : aWealth V x1 x2 (v + 1) = aWealth V x1 x2 v + (if aHold V x2 v = x1 then V (4 + v) else 0) := rfl
      refine pc_ite (fun e => pc_chk (fun _ => pc_lt (fun z4 hz => ih (v + 1) _ _ (ti_nx h1 (by omega)) (by omega) ?_))) (fun e => ih (v + 1) _ _ (ti_nx h1 (by omega)) (by omega) ?_)
      · rw [hz, hs, if_pos e, h3, tn_int h1, vH_w a.1 (by omega)]
      · rw [hs, if_neg e, h3, Int32.add_zero]
  rw [f_X0_wealth_e]
  exact key F 0 0 0 rfl (by omega) rfl
theorem qm_viewsIn {F : Nat} {x1 x2 : Int32} (hx : 0 ≤ x2.toInt ∧ x2.toInt ≤ 9999) {s : Mem} {V : Nat → Int32} (h : mRdy V s) : pc (f_X4_viewsIn F x1 x2 s) (fun r z => r = aBits V x1 x2 8 ∧ mRdy V z) := by
  have key : ∀ (N v : Nat) (x3 x4 : Int32) (s : Mem), mRdy V s → x4.toInt = (v : Int) → v ≤ 8 → x3 = aBits V x1 x2 v → pc (lp_X4_viewsIn_5 F x1 x2 N x3 x4 s) (fun r z => r = aBits V x1 x2 8 ∧ mRdy V z) := by
    intro N
    induction N with
    | zero => intro v x3 x4 s h h1 h2 h3; exact pc_none rfl
    | succ N ih =>
      intro v x3 x4 s h h1 h2 h3
      rw [lp_X4_viewsIn_5_s]
      simp only [j_X4_viewsIn_32_e]
      refine pc_ite (fun c => ?_) (fun c => ?_)
      · have d := ti_le c
        rw [tz_8] at d
        exact pc_ret ⟨by rw [h3, show v = 8 by omega], h⟩
      have d := ti_nle c
      rw [tz_8] at d
      refine pc_bnd (qm_own hx h1 (by omega) h) (fun r s q => ?_)
      rw [q.1]
      refine pc_ite (fun e => ih (v + 1) _ _ _ q.2 (ti_nx h1 (by omega)) (by omega) ?_) (fun e => ih (v + 1) _ _ _ q.2 (ti_nx h1 (by omega)) (by omega) ?_)
      · rw [aBits_t e, h3, io_eq h1 (by omega)]
      · rw [aBits_f e, h3, Int32.or_zero]
  rw [f_X4_viewsIn_e]
  exact key F 0 0 0 s h rfl (by omega) rfl
theorem qm_worthBy {F : Nat} {x1 n : Int32} {who : Int32} {s : Mem} {V : Nat → Int32} (h : mRdy V s) (hb : x1 = aBits V who n 8) : pc (f_X4_worthBy F x1 s) (fun r z => r = aWealth V who n 8 ∧ mRdy V z) := by
  have key : ∀ (N v : Nat) (x2 x3 : Int32), x3.toInt = (v : Int) → v ≤ 8 → x2 = aWealth V who n v → pc (lp_X4_worthBy_4 F x1 N x2 x3 s) (fun r z => r = aWealth V who n 8 ∧ mRdy V z) := by
    intro N
    induction N with
    | zero => intro v x2 x3 h1 h2 h3; exact pc_none rfl
    | succ N ih =>
      intro v x2 x3 h1 h2 h3
      rw [lp_X4_worthBy_4_s]
      simp only [j_X4_worthBy_29_e]
      refine pc_ite (fun c => ?_) (fun c => ?_)
      · have d := ti_le c
        rw [tz_8] at d
        exact pc_ret ⟨by rw [h3, show v = 8 by omega], h⟩
      have d := ti_nle c
      rw [tz_8] at d
      have ev := io_eq h1 (by omega)
      have bit := orB_bit (fun v => decide (aHold V n v = who)) (v := v) (by omega)
      rw [decide_eq_true_eq] at bit
      have bit' : (x1 >>> (x3 &&& 31)) &&& (1 : Int32) = 1 ↔ aHold V n v = who := by rw [hb, ev]; exact bit
      have hs : aWealth V who n (v + 1) = aWealth V who n v + (if aHold V n v = who then V (4 + v) else 0) := rfl
      rw [f_X4_hasBit_e]
      by_cases e : aHold V n v = who
      · rw [if_pos (bit'.mpr e)]
        refine pc_be rfl ?_
        rw [if_neg (by decide)]
        refine pc_chk (fun _ => ih (v + 1) _ _ (ti_nx h1 (by omega)) (by omega) ?_)
        rw [hs, if_pos e, h3, tn_int h1, vM_102 h.1 (by omega)]
      · rw [if_neg (fun q => e (bit'.mp q))]
        refine pc_be rfl ?_
        rw [if_pos rfl]
        refine ih (v + 1) _ _ (ti_nx h1 (by omega)) (by omega) ?_
        rw [hs, if_neg e, h3]
  rw [f_X4_worthBy_e]
  exact key F 0 0 0 rfl (by omega) rfl
theorem qm_worthIn {F : Nat} {x1 x2 : Int32} (hx : 0 ≤ x2.toInt ∧ x2.toInt ≤ 9999) {s : Mem} {V : Nat → Int32} (h : mRdy V s) : pc (f_X4_worthIn F x1 x2 s) (fun r z => r = aWealth V x1 x2 8 ∧ mRdy V z) := by
  rw [f_X4_worthIn_e]
  exact pc_bnd (qm_viewsIn hx h) (fun r s q => pc_bnd (qm_worthBy q.2 q.1) (fun r z w => pc_ret w))
/-! owns -/
def anOwns (V : Nat → Int32) (x1 x2 x3 : Int32) : Int32 := cF (cF (cF (cB (0 ≤ x1.toInt ∧ x1.toInt < (V 1).toInt)) (cN x2 0 999)) (cO x3 2)) (if x3 = 0 then aBits V x1 x2 8 else aWealth V x1 x2 8)
theorem qx_owns {F : Nat} {x1 x2 x3 : Int32} {σ : Mem} {V : Nat → Int32} (h : vH 1 V σ) : pc (f_X3_owns F x1 x2 x3 σ) (fun r _ => r = anOwns V x1 x2 x3) := by
  rw [f_X3_owns_e, f_X3_noLookerFar_e]
  refine pc_be (by rw [wt_bnd_eq (ax_noLooker (by rw [vH_2 h]; exact h.1.2.1.2)), wt_bnd_eq ax_outside, wt_bnd_eq ax_firstOf]) (pc_be ax_notBelow (pc_be ax_firstOf ?_))
  rw [vH_2 h]
  unfold anOwns
  refine cq_end (fun e => pc_bnd (qx_reckon h) (fun _ s q => ?_))
  refine pc_ite (fun c => pc_bnd (qx_holdings q) (fun r z w => pc_ret ?_)) (fun c => pc_bnd (qx_wealth q) (fun r z w => pc_ret ?_))
  · rw [if_pos c]; exact w.1
  · rw [if_neg c]; exact w.1
theorem qm_owns {F : Nat} {x1 x2 x3 : Int32} {s : Mem} {V : Nat → Int32} (h : vM V s) : pc (f_X4_owns F x1 x2 x3 s) (fun r _ => r = anOwns V x1 x2 x3) := by
  rw [f_X4_owns_e]
  refine pc_lt (fun s6 h6 => ?_)
  have h' : vM V s6 := vM_up h h6
  clear h6
  simp only [j_X4_owns_25_e]
  refine pc_be (mx_isLooker (by rw [vM_L h']; exact h.1.2.1.1)) ?_
  rw [vM_L h']
  unfold anOwns
  by_cases c : 0 ≤ x1.toInt ∧ x1.toInt < (V 1).toInt
  · rw [if_pos c, if_neg (by decide), cB_t c, cF_z]
    refine pc_be mx_wrongN (pc_be mx_wrongBit ?_)
    refine mq_end (sg_cF sg_cN sg_cO) (fun e => pc_bnd (qm_lay h') (fun _ z q => ?_))
    have d2 := cN_0 (cF_0 e).1
    rw [tz_0, tz_999'] at d2
    refine pc_ite (fun c => pc_bnd (qm_viewsIn ⟨d2.1, by omega⟩ q) (fun r y w => pc_ret ?_)) (fun c => pc_bnd (qm_worthIn ⟨d2.1, by omega⟩ q) (fun r y w => pc_ret ?_))
    · rw [if_pos c]; exact w.1
    · rw [if_neg c]; exact w.1
  · rw [if_neg c, if_pos rfl, cB_f c, cF_n (a := -1) (by decide)]
    refine pc_be mx_wrongBit ?_
    rw [cF_n (a := -1) (by decide)]
    exact mq_end (Or.inr (by decide)) (fun q => absurd q (by decide))
/-! nobodys -/
def anNobodys (V : Nat → Int32) (x1 : Int32) : Int32 := cF (cN x1 0 999) (aBits V (-9) x1 8)
theorem qx_nobodys {F : Nat} {x1 : Int32} {σ : Mem} {V : Nat → Int32} (h : vH 1 V σ) : pc (f_X3_nobodys F x1 σ) (fun r _ => r = anNobodys V x1) := by
  rw [f_X3_nobodys_e]
  refine pc_be ax_outside ?_
  unfold anNobodys
  refine cq_end (fun e => pc_bnd (qx_reckon h) (fun _ s q => ?_))
  rw [f_X0_held_e]
  refine pc_bnd (P := fun r z => r = 255 - aBits V (-9) x1 8) (pc_bnd (qx_holdings q) (fun r z w => pc_ret (by rw [w.1]))) (fun r z w => pc_ret ?_)
  rw [w]
  exact orB_sub _
theorem qm_nobodys {F : Nat} {x1 : Int32} {s : Mem} {V : Nat → Int32} (h : vM V s) : pc (f_X4_nobodys F x1 s) (fun r _ => r = anNobodys V x1) := by
  rw [f_X4_nobodys_e]
  refine pc_lt (fun s6 h6 => ?_)
  have h' : vM V s6 := vM_up h h6
  clear h6
  refine pc_be mx_wrongN ?_
  unfold anNobodys
  rw [wt_bnd_eq mx_wrongN]
  refine mq_end sg_cN (fun e => pc_bnd (qm_lay h') (fun _ z q => ?_))
  have d2 := cN_0 e
  rw [tz_0, tz_999'] at d2
  exact pc_bnd (qm_viewsIn ⟨d2.1, by omega⟩ q) (fun r y w => pc_ret w.1)
/-! lookerOf -/
theorem aHours_l {A B : Nat → Int32} {l : Nat} : ∀ t, t ≤ 24 → (∀ t, t < 24 → A (28 + 24 * l + t) = B (28 + 24 * l + t)) → aHours A l t = aHours B l t := fun t => by
  induction t with
  | zero => intro _ _; rfl
  | succ t ih => intro ht h; show aHours A l t + _ = aHours B l t + _; rw [ih (by omega) h, h t (by omega)]
def anLookerOf (V : Nat → Int32) (x1 x2 : Int32) : Int32 := cF (cF (cB (0 ≤ x1.toInt ∧ x1.toInt < (V 1).toInt)) (cO x2 4)) (if x2 = 0 then V (18 + 2 * x1.toNatClampNeg) else if x2 = 1 then V (19 + 2 * x1.toNatClampNeg) else if x2 = 2 then aHours V x1.toNatClampNeg 24 else aBits V x1 0 8)
theorem qx_lookerOf {F : Nat} {x1 x2 : Int32} {σ : Mem} {V : Nat → Int32} (h : vH 1 V σ) : pc (f_X3_lookerOf F x1 x2 σ) (fun r _ => r = anLookerOf V x1 x2) := by
  have h5 := h.1.2.1.2
  rw [f_X3_lookerOf_e]
  refine pc_be (ax_noLooker (by rw [vH_2 h]; exact h5)) (pc_be ax_notBelow (pc_be ax_firstOf ?_))
  rw [vH_2 h]
  unfold anLookerOf
  refine cq_end (fun e => ?_)
  have d1 := cB_0 (cF_0 e).1
  have n1 := ti_nat x1
  have hl : x1.toInt = (x1.toNatClampNeg : Int) := by omega
  refine pc_ite (fun c => pc_chk (fun w => pc_ret ?_)) (fun c => ?_)
  · rw [if_pos c]; exact vH_k2 h w.2.2
  rw [if_neg c]
  refine pc_ite (fun c => pc_chk (fun w => pc_ret ?_)) (fun c => ?_)
  · rw [if_pos c]; exact vH_k3 h w.2.2
  rw [if_neg c]
  refine pc_ite (fun c => ?_) (fun c => ?_)
  · rw [if_pos c]
    have ec : ∀ t, t < 24 → wvX 1 σ (28 + 24 * x1.toNatClampNeg + t) = V (28 + 24 * x1.toNatClampNeg + t) := fun t ht => h.2 _ (by omega) (live_c (by omega) ht h5)
    refine pc_bnd (ax_hoursOf hl (by omega) (fun t ht => ?_)) (fun r z w => pc_ret ?_)
    · rw [ec t ht]
      exact (vV_c h.1 (by omega) ht).imp id (fun q => q.1)
    · rw [w.1]
      exact aHours_l 24 (by omega) ec
  · rw [if_neg c]
    exact pc_bnd (qx_reckon h) (fun _ s q => pc_bnd (qx_holdings q) (fun r z w => pc_ret w.1))
theorem qm_lookerOf {F : Nat} {x1 x2 : Int32} {s : Mem} {V : Nat → Int32} (h : vM V s) : pc (f_X4_lookerOf F x1 x2 s) (fun r _ => r = anLookerOf V x1 x2) := by
  rw [f_X4_lookerOf_e]
  refine pc_lt (fun s6 h6 => ?_)
  have h' : vM V s6 := vM_up h h6
  clear h6
  have h5 := h.1.2.1.2
  have hL : f_X4_isLooker F x1 s6 = some (if 0 ≤ x1.toInt ∧ x1.toInt < (V 1).toInt then 1 else 0, s6) := by
    rw [mx_isLooker (by rw [vM_L h']; exact h.1.2.1.1), vM_L h']
  simp only [j_X4_lookerOf_25_e, j_X4_lookerOf_40_e]
  refine pc_be hL ?_
  unfold anLookerOf
  by_cases c : 0 ≤ x1.toInt ∧ x1.toInt < (V 1).toInt
  · rw [if_pos c, if_neg (by decide), cB_t c, cF_z]
    have n1 := ti_nat x1
    refine pc_be (mx_in32 (lo := 0) (hi := 3) rfl rfl) ?_
    by_cases c2 : 0 ≤ x2.toInt ∧ x2.toInt ≤ 3
    · have hO : cO x2 4 = 0 := if_pos ⟨c2.1, by rw [tz_4]; omega⟩
      rw [if_pos c2, if_neg (by decide), hO, cF_z]
      refine pc_bnd (qm_lay h') (fun _ z q => ?_)
      refine pc_ite (fun c => pc_chk (fun w => pc_ret ?_)) (fun c => ?_)
      · rw [if_pos c]; exact vM_104 q.1 w.2.2
      rw [if_neg c]
      refine pc_ite (fun c => pc_chk (fun w => pc_ret ?_)) (fun c => ?_)
      · rw [if_pos c]; exact vM_105 q.1 w.2.2
      rw [if_neg c]
      refine pc_ite (fun c => ?_) (fun c => ?_)
      · rw [if_pos c]
        refine pc_bnd (mx_hoursOf (l := x1.toNatClampNeg) (by omega) (by omega)) (fun r y w => pc_ret ?_)
        rw [w.1]
        exact aHours_l 24 (by omega) (fun t ht => q.1.2 _ (by omega))
      · rw [if_neg c]
        exact pc_bnd (qm_viewsIn (x2 := 0) (by decide) q) (fun r y w => pc_ret w.1)
    · have hO : cO x2 4 = -2 := if_neg (fun q => c2 ⟨q.1, by have := q.2; rw [tz_4] at this; omega⟩)
      rw [if_neg c2, if_pos rfl, hO]
      refine pc_be hL ?_
      rw [if_pos c, if_neg (by decide)]
      exact mq_ref (cF_n (by decide))
  · rw [if_neg c, if_pos rfl, cB_f c]
    refine pc_be hL ?_
    rw [if_neg c, if_pos rfl]
    exact mq_ref (by rw [cF_n (a := -1) (by decide), cF_n (by decide)])
end
