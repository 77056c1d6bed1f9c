/-! the reference's questions leave its house as it was -/
def VE (A : Nat → Int32) (m : Mem) : Prop := ∀ p, p < 188 → wvM m p = A p
def VN (q : Nat) (A : Nat → Int32) (m : Mem) : Prop := ∀ p, p < 188 → ¬ p = q → wvM m p = A p
def VN2 (q r : Nat) (A : Nat → Int32) (m : Mem) : Prop := ∀ p, p < 188 → ¬ p = q → ¬ p = r → wvM m p = A p
def VK (A : Nat → Int32) (m : Mem) : Prop := ∀ p, p < 188 → m 115 p = A p
def cM2 (c : Nat) : Prop := (102 ≤ c ∧ c ≤ 107) ∨ c = 1001 ∨ c = 1003 ∨ c = 1008 ∨ c = 1009
theorem VE_fr {A : Nat → Int32} {W : Nat → Prop} {s z : Mem} (h : VE A s) (f : fr W s z) (hW : ∀ c, cM2 c → ¬ W c) : VE A z := fun p hp => by rw [wvM_fr f hW hp]; exact h p hp
theorem VN_fr {q : Nat} {A : Nat → Int32} {W : Nat → Prop} {s z : Mem} (h : VN q A s) (f : fr W s z) (hW : ∀ c, cM2 c → ¬ W c) : VN q A z := fun p hp n => by rw [wvM_fr f hW hp]; exact h p hp n
theorem VN2_fr {q r : Nat} {A : Nat → Int32} {W : Nat → Prop} {s z : Mem} (h : VN2 q r A s) (f : fr W s z) (hW : ∀ c, cM2 c → ¬ W c) : VN2 q r A z := fun p hp n n2 => by rw [wvM_fr f hW hp]; exact h p hp n n2
theorem VK_fr {A : Nat → Int32} {W : Nat → Prop} {s z : Mem} (h : VK A s) (f : fr W s z) (hW : ¬ W 115) : VK A z := fun p hp => by rw [f 115 p (by rw [show wcid 115 p = 115 from rfl]; exact hW)]; exact h p hp
theorem VK_up {A : Nat → Int32} {s : Mem} (h : VK A s) {k i : Nat} {x : Int32} (hk : ¬ k = 115) : VK A (up2 s k i x) := fun p hp => by rw [up2_k (fun e => hk e.symm)]; exact h p hp
theorem VE_up {A : Nat → Int32} {s : Mem} (h : VE A s) {k i : Nat} {x : Int32} (hk : ¬ (102 ≤ k ∧ k ≤ 107)) (hi : ¬ (k = 101 ∧ (i = 1 ∨ i = 3 ∨ i = 8 ∨ i = 9))) : VE A (up2 s k i x) := fun p hp => by rw [wvM_no hk hi hp]; exact h p hp
theorem VN2_up {q r : Nat} {A : Nat → Int32} {s : Mem} (h : VN2 q r A s) {k i : Nat} {x : Int32} (hk : ¬ (102 ≤ k ∧ k ≤ 107)) (hi : ¬ (k = 101 ∧ (i = 1 ∨ i = 3 ∨ i = 8 ∨ i = 9))) : VN2 q r A (up2 s k i x) := fun p hp n n2 => by rw [wvM_no hk hi hp]; exact h p hp n n2
theorem VE_N {q : Nat} {A : Nat → Int32} {s : Mem} (h : VE A s) : VN q A s := fun p hp _ => h p hp
theorem VN_put {q k i : Nat} {A : Nat → Int32} {s : Mem} {x : Int32} (h : VN q A s) (hq : q < 188) (hk : k = wtJ q) (hi : i = wtI q) : VN q A (up2 s k i x) := fun p hp n => by rw [wvM_at hq hk hi hp, wv_un n]; exact h p hp n
theorem VN_back {q k i : Nat} {A : Nat → Int32} {s : Mem} {x : Int32} (h : VN q A s) (hq : q < 188) (hk : k = wtJ q) (hi : i = wtI q) (hx : x = A q) : VE A (up2 s k i x) := fun p hp => by
  rw [wvM_at hq hk hi hp]
  by_cases e : p = q
  · subst e; rw [wv_us]; exact hx
  · rw [wv_un e]; exact h p hp e
theorem VN2_1 {q r k i : Nat} {A : Nat → Int32} {s : Mem} {x : Int32} (h : VN2 q r A s) (hq : q < 188) (hk : k = wtJ q) (hi : i = wtI q) : VN2 q r A (up2 s k i x) := fun p hp n n2 => by rw [wvM_at hq hk hi hp, wv_un n]; exact h p hp n n2
theorem VN2_2 {q r k i : Nat} {A : Nat → Int32} {s : Mem} {x : Int32} (h : VN2 q r A s) (hq : r < 188) (hk : k = wtJ r) (hi : i = wtI r) : VN2 q r A (up2 s k i x) := fun p hp n n2 => by rw [wvM_at hq hk hi hp, wv_un n2]; exact h p hp n n2
theorem VN2_b1 {q r k i : Nat} {A : Nat → Int32} {s : Mem} {x : Int32} (h : VN2 q r A s) (hq : q < 188) (hk : k = wtJ q) (hi : i = wtI q) (hx : x = A q) : VN r A (up2 s k i x) := fun p hp n => by
  rw [wvM_at hq hk hi hp]
  by_cases e : p = q
  · subst e; rw [wv_us]; exact hx
  · rw [wv_un e]; exact h p hp e n
theorem q106 {x : Int32} (v : 0 ≤ x.toInt ∧ x.toInt < (120 : Nat) ∧ x.toNatClampNeg < 120) : 28 + x.toNatClampNeg < 188 ∧ 106 = wtJ (28 + x.toNatClampNeg) ∧ x.toNatClampNeg = wtI (28 + x.toNatClampNeg) := by
  have hj := wtJI_106 _ v.2.2
  exact ⟨by have := v.2.2; omega, hj.1.symm, hj.2.symm⟩
theorem th_think {F : Nat} (hF : 1000 ≤ F) {σ : Mem} : pc (f_X4_think F σ) (fun _ z => VK (wvM σ) z) := by
  rw [f_X4_think_e]
  refine pc_bnd (sf_pc (wt_carryAll hF (Or.inr rfl) (by unfold wiK; omega))) (fun _ s4 w => pc_ret (fun p hp => (w.2.2.2.1 (by decide)).1 p hp))
theorem th_again {F : Nat} (hF : 1000 ≤ F) {A : Nat → Int32} {σ : Mem} (h : VK A σ) : pc (f_X4_again F σ) (fun _ z => VE A z) := by
  rw [f_X4_again_e]
  refine pc_bnd (sf_pc (wt_carryAll hF (Or.inl rfl) (by unfold wiK; omega))) (fun _ s4 w => pc_ret (fun p hp => ((w.2.2.2.2 rfl).1 p hp).trans (h p hp)))
theorem VE_ref {F : Nat} {x : Int32} {A : Nat → Int32} {σ : Mem} (h : VE A σ) : pc (wt_bnd (f_X4_refuse F x σ) fun r s => some (r, s)) (fun _ z => VE A z) := pc_bnd mx_refuse (fun r s q => pc_ret (fun p hp => by
  rw [← h p hp]
  unfold wvM
  rw [q.2 _ (by have := wtJ_101 p hp; omega)]))
theorem VE_th {A : Nat → Int32} {σ : Mem} (h : VE A σ) : VE A (up2 σ 101 10 0) := VE_up h (by omega) (by omega)
theorem rst_whichLaw {F : Nat} (hF : 1000 ≤ F) {σ : Mem} : pc (f_X4_whichLaw F σ) (fun _ z => VE (wvM σ) z) := by
  have loop : ∀ (N : Nat) (x1 x2 x3 : Int32) (m : Mem), VN 2 (wvM σ) m → x1 = wvM σ 2 → pc (lp_X4_whichLaw_30 F x1 N x2 x3 m) (fun _ z => VE (wvM σ) z) := by
    intro N
    induction N with
    | zero => intro x1 x2 x3 m _ _; exact pc_none rfl
    | succ N ih =>
      intro x1 x2 x3 m hm h1
      rw [lp_X4_whichLaw_30_s]
      simp only [j_X4_whichLaw_56_e]
      refine pc_ite (fun _ => pc_lt (fun s1 g => pc_ret ?_)) (fun _ => pc_lt (fun s2 g => pc_bnd (pc_pf (fr_X4_isRow hF)) (fun r s4 f => ?_)))
      · rw [g]; exact VN_back hm (by decide) rfl rfl h1
      · have h4 : VN 2 (wvM σ) s4 := VN_fr (by rw [g]; exact VN_put hm (by decide) rfl rfl) f (by intro c hc; unfold cM2 at hc; show ¬ _; unfold wf_48; first | exact id | omega)
        exact pc_ite (fun _ => ih _ _ _ _ h4 h1) (fun _ => ih _ _ _ _ h4 h1)
  have h0 : VE (wvM σ) σ := fun _ _ => rfl
  rw [f_X4_whichLaw_e]
  refine pc_lt (fun s5 g => ?_)
  have h5 : VE (wvM σ) s5 := by rw [g]; exact VE_th h0
  exact pc_ite (fun _ => loop F _ _ _ _ (VE_N h5) (h5 2 (by decide))) (fun _ => VE_ref h5)
theorem rst_bestLaw {F : Nat} (hF : 1000 ≤ F) {a b : Int32} {σ : Mem} : pc (f_X4_bestLaw F a b σ) (fun _ z => VE (wvM σ) z) := by
  have loop : ∀ (N : Nat) (x4 x5 x6 x7 : Int32) (m : Mem), VN 2 (wvM σ) m → x4 = wvM σ 2 → pc (lp_X4_bestLaw_55 F a b x4 N x5 x6 x7 m) (fun _ z => VE (wvM σ) z) := by
    intro N
    induction N with
    | zero => intro x4 x5 x6 x7 m _ _; exact pc_none rfl
    | succ N ih =>
      intro x4 x5 x6 x7 m hm h1
      rw [lp_X4_bestLaw_55_s]
      simp only [j_X4_bestLaw_89_e, j_X4_bestLaw_105_e]
      refine pc_ite (fun _ => pc_lt (fun s1 g => pc_ret ?_)) (fun _ => pc_lt (fun s2 g => pc_bnd (pc_pf (fr_X4_worthIn hF)) (fun r s4 f => ?_)))
      · rw [g]; exact VN_back hm (by decide) rfl rfl h1
      · have h4 : VN 2 (wvM σ) s4 := VN_fr (by rw [g]; exact VN_put hm (by decide) rfl rfl) f (by intro c hc; unfold cM2 at hc; show ¬ _; unfold wf_47; first | exact id | omega)
        exact pc_ite (fun _ => pc_ite (fun _ => ih _ _ _ _ _ h4 h1) (fun _ => ih _ _ _ _ _ h4 h1)) (fun _ => pc_ite (fun _ => ih _ _ _ _ _ h4 h1) (fun _ => ih _ _ _ _ _ h4 h1))
  have h0 : VE (wvM σ) σ := fun _ _ => rfl
  have J : ∀ (t : Int32) (m : Mem), VE (wvM σ) m → pc (j_X4_bestLaw_25 F a b t m) (fun _ z => VE (wvM σ) z) := fun t m hm => by
    rw [j_X4_bestLaw_25_e]
    refine pc_ite (fun _ => pc_bnd (pc_pf (fr_X4_layBrings hF)) (fun _ s6 f => ?_)) (fun _ => VE_ref hm)
    have h6 := VE_fr hm f (by intro c hc; unfold cM2 at hc; show ¬ _; unfold wf_46; first | exact id | omega)
    exact loop F _ _ _ _ _ (VE_N h6) (h6 2 (by decide))
  rw [f_X4_bestLaw_e]
  refine pc_lt (fun s5 g => ?_)
  have h5 : VE (wvM σ) s5 := by rw [g]; exact VE_th h0
  refine pc_bnd (pc_pf (fr_X4_isLooker hF)) (fun r s f => ?_)
  have h6 := VE_fr h5 f (by intro c hc; unfold cM2 at hc; show ¬ _; unfold wf_1; first | exact id | omega)
  refine pc_ite (fun _ => J _ _ h6) (fun _ => pc_bnd (pc_pf (fr_X4_wrongNumber hF)) (fun r s f => J _ _ (VE_fr h6 f (by intro c hc; unfold cM2 at hc; show ¬ _; unfold wf_1; first | exact id | omega))))
theorem rst_bestPane {F : Nat} (hF : 1000 ≤ F) {x1 x2 x3 x4 : Int32} {σ : Mem} : pc (f_X4_bestPane F x1 x2 x3 x4 σ) (fun _ z => VE (wvM σ) z) := by
  have loop : ∀ (N : Nat) (x6 x7 x8 x9 : Int32) (m : Mem), VN (28 + ((24 : Int32) * x1 + x2).toNatClampNeg) (wvM σ) m → x6 = wvM σ (28 + ((24 : Int32) * x1 + x2).toNatClampNeg) → pc (lp_X4_bestPane_74 F x1 x2 x3 x4 x6 N x7 x8 x9 m) (fun _ z => VE (wvM σ) z) := by
    intro N
    induction N with
    | zero => intro x6 x7 x8 x9 m _ _; exact pc_none rfl
    | succ N ih =>
      intro x6 x7 x8 x9 m hm h1
      rw [lp_X4_bestPane_74_s]
      simp only [j_X4_bestPane_109_e, j_X4_bestPane_146_e, j_X4_bestPane_162_e]
      have body : ∀ v : Int32, pc (wt_chk ((24 : Int32) * x1 + x2) 120 (wt_lt (up2 m 106 (Int32.toNatClampNeg ((24 : Int32) * x1 + x2)) v) fun s2 => wt_bnd (f_X4_worthAnew F x1 x3 s2) fun r3 s4 => if r3 ≤ x8 then (if r3 ≤ x8 then lp_X4_bestPane_74 F x1 x2 x3 x4 x6 N x7 x8 (x9 + 1) s4 else lp_X4_bestPane_74 F x1 x2 x3 x4 x6 N x7 r3 (x9 + 1) s4) else if x9 = s4 101 1 then (if r3 ≤ x8 then lp_X4_bestPane_74 F x1 x2 x3 x4 x6 N 9 x8 (x9 + 1) s4 else lp_X4_bestPane_74 F x1 x2 x3 x4 x6 N 9 r3 (x9 + 1) s4) else (if r3 ≤ x8 then lp_X4_bestPane_74 F x1 x2 x3 x4 x6 N x9 x8 (x9 + 1) s4 else lp_X4_bestPane_74 F x1 x2 x3 x4 x6 N x9 r3 (x9 + 1) s4))) (fun _ z => VE (wvM σ) z) := fun v => by
        refine pc_chk (fun w => pc_lt (fun s2 g => pc_bnd (pc_pf (fr_X4_worthAnew hF)) (fun r s4 f => ?_)))
        obtain ⟨q1, q2, q3⟩ := q106 w
        have h4 : VN (28 + ((24 : Int32) * x1 + x2).toNatClampNeg) (wvM σ) s4 := VN_fr (by rw [g]; exact VN_put hm q1 q2 q3) f (by intro c hc; unfold cM2 at hc; show ¬ _; unfold wf_48; first | exact id | omega)
        exact pc_ite (fun _ => pc_ite (fun _ => ih _ _ _ _ _ h4 h1) (fun _ => ih _ _ _ _ _ h4 h1)) (fun _ => pc_ite (fun _ => pc_ite (fun _ => ih _ _ _ _ _ h4 h1) (fun _ => ih _ _ _ _ _ h4 h1)) (fun _ => pc_ite (fun _ => ih _ _ _ _ _ h4 h1) (fun _ => ih _ _ _ _ _ h4 h1)))
      refine pc_ite (fun _ => pc_chk (fun w => pc_lt (fun s6 g => ?_))) (fun _ => pc_ite (fun _ => body _) (fun _ => body _))
      obtain ⟨q1, q2, q3⟩ := q106 w
      have h6 : VE (wvM σ) s6 := by rw [g]; exact VN_back hm q1 q2 q3 h1
      exact pc_ite (fun _ => pc_ret h6) (fun _ => pc_ret h6)
  have h0 : VE (wvM σ) σ := fun _ _ => rfl
  have J : ∀ (t : Int32) (m : Mem), VE (wvM σ) m → pc (j_X4_bestPane_32 F x1 x2 x3 x4 t m) (fun _ z => VE (wvM σ) z) := fun t m hm => by
    rw [j_X4_bestPane_32_e]
    refine pc_bnd (pc_pf (fr_X4_wrongBit hF)) (fun _ s8 f => ?_)
    have h8 := VE_fr hm f (by intro c hc; unfold cM2 at hc; show ¬ _; unfold wf_1; first | exact id | omega)
    refine pc_ite (fun _ => pc_chk (fun w => pc_lt (fun z10 g => ?_))) (fun _ => VE_ref h8)
    obtain ⟨q1, q2, q3⟩ := q106 w
    refine loop F _ _ _ _ _ (VE_N h8) ?_
    rw [g, ← h8 _ q1]
    unfold wvM
    rw [← q2, ← q3]
  rw [f_X4_bestPane_e]
  simp only [j_X4_bestPane_31_e]
  refine pc_lt (fun s5 g => ?_)
  have h5 : VE (wvM σ) s5 := by rw [g]; exact VE_th h0
  refine pc_bnd (pc_pf (fr_X4_isLooker hF)) (fun r s f => ?_)
  have h6 := VE_fr h5 f (by intro c hc; unfold cM2 at hc; show ¬ _; unfold wf_1; first | exact id | omega)
  refine pc_ite (fun _ => J _ _ h6) (fun _ => pc_bnd (pc_pf (fr_X4_isHour hF)) (fun r s f => ?_))
  have h7 := VE_fr h6 f (by intro c hc; unfold cM2 at hc; show ¬ _; unfold wf_1; first | exact id | omega)
  refine pc_ite (fun _ => J _ _ h7) (fun _ => pc_bnd (pc_pf (fr_X4_wrongNumber hF)) (fun r s f => J _ _ (VE_fr h7 f (by intro c hc; unfold cM2 at hc; show ¬ _; unfold wf_1; first | exact id | omega))))
theorem rst_freeHours {F : Nat} (hF : 1000 ≤ F) {x1 x2 : Int32} {σ : Mem} : pc (f_X4_freeHours F x1 x2 σ) (fun _ z => VE (wvM σ) z) := by
  have loop : ∀ (N : Nat) (x4 x5 x6 : Int32) (m : Mem), VE (wvM σ) m → pc (lp_X4_freeHours_54 F x1 x2 x4 N x5 x6 m) (fun _ z => VE (wvM σ) z) := by
    intro N
    induction N with
    | zero => intro x4 x5 x6 m _; exact pc_none rfl
    | succ N ih =>
      intro x4 x5 x6 m hm
      rw [lp_X4_freeHours_54_s]
      simp only [j_X4_freeHours_118_e, j_X4_freeHours_119_e]
      refine pc_ite (fun _ => pc_ret hm) (fun _ => pc_chk (fun w => pc_lt (fun z4 g4 => pc_lt (fun s5 g5 => pc_bnd (pc_pf (fr_X4_layBrings hF)) (fun _ s7 f => ?_)))))
      obtain ⟨q1, q2, q3⟩ := q106 w
      have hz : z4 = wvM σ (28 + ((24 : Int32) * x1 + x6).toNatClampNeg) := by
        rw [g4, ← hm _ q1]
        unfold wvM
        rw [← q2, ← q3]
      have h7 : VN (28 + ((24 : Int32) * x1 + x6).toNatClampNeg) (wvM σ) s7 := VN_fr (by rw [g5]; exact VN_put (VE_N hm) q1 q2 q3) f (by intro c hc; unfold cM2 at hc; show ¬ _; unfold wf_46; first | exact id | omega)
      have back : ∀ (s : Mem) (v : Int32), VN (28 + ((24 : Int32) * x1 + x6).toNatClampNeg) (wvM σ) s → pc (wt_chk ((24 : Int32) * x1 + x6) 120 (wt_lt (up2 s 106 (Int32.toNatClampNeg ((24 : Int32) * x1 + x6)) z4) fun s2 => lp_X4_freeHours_54 F x1 x2 x4 N v (x6 + 1) s2)) (fun _ z => VE (wvM σ) z) := fun s v hs => pc_chk (fun _ => pc_lt (fun s2 g => ih _ _ _ _ (by rw [g]; exact VN_back hs q1 q2 q3 hz)))
      refine pc_ite (fun _ => back _ _ h7) (fun _ => pc_bnd (pc_pf (fr_X4_viewsIn hF)) (fun r s9 f9 => ?_))
      have h9 := VN_fr h7 f9 (by intro c hc; unfold cM2 at hc; show ¬ _; unfold wf_47; first | exact id | omega)
      exact pc_ite (fun _ => back _ _ h9) (fun _ => back _ _ h9)
  have h0 : VE (wvM σ) σ := fun _ _ => rfl
  have J : ∀ (t : Int32) (m : Mem), VE (wvM σ) m → pc (j_X4_freeHours_25 F x1 x2 t m) (fun _ z => VE (wvM σ) z) := fun t m hm => by
    rw [j_X4_freeHours_25_e]
    refine pc_ite (fun _ => pc_bnd (pc_pf (fr_X4_layBrings hF)) (fun _ s6 f => pc_bnd (pc_pf (fr_X4_viewsIn hF)) (fun r s7 f7 => ?_))) (fun _ => VE_ref hm)
    exact loop F _ _ _ _ (VE_fr (VE_fr hm f (by intro c hc; unfold cM2 at hc; show ¬ _; unfold wf_46; first | exact id | omega)) f7 (by intro c hc; unfold cM2 at hc; show ¬ _; unfold wf_47; first | exact id | omega))
  rw [f_X4_freeHours_e]
  refine pc_lt (fun s5 g => ?_)
  have h5 : VE (wvM σ) s5 := by rw [g]; exact VE_th h0
  refine pc_bnd (pc_pf (fr_X4_isLooker hF)) (fun r s f => ?_)
  have h6 := VE_fr h5 f (by intro c hc; unfold cM2 at hc; show ¬ _; unfold wf_1; first | exact id | omega)
  refine pc_ite (fun _ => J _ _ h6) (fun _ => pc_bnd (pc_pf (fr_X4_wrongNumber hF)) (fun r s f => J _ _ (VE_fr h6 f (by intro c hc; unfold cM2 at hc; show ¬ _; unfold wf_1; first | exact id | omega))))
theorem rst_walls {F : Nat} (hF : 1000 ≤ F) {x1 x2 x3 : Int32} {σ : Mem} : pc (f_X4_walls F x1 x2 x3 σ) (fun _ z => VE (wvM σ) z) := by
  have inner : ∀ (k62 : Int32 → Int32 → Int32 → Mem → Option (Int32 × Mem)), (∀ a b c m, VE (wvM σ) m → pc (k62 a b c m) (fun _ z => VE (wvM σ) z)) → ∀ (N : Nat) (x5 x8 x6 x7 x9 : Int32) (m : Mem), VE (wvM σ) m → pc (lp_X4_walls_74 F k62 x1 x2 x3 x5 x8 N x6 x7 x9 m) (fun _ z => VE (wvM σ) z) := by
    intro k62 hk N
    induction N with
    | zero => intro x5 x8 x6 x7 x9 m _; exact pc_none rfl
    | succ N ih =>
      intro x5 x8 x6 x7 x9 m hm
      rw [lp_X4_walls_74_s]
      simp only [j_X4_walls_173_e, j_X4_walls_171_e, j_X4_walls_155_e]
      refine pc_ite (fun _ => hk _ _ _ _ hm) (fun _ => pc_chk (fun w => pc_bnd (pc_pf (fr_X4_hasBit hF)) (fun r s3 f => ?_)))
      have h3 := VE_fr hm f (by intro c hc; unfold cM2 at hc; show ¬ _; unfold wf_1; first | exact id | omega)
      have hj := wtJI_103 _ w.2.2
      have hq : 12 + x8.toNatClampNeg < 188 := by have := w.2.2; omega
      refine pc_ite (fun _ => ih _ _ _ _ _ _ h3) (fun _ => pc_lt (fun s4 g4 => pc_bnd (pc_pf (fr_X4_worthAnew hF)) (fun r5 s6 f6 => pc_lt (fun s7 g7 => ?_))))
      have h6 : VN (12 + x8.toNatClampNeg) (wvM σ) s6 := VN_fr (by rw [g4]; exact VN_put (VE_N h3) hq hj.1.symm hj.2.symm) f6 (by intro c hc; unfold cM2 at hc; show ¬ _; unfold wf_48; first | exact id | omega)
      have e6 : s6 103 x8.toNatClampNeg = s4 103 x8.toNatClampNeg := f6 103 _ (by rw [show wcid 103 x8.toNatClampNeg = 103 from rfl]; show ¬ _; unfold wf_48; omega)
      have e3 : s3 103 x8.toNatClampNeg = wvM σ (12 + x8.toNatClampNeg) := by
        rw [← h3 _ hq]
        unfold wvM
        rw [hj.1, hj.2]
      have h7 : VE (wvM σ) s7 := by
        rw [g7]
        refine VN_back h6 hq hj.1.symm hj.2.symm ?_
        rw [e6, g4, up2_s, Int32.xor_assoc, Int32.xor_self, Int32.xor_zero, e3]
      exact pc_ite (fun _ => pc_ite (fun _ => ih _ _ _ _ _ _ h7) (fun _ => ih _ _ _ _ _ _ h7)) (fun _ => pc_ite (fun _ => ih _ _ _ _ _ _ h7) (fun _ => ih _ _ _ _ _ _ h7))
  have outer : ∀ (N : Nat) (x5 x6 x7 x8 : Int32) (m : Mem), VE (wvM σ) m → pc (lp_X4_walls_62 F x1 x2 x3 x5 N x6 x7 x8 m) (fun _ z => VE (wvM σ) z) := by
    intro N
    induction N with
    | zero => intro x5 x6 x7 x8 m _; exact pc_none rfl
    | succ N ih =>
      intro x5 x6 x7 x8 m hm
      rw [lp_X4_walls_62_s]
      simp only [j_X4_walls_194_e]
      refine pc_ite (fun _ => pc_ite (fun _ => pc_ret hm) (fun _ => pc_ite (fun _ => pc_ret hm) (fun _ => pc_ret hm))) (fun _ => inner _ (fun a b c m h => ih _ _ _ _ _ h) F _ _ _ _ _ _ hm)
  have h0 : VE (wvM σ) σ := fun _ _ => rfl
  have J : ∀ (t : Int32) (m : Mem), VE (wvM σ) m → pc (j_X4_walls_25 F x1 x2 x3 t m) (fun _ z => VE (wvM σ) z) := fun t m hm => by
    rw [j_X4_walls_25_e]
    refine pc_bnd (pc_pf (fr_X4_wrongBit hF)) (fun _ s8 f => ?_)
    have h8 := VE_fr hm f (by intro c hc; unfold cM2 at hc; show ¬ _; unfold wf_1; first | exact id | omega)
    exact pc_ite (fun _ => pc_bnd (pc_pf (fr_X4_worthAnew hF)) (fun _ s6 f => outer F _ _ _ _ _ (VE_fr h8 f (by intro c hc; unfold cM2 at hc; show ¬ _; unfold wf_48; first | exact id | omega)))) (fun _ => VE_ref h8)
  rw [f_X4_walls_e]
  refine pc_lt (fun s5 g => ?_)
  have h5 : VE (wvM σ) s5 := by rw [g]; exact VE_th h0
  refine pc_bnd (pc_pf (fr_X4_isLooker hF)) (fun r s f => ?_)
  have h6 := VE_fr h5 f (by intro c hc; unfold cM2 at hc; show ¬ _; unfold wf_1; first | exact id | omega)
  refine pc_ite (fun _ => J _ _ h6) (fun _ => pc_bnd (pc_pf (fr_X4_wrongNumber hF)) (fun r s f => J _ _ (VE_fr h6 f (by intro c hc; unfold cM2 at hc; show ¬ _; unfold wf_1; first | exact id | omega))))
