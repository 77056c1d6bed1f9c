/-! richest -/
def aRich (V : Nat → Int32) (n : Int32) : Nat → Int32 × Int32
  | 0 => (-9, -1)
  | l + 1 => if aWealth V (Int32.ofNat l) n 8 ≤ (aRich V n l).2 then aRich V n l else (Int32.ofNat l, aWealth V (Int32.ofNat l) n 8)
theorem aRich_s {V : Nat → Int32} {n : Int32} {l : Nat} : aRich V n (l + 1) = if aWealth V (Int32.ofNat l) n 8 ≤ (aRich V n l).2 then aRich V n l else (Int32.ofNat l, aWealth V (Int32.ofNat l) n 8) := rfl
theorem aRich_b {V : Nat → Int32} (hv : wvV V) {n : Int32} : ∀ l, l ≤ 5 → (l = 0 ∧ aRich V n l = (-9, -1)) ∨ (0 < l ∧ ∃ b : Nat, b < l ∧ aRich V n l = (Int32.ofNat b, aWealth V (Int32.ofNat b) n 8)) := fun l => by
  induction l with
  | zero => intro _; exact Or.inl ⟨rfl, rfl⟩
  | succ l ih =>
    intro hl
    right
    refine ⟨Nat.succ_pos l, ?_⟩
    have w := aWealth_b hv (who := Int32.ofNat l) (n := n) 8 (by omega)
    rw [aRich_s]
    rcases ih (by omega) with ⟨h0, e⟩ | ⟨h0, b, hb, e⟩
    · have c : ¬ aWealth V (Int32.ofNat l) n 8 ≤ (aRich V n l).2 := fun q => by
        have := ti_le q
        rw [e] at this
        have em : (((-9 : Int32), (-1 : Int32)).2).toInt = -1 := rfl
        rw [em] at this
        omega
      rw [if_neg c]
      exact ⟨l, by omega, rfl⟩
    · by_cases c : aWealth V (Int32.ofNat l) n 8 ≤ (aRich V n l).2
      · rw [if_pos c]; exact ⟨b, by omega, e⟩
      · rw [if_neg c]; exact ⟨l, by omega, rfl⟩
theorem qx_wealthiest {F h : Nat} {x1 : Int32} {σ : Mem} {V : Nat → Int32} (a : vH h V σ ∧ vG h V σ) : pc (f_X0_wealthiest F h x1 σ) (fun r s => r = (aRich V x1 (V 1).toNatClampNeg).1 ∧ s = σ) := by
  have h5 := a.1.1.2.1
  have n1 := ti_nat (V 1)
  have key : ∀ (N l : Nat) (x2 x3 x4 : Int32), x4.toInt = (l : Int) → (l : Int) ≤ (V 1).toInt → (x2, x3) = aRich V x1 l → pc (lp_X0_wealthiest_8 F h x1 N x2 x3 x4 σ) (fun r s => r = (aRich V x1 (V 1).toNatClampNeg).1 ∧ s = σ) := by
    intro N
    induction N with
    | zero => intro l x2 x3 x4 h1 h2 h3; exact pc_none rfl
    | succ N ih =>
      intro l x2 x3 x4 h1 h2 h3
      have e2 : x2 = (aRich V x1 l).1 := congrArg Prod.fst h3
      have e3 : x3 = (aRich V x1 l).2 := congrArg Prod.snd h3
      rw [lp_X0_wealthiest_8_s, vH_2 a.1]
      simp only [j_X0_wealthiest_38_e]
      refine pc_ite (fun c => ?_) (fun c => pc_bnd (qx_wealth a) (fun r s q => ?_))
      · have d := ti_le c
        exact pc_ret ⟨by rw [e2, show (V 1).toNatClampNeg = l by omega], rfl⟩
      · have d := ti_nle c
        have e4 := io_eq h1 (by omega)
        rw [q.2, q.1]
        refine pc_ite (fun c1 => ih (l + 1) _ _ _ (ti_nx h1 (by omega)) (by omega) ?_) (fun c1 => ih (l + 1) _ _ _ (ti_nx h1 (by omega)) (by omega) ?_)
        · rw [e3, e4] at c1
          rw [aRich_s, if_pos c1]; exact h3
        · rw [e3, e4] at c1
          rw [aRich_s, if_neg c1, e4]
  rw [f_X0_wealthiest_e]
  exact key F 0 _ _ 0 rfl h5.1 rfl
theorem qm_richestIn {F : Nat} {x1 : Int32} (hx : 0 ≤ x1.toInt ∧ x1.toInt ≤ 9999) {s : Mem} {V : Nat → Int32} (a : mRdy V s) : pc (f_X4_richestIn F x1 s) (fun r z => r = (aRich V x1 (V 1).toNatClampNeg).1 ∧ mRdy V z) := by
  have h5 := a.1.1.2.1
  have n1 := ti_nat (V 1)
  have hv := a.1.1
  have key : ∀ (N l : Nat) (x2 x3 : Int32) (s : Mem), mRdy V s → x3.toInt = (l : Int) → (l : Int) ≤ (V 1).toInt → x2 = (aRich V x1 l).1 → pc (lp_X4_richestIn_5 F x1 N x2 x3 s) (fun r z => r = (aRich V x1 (V 1).toNatClampNeg).1 ∧ mRdy V z) := by
    intro N
    induction N with
    | zero => intro l x2 x3 s a h1 h2 h3; exact pc_none rfl
    | succ N ih =>
      intro l x2 x3 s a h1 h2 h3
      rw [lp_X4_richestIn_5_s, vM_L a.1]
      simp only [j_X4_richestIn_37_e, j_X4_richestIn_32_e]
      refine pc_ite (fun c => ?_) (fun c => ?_)
      · have d := ti_le c
        exact pc_ret ⟨by rw [h3, show (V 1).toNatClampNeg = l by omega], a⟩
      have d := ti_nle c
      have e4 := io_eq h1 (by omega)
      have w := aWealth_b hv (who := Int32.ofNat l) (n := x1) 8 (by omega)
      rcases aRich_b hv (n := x1) l (by omega) with ⟨h0, e⟩ | ⟨h0, b, hb, e⟩
      · have c9 : x2 < 0 := by rw [h3, e]; decide
        rw [if_pos c9]
        refine ih (l + 1) _ _ _ a (ti_nx h1 (by omega)) (by omega) ?_
        have c1 : ¬ aWealth V (Int32.ofNat l) x1 8 ≤ (aRich V x1 l).2 := fun q => by
          have := ti_le q
          rw [e] at this
          have em : (((-9 : Int32), (-1 : Int32)).2).toInt = -1 := rfl
          rw [em] at this
          omega
        rw [aRich_s, if_neg c1, e4]
      · have e2 : x2 = Int32.ofNat b := by rw [h3, e]
        have c9 : ¬ x2 < 0 := fun q => by
          have := ti_lt q
          rw [tz_0, e2, io_nat b (by omega)] at this
          omega
        rw [if_neg c9]
        refine pc_bnd (qm_worthIn hx a) (fun r1 s2 q => pc_bnd (qm_worthIn hx q.2) (fun r3 s4 q3 => ?_))
        rw [q.1, q3.1, e4, e2]
        refine pc_ite (fun c1 => ?_) (fun c1 => ?_)
        · refine ih (l + 1) _ _ _ q3.2 (by rw [← e4]; exact ti_nx h1 (by omega)) (by omega) ?_
          rw [aRich_s, if_pos (by rw [e]; exact c1), e]
        · refine ih (l + 1) _ _ _ q3.2 (by rw [← e4]; exact ti_nx h1 (by omega)) (by omega) ?_
          rw [aRich_s, if_neg (by rw [e]; exact c1)]
  rw [f_X4_richestIn_e]
  exact key F 0 _ 0 s a rfl h5.1 rfl
def anRichest (V : Nat → Int32) (x1 x2 : Int32) : Int32 := cF (cF (cN x1 0 999) (cO x2 2)) (if x2 = 0 then (aRich V x1 (V 1).toNatClampNeg).1 else if (aRich V x1 (V 1).toNatClampNeg).1 = -9 then -9 else aWealth V (aRich V x1 (V 1).toNatClampNeg).1 x1 8)
theorem qx_richest {F : Nat} {x1 x2 : Int32} {σ : Mem} {V : Nat → Int32} (h : vH 1 V σ) : pc (f_X3_richest F x1 x2 σ) (fun r _ => r = anRichest V x1 x2) := by
  rw [f_X3_richest_e]
  refine pc_be ax_outside (pc_be ax_notBelow (pc_be ax_firstOf ?_))
  simp only [j_X3_richest_55_e]
  unfold anRichest
  refine cq_end (fun e => pc_bnd (qx_reckon h) (fun _ s q => pc_bnd (qx_wealthiest q) (fun r z w => ?_)))
  rw [w.2, w.1]
  refine pc_ite (fun c => pc_ret (by rw [if_pos c])) (fun c => ?_)
  rw [if_neg c]
  refine pc_ite (fun c2 => pc_ret ?_) (fun c2 => pc_bnd (qx_wealth q) (fun r' y u => pc_ret ?_))
  · rw [if_pos c2]; exact c2
  · rw [if_neg c2]; exact u.1
theorem qm_richest {F : Nat} {x1 x2 : Int32} {s : Mem} {V : Nat → Int32} (h : vM V s) : pc (f_X4_richest F x1 x2 s) (fun r _ => r = anRichest V x1 x2) := by
  rw [f_X4_richest_e]
  refine pc_lt (fun s6 h6 => ?_)
  have h' : vM V s6 := vM_up h h6
  clear h6
  simp only [j_X4_richest_49_e]
  refine pc_be mx_wrongN (pc_be mx_wrongBit ?_)
  unfold anRichest
  refine mq_end (sg_cF sg_cN sg_cO) (fun e => pc_bnd (qm_lay h') (fun _ z q => ?_))
  have d2 := cN_0 (cF_0 e).1
  rw [tz_0, tz_999'] at d2
  have hx : 0 ≤ x1.toInt ∧ x1.toInt ≤ 9999 := ⟨d2.1, by omega⟩
  have n1 := ti_nat (V 1)
  have h5 := h.1.2.1
  refine pc_bnd (qm_richestIn hx q) (fun r y w => ?_)
  rw [w.1]
  refine pc_ite (fun c => pc_ret (by rw [if_pos c])) (fun c => ?_)
  rw [if_neg c]
  rcases aRich_b h.1 (n := x1) (V 1).toNatClampNeg (by omega) with ⟨h0, e⟩ | ⟨h0, b, hb, e⟩
  · rw [e]
    refine pc_ite (fun c2 => absurd c2 (by decide)) (fun _ => pc_ret ?_)
    exact (if_pos rfl).symm
  · rw [e]
    have hb0 : 0 ≤ Int32.ofNat b := Int32.le_iff_toInt_le.mpr (by rw [tz_0, io_nat b (by omega)]; omega)
    have hb9 : ¬ Int32.ofNat b = -9 := fun q => by
      have := congrArg Int32.toInt q
      rw [io_nat b (by omega)] at this
      have em : (-9 : Int32).toInt = -9 := rfl
      rw [em] at this
      omega
    refine pc_ite (fun _ => pc_bnd (qm_worthIn hx w.2) (fun r' y' u => pc_ret ?_)) (fun c2 => absurd hb0 c2)
    rw [u.1]
    exact (if_neg hb9).symm
