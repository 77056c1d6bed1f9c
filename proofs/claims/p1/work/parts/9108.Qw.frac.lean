/-! fractions in lowest terms -/
theorem lc3 (x y : Int64) : (y.toInt < x.toInt ∧ lg_cmp x y = 1) ∨ (x = y ∧ lg_cmp x y = 0) ∨ (x.toInt < y.toInt ∧ lg_cmp x y = -1) := by
  unfold lg_cmp
  by_cases c : x > y
  · rw [if_pos c]; exact Or.inl ⟨Int64.lt_iff_toInt_lt.mp c, rfl⟩
  · rw [if_neg c]
    have c' : ¬ y.toInt < x.toInt := fun q => c (Int64.lt_iff_toInt_lt.mpr q)
    by_cases d : x = y
    · rw [if_pos d]; exact Or.inr (Or.inl ⟨d, rfl⟩)
    · rw [if_neg d]
      have d' : ¬ x.toInt = y.toInt := fun q => d (Int64.toInt_inj.mp q)
      exact Or.inr (Or.inr ⟨by omega, rfl⟩)
theorem l200 : (200 : Int32).toInt = 200 := rfl
theorem l64_0 : (0 : Int64).toInt = 0 := rfl
theorem lc_z {x : Int64} : lg_cmp x 0 = 0 ↔ x = 0 := by
  rcases lc3 x 0 with ⟨a, b⟩ | ⟨a, b⟩ | ⟨a, b⟩
  · rw [b]; exact ⟨fun q => absurd q (by decide), fun q => by rw [q] at a; exact absurd a (by decide)⟩
  · exact ⟨fun _ => a, fun _ => b⟩
  · rw [b]; exact ⟨fun q => absurd q (by decide), fun q => by rw [q] at a; exact absurd a (by decide)⟩
theorem lc_p {x : Int64} (h : 0 < x.toInt) : lg_cmp x 0 = 1 := by
  rcases lc3 x 0 with ⟨_, b⟩ | ⟨a, _⟩ | ⟨a, _⟩
  · exact b
  · rw [a, l64_0] at h; omega
  · rw [l64_0] at a; omega
theorem w_bm {n : Int} (h1 : -9223372036854775808 ≤ n) (h2 : n ≤ 9223372036854775807) : n.bmod (2 ^ 64) = n := by
  show Int.bmod n 18446744073709551616 = n
  rw [Int.bmod_eq_of_le] <;> omega
theorem w_lt (x : Int64) : -9223372036854775808 ≤ x.toInt ∧ x.toInt ≤ 9223372036854775807 := by
  have a : x.toInt < 9223372036854775808 := x.toInt_lt
  have b : -9223372036854775808 ≤ x.toInt := x.le_toInt
  omega
theorem w_div {x y : Int64} (hx : 0 ≤ x.toInt) (hy : 0 < y.toInt) : (x / y).toInt = x.toInt / y.toInt := by
  have b := w_lt x
  have l := Int.ediv_le_self y.toInt hx
  have p := Int.ediv_nonneg hx (Int.le_of_lt hy)
  rw [Int64.toInt_div, Int.tdiv_eq_ediv_of_nonneg hx]
  exact w_bm (by omega) (by omega)
theorem w_rem {x y : Int64} (hx : 0 ≤ x.toInt) (hy : 0 < y.toInt) : (x - x / y * y).toInt = x.toInt % y.toInt := by
  have b := w_lt x
  have hd := w_div hx hy
  have b1 := Int.ediv_mul_le x.toInt (Int.ne_of_gt hy)
  have b2 : 0 ≤ x.toInt / y.toInt * y.toInt := Int.mul_nonneg (Int.ediv_nonneg hx (Int.le_of_lt hy)) (Int.le_of_lt hy)
  have hm : (x / y * y).toInt = x.toInt / y.toInt * y.toInt := by
    rw [Int64.toInt_mul, hd]
    exact w_bm (by omega) (by omega)
  rw [Int64.toInt_sub, hm, w_bm (by omega) (by omega), Int.emod_def, Int.mul_comm]
def gG (a b : Int64) : Nat := Nat.gcd a.toInt.toNat b.toInt.toNat
theorem gG_s {a b : Int64} (ha : 0 ≤ a.toInt) (hb : 0 < b.toInt) : gG b (a - a / b * b) = gG a b := by
  unfold gG
  rw [w_rem ha hb, Int.toNat_emod ha (Int.le_of_lt hb), Nat.gcd_comm a.toInt.toNat, Nat.gcd_rec b.toInt.toNat a.toInt.toNat]
  exact Nat.gcd_comm _ _
theorem g_half {b r : Nat} (h0 : 0 < r) (hle : r ≤ b) : 2 * (b % r) < b := by
  have e := Nat.div_add_mod b r
  have l := Nat.mod_lt b h0
  have h1 : 1 ≤ b / r := Nat.div_pos hle h0
  have h2 : r * 1 ≤ r * (b / r) := Nat.mul_le_mul_left r h1
  omega
theorem cx_dz {F : Nat} {σ : Mem} {a b : Int64} {i : Int32} (ha : 0 ≤ a.toInt) (hb : b = 0) (hi : i.toInt < 200) (N : Nat) : pc (lp_X3_commonDivisor_9 F N a b i σ) (fun r s => r.toInt = (gG a b : Int) ∧ s = σ) := by
  cases N with
  | zero => exact pc_none rfl
  | succ N =>
    rw [lp_X3_commonDivisor_9_s]
    simp only [j_X3_commonDivisor_45_e]
    refine pc_ite (fun c => absurd (ti_le c) (by rw [l200]; omega)) (fun _ => pc_ite (fun _ => pc_ret ⟨?_, rfl⟩) (fun n => absurd (lc_z.mpr hb) n))
    rw [hb]
    unfold gG
    rw [l64_0]
    show a.toInt = ((Nat.gcd a.toInt.toNat 0 : Nat) : Int)
    rw [Nat.gcd_zero_right]
    omega
theorem cx_ds {F : Nat} {σ : Mem} {a b : Int64} {i : Int32} {Q : Int64 → Mem → Prop} (hb : ¬ b = 0) (hi : i.toInt < 200) (h : ∀ N, pc (lp_X3_commonDivisor_9 F N b (a - a / b * b) (i + 1) σ) Q) (N : Nat) : pc (lp_X3_commonDivisor_9 F N a b i σ) Q := by
  cases N with
  | zero => exact pc_none rfl
  | succ N =>
    rw [lp_X3_commonDivisor_9_s]
    exact pc_ite (fun c => absurd (ti_le c) (by rw [l200]; omega)) (fun _ => pc_ite (fun c => absurd (lc_z.mp c) hb) (fun _ => pc_nzl (fun _ => h N)))
theorem cx_div {F : Nat} {σ : Mem} : ∀ (m : Nat) (a b : Int64) (i : Int32) (j : Nat), 0 ≤ a.toInt → 0 ≤ b.toInt → b.toInt.toNat < 2 ^ m → i.toInt = (j : Int) → j + 2 * m < 200 → ∀ N, pc (lp_X3_commonDivisor_9 F N a b i σ) (fun r s => r.toInt = (gG a b : Int) ∧ s = σ) := fun m => by
  induction m with
  | zero =>
    intro a b i j ha hb h1 h2 h3
    exact cx_dz ha (Int64.toInt_inj.mp (by rw [l64_0]; omega)) (by omega)
  | succ m ih =>
    intro a b i j ha hb h1 h2 h3
    by_cases z : b = 0
    · exact cx_dz ha z (by omega)
    have zb : 0 < b.toInt := by
      have : ¬ b.toInt = 0 := fun q => z (Int64.toInt_inj.mp (by rw [l64_0]; exact q))
      omega
    have r1 := w_rem ha zb
    have p1 := Int.emod_nonneg a.toInt (Int.ne_of_gt zb)
    have l1 := Int.emod_lt_of_pos a.toInt zb
    have n1 := ti_nx h2 (by omega)
    refine cx_ds z (by omega) ?_
    rw [← gG_s ha zb]
    by_cases z2 : a - a / b * b = 0
    · exact cx_dz hb z2 (by omega)
    have zr : 0 < (a - a / b * b).toInt := by
      have : ¬ (a - a / b * b).toInt = 0 := fun q => z2 (Int64.toInt_inj.mp (by rw [l64_0]; exact q))
      omega
    refine cx_ds z2 (by omega) ?_
    rw [← gG_s hb zr]
    have r2 := w_rem hb zr
    have p2 := Int.emod_nonneg b.toInt (Int.ne_of_gt zr)
    have hh := g_half (b := b.toInt.toNat) (r := (a - a / b * b).toInt.toNat) (by omega) (by omega)
    rw [← Int.toNat_emod hb (Int.le_of_lt zr)] at hh
    have pw : 2 ^ (m + 1) = 2 * 2 ^ m := by rw [Nat.pow_succ, Nat.mul_comm]
    exact ih _ _ _ (j + 2) (by omega) (by rw [r2]; exact p2) (by rw [r2]; omega) (ti_nx n1 (by omega)) (by omega)
theorem mx_div {F : Nat} {σ : Mem} : ∀ (N : Nat) (a b : Int64), 0 ≤ a.toInt → 0 ≤ b.toInt → pc (lp_X4_divisor_6 F N a b σ) (fun r s => r.toInt = (gG a b : Int) ∧ s = σ) := by
  intro N
  induction N with
  | zero => intro a b ha hb; exact pc_none rfl
  | succ N ih =>
    intro a b ha hb
    rw [lp_X4_divisor_6_s]
    refine pc_ite (fun c => pc_ret ⟨?_, rfl⟩) (fun c => pc_nzl (fun _ => ?_))
    · rw [lc_z.mp c]
      unfold gG
      rw [l64_0]
      show a.toInt = ((Nat.gcd a.toInt.toNat 0 : Nat) : Int)
      rw [Nat.gcd_zero_right]
      omega
    · have z : ¬ b = 0 := fun q => c (lc_z.mpr q)
      have zb : 0 < b.toInt := by
        have : ¬ b.toInt = 0 := fun q => z (Int64.toInt_inj.mp (by rw [l64_0]; exact q))
        omega
      rw [← gG_s ha zb]
      exact ih _ _ hb (by rw [w_rem ha zb]; exact Int.emod_nonneg a.toInt (Int.ne_of_gt zb))
def aFrac (y0 y2 : Int64) (x4 : Int32) : Int64 := if y0 = 0 then Int32.toInt64 x4 else if x4 = 0 then y0 / Int64.ofInt (gG y0 y2) else y2 / Int64.ofInt (gG y0 y2)
theorem cx_frac {F : Nat} {y0 y2 : Int64} {x4 : Int32} {σ : Mem} (h0 : 0 ≤ y0.toInt) (h2 : 0 < y0.toInt → 0 < y2.toInt) (hx : x4 = 0 ∨ x4 = 1) : pc (f_X3_fraction F y0 y2 x4 σ) (fun r s => r = aFrac y0 y2 x4 ∧ s = σ) := by
  rw [f_X3_fraction_e]
  simp only [j_X3_fraction_12_e]
  unfold aFrac
  by_cases z : y0 = 0
  · rw [if_pos z]
    refine pc_ite (fun _ => ?_) (fun n => absurd (by rw [lc_z.mpr z]; decide) n)
    rcases hx with x | x
    · rw [x]; exact pc_ite (fun _ => pc_ret ⟨rfl, rfl⟩) (fun n => absurd rfl n)
    · rw [x]; exact pc_ite (fun q => absurd q (by decide)) (fun _ => pc_ret ⟨rfl, rfl⟩)
  · rw [if_neg z]
    have zp : 0 < y0.toInt := by
      have : ¬ y0.toInt = 0 := fun q => z (Int64.toInt_inj.mp (by rw [l64_0]; exact q))
      omega
    have z2 := h2 zp
    have b2 := w_lt y2
    refine pc_ite (fun c => absurd c (by rw [lc_p zp]; decide)) (fun _ => pc_ite (fun _ => ?_) (fun n => absurd (by rw [lc_p z2]; decide) n))
    rw [f_X3_commonDivisor_e]
    refine pc_bnd (cx_div 63 y0 y2 0 0 h0 (Int.le_of_lt z2) (by have p63 : (2 : Nat) ^ 63 = 9223372036854775808 := rfl; rw [p63]; omega) rfl (by omega) F) (fun r1 s2 q => ?_)
    rw [q.2]
    have gp : 0 < gG y0 y2 := Nat.gcd_pos_of_pos_left _ (by omega)
    have er : r1 = Int64.ofInt (gG y0 y2) := by rw [← q.1]; exact (Int64.ofInt_toInt r1).symm
    refine pc_ite (fun _ => pc_ite (fun c => pc_nzl (fun _ => pc_ret ⟨by rw [if_pos c, er], rfl⟩)) (fun c => pc_nzl (fun _ => pc_ret ⟨by rw [if_neg c, er], rfl⟩))) (fun n => absurd (by rw [lc_p (by rw [q.1]; omega)]; decide) n)
theorem mx_part {F : Nat} {y0 y2 : Int64} {x4 : Int32} {σ : Mem} (h0 : 0 ≤ y0.toInt) (h2 : 0 < y0.toInt → 0 < y2.toInt) : pc (f_X4_partOf F y0 y2 x4 σ) (fun r s => r = aFrac y0 y2 x4 ∧ s = σ) := by
  rw [f_X4_partOf_e]
  unfold aFrac
  refine pc_ite (fun c => pc_ret ⟨by rw [if_pos (lc_z.mp c)], rfl⟩) (fun c => ?_)
  have z : ¬ y0 = 0 := fun q => c (lc_z.mpr q)
  rw [if_neg z, f_X4_divisor_e]
  have zp : 0 < y0.toInt := by
    have : ¬ y0.toInt = 0 := fun q => z (Int64.toInt_inj.mp (by rw [l64_0]; exact q))
    omega
  refine pc_bnd (mx_div F y0 y2 h0 (Int.le_of_lt (h2 zp))) (fun r1 s2 q => ?_)
  rw [q.2]
  have er : r1 = Int64.ofInt (gG y0 y2) := by rw [← q.1]; exact (Int64.ofInt_toInt r1).symm
  exact pc_ite (fun c => pc_nzl (fun _ => pc_ret ⟨by rw [if_pos c, er], rfl⟩)) (fun c => pc_nzl (fun _ => pc_ret ⟨by rw [if_neg c, er], rfl⟩))
/-! share -/
def cFL (e : Int32) (v : Int64) : Int64 := if e = 0 then v else (4000000000000000000 : Int64) - Int32.toInt64 e
theorem cFL_z {v : Int64} : cFL 0 v = v := if_pos rfl
theorem cFL_n {e : Int32} {v : Int64} (h : ¬ e = 0) : cFL e v = (4000000000000000000 : Int64) - Int32.toInt64 e := if_neg h
theorem cqL_end {F : Nat} {e : Int32} {val : Int64} {σ : Mem} {A : Option (Int64 × Mem)} (h : e = 0 → pc A (fun r _ => r = val)) : pc (if e = 0 then A else wt_bnd (f_X3_refuseLong F e σ) fun r s => some (r, s)) (fun r _ => r = cFL e val) := by
  refine pc_ite (fun c => pc_mono (h c) (fun a s g => by rw [g, c, cFL_z])) (fun c => ?_)
  rw [f_X3_refuseLong_e]
  refine pc_bnd (P := fun r _ => r = cFL e val) (pc_bnd ax_refuse (fun r s q => pc_ret (by rw [q.1, cFL_n c]))) (fun r s q => pc_ret q)
theorem mqL_ref {F : Nat} {e : Int32} {X : Int64} {σ : Mem} (h : X = (4000000000000000000 : Int64) - Int32.toInt64 e) : pc (wt_bnd (f_X4_refuse F e σ) fun r s => some (((4000000000000000000 : Int64) - Int32.toInt64 r), s)) (fun r _ => r = X) := pc_bnd mx_refuse (fun r s q => pc_ret (by rw [q.1]; exact h.symm))
def aSm (V : Nat → Int32) (v : Nat) : Nat → Int64
  | 0 => 0
  | l + 1 => aSm V v l + Int32.toInt64 (V (148 + 8 * l + v))
theorem aSm_b {V : Nat → Int32} (h : wvV V) {v : Nat} (hv : v < 8) : ∀ l : Nat, (l : Int) ≤ (V 1).toInt → (0 ≤ (aSm V v l).toInt ∧ (aSm V v l).toInt ≤ 99999 * (l : Int)) ∧ ∀ m, m < l → (V (148 + 8 * m + v)).toInt ≤ (aSm V v l).toInt := fun l => by
  induction l with
  | zero => intro _; exact ⟨⟨Int.le_refl 0, Int.le_refl 0⟩, fun m hm => absurd hm (Nat.not_lt_zero m)⟩
  | succ l ih =>
    intro hl
    obtain ⟨b, e⟩ := ih (by omega)
    have h5 := h.2.1.2
    have n := vV_n h (l := l) (v := v) (by omega) hv
    have t : (aSm V v (l + 1)).toInt = (aSm V v l).toInt + (V (148 + 8 * l + v)).toInt := by
      show (aSm V v l + Int32.toInt64 (V (148 + 8 * l + v))).toInt = _
      rw [Int64.toInt_add, Int32.toInt_toInt64]
      exact w_bm (by omega) (by omega)
    refine ⟨by omega, fun m hm => ?_⟩
    by_cases z : m = l
    · rw [z]; omega
    · have := e m (by omega); omega
def anShare (V : Nat → Int32) (x1 x2 x3 : Int32) : Int64 := cFL (cF (cF (cB (0 ≤ x1.toInt ∧ x1.toInt < (V 1).toInt)) (cB (0 ≤ x2.toInt ∧ x2.toInt ≤ 7))) (cO x3 2)) (aFrac (Int32.toInt64 (V (148 + 8 * x1.toNatClampNeg + x2.toNatClampNeg))) (aSm V x2.toNatClampNeg (V 1).toNatClampNeg) x3)
theorem x01 {x : Int32} (h : cO x 2 = 0) : x = 0 ∨ x = 1 := by
  have d := cO_0 h
  rw [tz_2] at d
  by_cases w : x = 0
  · exact Or.inl w
  · have w' := ti_ne w
    rw [tz_0] at w'
    exact Or.inr (Int32.toInt_inj.mp (by rw [tz_1]; omega))
theorem share_ok {V : Nat → Int32} (h : wvV V) {l v : Nat} (hl : (l : Int) < (V 1).toInt) (hv : v < 8) : 0 ≤ (Int32.toInt64 (V (148 + 8 * l + v))).toInt ∧ (0 < (Int32.toInt64 (V (148 + 8 * l + v))).toInt → 0 < (aSm V v (V 1).toNatClampNeg).toInt) := by
  have n := vV_n h hl hv
  have m1 := ti_nat (V 1)
  have b := (aSm_b h hv (V 1).toNatClampNeg (by omega)).2 l (by omega)
  rw [Int32.toInt_toInt64]
  exact ⟨n.1, fun q => by omega⟩
theorem qx_share {F : Nat} {x1 x2 x3 : Int32} {σ : Mem} {V : Nat → Int32} (h : vH 1 V σ) : pc (f_X3_share F x1 x2 x3 σ) (fun r _ => r = anShare V x1 x2 x3) := by
  have h5 := h.1.2.1
  have m1 := ti_nat (V 1)
  rw [f_X3_share_e]
  refine pc_be (ax_noLooker (by rw [vH_2 h]; exact h5.2)) (pc_be ax_noView (pc_be ax_firstOf (pc_be ax_notBelow (pc_be ax_firstOf ?_))))
  rw [vH_2 h]
  unfold anShare
  refine cqL_end (fun e => ?_)
  have d1 := cB_0 (cF_0 (cF_0 e).1).1
  have d2 := cB_0 (cF_0 (cF_0 e).1).2
  have d3 := x01 (cF_0 e).2
  have n1 := ti_nat x1
  have n2 := ti_nat x2
  have ok := share_ok h.1 (l := x1.toNatClampNeg) (v := x2.toNatClampNeg) (by omega) (by omega)
  have key : ∀ (N l : Nat) (y5 : Int64) (x7 : Int32), x7.toInt = (l : Int) → (l : Int) ≤ (V 1).toInt → y5 = aSm V x2.toNatClampNeg l → pc (lp_X3_share_40 F x1 x2 x3 N y5 x7 σ) (fun r _ => r = aFrac (Int32.toInt64 (V (148 + 8 * x1.toNatClampNeg + x2.toNatClampNeg))) (aSm V x2.toNatClampNeg (V 1).toNatClampNeg) x3) := by
    intro N
    induction N with
    | zero => intro l y5 x7 h1 h2 h3; exact pc_none rfl
    | succ N ih =>
      intro l y5 x7 h1 h2 h3
      rw [lp_X3_share_40_s, vH_2 h]
      refine pc_ite (fun c => pc_chk (fun _ => pc_chk (fun _ => ?_))) (fun c => pc_chk (fun _ => pc_chk (fun _ => pc_lt (fun z7 g7 => ?_))))
      · have d := ti_le c
        rw [h3, show l = (V 1).toNatClampNeg by omega, vH_n h (l := x1.toNatClampNeg) (v := x2.toNatClampNeg) (by omega) (by omega)]
        exact pc_bnd (cx_frac ok.1 ok.2 d3) (fun r s q => pc_ret q.1)
      · have d := ti_nle c
        rw [tn_int h1, vH_n h (l := l) (v := x2.toNatClampNeg) (by omega) (by omega)] at g7
        refine ih (l + 1) _ _ (ti_nx h1 (by omega)) (by omega) ?_
        rw [g7, h3]
        rfl
  exact key F 0 0 0 rfl h5.1 rfl
theorem qm_share {F : Nat} {x1 x2 x3 : Int32} {s : Mem} {V : Nat → Int32} (h : vM V s) : pc (f_X4_share F x1 x2 x3 s) (fun r _ => r = anShare V x1 x2 x3) := by
  have h5 := h.1.2.1
  have m1 := ti_nat (V 1)
  rw [f_X4_share_e]
  refine pc_lt (fun s6 g6 => ?_)
  have h' : vM V s6 := vM_up h g6
  clear g6
  simp only [j_X4_share_29_e, j_X4_share_30_e]
  refine pc_be (mx_isLooker (by rw [vM_L h']; exact h5.1)) ?_
  rw [vM_L h']
  unfold anShare
  by_cases c : 0 ≤ x1.toInt ∧ x1.toInt < (V 1).toInt
  · rw [if_pos c, if_neg (by decide), cB_t c, cF_z]
    refine pc_be mx_isView ?_
    by_cases c2 : 0 ≤ x2.toInt ∧ x2.toInt ≤ 7
    · rw [if_pos c2, if_neg (by decide), cB_t c2, cF_z]
      have n1 := ti_nat x1
      have n2 := ti_nat x2
      refine pc_be mx_wrongBit ?_
      rw [cF_z]
      have ok := share_ok h.1 (l := x1.toNatClampNeg) (v := x2.toNatClampNeg) (by omega) (by omega)
      have key : ∀ (N l : Nat) (y5 : Int64) (x7 : Int32), x7.toInt = (l : Int) → (l : Int) ≤ (V 1).toInt → y5 = aSm V x2.toNatClampNeg l → pc (lp_X4_share_55 F x1 x2 x3 N y5 x7 s6) (fun r _ => r = aFrac (Int32.toInt64 (V (148 + 8 * x1.toNatClampNeg + x2.toNatClampNeg))) (aSm V x2.toNatClampNeg (V 1).toNatClampNeg) x3) := by
        intro N
        induction N with
        | zero => intro l y5 x7 h1 h2 h3; exact pc_none rfl
        | succ N ih =>
          intro l y5 x7 h1 h2 h3
          rw [lp_X4_share_55_s, vM_L h']
          refine pc_ite (fun c => pc_chk (fun _ => ?_)) (fun c => pc_chk (fun _ => pc_lt (fun z5 g5 => ?_)))
          · have d := ti_le c
            rw [h3, show l = (V 1).toNatClampNeg by omega, tn_8 (l := x1.toNatClampNeg) (k := x2.toNatClampNeg) (by omega) (by omega) (by omega) (by omega), vM_107 h' (by omega), show 148 + (8 * x1.toNatClampNeg + x2.toNatClampNeg) = 148 + 8 * x1.toNatClampNeg + x2.toNatClampNeg by omega]
            exact pc_bnd (mx_part ok.1 ok.2) (fun r s q => pc_ret q.1)
          · have d := ti_nle c
            rw [tn_8 h1 (k := x2.toNatClampNeg) (by omega) (by omega) (by omega), vM_107 h' (by omega), show 148 + (8 * l + x2.toNatClampNeg) = 148 + 8 * l + x2.toNatClampNeg by omega] at g5
            refine ih (l + 1) _ _ (ti_nx h1 (by omega)) (by omega) ?_
            rw [g5, h3]
            rfl
      by_cases c3 : cO x3 2 = 0
      · rw [c3, cFL_z, if_pos (by decide)]
        exact key F 0 0 0 rfl h5.1 rfl
      · have e3 := cO_n c3
        rw [e3, if_neg (by decide)]
        exact mqL_ref (cFL_n (by decide))
    · rw [if_neg c2, if_pos rfl, cB_f c2, cF_n (a := -1) (by decide), if_neg (by decide)]
      exact mqL_ref (cFL_n (by decide))
  · rw [if_neg c, if_pos rfl, cB_f c, cF_n (a := -1) (by decide), cF_n (a := -1) (by decide), if_neg (by decide)]
    exact mqL_ref (cFL_n (by decide))
