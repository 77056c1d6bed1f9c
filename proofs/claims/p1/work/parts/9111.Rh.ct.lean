/-! count: its answers on both sides -/
def hA (V : Nat → Int32) : Nat → Int32
  | 0 => 0
  | l + 1 => hA V l + aHours V l 24
def ctA (V : Nat → Int32) (n w t : Int32) (f : Nat → Int32) (x : Int32) : Int32 :=
  if x = 0 then V 0 else if x = 1 then V 1 else if x = 2 then V 3 else if x = 3 then V 2 else if x = 4 then aOwned V 0 8 else if x = 5 then aPop (aAll V (V 0).toNatClampNeg) else if x = 6 then hA V (V 1).toNatClampNeg else if x = 7 then n else if x = 8 then w else if x = 9 then t else if 11 ≤ x.toInt ∧ x.toInt ≤ 16 then f (x - 10).toNatClampNeg else -9
theorem kc_hours {F : Nat} {σ : Mem} {V : Nat → Int32} (h : vH 1 V σ) : pc (f_X0_hoursOfAll F 1 σ) (fun r _ => r = hA V (V 1).toNatClampNeg) := by
  have h5 := h.1.2.1
  have n1 := ti_nat (V 1)
  have key : ∀ (N l : Nat) (x1 x2 : Int32), x2.toInt = (l : Int) → (l : Int) ≤ (V 1).toInt → x1 = hA V l → pc (lp_X0_hoursOfAll_4 F 1 N x1 x2 σ) (fun r _ => r = hA V (V 1).toNatClampNeg) := by
    intro N
    induction N with
    | zero => intro l x1 x2 h1 h2 h3; exact pc_none rfl
    | succ N ih =>
      intro l x1 x2 h1 h2 h3
      rw [lp_X0_hoursOfAll_4_s, vH_2 h]
      refine pc_ite (fun c => ?_) (fun c => ?_)
      · have d := ti_le c
        exact pc_ret (by rw [h3, show l = (V 1).toNatClampNeg by omega])
      · have d := ti_nle c
        have ec : ∀ t, t < 24 → wvX 1 σ (28 + 24 * l + t) = V (28 + 24 * l + t) := fun t ht => h.2 _ (by omega) (live_c (by omega) ht h5.2)
        refine pc_bnd (ax_hoursOf h1 (by omega) (fun t ht => ?_)) (fun r z w => ?_)
        · rw [ec t ht]
          exact (vV_c h.1 (by omega) ht).imp id (fun q => q.1)
        · rw [w.2]
          refine ih (l + 1) _ _ (ti_nx h1 (by omega)) (by omega) ?_
          rw [w.1, h3]
          show hA V l + _ = hA V l + aHours V l 24
          rw [aHours_l 24 (by omega) ec]
  rw [f_X0_hoursOfAll_e]
  exact key F 0 0 0 rfl h5.1 rfl
theorem kd_hours {F : Nat} {s : Mem} {V : Nat → Int32} (h : vM V s) : pc (lp_X4_count_99 F F 0 0 s) (fun r _ => r = hA V (V 1).toNatClampNeg) := by
  have h5 := h.1.2.1
  have n1 := ti_nat (V 1)
  have key : ∀ (N l : Nat) (x1 x2 : Int32), x2.toInt = (l : Int) → (l : Int) ≤ (V 1).toInt → x1 = hA V l → pc (lp_X4_count_99 F N x1 x2 s) (fun r _ => r = hA V (V 1).toNatClampNeg) := by
    intro N
    induction N with
    | zero => intro l x1 x2 h1 h2 h3; exact pc_none rfl
    | succ N ih =>
      intro l x1 x2 h1 h2 h3
      rw [lp_X4_count_99_s, vM_L h]
      refine pc_ite (fun c => ?_) (fun c => ?_)
      · have d := ti_le c
        exact pc_ret (by rw [h3, show l = (V 1).toNatClampNeg by omega])
      · have d := ti_nle c
        refine pc_bnd (mx_hoursOf h1 (by omega)) (fun r z w => ?_)
        rw [w.2]
        refine ih (l + 1) _ _ (ti_nx h1 (by omega)) (by omega) ?_
        rw [w.1, h3]
        show hA V l + _ = hA V l + aHours V l 24
        rw [aHours_l 24 (by omega) (fun t ht => h.2 _ (by omega))]
  exact key F 0 0 0 rfl h5.1 rfl
theorem kc_count {F : Nat} {x : Int32} {σ : Mem} {V : Nat → Int32} (h : vH 1 V σ) : pc (f_X3_count F x σ) (fun r _ => r = ctA V (σ 83 1) (σ 0 7) (σ 70 5) (σ 86) x) := by
  rw [f_X3_count_e]
  have J : ¬ (11 ≤ x.toInt ∧ x.toInt ≤ 16) → pc (j_X3_count_22 F x σ) (fun r _ => r = ctA V (σ 83 1) (σ 0 7) (σ 70 5) (σ 86) x) := fun n => by
    rw [j_X3_count_22_e]
    unfold ctA
    refine pc_ite (fun c => pc_ret ?_) (fun c => ?_)
    · rw [if_pos c]; exact vH_0 h
    rw [if_neg c]
    refine pc_ite (fun c => pc_ret ?_) (fun c => ?_)
    · rw [if_pos c]; exact vH_2 h
    rw [if_neg c]
    refine pc_ite (fun c => pc_ret ?_) (fun c => ?_)
    · rw [if_pos c]; exact vH_9 h
    rw [if_neg c]
    refine pc_ite (fun c => pc_ret ?_) (fun c => ?_)
    · rw [if_pos c]; exact vH_lo h (p := 2) (by decide)
    rw [if_neg c]
    refine pc_ite (fun c => ?_) (fun c => ?_)
    · rw [if_pos c]
      refine pc_bnd (qx_reckon h) (fun _ s q => pc_bnd (qx_heldN q) (fun r z w => ?_))
      rw [w.1]
      exact pc_be aPop_f (pc_ret (aPop_b _))
    rw [if_neg c]
    refine pc_ite (fun c => ?_) (fun c => ?_)
    · rw [if_pos c]
      refine pc_bnd (ax_allShown h) (fun r z w => ?_)
      rw [w.1]
      exact pc_be aPop_f (pc_ret rfl)
    rw [if_neg c]
    refine pc_ite (fun c => ?_) (fun c => ?_)
    · rw [if_pos c]
      exact pc_bnd (kc_hours h) (fun r z w => pc_ret w)
    rw [if_neg c]
    refine pc_ite (fun c => pc_ret ?_) (fun c => ?_)
    · rw [if_pos c]
    rw [if_neg c]
    refine pc_ite (fun c => pc_ret ?_) (fun c => ?_)
    · rw [if_pos c]
    rw [if_neg c]
    refine pc_ite (fun c => pc_ret ?_) (fun c => ?_)
    · rw [if_pos c]
    rw [if_neg c, if_neg n]
    exact pc_ret rfl
  have t16 : (16 : Int32).toInt = 16 := rfl
  refine pc_ite (fun c => J (fun q => ?_)) (fun c => pc_ite (fun c2 => J (fun q => ?_)) (fun c2 => pc_chk (fun _ => pc_ret ?_)))
  · have d := ti_lt c
    rw [tz_11] at d
    omega
  · have d := ti_lt c2
    rw [t16] at d
    clear t16
    omega
  · have d := ti_nlt c
    have d2 := ti_nlt c2
    rw [tz_11] at d
    rw [t16] at d2
    clear t16
    have ne : ∀ y : Int32, y.toInt < 11 → ¬ x = y := fun y hy q => by rw [q] at d; omega
    unfold ctA
    rw [if_neg (ne 0 (by decide)), if_neg (ne 1 (by decide)), if_neg (ne 2 (by decide)), if_neg (ne 3 (by decide)), if_neg (ne 4 (by decide)), if_neg (ne 5 (by decide)), if_neg (ne 6 (by decide)), if_neg (ne 7 (by decide)), if_neg (ne 8 (by decide)), if_neg (ne 9 (by decide)), if_pos ⟨d, d2⟩]
theorem kd_count {F : Nat} {x n w t : Int32} {f : Nat → Int32} {s : Mem} {V : Nat → Int32} (h : vM V s) (hn : s 101 15 = n) (hw : s 101 34 = w) (ht : s 101 30 = t) (hf : s 108 = f) : pc (f_X4_count F x s) (fun r _ => r = ctA V n w t f x) := by
  rw [f_X4_count_e]
  refine pc_lt (fun s3 h3 => ?_)
  have h' : vM V s3 := vM_up h h3
  have en : s3 101 15 = n := by rw [h3, up2_i (by decide)]; exact hn
  have ew : s3 101 34 = w := by rw [h3, up2_i (by decide)]; exact hw
  have et : s3 101 30 = t := by rw [h3, up2_i (by decide)]; exact ht
  have ef : s3 108 = f := by rw [h3, up2_k (by decide)]; exact hf
  clear h3
  unfold ctA
  refine pc_ite (fun c => pc_ret ?_) (fun c => ?_)
  · rw [if_pos c]; exact vM_P h'
  rw [if_neg c]
  refine pc_ite (fun c => pc_ret ?_) (fun c => ?_)
  · rw [if_pos c]; exact vM_L h'
  rw [if_neg c]
  refine pc_ite (fun c => pc_ret ?_) (fun c => ?_)
  · rw [if_pos c]; exact vM_D h'
  rw [if_neg c]
  refine pc_ite (fun c => pc_ret ?_) (fun c => ?_)
  · rw [if_pos c]; exact h'.2 2 (by decide)
  rw [if_neg c]
  refine pc_ite (fun c => ?_) (fun c => ?_)
  · rw [if_pos c]
    exact pc_bnd (qm_owned h') (fun r z w => pc_ret w.1)
  rw [if_neg c]
  refine pc_ite (fun c => ?_) (fun c => ?_)
  · rw [if_pos c]
    refine pc_bnd (mx_allShown h') (fun r z w => ?_)
    rw [w.1]
    exact pc_bnd mx_ones (fun r z w => pc_ret w.1)
  rw [if_neg c]
  refine pc_ite (fun c => ?_) (fun c => ?_)
  · rw [if_pos c]
    exact kd_hours h'
  rw [if_neg c]
  refine pc_ite (fun c => pc_ret ?_) (fun c => ?_)
  · rw [if_pos c]; exact en
  rw [if_neg c]
  refine pc_ite (fun c => pc_ret ?_) (fun c => ?_)
  · rw [if_pos c]; exact ew
  rw [if_neg c]
  refine pc_ite (fun c => pc_ret ?_) (fun c => ?_)
  · rw [if_pos c]; exact et
  rw [if_neg c]
  refine pc_be (mx_in32 (lo := 11) (hi := 16) rfl rfl) ?_
  by_cases d : 11 ≤ x.toInt ∧ x.toInt ≤ 16
  · rw [if_pos d, if_pos d, if_neg (by decide)]
    exact pc_chk (fun _ => pc_ret (by rw [ef]))
  · rw [if_neg d, if_neg d, if_pos rfl]
    exact pc_ret rfl
