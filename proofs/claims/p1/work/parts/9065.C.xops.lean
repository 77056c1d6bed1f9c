/-- a row of hours filled -/
theorem ax_post_48 {F h : Nat} {x1 x3 x4 : Int32} {l b : Nat} (hl : x1.toInt = (l : Int)) (hl5 : l < 5) (hb : x3.toInt = (b : Int)) (hb24 : b < 24) : ∀ (N k : Nat) (x5 : Int32) (σ : Mem), x5.toInt = (k : Int) → k ≤ b + 1 → pc (lp_X0_post_48 F h x1 x3 x4 N x5 σ) (fun r s => r = 1 ∧ ∀ p, p < 188 → wvX h s p = aStand (wvX h σ) l k b x4 p) := by
  intro N
  induction N with
  | zero => intro k x5 σ h1 h2; exact pc_none rfl
  | succ N ih =>
    intro k x5 σ h1 h2
    rw [lp_X0_post_48_s]
    refine pc_ite (fun c => ?_) (fun c => ?_)
    · have d := ti_lt c
      refine pc_ret ⟨rfl, fun p hp => ?_⟩
      unfold aStand
      rw [if_neg (by omega)]
    · have d := ti_nlt c
      refine pc_chk (fun _ => pc_chk (fun _ => pc_lt (fun s3 h3' => ?_)))
      refine pc_mono (ih (k + 1) _ s3 (ti_nx h1 (by omega)) (by omega)) (fun r s q => ⟨q.1, fun p hp => ?_⟩)
      rw [q.2 p hp]
      have hj := wvJI_5 l hl5 k (by omega)
      have e : ∀ p, p < 188 → wvX h s3 p = upd (wvX h σ) (28 + 24 * l + k) (wvN x4) p := fun p hp => by
        rw [h3', wvX_at (q := 28 + 24 * l + k) (by omega) (by rw [tn_int hl]; omega) (by rw [tn_int h1]; exact hj.2) hp, wvE_i (by omega)]
      unfold aStand
      by_cases e1 : p = 28 + 24 * l + k
      · rw [if_neg (by omega), if_pos (by omega), e p hp, e1, wv_us]
      · by_cases e2 : 28 + 24 * l + k ≤ p ∧ p ≤ 28 + 24 * l + b
        · rw [if_pos (by omega), if_pos e2]
        · rw [if_neg (by omega), if_neg e2, e p hp, wv_un e1]
def cPost (P L : Int) (x1 x2 x3 x4 : Int32) : Prop := (0 ≤ x1.toInt ∧ x1.toInt < L) ∧ (0 ≤ x2.toInt ∧ x2.toInt ≤ 23) ∧ (0 ≤ x3.toInt ∧ x3.toInt ≤ 23) ∧ x2.toInt ≤ x3.toInt ∧ (x4.toInt = 9 ∨ (0 ≤ x4.toInt ∧ x4.toInt < P))
theorem ax_post {F h : Nat} {x1 x2 x3 x4 : Int32} {σ : Mem} (b : (σ h 0).toInt ≤ 6) (b2 : (σ h 2).toInt ≤ 5) : pc (f_X0_post F h x1 x2 x3 x4 σ) (fun r s => wok (cPost (σ h 0).toInt (σ h 2).toInt x1 x2 x3 x4) r σ s h (aStand (wvX h σ) x1.toNatClampNeg x2.toNatClampNeg x3.toNatClampNeg x4)) := by
  rw [f_X0_post_e]
  simp only [j_X0_post_43_e, j_X0_post_45_e]
  refine pc_be (ax_isLooker b2) ?_
  by_cases c0 : 0 ≤ x1.toInt ∧ x1.toInt < (σ h 2).toInt
  rotate_left
  · rw [if_neg c0, if_pos rfl]; exact pc_ret (wok_no (fun q => c0 q.1))
  rw [if_pos c0, if_neg (by decide)]
  refine pc_be ax_isHour ?_
  by_cases c1 : 0 ≤ x2.toInt ∧ x2.toInt ≤ 23
  rotate_left
  · rw [if_neg c1, if_pos rfl]; exact pc_ret (wok_no (fun q => c1 q.2.1))
  rw [if_pos c1, if_neg (by decide)]
  refine pc_be ax_isHour ?_
  by_cases c2 : 0 ≤ x3.toInt ∧ x3.toInt ≤ 23
  rotate_left
  · rw [if_neg c2, if_pos rfl]; exact pc_ret (wok_no (fun q => c2 q.2.2.1))
  rw [if_pos c2, if_neg (by decide)]
  refine pc_ite (fun c3 => pc_ret (wok_no (fun q => ?_))) (fun c3 => ?_)
  · have := ti_lt c3; have := q.2.2.2.1; omega
  have d3 := ti_nlt c3
  have l1 : x1.toInt = (x1.toNatClampNeg : Int) := by rw [ti_nat]; omega
  have l2 : x2.toInt = (x2.toNatClampNeg : Int) := by rw [ti_nat]; omega
  have l3 : x3.toInt = (x3.toNatClampNeg : Int) := by rw [ti_nat]; omega
  have go : (x4.toInt = 9 ∨ (0 ≤ x4.toInt ∧ x4.toInt < (σ h 0).toInt)) → pc (lp_X0_post_48 F h x1 x3 x4 F x2 σ) (fun r z => wok (cPost (σ h 0).toInt (σ h 2).toInt x1 x2 x3 x4) r σ z h (aStand (wvX h σ) x1.toNatClampNeg x2.toNatClampNeg x3.toNatClampNeg x4)) := fun c4 =>
    pc_mono (ax_post_48 l1 (by omega) l3 (by omega) F x2.toNatClampNeg x2 σ l2 (by omega)) (fun r z q => by
      rw [q.1]
      exact wok_yes ⟨c0, c1, c2, d3, c4⟩ q.2)
  refine pc_ite (fun c4 => ?_) (fun c4 => ?_)
  · exact go (Or.inl (ti_eq c4))
  have d4 := ti_ne c4
  refine pc_be (ax_isPane b) ?_
  by_cases c5 : 0 ≤ x4.toInt ∧ x4.toInt < (σ h 0).toInt
  rotate_left
  · rw [if_neg c5, if_pos rfl]
    exact pc_ret (wok_no (fun q => by have := q.2.2.2.2; rw [tz_9] at d4; omega))
  rw [if_pos c5, if_neg (by decide)]
  exact go (Or.inr c5)
theorem ax_addLooker_86 {F h : Nat} {n : Nat} (hn : n < 5) {y : Int32} (hy : y.toInt = (n : Int)) : ∀ (N k : Nat) (x3 : Int32) (σ : Mem), x3.toInt = (k : Int) → k ≤ 8 → σ h 2 = y → pc (lp_X0_addLooker_86 F h N x3 σ) (fun r s => r = 1 ∧ ∀ p, p < 188 → wvX h s p = if p = 1 then y + 1 else if 148 + 8 * n + k ≤ p ∧ p < 156 + 8 * n then 0 else wvX h σ p) := by
  intro N
  induction N with
  | zero => intro k x3 σ h1 h2 h4; exact pc_none rfl
  | succ N ih =>
    intro k x3 σ h1 h2 h4
    rw [lp_X0_addLooker_86_s]
    refine pc_ite (fun c => ?_) (fun c => ?_)
    · have d := ti_le c
      rw [tz_8] at d
      refine pc_lt (fun s1 hs => pc_ret ⟨rfl, fun p hp => ?_⟩)
      rw [hs, wvX_at (k := h) (i := 2) (q := 1) (by decide) rfl rfl hp, wvE_o (Or.inl (by decide)), h4]
      by_cases e : p = 1
      · subst e; rw [wv_us, if_pos rfl]
      · rw [wv_un e, if_neg e, if_neg (by omega)]
    · have d := ti_nle c
      rw [tz_8] at d
      rw [h4]
      refine pc_chk (fun _ => pc_chk (fun _ => pc_lt (fun s4 hs => ?_)))
      have hne : ¬ h = h + 11 + y.toNatClampNeg := by omega
      refine pc_mono (ih (k + 1) _ s4 (ti_nx h1 (by omega)) (by omega) (by rw [hs, up2_k hne, h4])) (fun r s q => ⟨q.1, fun p hp => ?_⟩)
      rw [q.2 p hp]
      have hj := wvJI_11 n hn k (by omega)
      have e : wvX h s4 p = upd (wvX h σ) (148 + 8 * n + k) 0 p := by
        rw [hs, wvX_at (q := 148 + 8 * n + k) (by omega) (by rw [tn_int hy]; omega) (by rw [tn_int h1]; exact hj.2) hp, wvE_o (Or.inr (by omega))]
      by_cases e0 : p = 1
      · rw [if_pos e0, if_pos e0]
      rw [if_neg e0, if_neg e0]
      by_cases e1 : p = 148 + 8 * n + k
      · rw [if_neg (by omega), if_pos (by omega), e, e1, wv_us]
      · by_cases e2 : 148 + 8 * n + k ≤ p ∧ p < 156 + 8 * n
        · rw [if_pos (by omega), if_pos e2]
        · rw [if_neg (by omega), if_neg e2, e, wv_un e1]
theorem ax_addLooker_59 {F h : Nat} {n : Nat} (hn : n < 5) {y : Int32} (hy : y.toInt = (n : Int)) : ∀ (N k : Nat) (x3 : Int32) (σ : Mem), x3.toInt = (k : Int) → k ≤ 24 → σ h 2 = y → pc (lp_X0_addLooker_59 F h N x3 σ) (fun r s => r = 1 ∧ ∀ p, p < 188 → wvX h s p = if p = 1 then y + 1 else if 28 + 24 * n + k ≤ p ∧ p < 52 + 24 * n then -9 else if 148 + 8 * n ≤ p ∧ p < 156 + 8 * n then 0 else wvX h σ p) := by
  intro N
  induction N with
  | zero => intro k x3 σ h1 h2 h4; exact pc_none rfl
  | succ N ih =>
    intro k x3 σ h1 h2 h4
    rw [lp_X0_addLooker_59_s]
    refine pc_ite (fun c => ?_) (fun c => ?_)
    · have d := ti_le c
      rw [tz_24] at d
      refine pc_mono (ax_addLooker_86 hn hy F 0 0 σ rfl (by omega) h4) (fun r s q => ⟨q.1, fun p hp => ?_⟩)
      rw [q.2 p hp]
      by_cases e : p = 1
      · rw [if_pos e, if_pos e]
      · rw [if_neg e, if_neg e, if_neg (show ¬ (28 + 24 * n + k ≤ p ∧ p < 52 + 24 * n) by omega)]
        rfl
    · have d := ti_nle c
      rw [tz_24] at d
      rw [h4]
      refine pc_chk (fun _ => pc_chk (fun _ => pc_lt (fun s4 hs => ?_)))
      have hne : ¬ h = h + 5 + y.toNatClampNeg := by omega
      refine pc_mono (ih (k + 1) _ s4 (ti_nx h1 (by omega)) (by omega) (by rw [hs, up2_k hne, h4])) (fun r s q => ⟨q.1, fun p hp => ?_⟩)
      rw [q.2 p hp]
      have hj := wvJI_5 n hn k (by omega)
      have e : wvX h s4 p = upd (wvX h σ) (28 + 24 * n + k) (-9) p := by
        rw [hs, wvX_at (q := 28 + 24 * n + k) (by omega) (by rw [tn_int hy]; omega) (by rw [tn_int h1]; exact hj.2) hp, wvE_i (by omega)]
        rfl
      by_cases e0 : p = 1
      · rw [if_pos e0, if_pos e0]
      rw [if_neg e0, if_neg e0]
      by_cases e1 : p = 28 + 24 * n + k
      · rw [if_neg (by omega), if_pos (show 28 + 24 * n + k ≤ p ∧ p < 52 + 24 * n by omega), if_neg (by omega), e, e1, wv_us]
      · by_cases e2 : 28 + 24 * n + k ≤ p ∧ p < 52 + 24 * n
        · rw [if_pos (show 28 + 24 * n + (k + 1) ≤ p ∧ p < 52 + 24 * n by omega), if_pos e2]
        · rw [if_neg (show ¬ (28 + 24 * n + (k + 1) ≤ p ∧ p < 52 + 24 * n) by omega), if_neg e2, e, wv_un e1]
theorem ax_addLooker {F h : Nat} {x1 x2 : Int32} {σ : Mem} (hh : wt_isH h) (b : 0 ≤ (σ h 2).toInt ∧ (σ h 2).toInt ≤ 5) : pc (f_X0_addLooker F h x1 x2 σ) (fun r s => wok ((0 ≤ x1.toInt ∧ x1.toInt ≤ 5) ∧ (0 ≤ x2.toInt ∧ x2.toInt ≤ 9) ∧ (σ h 2).toInt < 5) r σ s h (aLooker (wvX h σ) x1 x2)) := by
  have hc := wt_Hcs hh
  rw [f_X0_addLooker_e]
  simp only [j_X0_addLooker_35_e]
  refine pc_ite (fun c1 => pc_ret (wok_no (fun q => ?_))) (fun c1 => ?_)
  · ((try simp only [Int32.lt_iff_toInt_lt, Int32.le_iff_toInt_le, ← Int32.toInt_inj, tz_m2000, tz_m1000, tz_m9, tz_m6, tz_m4, tz_m3, tz_m2, tz_m1, tz_0, tz_1, tz_2, tz_3, tz_4, tz_5, tz_6, tz_7, tz_8, tz_9, tz_10, tz_11, tz_12, tz_20, tz_23, tz_24, tz_31, tz_48, tz_57, tz_59, tz_60, tz_95, tz_96, tz_98, tz_99, tz_100, tz_108, tz_112, tz_115, tz_117, tz_118, tz_119, tz_120, tz_188, tz_255, tz_999, tz_1000, tz_9999, tz_99999] at *) <;> omega)
  refine pc_ite (fun c2 => pc_ret (wok_no (fun q => ?_))) (fun c2 => ?_)
  · ((try simp only [Int32.lt_iff_toInt_lt, Int32.le_iff_toInt_le, ← Int32.toInt_inj, tz_m2000, tz_m1000, tz_m9, tz_m6, tz_m4, tz_m3, tz_m2, tz_m1, tz_0, tz_1, tz_2, tz_3, tz_4, tz_5, tz_6, tz_7, tz_8, tz_9, tz_10, tz_11, tz_12, tz_20, tz_23, tz_24, tz_31, tz_48, tz_57, tz_59, tz_60, tz_95, tz_96, tz_98, tz_99, tz_100, tz_108, tz_112, tz_115, tz_117, tz_118, tz_119, tz_120, tz_188, tz_255, tz_999, tz_1000, tz_9999, tz_99999] at *) <;> omega)
  refine pc_ite (fun c3 => pc_ret (wok_no (fun q => ?_))) (fun c3 => ?_)
  · ((try simp only [Int32.lt_iff_toInt_lt, Int32.le_iff_toInt_le, ← Int32.toInt_inj, tz_m2000, tz_m1000, tz_m9, tz_m6, tz_m4, tz_m3, tz_m2, tz_m1, tz_0, tz_1, tz_2, tz_3, tz_4, tz_5, tz_6, tz_7, tz_8, tz_9, tz_10, tz_11, tz_12, tz_20, tz_23, tz_24, tz_31, tz_48, tz_57, tz_59, tz_60, tz_95, tz_96, tz_98, tz_99, tz_100, tz_108, tz_112, tz_115, tz_117, tz_118, tz_119, tz_120, tz_188, tz_255, tz_999, tz_1000, tz_9999, tz_99999] at *) <;> omega)
  refine pc_ite (fun c4 => pc_ret (wok_no (fun q => ?_))) (fun c4 => ?_)
  · ((try simp only [Int32.lt_iff_toInt_lt, Int32.le_iff_toInt_le, ← Int32.toInt_inj, tz_m2000, tz_m1000, tz_m9, tz_m6, tz_m4, tz_m3, tz_m2, tz_m1, tz_0, tz_1, tz_2, tz_3, tz_4, tz_5, tz_6, tz_7, tz_8, tz_9, tz_10, tz_11, tz_12, tz_20, tz_23, tz_24, tz_31, tz_48, tz_57, tz_59, tz_60, tz_95, tz_96, tz_98, tz_99, tz_100, tz_108, tz_112, tz_115, tz_117, tz_118, tz_119, tz_120, tz_188, tz_255, tz_999, tz_1000, tz_9999, tz_99999] at *) <;> omega)
  refine pc_ite (fun c5 => pc_ret (wok_no (fun q => ?_))) (fun c5 => ?_)
  · ((try simp only [Int32.lt_iff_toInt_lt, Int32.le_iff_toInt_le, ← Int32.toInt_inj, tz_m2000, tz_m1000, tz_m9, tz_m6, tz_m4, tz_m3, tz_m2, tz_m1, tz_0, tz_1, tz_2, tz_3, tz_4, tz_5, tz_6, tz_7, tz_8, tz_9, tz_10, tz_11, tz_12, tz_20, tz_23, tz_24, tz_31, tz_48, tz_57, tz_59, tz_60, tz_95, tz_96, tz_98, tz_99, tz_100, tz_108, tz_112, tz_115, tz_117, tz_118, tz_119, tz_120, tz_188, tz_255, tz_999, tz_1000, tz_9999, tz_99999] at *) <;> omega)
  refine pc_ite (fun c6 => ?_) (fun c6 => pc_ret (wok_no (fun q => ?_)))
  rotate_left
  · ((try simp only [Int32.lt_iff_toInt_lt, Int32.le_iff_toInt_le, ← Int32.toInt_inj, tz_m2000, tz_m1000, tz_m9, tz_m6, tz_m4, tz_m3, tz_m2, tz_m1, tz_0, tz_1, tz_2, tz_3, tz_4, tz_5, tz_6, tz_7, tz_8, tz_9, tz_10, tz_11, tz_12, tz_20, tz_23, tz_24, tz_31, tz_48, tz_57, tz_59, tz_60, tz_95, tz_96, tz_98, tz_99, tz_100, tz_108, tz_112, tz_115, tz_117, tz_118, tz_119, tz_120, tz_188, tz_255, tz_999, tz_1000, tz_9999, tz_99999] at *) <;> omega)
  have d6 := ti_lt c6
  rw [tz_5] at d6
  have hn : (σ h 2).toNatClampNeg < 5 := tn_lt b.1 d6
  have hy : (σ h 2).toInt = ((σ h 2).toNatClampNeg : Int) := by rw [ti_nat]; omega
  refine pc_chk (fun _ => pc_lt (fun s9 h9 => ?_))
  have e9 : s9 h 2 = σ h 2 := by rw [h9, up2_k (by omega)]
  rw [e9]
  refine pc_chk (fun _ => pc_lt (fun s11 h11 => ?_))
  have e11 : s11 h 2 = σ h 2 := by rw [h11, up2_k (by omega), e9]
  refine pc_mono (ax_addLooker_59 hn hy F 0 0 s11 rfl (by omega) e11) (fun r s q => ?_)
  rw [q.1]
  refine wok_yes ⟨⟨?_, ?_⟩, ⟨?_, ?_⟩, d6⟩ (fun p hp => ?_)
  · ((try simp only [Int32.lt_iff_toInt_lt, Int32.le_iff_toInt_le, ← Int32.toInt_inj, tz_m2000, tz_m1000, tz_m9, tz_m6, tz_m4, tz_m3, tz_m2, tz_m1, tz_0, tz_1, tz_2, tz_3, tz_4, tz_5, tz_6, tz_7, tz_8, tz_9, tz_10, tz_11, tz_12, tz_20, tz_23, tz_24, tz_31, tz_48, tz_57, tz_59, tz_60, tz_95, tz_96, tz_98, tz_99, tz_100, tz_108, tz_112, tz_115, tz_117, tz_118, tz_119, tz_120, tz_188, tz_255, tz_999, tz_1000, tz_9999, tz_99999] at *) <;> omega)
  · ((try simp only [Int32.lt_iff_toInt_lt, Int32.le_iff_toInt_le, ← Int32.toInt_inj, tz_m2000, tz_m1000, tz_m9, tz_m6, tz_m4, tz_m3, tz_m2, tz_m1, tz_0, tz_1, tz_2, tz_3, tz_4, tz_5, tz_6, tz_7, tz_8, tz_9, tz_10, tz_11, tz_12, tz_20, tz_23, tz_24, tz_31, tz_48, tz_57, tz_59, tz_60, tz_95, tz_96, tz_98, tz_99, tz_100, tz_108, tz_112, tz_115, tz_117, tz_118, tz_119, tz_120, tz_188, tz_255, tz_999, tz_1000, tz_9999, tz_99999] at *) <;> omega)
  · ((try simp only [Int32.lt_iff_toInt_lt, Int32.le_iff_toInt_le, ← Int32.toInt_inj, tz_m2000, tz_m1000, tz_m9, tz_m6, tz_m4, tz_m3, tz_m2, tz_m1, tz_0, tz_1, tz_2, tz_3, tz_4, tz_5, tz_6, tz_7, tz_8, tz_9, tz_10, tz_11, tz_12, tz_20, tz_23, tz_24, tz_31, tz_48, tz_57, tz_59, tz_60, tz_95, tz_96, tz_98, tz_99, tz_100, tz_108, tz_112, tz_115, tz_117, tz_118, tz_119, tz_120, tz_188, tz_255, tz_999, tz_1000, tz_9999, tz_99999] at *) <;> omega)
  · ((try simp only [Int32.lt_iff_toInt_lt, Int32.le_iff_toInt_le, ← Int32.toInt_inj, tz_m2000, tz_m1000, tz_m9, tz_m6, tz_m4, tz_m3, tz_m2, tz_m1, tz_0, tz_1, tz_2, tz_3, tz_4, tz_5, tz_6, tz_7, tz_8, tz_9, tz_10, tz_11, tz_12, tz_20, tz_23, tz_24, tz_31, tz_48, tz_57, tz_59, tz_60, tz_95, tz_96, tz_98, tz_99, tz_100, tz_108, tz_112, tz_115, tz_117, tz_118, tz_119, tz_120, tz_188, tz_255, tz_999, tz_1000, tz_9999, tz_99999] at *) <;> omega)
  rw [q.2 p hp]
  have hj2 := wvJI_2 _ hn
  have hj3 := wvJI_3 _ hn
  have e : wvX h s11 p = upd (upd (wvX h σ) (18 + 2 * (σ h 2).toNatClampNeg) x1) (19 + 2 * (σ h 2).toNatClampNeg) x2 p := by
    rw [h11, wvX_at (q := 19 + 2 * (σ h 2).toNatClampNeg) (by omega) (by omega) hj3.2 hp, wvE_o (Or.inl (by omega))]
    refine upd_cg ?_ rfl
    rw [h9, wvX_at (q := 18 + 2 * (σ h 2).toNatClampNeg) (by omega) (by omega) hj2.2 hp, wvE_o (Or.inl (by omega))]
  unfold aLooker
  show _ = if p = 1 then σ h 2 + 1 else if p = 18 + 2 * (σ h 2).toNatClampNeg then x1 else if p = 19 + 2 * (σ h 2).toNatClampNeg then x2 else if 28 + 24 * (σ h 2).toNatClampNeg ≤ p ∧ p < 52 + 24 * (σ h 2).toNatClampNeg then -9 else if 148 + 8 * (σ h 2).toNatClampNeg ≤ p ∧ p < 156 + 8 * (σ h 2).toNatClampNeg then 0 else wvX h σ p
  by_cases e0 : p = 1
  · rw [if_pos e0, if_pos e0]
  rw [if_neg e0, if_neg e0, e]
  by_cases e1 : p = 18 + 2 * (σ h 2).toNatClampNeg
  · rw [if_pos e1, if_neg (by omega), if_neg (by omega), wv_un (by omega), e1, wv_us]
  rw [if_neg e1]
  by_cases e2 : p = 19 + 2 * (σ h 2).toNatClampNeg
  · rw [if_pos e2, if_neg (by omega), if_neg (by omega), e2, wv_us]
  rw [if_neg e2, wv_un e2, wv_un e1]
  rfl
/-- one house taken over into another -/
theorem ax_takeFrom_92 {F h g : Nat} (hg : g + 23 ≤ h ∨ h + 23 ≤ g) {τ : Mem} : ∀ (N k : Nat) (x2 : Int32) (σ : Mem), x2.toInt = (k : Int) → k ≤ 5 → (∀ q, g ≤ q → q < g + 23 → σ q = τ q) → (∀ p, p < 188 → (p < 28 ∨ (28 ≤ p ∧ p < 28 + 24 * k) ∨ (148 ≤ p ∧ p < 148 + 8 * k)) → wvX h σ p = wvX g τ p) → pc (lp_X0_takeFrom_92 F h g N x2 σ) (fun _ s => ∀ p, p < 188 → wvX h s p = wvX g τ p) := by
  intro N
  induction N with
  | zero => intro k x2 σ h1 h2 h4 h5; exact pc_none rfl
  | succ N ih =>
    intro k x2 σ h1 h2 h4 h5
    rw [lp_X0_takeFrom_92_s]
    refine pc_ite (fun c => ?_) (fun c => ?_)
    · have d := ti_le c
      rw [tz_5] at d
      exact pc_ret (fun p hp => h5 p hp (by omega))
    · have d := ti_nle c
      rw [tz_5] at d
      refine pc_chk (fun _ => pc_lt (fun s2 hs2 => pc_lt (fun s3 hs3 => ?_)))
      rw [tn_int h1] at hs2 hs3
      refine ih (k + 1) _ s3 (ti_nx h1 (by omega)) (by omega) (fun q a b => ?_) (fun p hp hcs => ?_)
      · rw [hs3, upA_k (by omega), hs2, upA_k (by omega)]; exact h4 q a b
      · by_cases e1 : 28 + 24 * k ≤ p ∧ p < 28 + 24 * (k + 1)
        · have hj := wvJI_5 k (by omega) (p - (28 + 24 * k)) (by omega)
          rw [show 28 + 24 * k + (p - (28 + 24 * k)) = p by omega] at hj
          unfold wvX
          rw [← hj.1, ← hj.2, hs3, upA_k (by omega), hs2, show h + (5 + k) = h + 5 + k by omega, upA_s, sb_cpy0 (by omega), h4 _ (by omega) (by omega), show g + (5 + k) = g + 5 + k by omega]
        · by_cases e2 : 148 + 8 * k ≤ p ∧ p < 148 + 8 * (k + 1)
          · have hj := wvJI_11 k (by omega) (p - (148 + 8 * k)) (by omega)
            rw [show 148 + 8 * k + (p - (148 + 8 * k)) = p by omega] at hj
            unfold wvX
            rw [← hj.1, ← hj.2, hs3, show h + (11 + k) = h + 11 + k by omega, upA_s, sb_cpy0 (by omega), hs2, upA_k (by omega), h4 _ (by omega) (by omega), show g + (11 + k) = g + 11 + k by omega]
          · rw [← h5 p hp (by omega)]
            have n1 : ¬ wvJ p = 5 + k := fun q => e1 (by have := wvJ_5' k (by omega) p hp q; omega)
            have n2 : ¬ wvJ p = 11 + k := fun q => e2 (by have := wvJ_11' k (by omega) p hp q; omega)
            unfold wvX
            rw [hs3, upA_k (by omega), hs2, upA_k (by omega)]
theorem ax_takeFrom {F h g : Nat} (hg : g + 23 ≤ h ∨ h + 23 ≤ g) {σ : Mem} : pc (f_X0_takeFrom F h g σ) (fun _ s => ∀ p, p < 188 → wvX h s p = wvX g σ p) := by
  rw [f_X0_takeFrom_e]
  refine pc_lt (fun s4 h4 => pc_lt (fun s5 h5 => pc_lt (fun s6 h6 => pc_lt (fun s7 h7 => pc_lt (fun s8 h8 => pc_lt (fun s9 h9 => pc_lt (fun s10 h10 => pc_lt (fun s11 h11 => ?_))))))))
  have o4 : ∀ q, ¬ q = h → s4 q = σ q := fun q n => by rw [h4, up2_k n]
  have o5 : ∀ q, ¬ q = h → s5 q = σ q := fun q n => by rw [h5, up2_k n, o4 q n]
  have o6 : ∀ q, ¬ q = h → s6 q = σ q := fun q n => by rw [h6, up2_k n, o5 q n]
  have o7 : ∀ q, ¬ q = h → s7 q = σ q := fun q n => by rw [h7, up2_k n, o6 q n]
  have f7 : s7 h 0 = σ g 0 ∧ s7 h 2 = σ g 2 ∧ s7 h 8 = σ g 8 ∧ s7 h 9 = σ g 9 := by
    refine ⟨?_, ?_, ?_, ?_⟩
    · rw [h7, up2_i (by decide), h6, up2_i (by decide), h5, up2_i (by decide), h4, up2_s]
    · rw [h7, up2_i (by decide), h6, up2_i (by decide), h5, up2_s, o4 g (by omega)]
    · rw [h7, up2_i (by decide), h6, up2_s, o5 g (by omega)]
    · rw [h7, up2_s, o6 g (by omega)]
  have o11 : ∀ q, ¬ q = h → ¬ q = h + 1 → ¬ q = h + 2 → ¬ q = h + 3 → ¬ q = h + 16 → s11 q = σ q := fun q n0 n1 n2 n3 n4 => by
    rw [h11, upA_k n4, h10, upA_k n3, h9, upA_k n2, h8, upA_k n1, o7 q n0]
  have f11 : s11 h = s7 h := by rw [h11, upA_k (by omega), h10, upA_k (by omega), h9, upA_k (by omega), h8, upA_k (by omega)]
  have f1 : ∀ i, i < 6 → s11 (h + 1) i = σ (g + 1) i := fun i hi => by
    rw [h11, upA_k (by omega), h10, upA_k (by omega), h9, upA_k (by omega), h8, upA_s, sb_cpy0 hi, o7 _ (by omega)]
  have f2 : ∀ i, i < 5 → s11 (h + 2) i = σ (g + 2) i := fun i hi => by
    rw [h11, upA_k (by omega), h10, upA_k (by omega), h9, upA_s, sb_cpy0 hi, h8, upA_k (by omega), o7 _ (by omega)]
  have f3 : ∀ i, i < 5 → s11 (h + 3) i = σ (g + 3) i := fun i hi => by
    rw [h11, upA_k (by omega), h10, upA_s, sb_cpy0 hi, h9, upA_k (by omega), h8, upA_k (by omega), o7 _ (by omega)]
  have f16 : ∀ i, i < 8 → s11 (h + 16) i = σ (g + 16) i := fun i hi => by
    rw [h11, upA_s, sb_cpy0 hi, h10, upA_k (by omega), h9, upA_k (by omega), h8, upA_k (by omega), o7 _ (by omega)]
  refine ax_takeFrom_92 (τ := σ) hg F 0 0 s11 rfl (by omega) (fun q a b => o11 q (by omega) (by omega) (by omega) (by omega) (by omega)) (fun p hp hcs => ?_)
  have hp28 : p < 28 := by omega
  unfold wvX
  congr 1
  have hj := wvJ_cs p hp28
  rcases hj with ⟨a, b⟩ | ⟨a, b⟩ | ⟨a, b⟩ | ⟨a, b⟩ | ⟨a, b⟩
  · rw [a]
    show s11 h (wvI p) = σ g (wvI p)
    rw [f11]
    rcases b with e | e | e | e <;> rw [e]
    · exact f7.1
    · exact f7.2.1
    · exact f7.2.2.1
    · exact f7.2.2.2
  · rw [a]; exact f16 _ b
  · rw [a]; exact f1 _ b
  · rw [a]; exact f2 _ b
  · rw [a]; exact f3 _ b
/-- the counts below the n-th are those of the day's end -/
def pI (h n : Nat) (V : Nat → Int32) (x : Int32) (s0 σ : Mem) : Prop := (∀ k, ¬ (h + 11 ≤ k ∧ k ≤ h + 15) → σ k = s0 k) ∧ ∀ m v, m < 5 → v < 8 → σ (h + 11 + m) v = if 8 * m + v < n then aBehind V x m v else s0 (h + 11 + m) v
theorem ax_pass_41 {F h : Nat} {k31 : Int32 → Mem → Option (Int32 × Mem)} {x1 x2 : Int32} {l : Nat} {V : Nat → Int32} {s0 : Mem} {Q : Int32 → Mem → Prop} (a : vH h V s0) (g : vG h V s0) (hl : x2.toInt = (l : Int)) (hl5 : (l : Int) < (V 1).toInt) (hk : ∀ σ, pI h (8 * (l + 1)) V x1 s0 σ → pc (k31 (x2 + 1) σ) Q) : ∀ (N j : Nat) (x3 : Int32) (σ : Mem), x3.toInt = (j : Int) → j ≤ 8 → pI h (8 * l + j) V x1 s0 σ → pc (lp_X0_pass_41 F k31 h x1 x2 N x3 σ) Q := by
  intro N
  induction N with
  | zero => intro j x3 σ h1 h2 h3; exact pc_none rfl
  | succ N ih =>
    intro j x3 σ h1 h2 h3
    have h5 := a.1.2.1.2
    rw [lp_X0_pass_41_s]
    refine pc_ite (fun c => hk _ ?_) (fun c => pc_chk (fun v => ?_))
    · have d := ti_le c
      rw [tz_8] at d
      rw [show 8 * (l + 1) = 8 * l + j by omega]
      exact h3
    have d := ti_nle c
    rw [tz_8] at d
    refine pc_bnd (P := fun r s => r = aBehind V x1 l j ∧ s = σ) ?_ (fun r s e => ?_)
    · rw [f_X0_behind_e]
      refine pc_chk (fun _ => pc_chk (fun _ => pc_ret ⟨?_, rfl⟩))
      rw [tn_int hl, tn_int h1, h3.2 l j (by omega) (by omega), if_neg (by omega), h3.1 (h + 18 + l) (by omega), vH_n a hl5 (by omega), g l hl5 j (by omega)]
      rfl
    · refine pc_chk (fun v2 => pc_lt (fun s5 h5' => ih (j + 1) _ _ (ti_nx h1 (by omega)) (by omega) ?_))
      rw [tn_int hl, tn_int h1, e.2, e.1] at h5'
      refine ⟨fun k hk' => by rw [h5', up2_k (by omega)]; exact h3.1 k hk', fun m w hm hw => ?_⟩
      rw [h5', wm_key]
      by_cases ee : m = l ∧ w = j
      · obtain ⟨rfl, rfl⟩ := ee
        rw [if_pos ⟨rfl, rfl⟩, if_pos (by omega)]
      · rw [if_neg (by rintro ⟨w1, w2⟩; exact ee ⟨by omega, w2⟩), h3.2 m w hm hw]
        by_cases e3 : 8 * m + w < 8 * l + j
        · rw [if_pos e3, if_pos (by omega)]
        · rw [if_neg e3, if_neg (by intro q; exact ee ⟨by omega, by omega⟩)]
theorem ax_pass_31 {F h : Nat} {x1 : Int32} {V : Nat → Int32} {s0 : Mem} (a : vH h V s0) (g : vG h V s0) : ∀ (N l : Nat) (x2 : Int32) (σ : Mem), x2.toInt = (l : Int) → (l : Int) ≤ (V 1).toInt → pI h (8 * l) V x1 s0 σ → pc (lp_X0_pass_31 F h x1 N x2 σ) (fun r s => r = 1 ∧ ∃ z, pI h (8 * (V 1).toNatClampNeg) V x1 s0 z ∧ s = up2 z h 9 (V 3 + x1)) := by
  intro N
  induction N with
  | zero => intro l x2 σ h1 h2 h3; exact pc_none rfl
  | succ N ih =>
    intro l x2 σ h1 h2 h3
    have n1 := ti_nat (V 1)
    have eh : σ h = s0 h := h3.1 h (by omega)
    rw [lp_X0_pass_31_s, eh, vH_2 a]
    refine pc_ite (fun c => pc_lt (fun s6 h6 => pc_ret ⟨rfl, σ, ?_, ?_⟩)) (fun c => ?_)
    · have d := ti_le c
      rw [show (V 1).toNatClampNeg = l by omega]
      exact h3
    · rw [h6, vH_9 a]
    · have d := ti_nle c
      exact ax_pass_41 a g h1 (by omega) (fun s q => ih (l + 1) _ s (ti_nx h1 (by have := a.1.2.1.2; omega)) (by omega) q) F 0 0 σ rfl (by omega) h3
theorem wvJ_hi : ∀ p, p < 188 → ¬ p < 148 → wvJ p = 11 + (p - 148) / 8 ∧ wvI p = (p - 148) % 8 := by decide +kernel
theorem pI_day {h : Nat} {V : Nat → Int32} {x : Int32} {σ s0 z : Mem} (eV : ∀ p, p < 188 → wvX h σ p = V p) (e0 : ∀ k, ¬ (h + 18 ≤ k ∧ k ≤ h + 22) → s0 k = σ k) (q : pI h (8 * (V 1).toNatClampNeg) V x s0 z) {p : Nat} (hp : p < 188) : wvX h (up2 z h 9 (V 3 + x)) p = aDay V x p := by
  rw [wvX_at (k := h) (i := 9) (q := 3) (by decide) rfl rfl hp]
  unfold aDay
  by_cases e3 : p = 3
  · subst e3; rw [wv_us, if_pos rfl]; rfl
  rw [wv_un e3, if_neg e3]
  by_cases c : p < 148
  · rw [if_neg (by omega), ← eV p hp]
    unfold wvX
    have hj : wvJ p = 0 ∨ (1 ≤ wvJ p ∧ wvJ p ≤ 9) ∨ wvJ p = 16 := by
      by_cases c4 : p < 4
      · left; unfold wvJ; rw [if_pos c4]
      · right; exact wvJ_lo p c (by omega)
    rw [q.1 _ (by omega), e0 _ (by omega)]
  · obtain ⟨j1, j2⟩ := wvJ_hi p hp c
    have hz := q.2 ((p - 148) / 8) ((p - 148) % 8) (by omega) (Nat.mod_lt _ (by decide))
    unfold wvX
    rw [wvE_o (by omega), j1, j2, show h + (11 + (p - 148) / 8) = h + 11 + (p - 148) / 8 by omega, hz]
    by_cases d : (p - 148) / 8 < (V 1).toNatClampNeg
    · rw [if_pos (by omega), if_pos ⟨by omega, hp, d⟩]
    · rw [if_neg (by omega), if_neg (by rintro ⟨w1, w2, w3⟩; exact d w3), e0 _ (by omega), ← eV p hp]
      unfold wvX
      rw [wvE_o (by omega), j1, j2, show h + (11 + (p - 148) / 8) = h + 11 + (p - 148) / 8 by omega]
theorem ax_pass {F h : Nat} (hF : 1000 ≤ F) {x : Int32} {σ : Mem} (hh : wt_isH h) (hv : wvV (wvX h σ)) : pc (f_X0_pass F h x σ) (fun r s => ((1 ≤ x.toInt ∧ x.toInt ≤ 99 ∧ (σ h 9 + x).toInt ≤ 9999) → r = 1 ∧ ∀ p, p < 188 → wvX h s p = aDay (wvX h σ) x p) ∧ (¬ (1 ≤ x.toInt ∧ x.toInt ≤ 99 ∧ (σ h 9 + x).toInt ≤ 9999) → r = 0 ∧ s = σ)) := by
  have a : vH h (wvX h σ) σ := ⟨hv, fun _ _ _ => rfl⟩
  rw [f_X0_pass_e]
  simp only [j_X0_pass_23_e]
  refine pc_ite (fun c1 => pc_ret ⟨fun q => ?_, fun _ => ⟨rfl, rfl⟩⟩) (fun c1 => ?_)
  · exfalso; ((try simp only [Int32.lt_iff_toInt_lt, Int32.le_iff_toInt_le, ← Int32.toInt_inj, tz_m2000, tz_m1000, tz_m9, tz_m6, tz_m4, tz_m3, tz_m2, tz_m1, tz_0, tz_1, tz_2, tz_3, tz_4, tz_5, tz_6, tz_7, tz_8, tz_9, tz_10, tz_11, tz_12, tz_20, tz_23, tz_24, tz_31, tz_48, tz_57, tz_59, tz_60, tz_95, tz_96, tz_98, tz_99, tz_100, tz_108, tz_112, tz_115, tz_117, tz_118, tz_119, tz_120, tz_188, tz_255, tz_999, tz_1000, tz_9999, tz_99999] at *) <;> omega)
  refine pc_ite (fun c2 => pc_ret ⟨fun q => ?_, fun _ => ⟨rfl, rfl⟩⟩) (fun c2 => ?_)
  · exfalso; ((try simp only [Int32.lt_iff_toInt_lt, Int32.le_iff_toInt_le, ← Int32.toInt_inj, tz_m2000, tz_m1000, tz_m9, tz_m6, tz_m4, tz_m3, tz_m2, tz_m1, tz_0, tz_1, tz_2, tz_3, tz_4, tz_5, tz_6, tz_7, tz_8, tz_9, tz_10, tz_11, tz_12, tz_20, tz_23, tz_24, tz_31, tz_48, tz_57, tz_59, tz_60, tz_95, tz_96, tz_98, tz_99, tz_100, tz_108, tz_112, tz_115, tz_117, tz_118, tz_119, tz_120, tz_188, tz_255, tz_999, tz_1000, tz_9999, tz_99999] at *) <;> omega)
  refine pc_ite (fun c3 => ?_) (fun c3 => pc_ret ⟨fun q => ?_, fun _ => ⟨rfl, rfl⟩⟩)
  rotate_left
  · exfalso; ((try simp only [Int32.lt_iff_toInt_lt, Int32.le_iff_toInt_le, ← Int32.toInt_inj, tz_m2000, tz_m1000, tz_m9, tz_m6, tz_m4, tz_m3, tz_m2, tz_m1, tz_0, tz_1, tz_2, tz_3, tz_4, tz_5, tz_6, tz_7, tz_8, tz_9, tz_10, tz_11, tz_12, tz_20, tz_23, tz_24, tz_31, tz_48, tz_57, tz_59, tz_60, tz_95, tz_96, tz_98, tz_99, tz_100, tz_108, tz_112, tz_115, tz_117, tz_118, tz_119, tz_120, tz_188, tz_255, tz_999, tz_1000, tz_9999, tz_99999] at *) <;> omega)
  refine pc_bnd (ax_reckon a) (fun _ s8 f8 => ?_)
  have a8 : vH h (wvX h σ) s8 := vH_k a f8.1
  refine pc_mono (ax_pass_31 a8 f8.2 F 0 0 s8 rfl a.1.2.1.1 ⟨fun _ _ => rfl, fun m v hm hv' => by rw [if_neg (by omega)]⟩) (fun r s q => ⟨fun _ => ⟨q.1, fun p hp => ?_⟩, fun n => ?_⟩)
  · obtain ⟨-, z, q1, q2⟩ := q
    rw [q2]
    exact pI_day (fun _ _ => rfl) f8.1 q1 hp
  exfalso
  apply n
  refine ⟨?_, ?_, ?_⟩
  · clear q n f8 a8 a; ((try simp only [Int32.lt_iff_toInt_lt, Int32.le_iff_toInt_le, ← Int32.toInt_inj, tz_m2000, tz_m1000, tz_m9, tz_m6, tz_m4, tz_m3, tz_m2, tz_m1, tz_0, tz_1, tz_2, tz_3, tz_4, tz_5, tz_6, tz_7, tz_8, tz_9, tz_10, tz_11, tz_12, tz_20, tz_23, tz_24, tz_31, tz_48, tz_57, tz_59, tz_60, tz_95, tz_96, tz_98, tz_99, tz_100, tz_108, tz_112, tz_115, tz_117, tz_118, tz_119, tz_120, tz_188, tz_255, tz_999, tz_1000, tz_9999, tz_99999] at *) <;> omega)
  · clear q n f8 a8 a; ((try simp only [Int32.lt_iff_toInt_lt, Int32.le_iff_toInt_le, ← Int32.toInt_inj, tz_m2000, tz_m1000, tz_m9, tz_m6, tz_m4, tz_m3, tz_m2, tz_m1, tz_0, tz_1, tz_2, tz_3, tz_4, tz_5, tz_6, tz_7, tz_8, tz_9, tz_10, tz_11, tz_12, tz_20, tz_23, tz_24, tz_31, tz_48, tz_57, tz_59, tz_60, tz_95, tz_96, tz_98, tz_99, tz_100, tz_108, tz_112, tz_115, tz_117, tz_118, tz_119, tz_120, tz_188, tz_255, tz_999, tz_1000, tz_9999, tz_99999] at *) <;> omega)
  · clear q n f8 a8 a; ((try simp only [Int32.lt_iff_toInt_lt, Int32.le_iff_toInt_le, ← Int32.toInt_inj, tz_m2000, tz_m1000, tz_m9, tz_m6, tz_m4, tz_m3, tz_m2, tz_m1, tz_0, tz_1, tz_2, tz_3, tz_4, tz_5, tz_6, tz_7, tz_8, tz_9, tz_10, tz_11, tz_12, tz_20, tz_23, tz_24, tz_31, tz_48, tz_57, tz_59, tz_60, tz_95, tz_96, tz_98, tz_99, tz_100, tz_108, tz_112, tz_115, tz_117, tz_118, tz_119, tz_120, tz_188, tz_255, tz_999, tz_1000, tz_9999, tz_99999] at *) <;> omega)
