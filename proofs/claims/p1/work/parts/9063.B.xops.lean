/-! the class's changes of a house -/
theorem tn_lt {x : Int32} {n : Nat} (h0 : 0 ≤ x.toInt) (h : x.toInt < (n : Int)) : x.toNatClampNeg < n := by
  rw [ti_nat]; omega
theorem ax_isPane {F h : Nat} {x : Int32} {σ : Mem} (b : (σ h 0).toInt ≤ 6) : f_X0_isPane F h x σ = some (if 0 ≤ x.toInt ∧ x.toInt < (σ h 0).toInt then 1 else 0, σ) := by
  rw [f_X0_isPane_e]
  simp only [j_X0_isPane_22_e]
  by_cases c1 : x < 0
  · rw [if_pos c1, if_neg (fun q => by have := ti_lt c1; have := q.1; rw [tz_0] at *; omega)]
  · rw [if_neg c1]
    have d1 := ti_nlt c1
    rw [tz_0] at d1
    by_cases c2 : σ h 0 ≤ x
    · rw [if_pos c2, if_neg (fun q => by have := ti_le c2; have := q.2; omega)]
    · rw [if_neg c2]
      have d2 := ti_nle c2
      rw [if_neg (fun c3 => by have := ti_le c3; rw [tz_6] at this; omega), if_pos ⟨d1, d2⟩]
theorem ax_isLooker {F h : Nat} {x : Int32} {σ : Mem} (b : (σ h 2).toInt ≤ 5) : f_X0_isLooker F h x σ = some (if 0 ≤ x.toInt ∧ x.toInt < (σ h 2).toInt then 1 else 0, σ) := by
  rw [f_X0_isLooker_e]
  simp only [j_X0_isLooker_21_e]
  by_cases c1 : x < 0
  · rw [if_pos c1, if_neg (fun q => by have := ti_lt c1; have := q.1; rw [tz_0] at *; omega)]
  · rw [if_neg c1]
    have d1 := ti_nlt c1
    rw [tz_0] at d1
    by_cases c2 : σ h 2 ≤ x
    · rw [if_pos c2, if_neg (fun q => by have := ti_le c2; have := q.2; omega)]
    · rw [if_neg c2]
      have d2 := ti_nle c2
      rw [if_neg (fun c3 => by have := ti_le c3; rw [tz_5] at this; omega), if_pos ⟨d1, d2⟩]
theorem ax_isHour {F : Nat} {x : Int32} {σ : Mem} : f_X0_isHour F x σ = some (if 0 ≤ x.toInt ∧ x.toInt ≤ 23 then 1 else 0, σ) := by
  rw [f_X0_isHour_e]
  simp only [j_X0_isHour_14_e]
  by_cases c1 : x < 0
  · rw [if_pos c1, if_neg (fun q => by have := ti_lt c1; have := q.1; rw [tz_0] at *; omega)]
  · rw [if_neg c1]
    have d1 := ti_nlt c1
    rw [tz_0] at d1
    by_cases c2 : (24 : Int32) ≤ x
    · rw [if_pos c2, if_neg (fun q => by have := ti_le c2; have := q.2; rw [tz_24] at *; omega)]
    · have d2 := ti_nle c2
      rw [tz_24] at d2
      rw [if_neg c2, if_pos ⟨d1, by omega⟩]
theorem ax_isView {F : Nat} {x : Int32} {σ : Mem} : f_X0_isView F x σ = some (if 0 ≤ x.toInt ∧ x.toInt ≤ 7 then 1 else 0, σ) := by
  rw [f_X0_isView_e]
  simp only [j_X0_isView_14_e]
  by_cases c1 : x < 0
  · rw [if_pos c1, if_neg (fun q => by have := ti_lt c1; have := q.1; rw [tz_0] at *; omega)]
  · rw [if_neg c1]
    have d1 := ti_nlt c1
    rw [tz_0] at d1
    by_cases c2 : (8 : Int32) ≤ x
    · rw [if_pos c2, if_neg (fun q => by have := ti_le c2; have := q.2; rw [tz_8] at *; omega)]
    · have d2 := ti_nle c2
      rw [tz_8] at d2
      rw [if_neg c2, if_pos ⟨d1, by omega⟩]
/-- what a change answers: 1 and it is done, or 0 and all is as it was -/
def wok (c : Prop) (r : Int32) (σ s : Mem) (h : Nat) (A : Nat → Int32) : Prop := (c → r = 1 ∧ ∀ p, p < 188 → wvX h s p = A p) ∧ (¬ c → r = 0 ∧ s = σ)
theorem wok_no {c : Prop} {σ : Mem} {h : Nat} {A : Nat → Int32} (hc : ¬ c) : wok c 0 σ σ h A := ⟨fun q => absurd q hc, fun _ => ⟨rfl, rfl⟩⟩
theorem wok_yes {c : Prop} {σ s : Mem} {h : Nat} {A : Nat → Int32} (hc : c) (hA : ∀ p, p < 188 → wvX h s p = A p) : wok c 1 σ s h A := ⟨fun _ => ⟨rfl, hA⟩, fun q => absurd hc q⟩
theorem upd_cg {f g : Nat → Int32} {k : Nat} {x y : Int32} {p : Nat} (h : f p = g p) (hx : x = y) : upd f k x p = upd g k y p := by
  subst hx
  by_cases e : p = k
  · subst e; rw [wv_us, wv_us]
  · rw [wv_un e, wv_un e, h]
theorem ax_addPane {F h : Nat} {x : Int32} {σ : Mem} (hh : wt_isH h) (b : 0 ≤ (σ h 0).toInt ∧ (σ h 0).toInt ≤ 6) : pc (f_X0_addPane F h x σ) (fun r s => wok (0 ≤ x.toInt ∧ x.toInt ≤ 255 ∧ (σ h 0).toInt < 6) r σ s h (aPane (wvX h σ) x)) := by
  have hc := wt_Hcs hh
  rw [f_X0_addPane_e]
  simp only [j_X0_addPane_27_e]
  refine pc_ite (fun c1 => pc_ret (wok_no (fun q => ?_))) (fun c1 => ?_)
  · ((try simp only [Int32.lt_iff_toInt_lt, Int32.le_iff_toInt_le, ← Int32.toInt_inj, tz_m2000, tz_m1000, tz_m9, tz_m6, tz_m4, tz_m3, tz_m2, tz_m1, tz_0, tz_1, tz_2, tz_3, tz_4, tz_5, tz_6, tz_7, tz_8, tz_9, tz_10, tz_11, tz_12, tz_20, tz_23, tz_24, tz_31, tz_48, tz_57, tz_59, tz_60, tz_95, tz_96, tz_98, tz_99, tz_100, tz_108, tz_112, tz_115, tz_117, tz_118, tz_119, tz_120, tz_188, tz_255, tz_999, tz_1000, tz_9999, tz_99999] at *) <;> omega)
  refine pc_ite (fun c2 => pc_ret (wok_no (fun q => ?_))) (fun c2 => ?_)
  · ((try simp only [Int32.lt_iff_toInt_lt, Int32.le_iff_toInt_le, ← Int32.toInt_inj, tz_m2000, tz_m1000, tz_m9, tz_m6, tz_m4, tz_m3, tz_m2, tz_m1, tz_0, tz_1, tz_2, tz_3, tz_4, tz_5, tz_6, tz_7, tz_8, tz_9, tz_10, tz_11, tz_12, tz_20, tz_23, tz_24, tz_31, tz_48, tz_57, tz_59, tz_60, tz_95, tz_96, tz_98, tz_99, tz_100, tz_108, tz_112, tz_115, tz_117, tz_118, tz_119, tz_120, tz_188, tz_255, tz_999, tz_1000, tz_9999, tz_99999] at *) <;> omega)
  refine pc_ite (fun c3 => pc_ret (wok_no (fun q => ?_))) (fun c3 => ?_)
  · ((try simp only [Int32.lt_iff_toInt_lt, Int32.le_iff_toInt_le, ← Int32.toInt_inj, tz_m2000, tz_m1000, tz_m9, tz_m6, tz_m4, tz_m3, tz_m2, tz_m1, tz_0, tz_1, tz_2, tz_3, tz_4, tz_5, tz_6, tz_7, tz_8, tz_9, tz_10, tz_11, tz_12, tz_20, tz_23, tz_24, tz_31, tz_48, tz_57, tz_59, tz_60, tz_95, tz_96, tz_98, tz_99, tz_100, tz_108, tz_112, tz_115, tz_117, tz_118, tz_119, tz_120, tz_188, tz_255, tz_999, tz_1000, tz_9999, tz_99999] at *) <;> omega)
  refine pc_ite (fun c4 => ?_) (fun c4 => pc_ret (wok_no (fun q => ?_)))
  rotate_left
  · ((try simp only [Int32.lt_iff_toInt_lt, Int32.le_iff_toInt_le, ← Int32.toInt_inj, tz_m2000, tz_m1000, tz_m9, tz_m6, tz_m4, tz_m3, tz_m2, tz_m1, tz_0, tz_1, tz_2, tz_3, tz_4, tz_5, tz_6, tz_7, tz_8, tz_9, tz_10, tz_11, tz_12, tz_20, tz_23, tz_24, tz_31, tz_48, tz_57, tz_59, tz_60, tz_95, tz_96, tz_98, tz_99, tz_100, tz_108, tz_112, tz_115, tz_117, tz_118, tz_119, tz_120, tz_188, tz_255, tz_999, tz_1000, tz_9999, tz_99999] at *) <;> omega)
  have d4 := ti_lt c4
  rw [tz_6] at d4
  have hn : (σ h 0).toNatClampNeg < 6 := tn_lt b.1 d4
  refine pc_chk (fun _ => pc_lt (fun s2 h2 => pc_lt (fun s3 h3 => pc_ret (wok_yes ⟨?_, ?_, d4⟩ (fun p hp => ?_)))))
  · ((try simp only [Int32.lt_iff_toInt_lt, Int32.le_iff_toInt_le, ← Int32.toInt_inj, tz_m2000, tz_m1000, tz_m9, tz_m6, tz_m4, tz_m3, tz_m2, tz_m1, tz_0, tz_1, tz_2, tz_3, tz_4, tz_5, tz_6, tz_7, tz_8, tz_9, tz_10, tz_11, tz_12, tz_20, tz_23, tz_24, tz_31, tz_48, tz_57, tz_59, tz_60, tz_95, tz_96, tz_98, tz_99, tz_100, tz_108, tz_112, tz_115, tz_117, tz_118, tz_119, tz_120, tz_188, tz_255, tz_999, tz_1000, tz_9999, tz_99999] at *) <;> omega)
  · ((try simp only [Int32.lt_iff_toInt_lt, Int32.le_iff_toInt_le, ← Int32.toInt_inj, tz_m2000, tz_m1000, tz_m9, tz_m6, tz_m4, tz_m3, tz_m2, tz_m1, tz_0, tz_1, tz_2, tz_3, tz_4, tz_5, tz_6, tz_7, tz_8, tz_9, tz_10, tz_11, tz_12, tz_20, tz_23, tz_24, tz_31, tz_48, tz_57, tz_59, tz_60, tz_95, tz_96, tz_98, tz_99, tz_100, tz_108, tz_112, tz_115, tz_117, tz_118, tz_119, tz_120, tz_188, tz_255, tz_999, tz_1000, tz_9999, tz_99999] at *) <;> omega)
  have hj := wvJI_1 _ hn
  rw [h3, wvX_at (k := h) (i := 0) (q := 0) (by decide) rfl rfl hp]
  unfold aPane
  refine upd_cg ?_ ?_
  · rw [h2, wvX_at (q := 12 + (σ h 0).toNatClampNeg) (by omega) (by omega) hj.2 hp, wvE_o (Or.inl (by omega))]
    rfl
  · rw [wvE_o (Or.inl (by decide)), h2, up2_k (by omega)]
    rfl
theorem ax_rule {F h : Nat} {x : Int32} {σ : Mem} : pc (f_X0_rule F h x σ) (fun r s => wok (0 ≤ x.toInt ∧ x.toInt ≤ 2) r σ s h (aLaw (wvX h σ) x)) := by
  rw [f_X0_rule_e]
  simp only [j_X0_rule_9_e]
  refine pc_ite (fun c1 => pc_ret (wok_no (fun q => ?_))) (fun c1 => ?_)
  · ((try simp only [Int32.lt_iff_toInt_lt, Int32.le_iff_toInt_le, ← Int32.toInt_inj, tz_m2000, tz_m1000, tz_m9, tz_m6, tz_m4, tz_m3, tz_m2, tz_m1, tz_0, tz_1, tz_2, tz_3, tz_4, tz_5, tz_6, tz_7, tz_8, tz_9, tz_10, tz_11, tz_12, tz_20, tz_23, tz_24, tz_31, tz_48, tz_57, tz_59, tz_60, tz_95, tz_96, tz_98, tz_99, tz_100, tz_108, tz_112, tz_115, tz_117, tz_118, tz_119, tz_120, tz_188, tz_255, tz_999, tz_1000, tz_9999, tz_99999] at *) <;> omega)
  refine pc_ite (fun c2 => ?_) (fun c2 => pc_ret (wok_no (fun q => ?_)))
  rotate_left
  · ((try simp only [Int32.lt_iff_toInt_lt, Int32.le_iff_toInt_le, ← Int32.toInt_inj, tz_m2000, tz_m1000, tz_m9, tz_m6, tz_m4, tz_m3, tz_m2, tz_m1, tz_0, tz_1, tz_2, tz_3, tz_4, tz_5, tz_6, tz_7, tz_8, tz_9, tz_10, tz_11, tz_12, tz_20, tz_23, tz_24, tz_31, tz_48, tz_57, tz_59, tz_60, tz_95, tz_96, tz_98, tz_99, tz_100, tz_108, tz_112, tz_115, tz_117, tz_118, tz_119, tz_120, tz_188, tz_255, tz_999, tz_1000, tz_9999, tz_99999] at *) <;> omega)
  refine pc_lt (fun s1 h1 => pc_ret (wok_yes ⟨?_, ?_⟩ (fun p hp => ?_)))
  · ((try simp only [Int32.lt_iff_toInt_lt, Int32.le_iff_toInt_le, ← Int32.toInt_inj, tz_m2000, tz_m1000, tz_m9, tz_m6, tz_m4, tz_m3, tz_m2, tz_m1, tz_0, tz_1, tz_2, tz_3, tz_4, tz_5, tz_6, tz_7, tz_8, tz_9, tz_10, tz_11, tz_12, tz_20, tz_23, tz_24, tz_31, tz_48, tz_57, tz_59, tz_60, tz_95, tz_96, tz_98, tz_99, tz_100, tz_108, tz_112, tz_115, tz_117, tz_118, tz_119, tz_120, tz_188, tz_255, tz_999, tz_1000, tz_9999, tz_99999] at *) <;> omega)
  · ((try simp only [Int32.lt_iff_toInt_lt, Int32.le_iff_toInt_le, ← Int32.toInt_inj, tz_m2000, tz_m1000, tz_m9, tz_m6, tz_m4, tz_m3, tz_m2, tz_m1, tz_0, tz_1, tz_2, tz_3, tz_4, tz_5, tz_6, tz_7, tz_8, tz_9, tz_10, tz_11, tz_12, tz_20, tz_23, tz_24, tz_31, tz_48, tz_57, tz_59, tz_60, tz_95, tz_96, tz_98, tz_99, tz_100, tz_108, tz_112, tz_115, tz_117, tz_118, tz_119, tz_120, tz_188, tz_255, tz_999, tz_1000, tz_9999, tz_99999] at *) <;> omega)
  rw [h1, wvX_at (k := h) (i := 8) (q := 2) (by decide) rfl rfl hp]
  rfl
theorem ax_price {F h : Nat} {x1 x2 : Int32} {σ : Mem} : pc (f_X0_price F h x1 x2 σ) (fun r s => wok (0 ≤ x1.toInt ∧ x1.toInt ≤ 7 ∧ 0 ≤ x2.toInt ∧ x2.toInt ≤ 9) r σ s h (aWorth (wvX h σ) x1 x2)) := by
  rw [f_X0_price_e]
  simp only [j_X0_price_17_e]
  refine pc_be ax_isView ?_
  by_cases c0 : 0 ≤ x1.toInt ∧ x1.toInt ≤ 7
  rotate_left
  · rw [if_neg c0, if_pos rfl]; exact pc_ret (wok_no (fun q => c0 ⟨q.1, q.2.1⟩))
  rw [if_pos c0, if_neg (by decide)]
  refine pc_ite (fun c1 => pc_ret (wok_no (fun q => ?_))) (fun c1 => ?_)
  · ((try simp only [Int32.lt_iff_toInt_lt, Int32.le_iff_toInt_le, ← Int32.toInt_inj, tz_m2000, tz_m1000, tz_m9, tz_m6, tz_m4, tz_m3, tz_m2, tz_m1, tz_0, tz_1, tz_2, tz_3, tz_4, tz_5, tz_6, tz_7, tz_8, tz_9, tz_10, tz_11, tz_12, tz_20, tz_23, tz_24, tz_31, tz_48, tz_57, tz_59, tz_60, tz_95, tz_96, tz_98, tz_99, tz_100, tz_108, tz_112, tz_115, tz_117, tz_118, tz_119, tz_120, tz_188, tz_255, tz_999, tz_1000, tz_9999, tz_99999] at *) <;> omega)
  refine pc_ite (fun c2 => ?_) (fun c2 => pc_ret (wok_no (fun q => ?_)))
  rotate_left
  · ((try simp only [Int32.lt_iff_toInt_lt, Int32.le_iff_toInt_le, ← Int32.toInt_inj, tz_m2000, tz_m1000, tz_m9, tz_m6, tz_m4, tz_m3, tz_m2, tz_m1, tz_0, tz_1, tz_2, tz_3, tz_4, tz_5, tz_6, tz_7, tz_8, tz_9, tz_10, tz_11, tz_12, tz_20, tz_23, tz_24, tz_31, tz_48, tz_57, tz_59, tz_60, tz_95, tz_96, tz_98, tz_99, tz_100, tz_108, tz_112, tz_115, tz_117, tz_118, tz_119, tz_120, tz_188, tz_255, tz_999, tz_1000, tz_9999, tz_99999] at *) <;> omega)
  have hn : x1.toNatClampNeg < 8 := tn_lt c0.1 (by omega)
  refine pc_chk (fun _ => pc_lt (fun s1 h1 => pc_ret (wok_yes ⟨c0.1, c0.2, ?_, ?_⟩ (fun p hp => ?_))))
  · ((try simp only [Int32.lt_iff_toInt_lt, Int32.le_iff_toInt_le, ← Int32.toInt_inj, tz_m2000, tz_m1000, tz_m9, tz_m6, tz_m4, tz_m3, tz_m2, tz_m1, tz_0, tz_1, tz_2, tz_3, tz_4, tz_5, tz_6, tz_7, tz_8, tz_9, tz_10, tz_11, tz_12, tz_20, tz_23, tz_24, tz_31, tz_48, tz_57, tz_59, tz_60, tz_95, tz_96, tz_98, tz_99, tz_100, tz_108, tz_112, tz_115, tz_117, tz_118, tz_119, tz_120, tz_188, tz_255, tz_999, tz_1000, tz_9999, tz_99999] at *) <;> omega)
  · ((try simp only [Int32.lt_iff_toInt_lt, Int32.le_iff_toInt_le, ← Int32.toInt_inj, tz_m2000, tz_m1000, tz_m9, tz_m6, tz_m4, tz_m3, tz_m2, tz_m1, tz_0, tz_1, tz_2, tz_3, tz_4, tz_5, tz_6, tz_7, tz_8, tz_9, tz_10, tz_11, tz_12, tz_20, tz_23, tz_24, tz_31, tz_48, tz_57, tz_59, tz_60, tz_95, tz_96, tz_98, tz_99, tz_100, tz_108, tz_112, tz_115, tz_117, tz_118, tz_119, tz_120, tz_188, tz_255, tz_999, tz_1000, tz_9999, tz_99999] at *) <;> omega)
  have hj := wvJI_16 _ hn
  rw [h1, wvX_at (q := 4 + x1.toNatClampNeg) (by omega) (by omega) hj.2 hp, wvE_o (Or.inl (by omega))]
  rfl
theorem ax_flip {F h : Nat} {x1 x2 : Int32} {σ : Mem} (b : (σ h 0).toInt ≤ 6) : pc (f_X0_flip F h x1 x2 σ) (fun r s => wok (0 ≤ x1.toInt ∧ x1.toInt < (σ h 0).toInt ∧ 0 ≤ x2.toInt ∧ x2.toInt ≤ 7) r σ s h (aWall (wvX h σ) x1 x2)) := by
  rw [f_X0_flip_e]
  simp only [j_X0_flip_15_e]
  refine pc_be (ax_isPane b) ?_
  by_cases c0 : 0 ≤ x1.toInt ∧ x1.toInt < (σ h 0).toInt
  rotate_left
  · rw [if_neg c0, if_pos rfl]; exact pc_ret (wok_no (fun q => c0 ⟨q.1, q.2.1⟩))
  rw [if_pos c0, if_neg (by decide)]
  refine pc_be ax_isView ?_
  by_cases c1 : 0 ≤ x2.toInt ∧ x2.toInt ≤ 7
  rotate_left
  · rw [if_neg c1, if_pos rfl]; exact pc_ret (wok_no (fun q => c1 ⟨q.2.2.1, q.2.2.2⟩))
  rw [if_pos c1, if_neg (by decide)]
  have hn : x1.toNatClampNeg < 6 := tn_lt c0.1 (by omega)
  refine pc_chk (fun _ => pc_lt (fun s1 h1 => pc_ret (wok_yes ⟨c0.1, c0.2, c1.1, c1.2⟩ (fun p hp => ?_))))
  have hj := wvJI_1 _ hn
  rw [h1, wvX_at (q := 12 + x1.toNatClampNeg) (by omega) (by omega) hj.2 hp, wvE_o (Or.inl (by omega))]
  unfold aWall
  refine upd_cg rfl ?_
  unfold wvX
  rw [wvE_o (Or.inl (by omega)), ← hj.1, ← hj.2]
