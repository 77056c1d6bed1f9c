/-! comparisons of longs -/
theorem lg_ltl {a b : Int64} (h : lg_cmp a b < 0) : a.toInt < b.toInt := by
  unfold lg_cmp at h
  split at h
  · exact absurd h (by decide)
  · split at h
    · exact absurd h (by decide)
    · rename_i h1 h2
      have h3 : ¬ b.toInt < a.toInt := fun q => h1 (Int64.lt_iff_toInt_lt.mpr q)
      have h4 : ¬ a.toInt = b.toInt := fun q => h2 (Int64.toInt_inj.mp q)
      omega
theorem lg_ltln {a b : Int64} (h : ¬ lg_cmp a b < 0) : b.toInt ≤ a.toInt := by
  unfold lg_cmp at h
  split at h
  · rename_i h1
    exact Int.le_of_lt (Int64.lt_iff_toInt_lt.mp h1)
  · split at h
    · rename_i h1 h2
      rw [h2]; exact Int.le_refl _
    · exact absurd (by decide) h
theorem lg_ltr {a b : Int64} (h : 0 < lg_cmp a b) : b.toInt < a.toInt := by
  unfold lg_cmp at h
  split at h
  · rename_i h1
    exact Int64.lt_iff_toInt_lt.mp h1
  · split at h
    · exact absurd h (by decide)
    · exact absurd h (by decide)
theorem lg_ltrn {a b : Int64} (h : ¬ 0 < lg_cmp a b) : a.toInt ≤ b.toInt := by
  unfold lg_cmp at h
  split at h
  · exact absurd (by decide) h
  · rename_i h1
    exact Int.not_lt.mp (fun q => h1 (Int64.lt_iff_toInt_lt.mpr q))
theorem lg_lel {a b : Int64} (h : lg_cmp a b ≤ 0) : a.toInt ≤ b.toInt := by
  unfold lg_cmp at h
  split at h
  · exact absurd h (by decide)
  · rename_i h1
    exact Int.not_lt.mp (fun q => h1 (Int64.lt_iff_toInt_lt.mpr q))
theorem lg_leln {a b : Int64} (h : ¬ lg_cmp a b ≤ 0) : b.toInt < a.toInt := by
  unfold lg_cmp at h
  split at h
  · rename_i h1
    exact Int64.lt_iff_toInt_lt.mp h1
  · split at h
    · exact absurd (by decide) h
    · exact absurd (by decide) h
/-! the model's numbers within their bounds -/
def wiS (f : Nat → Int32) : Prop := (0 ≤ (f 0).toInt ∧ (f 0).toInt ≤ 6) ∧ (0 ≤ (f 1).toInt ∧ (f 1).toInt ≤ 5) ∧ ∀ i, 28 ≤ i → i < 148 → -9 ≤ (f i).toInt ∧ (f i).toInt ≤ 5
def wiM (σ : Mem) : Prop := (0 ≤ (σ 101 1).toInt ∧ (σ 101 1).toInt ≤ 6) ∧ (0 ≤ (σ 101 3).toInt ∧ (σ 101 3).toInt ≤ 5) ∧ (0 ≤ (σ 101 15).toInt ∧ (σ 101 15).toInt ≤ 96) ∧ (0 ≤ (σ 101 30).toInt ∧ (σ 101 30).toInt ≤ 8) ∧ (0 ≤ (σ 101 34).toInt ∧ (σ 101 34).toInt ≤ 12) ∧ (∀ i, -9 ≤ (σ 106 i).toInt ∧ (σ 106 i).toInt ≤ 5) ∧ (∀ k, k = 115 ∨ k = 116 ∨ k = 118 → wiS (σ k)) ∧ (∀ t, t < 8 → wiS (fun i => σ 117 (188 * t + i)))
theorem wx_X4_1 {σ : Mem} (hI : wiM σ) : 0 ≤ (σ 101 1).toInt ∧ (σ 101 1).toInt ≤ 6 := hI.1
theorem wx_X4_3 {σ : Mem} (hI : wiM σ) : 0 ≤ (σ 101 3).toInt ∧ (σ 101 3).toInt ≤ 5 := hI.2.1
theorem wx_X4_15 {σ : Mem} (hI : wiM σ) : 0 ≤ (σ 101 15).toInt ∧ (σ 101 15).toInt ≤ 96 := hI.2.2.1
theorem wx_X4_30 {σ : Mem} (hI : wiM σ) : 0 ≤ (σ 101 30).toInt ∧ (σ 101 30).toInt ≤ 8 := hI.2.2.2.1
theorem wx_X4_34 {σ : Mem} (hI : wiM σ) : 0 ≤ (σ 101 34).toInt ∧ (σ 101 34).toInt ≤ 12 := hI.2.2.2.2.1
theorem wx_106 {σ : Mem} (hI : wiM σ) (i : Nat) : -9 ≤ (σ 106 i).toInt ∧ (σ 106 i).toInt ≤ 5 := hI.2.2.2.2.2.1 i
theorem wm_cong {σ s : Mem} (hI : wiM σ) (h1 : s 101 1 = σ 101 1) (h3 : s 101 3 = σ 101 3) (h15 : s 101 15 = σ 101 15) (h30 : s 101 30 = σ 101 30) (h34 : s 101 34 = σ 101 34) (hr : s 106 = σ 106) (hs : ∀ k, k = 115 ∨ k = 116 ∨ k = 118 → s k = σ k) (ht : s 117 = σ 117) : wiM s := by
  refine ⟨?_, ?_, ?_, ?_, ?_, ?_, ?_, ?_⟩
  · rw [h1]; exact hI.1
  · rw [h3]; exact hI.2.1
  · rw [h15]; exact hI.2.2.1
  · rw [h30]; exact hI.2.2.2.1
  · rw [h34]; exact hI.2.2.2.2.1
  · rw [hr]; exact hI.2.2.2.2.2.1
  · intro k hk; rw [hs k hk]; exact hI.2.2.2.2.2.2.1 k hk
  · rw [ht]; exact hI.2.2.2.2.2.2.2
/-- a cell of another array -/
theorem wm_oth {σ : Mem} (hI : wiM σ) {k i : Nat} {x : Int32} (h1 : k ≠ 101) (h2 : k ≠ 106) (h3 : ¬ (115 ≤ k ∧ k ≤ 118)) : wiM (up2 σ k i x) :=
  wm_cong hI (by rw [up2_k (by omega)]) (by rw [up2_k (by omega)]) (by rw [up2_k (by omega)]) (by rw [up2_k (by omega)]) (by rw [up2_k (by omega)]) (by rw [up2_k (by omega)]) (fun k hk => by rw [up2_k (by omega)]) (by rw [up2_k (by omega)])
theorem wm_othA {σ : Mem} (hI : wiM σ) {k : Nat} {f : Nat → Int32} (h1 : k ≠ 101) (h2 : k ≠ 106) (h3 : ¬ (115 ≤ k ∧ k ≤ 118)) : wiM (upA σ k f) :=
  wm_cong hI (by rw [upA_k (by omega)]) (by rw [upA_k (by omega)]) (by rw [upA_k (by omega)]) (by rw [upA_k (by omega)]) (by rw [upA_k (by omega)]) (by rw [upA_k (by omega)]) (fun k hk => by rw [upA_k (by omega)]) (by rw [upA_k (by omega)])
/-- a field of the object that wiM says nothing of -/
theorem wm_fld {σ : Mem} (hI : wiM σ) {i : Nat} {x : Int32} (h1 : i ≠ 1) (h2 : i ≠ 3) (h3 : i ≠ 15) (h4 : i ≠ 30) (h5 : i ≠ 34) : wiM (up2 σ 101 i x) :=
  wm_cong hI (up2_i (by omega)) (up2_i (by omega)) (up2_i (by omega)) (up2_i (by omega)) (up2_i (by omega)) (by rw [up2_k (by omega)]) (fun k hk => by rw [up2_k (by omega)]) (by rw [up2_k (by omega)])
theorem wm_put {σ s : Mem} (hI : wiM σ) (he : ∀ k, k ≠ 101 → s k = σ k) (h1 : 0 ≤ (s 101 1).toInt ∧ (s 101 1).toInt ≤ 6) (h3 : 0 ≤ (s 101 3).toInt ∧ (s 101 3).toInt ≤ 5) (h15 : 0 ≤ (s 101 15).toInt ∧ (s 101 15).toInt ≤ 96) (h30 : 0 ≤ (s 101 30).toInt ∧ (s 101 30).toInt ≤ 8) (h34 : 0 ≤ (s 101 34).toInt ∧ (s 101 34).toInt ≤ 12) : wiM s := by
  refine ⟨h1, h3, h15, h30, h34, ?_, ?_, ?_⟩
  · rw [he 106 (by decide)]; exact hI.2.2.2.2.2.1
  · intro k hk; rw [he k (by omega)]; exact hI.2.2.2.2.2.2.1 k hk
  · rw [he 117 (by decide)]; exact hI.2.2.2.2.2.2.2
theorem wx_put_X4_1 {σ : Mem} (hI : wiM σ) {x : Int32} (a : 0 ≤ x.toInt) (b : x.toInt ≤ 6) : wiM (up2 σ 101 1 x) := wm_put hI (fun k hk => up2_k hk) (by rw [up2_s]; exact ⟨a, b⟩) (by rw [up2_i (by decide)]; exact wx_X4_3 hI) (by rw [up2_i (by decide)]; exact wx_X4_15 hI) (by rw [up2_i (by decide)]; exact wx_X4_30 hI) (by rw [up2_i (by decide)]; exact wx_X4_34 hI)
theorem wx_put_X4_3 {σ : Mem} (hI : wiM σ) {x : Int32} (a : 0 ≤ x.toInt) (b : x.toInt ≤ 5) : wiM (up2 σ 101 3 x) := wm_put hI (fun k hk => up2_k hk) (by rw [up2_i (by decide)]; exact wx_X4_1 hI) (by rw [up2_s]; exact ⟨a, b⟩) (by rw [up2_i (by decide)]; exact wx_X4_15 hI) (by rw [up2_i (by decide)]; exact wx_X4_30 hI) (by rw [up2_i (by decide)]; exact wx_X4_34 hI)
theorem wx_put_X4_15 {σ : Mem} (hI : wiM σ) {x : Int32} (a : 0 ≤ x.toInt) (b : x.toInt ≤ 96) : wiM (up2 σ 101 15 x) := wm_put hI (fun k hk => up2_k hk) (by rw [up2_i (by decide)]; exact wx_X4_1 hI) (by rw [up2_i (by decide)]; exact wx_X4_3 hI) (by rw [up2_s]; exact ⟨a, b⟩) (by rw [up2_i (by decide)]; exact wx_X4_30 hI) (by rw [up2_i (by decide)]; exact wx_X4_34 hI)
theorem wx_put_X4_30 {σ : Mem} (hI : wiM σ) {x : Int32} (a : 0 ≤ x.toInt) (b : x.toInt ≤ 8) : wiM (up2 σ 101 30 x) := wm_put hI (fun k hk => up2_k hk) (by rw [up2_i (by decide)]; exact wx_X4_1 hI) (by rw [up2_i (by decide)]; exact wx_X4_3 hI) (by rw [up2_i (by decide)]; exact wx_X4_15 hI) (by rw [up2_s]; exact ⟨a, b⟩) (by rw [up2_i (by decide)]; exact wx_X4_34 hI)
theorem wx_put_X4_34 {σ : Mem} (hI : wiM σ) {x : Int32} (a : 0 ≤ x.toInt) (b : x.toInt ≤ 12) : wiM (up2 σ 101 34 x) := wm_put hI (fun k hk => up2_k hk) (by rw [up2_i (by decide)]; exact wx_X4_1 hI) (by rw [up2_i (by decide)]; exact wx_X4_3 hI) (by rw [up2_i (by decide)]; exact wx_X4_15 hI) (by rw [up2_i (by decide)]; exact wx_X4_30 hI) (by rw [up2_s]; exact ⟨a, b⟩)
theorem wx_put_106 {σ : Mem} (hI : wiM σ) {i : Nat} {x : Int32} (a : -9 ≤ x.toInt) (b : x.toInt ≤ 5) : wiM (up2 σ 106 i x) := by
  refine ⟨?_, ?_, ?_, ?_, ?_, fun j => ?_, fun k hk => ?_, ?_⟩
  · rw [up2_k (by omega)]; exact wx_X4_1 hI
  · rw [up2_k (by omega)]; exact wx_X4_3 hI
  · rw [up2_k (by omega)]; exact wx_X4_15 hI
  · rw [up2_k (by omega)]; exact wx_X4_30 hI
  · rw [up2_k (by omega)]; exact wx_X4_34 hI
  · by_cases e : j = i
    · subst e; rw [up2_s]; exact ⟨a, b⟩
    · rw [up2_i e]; exact wx_106 hI j
  · rw [up2_k (by omega)]; exact hI.2.2.2.2.2.2.1 k hk
  · rw [up2_k (by omega)]; exact hI.2.2.2.2.2.2.2
