/-! comparisons of longs -/
theorem lg_ltl {a b : Int64} (h : lg_cmp a b < 0) : a.toInt < b.toInt := by
  unfold lg_cmp at h
  split at h
  · exact absurd h (by decide)
  · split at h
    · exact absurd h (by decide)
    · rename_i h1 h2
      have h3 : ¬ b.toInt < a.toInt := fun q => h1 (Int64.lt_iff_toInt_lt.mpr q)
      have h4 : ¬ a.toInt = b.toInt := fun q => h2 (Int64.toInt_inj.mp q)
      omega
theorem lg_ltln {a b : Int64} (h : ¬ lg_cmp a b < 0) : b.toInt ≤ a.toInt := by
  unfold lg_cmp at h
  split at h
  · rename_i h1
    exact Int.le_of_lt (Int64.lt_iff_toInt_lt.mp h1)
  · split at h
    · rename_i h1 h2
      rw [h2]; exact Int.le_refl _
    · exact absurd (by decide) h
theorem lg_ltr {a b : Int64} (h : 0 < lg_cmp a b) : b.toInt < a.toInt := by
  unfold lg_cmp at h
  split at h
  · rename_i h1
    exact Int64.lt_iff_toInt_lt.mp h1
  · split at h
    · exact absurd h (by decide)
    · exact absurd h (by decide)
theorem lg_ltrn {a b : Int64} (h : ¬ 0 < lg_cmp a b) : a.toInt ≤ b.toInt := by
  unfold lg_cmp at h
  split at h
  · exact absurd (by decide) h
  · rename_i h1
    exact Int.not_lt.mp (fun q => h1 (Int64.lt_iff_toInt_lt.mpr q))
theorem lg_lel {a b : Int64} (h : lg_cmp a b ≤ 0) : a.toInt ≤ b.toInt := by
  unfold lg_cmp at h
  split at h
  · exact absurd h (by decide)
  · rename_i h1
    exact Int.not_lt.mp (fun q => h1 (Int64.lt_iff_toInt_lt.mpr q))
theorem lg_leln {a b : Int64} (h : ¬ lg_cmp a b ≤ 0) : b.toInt < a.toInt := by
  unfold lg_cmp at h
  split at h
  · rename_i h1
    exact Int64.lt_iff_toInt_lt.mp h1
  · split at h
    · exact absurd (by decide) h
    · exact absurd (by decide) h
/-! the model's numbers within their bounds: of a field of the object; of a cell of a snapshot -/
def wiF (i : Nat) (x : Int32) : Prop := (i = 1 → 0 ≤ x.toInt ∧ x.toInt ≤ 6) ∧ (i = 3 → 0 ≤ x.toInt ∧ x.toInt ≤ 5) ∧ (i = 15 → 0 ≤ x.toInt ∧ x.toInt ≤ 96) ∧ (i = 16 → 0 ≤ x.toInt ∧ x.toInt ≤ 96) ∧ (i = 18 → 0 ≤ x.toInt ∧ x.toInt ≤ 48) ∧ (i = 30 → 0 ≤ x.toInt ∧ x.toInt ≤ 8) ∧ (i = 34 → 0 ≤ x.toInt ∧ x.toInt ≤ 12)
def wiB (i : Nat) (x : Int32) : Prop := (i = 0 → 0 ≤ x.toInt ∧ x.toInt ≤ 6) ∧ (i = 1 → 0 ≤ x.toInt ∧ x.toInt ≤ 5) ∧ (28 ≤ i → i < 148 → -9 ≤ x.toInt ∧ x.toInt ≤ 5)
def wiK (k : Nat) : Prop := k = 115 ∨ k = 116 ∨ k = 118
/-- the bounds of the cell i of the region k -/
def wiC (k i : Nat) (x : Int32) : Prop := (k = 101 → wiF i x) ∧ (k = 106 → -9 ≤ x.toInt ∧ x.toInt ≤ 5) ∧ (k = 114 → 0 ≤ x.toInt ∧ x.toInt ≤ 999) ∧ (wiK k → wiB i x) ∧ (k = 117 → wiB (i % 188) x)
def wiM (σ : Mem) : Prop := ∀ k i, 101 ≤ k → wiC k i (σ k i)
theorem wm_key (σ : Mem) (k i : Nat) (x : Int32) (q j : Nat) : up2 σ k i x q j = if q = k ∧ j = i then x else σ q j := by
  by_cases e : q = k
  · subst e
    by_cases e2 : j = i
    · subst e2; rw [up2_s, if_pos ⟨rfl, rfl⟩]
    · rw [up2_i e2, if_neg (fun h => e2 h.2)]
  · rw [up2_k e, if_neg (fun h => e h.1)]
theorem wm_up {σ : Mem} (hI : wiM σ) {k i : Nat} {x : Int32} (h : wiC k i x) : wiM (up2 σ k i x) := by
  intro q j hq
  rw [wm_key]
  split
  · rename_i e; rw [e.1, e.2]; exact h
  · exact hI q j hq
/-- the region k isn't the model's, or is of none of the kinds that have bounds -/
theorem wm_free {k i : Nat} {x : Int32} (h1 : k ≠ 101) (h2 : k ≠ 106) (h4 : k ≠ 114) (h3 : ¬ (115 ≤ k ∧ k ≤ 118)) : wiC k i x := ⟨fun h => absurd h h1, fun h => absurd h h2, fun h => absurd h h4, fun h => by unfold wiK at h; omega, fun h => by omega⟩
theorem wm_oth {σ : Mem} (hI : wiM σ) {k i : Nat} {x : Int32} (h1 : k ≠ 101) (h2 : k ≠ 106) (h4 : k ≠ 114) (h3 : ¬ (115 ≤ k ∧ k ≤ 118)) : wiM (up2 σ k i x) := wm_up hI (wm_free h1 h2 h4 h3)
theorem wm_othA {σ : Mem} (hI : wiM σ) {k : Nat} {f : Nat → Int32} (h1 : k ≠ 101) (h2 : k ≠ 106) (h4 : k ≠ 114) (h3 : ¬ (115 ≤ k ∧ k ≤ 118)) : wiM (upA σ k f) := by
  intro q j hq
  by_cases e : q = k
  · subst e; rw [upA_s]; exact wm_free h1 h2 h4 h3
  · rw [upA_k e]; exact hI q j hq
theorem wm_101 {i : Nat} {x : Int32} (h : wiF i x) : wiC 101 i x := ⟨fun _ => h, fun h => absurd h (by decide), fun h => absurd h (by decide), fun h => by unfold wiK at h; omega, fun h => absurd h (by decide)⟩
theorem wm_106 {i : Nat} {x : Int32} (h : -9 ≤ x.toInt ∧ x.toInt ≤ 5) : wiC 106 i x := ⟨fun h => absurd h (by decide), fun _ => h, fun h => absurd h (by decide), fun h => by unfold wiK at h; omega, fun h => absurd h (by decide)⟩
theorem wm_114 {i : Nat} {x : Int32} (h : 0 ≤ x.toInt ∧ x.toInt ≤ 999) : wiC 114 i x := ⟨fun h => absurd h (by decide), fun h => absurd h (by decide), fun _ => h, fun h => by unfold wiK at h; omega, fun h => absurd h (by decide)⟩
theorem wm_kept {k i : Nat} {x : Int32} (hk : wiK k) (h : wiB i x) : wiC k i x := by
  unfold wiK at hk
  exact ⟨fun h => by omega, fun h => by omega, fun h => by omega, fun _ => h, fun h => by omega⟩
theorem wm_117 {i : Nat} {x : Int32} (h : wiB (i % 188) x) : wiC 117 i x := ⟨fun h => absurd h (by decide), fun h => absurd h (by decide), fun h => absurd h (by decide), fun h => by unfold wiK at h; omega, fun _ => h⟩
/-- a field of the object that wiM says nothing of -/
theorem wm_fld {σ : Mem} (hI : wiM σ) {i : Nat} {x : Int32} (h1 : i ≠ 1) (h2 : i ≠ 3) (h3 : i ≠ 15) (h4 : i ≠ 16) (h5 : i ≠ 18) (h6 : i ≠ 30) (h7 : i ≠ 34) : wiM (up2 σ 101 i x) := wm_up hI (wm_101 ⟨fun h => absurd h h1, fun h => absurd h h2, fun h => absurd h h3, fun h => absurd h h4, fun h => absurd h h5, fun h => absurd h h6, fun h => absurd h h7⟩)
theorem wx_106 {σ : Mem} (hI : wiM σ) (i : Nat) : -9 ≤ (σ 106 i).toInt ∧ (σ 106 i).toInt ≤ 5 := (hI 106 i (by decide)).2.1 rfl
theorem wx_114 {σ : Mem} (hI : wiM σ) (i : Nat) : 0 ≤ (σ 114 i).toInt ∧ (σ 114 i).toInt ≤ 999 := (hI 114 i (by decide)).2.2.1 rfl
theorem wx_kept {σ : Mem} (hI : wiM σ) {k : Nat} (hk : wiK k) (i : Nat) : wiB i (σ k i) := (hI k i (by unfold wiK at hk; omega)).2.2.2.1 hk
theorem wx_117 {σ : Mem} (hI : wiM σ) (i : Nat) : wiB (i % 188) (σ 117 i) := (hI 117 i (by decide)).2.2.2.2 rfl
theorem wx_put_106 {σ : Mem} (hI : wiM σ) {i : Nat} {x : Int32} (a : -9 ≤ x.toInt) (b : x.toInt ≤ 5) : wiM (up2 σ 106 i x) := wm_up hI (wm_106 ⟨a, b⟩)
theorem wx_put_114 {σ : Mem} (hI : wiM σ) {i : Nat} {x : Int32} (a : 0 ≤ x.toInt) (b : x.toInt ≤ 999) : wiM (up2 σ 114 i x) := wm_up hI (wm_114 ⟨a, b⟩)
theorem wx_X4_1 {σ : Mem} (hI : wiM σ) : 0 ≤ (σ 101 1).toInt ∧ (σ 101 1).toInt ≤ 6 := ((hI 101 1 (by decide)).1 rfl).1 rfl
theorem wx_put_X4_1 {σ : Mem} (hI : wiM σ) {x : Int32} (a : 0 ≤ x.toInt) (b : x.toInt ≤ 6) : wiM (up2 σ 101 1 x) := wm_up hI (wm_101 ⟨fun _ => ⟨a, b⟩, fun h => absurd h (by decide), fun h => absurd h (by decide), fun h => absurd h (by decide), fun h => absurd h (by decide), fun h => absurd h (by decide), fun h => absurd h (by decide)⟩)
theorem wx_X4_3 {σ : Mem} (hI : wiM σ) : 0 ≤ (σ 101 3).toInt ∧ (σ 101 3).toInt ≤ 5 := ((hI 101 3 (by decide)).1 rfl).2.1 rfl
theorem wx_put_X4_3 {σ : Mem} (hI : wiM σ) {x : Int32} (a : 0 ≤ x.toInt) (b : x.toInt ≤ 5) : wiM (up2 σ 101 3 x) := wm_up hI (wm_101 ⟨fun h => absurd h (by decide), fun _ => ⟨a, b⟩, fun h => absurd h (by decide), fun h => absurd h (by decide), fun h => absurd h (by decide), fun h => absurd h (by decide), fun h => absurd h (by decide)⟩)
theorem wx_X4_15 {σ : Mem} (hI : wiM σ) : 0 ≤ (σ 101 15).toInt ∧ (σ 101 15).toInt ≤ 96 := ((hI 101 15 (by decide)).1 rfl).2.2.1 rfl
theorem wx_put_X4_15 {σ : Mem} (hI : wiM σ) {x : Int32} (a : 0 ≤ x.toInt) (b : x.toInt ≤ 96) : wiM (up2 σ 101 15 x) := wm_up hI (wm_101 ⟨fun h => absurd h (by decide), fun h => absurd h (by decide), fun _ => ⟨a, b⟩, fun h => absurd h (by decide), fun h => absurd h (by decide), fun h => absurd h (by decide), fun h => absurd h (by decide)⟩)
theorem wx_X4_16 {σ : Mem} (hI : wiM σ) : 0 ≤ (σ 101 16).toInt ∧ (σ 101 16).toInt ≤ 96 := ((hI 101 16 (by decide)).1 rfl).2.2.2.1 rfl
theorem wx_put_X4_16 {σ : Mem} (hI : wiM σ) {x : Int32} (a : 0 ≤ x.toInt) (b : x.toInt ≤ 96) : wiM (up2 σ 101 16 x) := wm_up hI (wm_101 ⟨fun h => absurd h (by decide), fun h => absurd h (by decide), fun h => absurd h (by decide), fun _ => ⟨a, b⟩, fun h => absurd h (by decide), fun h => absurd h (by decide), fun h => absurd h (by decide)⟩)
theorem wx_X4_18 {σ : Mem} (hI : wiM σ) : 0 ≤ (σ 101 18).toInt ∧ (σ 101 18).toInt ≤ 48 := ((hI 101 18 (by decide)).1 rfl).2.2.2.2.1 rfl
theorem wx_put_X4_18 {σ : Mem} (hI : wiM σ) {x : Int32} (a : 0 ≤ x.toInt) (b : x.toInt ≤ 48) : wiM (up2 σ 101 18 x) := wm_up hI (wm_101 ⟨fun h => absurd h (by decide), fun h => absurd h (by decide), fun h => absurd h (by decide), fun h => absurd h (by decide), fun _ => ⟨a, b⟩, fun h => absurd h (by decide), fun h => absurd h (by decide)⟩)
theorem wx_X4_30 {σ : Mem} (hI : wiM σ) : 0 ≤ (σ 101 30).toInt ∧ (σ 101 30).toInt ≤ 8 := ((hI 101 30 (by decide)).1 rfl).2.2.2.2.2.1 rfl
theorem wx_put_X4_30 {σ : Mem} (hI : wiM σ) {x : Int32} (a : 0 ≤ x.toInt) (b : x.toInt ≤ 8) : wiM (up2 σ 101 30 x) := wm_up hI (wm_101 ⟨fun h => absurd h (by decide), fun h => absurd h (by decide), fun h => absurd h (by decide), fun h => absurd h (by decide), fun h => absurd h (by decide), fun _ => ⟨a, b⟩, fun h => absurd h (by decide)⟩)
theorem wx_X4_34 {σ : Mem} (hI : wiM σ) : 0 ≤ (σ 101 34).toInt ∧ (σ 101 34).toInt ≤ 12 := ((hI 101 34 (by decide)).1 rfl).2.2.2.2.2.2 rfl
theorem wx_put_X4_34 {σ : Mem} (hI : wiM σ) {x : Int32} (a : 0 ≤ x.toInt) (b : x.toInt ≤ 12) : wiM (up2 σ 101 34 x) := wm_up hI (wm_101 ⟨fun h => absurd h (by decide), fun h => absurd h (by decide), fun h => absurd h (by decide), fun h => absurd h (by decide), fun h => absurd h (by decide), fun h => absurd h (by decide), fun _ => ⟨a, b⟩⟩)
theorem wm_congr {σ s : Mem} (hI : wiM σ) (h : ∀ k, 101 ≤ k → s k = σ k) : wiM s := fun k i hk => by rw [h k hk]; exact hI k i hk
theorem wx_congr {σ s : Mem} (hI : wiX σ) (h : ∀ k, k < 101 → s k = σ k) : wiX s := by
  refine ⟨fun g hg => ?_, ?_, ?_, ?_, ?_⟩
  · have hc := wt_Hcs hg
    rw [h g (by omega)]; exact hI.1 g hg
  · rw [h 0 (by decide)]; exact hI.2.1
  · rw [h 83 (by decide)]; exact hI.2.2.1
  · rw [h 70 (by decide)]; exact hI.2.2.2.1
  · rw [h 70 (by decide)]; exact hI.2.2.2.2
theorem ti_m1 {x : Int32} (h : -2147483648 < x.toInt) : (x + (-1 : Int32)).toInt = x.toInt - 1 := by
  have e : (-1 : Int32).toInt = -1 := rfl
  have h2 := ti_hi x
  rw [ti_add (by rw [e]; omega) (by rw [e]; omega), e]
  omega
theorem wi_shl8 (e : Int32) (h0 : 0 ≤ e.toInt) (h8 : e.toInt ≤ 8) : 1 ≤ ((1 : Int32) <<< (e &&& 31)).toInt ∧ ((1 : Int32) <<< (e &&& 31)).toInt ≤ 256 := by
  rcases (show e.toInt = (0 : Int32).toInt ∨ e.toInt = (1 : Int32).toInt ∨ e.toInt = (2 : Int32).toInt ∨ e.toInt = (3 : Int32).toInt ∨ e.toInt = (4 : Int32).toInt ∨ e.toInt = (5 : Int32).toInt ∨ e.toInt = (6 : Int32).toInt ∨ e.toInt = (7 : Int32).toInt ∨ e.toInt = (8 : Int32).toInt from by
    show e.toInt = 0 ∨ e.toInt = 1 ∨ e.toInt = 2 ∨ e.toInt = 3 ∨ e.toInt = 4 ∨ e.toInt = 5 ∨ e.toInt = 6 ∨ e.toInt = 7 ∨ e.toInt = 8
    omega) with h | h | h | h | h | h | h | h | h <;> (have q := Int32.toInt_inj.mp h; subst q; decide)
