/-! it answers, and Q holds of the answer and the memory -/
def sf {α : Type} (o : Option (α × Mem)) (Q : α → Mem → Prop) : Prop := ∃ (a : α) (s : Mem), o = some (a, s) ∧ Q a s
theorem sf_ret {α : Type} {a : α} {s : Mem} {Q : α → Mem → Prop} (h : Q a s) : sf (some (a, s)) Q := ⟨a, s, rfl, h⟩
theorem sf_bnd {α β : Type} {o : Option (α × Mem)} {K : α → Mem → Option (β × Mem)} {P : α → Mem → Prop} {Q : β → Mem → Prop} (h : sf o P) (k : ∀ a s, P a s → sf (K a s) Q) : sf (wt_bnd o K) Q := by
  obtain ⟨a, s, rfl, hp⟩ := h
  exact k a s hp
theorem sf_in {α β : Type} {o : Option (α × Mem)} {K : α → Mem → Option (β × Mem)} {Q : β → Mem → Prop} (h : sf o (fun a s => sf (K a s) Q)) : sf (wt_bnd o K) Q := sf_bnd h (fun _ _ h => h)
theorem sf_lt {α β : Type} {x : α} {K : α → Option (β × Mem)} {Q : β → Mem → Prop} (h : ∀ z, z = x → sf (K z) Q) : sf (wt_lt x K) Q := h x rfl
theorem sf_chk {β : Type} {i : Int32} {n : Nat} {K : Option (β × Mem)} {Q : β → Mem → Prop} (hi : vp_in i n) (h : sf K Q) : sf (wt_chk i n K) Q := by
  unfold wt_chk
  rw [if_neg hi]
  exact h
theorem sf_nz {β : Type} {y : Int32} {K : Option (β × Mem)} {Q : β → Mem → Prop} (hi : ¬ y = 0) (h : sf K Q) : sf (wt_nz y K) Q := by
  unfold wt_nz
  rw [if_neg hi]
  exact h
theorem sf_nzl {β : Type} {y : Int64} {K : Option (β × Mem)} {Q : β → Mem → Prop} (hi : ¬ y = 0) (h : sf K Q) : sf (wt_nzl y K) Q := by
  unfold wt_nzl
  rw [if_neg hi]
  exact h
theorem sf_bz {β : Type} {x : Int32} {K : Option (β × Mem)} {Q : β → Mem → Prop} (hi : x = 0 ∨ x = 1) (h : sf K Q) : sf (wt_bz x K) Q := by
  unfold wt_bz
  rw [if_pos hi]
  exact h
theorem sf_rk {β : Type} {x : Int32} {K : Option (β × Mem)} {Q : β → Mem → Prop} (hi : wt_is188 x.toNatClampNeg) (h : sf K Q) : sf (wt_rk x K) Q := by
  unfold wt_is188 at hi
  unfold wt_rk
  rw [if_pos hi]
  exact h
theorem sf_ite {β : Type} {c : Prop} [Decidable c] {A E : Option (β × Mem)} {Q : β → Mem → Prop} (h1 : c → sf A Q) (h2 : ¬ c → sf E Q) : sf (if c then A else E) Q := by
  by_cases h : c
  · rw [if_pos h]; exact h1 h
  · rw [if_neg h]; exact h2 h
theorem sf_mono {α : Type} {o : Option (α × Mem)} {P Q : α → Mem → Prop} (h : sf o P) (k : ∀ a s, P a s → Q a s) : sf o Q := by
  obtain ⟨a, s, e, hp⟩ := h
  exact ⟨a, s, e, k a s hp⟩
/-! Int32 by their numbers -/
theorem ti_lt {x y : Int32} (h : x < y) : x.toInt < y.toInt := Int32.lt_iff_toInt_lt.mp h
theorem ti_nlt {x y : Int32} (h : ¬ x < y) : y.toInt ≤ x.toInt := Int.not_lt.mp (fun q => h (Int32.lt_iff_toInt_lt.mpr q))
theorem ti_le {x y : Int32} (h : x ≤ y) : x.toInt ≤ y.toInt := Int32.le_iff_toInt_le.mp h
theorem ti_nle {x y : Int32} (h : ¬ x ≤ y) : y.toInt < x.toInt := Int.not_le.mp (fun q => h (Int32.le_iff_toInt_le.mpr q))
theorem ti_eq {x y : Int32} (h : x = y) : x.toInt = y.toInt := congrArg _ h
theorem ti_ne {x y : Int32} (h : ¬ x = y) : ¬ x.toInt = y.toInt := fun q => h (Int32.toInt_inj.mp q)
theorem ti_add {x y : Int32} (h1 : -2147483648 ≤ x.toInt + y.toInt) (h2 : x.toInt + y.toInt ≤ 2147483647) : (x + y).toInt = x.toInt + y.toInt := by
  rw [Int32.toInt_add]
  show Int.bmod (x.toInt + y.toInt) 4294967296 = _
  rw [Int.bmod_eq_of_le] <;> omega
theorem ti_sub {x y : Int32} (h1 : -2147483648 ≤ x.toInt - y.toInt) (h2 : x.toInt - y.toInt ≤ 2147483647) : (x - y).toInt = x.toInt - y.toInt := by
  rw [Int32.toInt_sub]
  show Int.bmod (x.toInt - y.toInt) 4294967296 = _
  rw [Int.bmod_eq_of_le] <;> omega
theorem ti_mul {x y : Int32} (h1 : -2147483648 ≤ x.toInt * y.toInt) (h2 : x.toInt * y.toInt ≤ 2147483647) : (x * y).toInt = x.toInt * y.toInt := by
  rw [Int32.toInt_mul]
  show Int.bmod (x.toInt * y.toInt) 4294967296 = _
  rw [Int.bmod_eq_of_le] <;> omega
theorem ti_neg {x : Int32} (h1 : -2147483648 < x.toInt) : (-x).toInt = -x.toInt := by
  rw [Int32.toInt_neg]
  have h2 : x.toInt ≤ 2147483647 := Int32.toInt_le x
  show Int.bmod (-x.toInt) 4294967296 = _
  rw [Int.bmod_eq_of_le] <;> omega
theorem ti_lo (x : Int32) : -2147483648 ≤ x.toInt := Int32.le_toInt x
theorem ti_hi (x : Int32) : x.toInt ≤ 2147483647 := Int32.toInt_le x
theorem ti_in {x : Int32} {n : Nat} (h1 : 0 ≤ x.toInt) (h2 : x.toInt < n) : vp_in x n := by
  unfold vp_in
  rw [Int32.lt_iff_toInt_lt, show (0 : Int32).toInt = 0 from rfl, show x.toNatClampNeg = x.toInt.toNat from rfl]
  omega
theorem ti_nat (x : Int32) : x.toNatClampNeg = x.toInt.toNat := rfl
theorem ti_rem {x y : Int32} : (x - x / y * y).toInt = x.toInt.tmod y.toInt := rem_toInt x y
theorem ti_div {x y : Int32} (hx : 0 ≤ x.toInt) (hy : 0 < y.toInt) : (x / y).toInt = x.toInt / y.toInt := by
  rw [Int32.toInt_div]
  have h2 : x.toInt ≤ 2147483647 := Int32.toInt_le x
  rw [Int.tdiv_eq_ediv_of_nonneg hx]
  show Int.bmod (x.toInt / y.toInt) 4294967296 = _
  have h3 : 0 ≤ x.toInt / y.toInt := Int.ediv_nonneg hx (by omega)
  have h4 : x.toInt / y.toInt ≤ x.toInt := Int.ediv_le_self _ hx
  rw [Int.bmod_eq_of_le] <;> omega
/-! memory -/
theorem up2_k {σ : Mem} {k q i : Nat} {x : Int32} (h : ¬ q = k) : up2 σ k i x q = σ q := if_neg h
theorem up2_i {σ : Mem} {k i j : Nat} {x : Int32} (h : ¬ j = i) : up2 σ k i x k j = σ k j := by
  unfold up2 upd
  rw [if_pos rfl, if_neg h]
theorem up2_s {σ : Mem} {k i : Nat} {x : Int32} : up2 σ k i x k i = x := by
  unfold up2 upd
  rw [if_pos rfl, if_pos rfl]
theorem upA_k {σ : Mem} {k q : Nat} {f : Nat → Int32} (h : ¬ q = k) : upA σ k f q = σ q := if_neg h
theorem upA_s {σ : Mem} {k : Nat} {f : Nat → Int32} : upA σ k f k = f := if_pos rfl
/-- the class's numbers within their bounds -/
def wiX (σ : Mem) : Prop := (∀ h, wt_isH h → (0 ≤ (σ h 0).toInt ∧ (σ h 0).toInt ≤ 6) ∧ (0 ≤ (σ h 2).toInt ∧ (σ h 2).toInt ≤ 5)) ∧ (0 ≤ (σ 0 7).toInt ∧ (σ 0 7).toInt ≤ 12) ∧ (0 ≤ (σ 83 1).toInt ∧ (σ 83 1).toInt ≤ 96) ∧ (0 ≤ (σ 70 4).toInt ∧ (σ 70 4).toInt ≤ 7) ∧ (0 ≤ (σ 70 5).toInt ∧ (σ 70 5).toInt ≤ 8)
theorem wx_X0_0 {σ : Mem} (hI : wiX σ) {h : Nat} (hh : wt_isH h) : 0 ≤ (σ h 0).toInt ∧ (σ h 0).toInt ≤ 6 := (hI.1 h hh).1
theorem wx_X0_2 {σ : Mem} (hI : wiX σ) {h : Nat} (hh : wt_isH h) : 0 ≤ (σ h 2).toInt ∧ (σ h 2).toInt ≤ 5 := (hI.1 h hh).2
theorem wx_X3_7 {σ : Mem} (hI : wiX σ) : 0 ≤ (σ 0 7).toInt ∧ (σ 0 7).toInt ≤ 12 := hI.2.1
theorem wx_X1_1 {σ : Mem} (hI : wiX σ) : 0 ≤ (σ 83 1).toInt ∧ (σ 83 1).toInt ≤ 96 := hI.2.2.1
theorem wx_X2_4 {σ : Mem} (hI : wiX σ) : 0 ≤ (σ 70 4).toInt ∧ (σ 70 4).toInt ≤ 7 := hI.2.2.2.1
theorem wx_X2_5 {σ : Mem} (hI : wiX σ) : 0 ≤ (σ 70 5).toInt ∧ (σ 70 5).toInt ≤ 8 := hI.2.2.2.2
theorem wt_Hcs {h : Nat} (hh : wt_isH h) : h = 1 ∨ h = 24 ∨ h = 47 := hh
/-- a cell that wiX says nothing of -/
theorem wx_oth {σ : Mem} (hI : wiX σ) {k i : Nat} {x : Int32} (h1 : ∀ h, wt_isH h → k = h → i ≠ 0 ∧ i ≠ 2) (h2 : k = 0 → i ≠ 7) (h3 : k = 83 → i ≠ 1) (h4 : k = 70 → i ≠ 4 ∧ i ≠ 5) : wiX (up2 σ k i x) := by
  have key : ∀ q j, ¬ (q = k ∧ j = i) → up2 σ k i x q j = σ q j := by
    intro q j hq
    by_cases e : q = k
    · subst e; exact up2_i (fun e2 => hq ⟨rfl, e2⟩)
    · rw [up2_k e]
  refine ⟨fun h hh => ?_, ?_, ?_, ?_, ?_⟩
  · rw [key h 0 (fun q => (h1 h hh q.1.symm).1 q.2.symm), key h 2 (fun q => (h1 h hh q.1.symm).2 q.2.symm)]; exact hI.1 h hh
  · rw [key 0 7 (fun q => h2 q.1.symm q.2.symm)]; exact hI.2.1
  · rw [key 83 1 (fun q => h3 q.1.symm q.2.symm)]; exact hI.2.2.1
  · rw [key 70 4 (fun q => (h4 q.1.symm).1 q.2.symm)]; exact hI.2.2.2.1
  · rw [key 70 5 (fun q => (h4 q.1.symm).2 q.2.symm)]; exact hI.2.2.2.2
/-- a whole array copied -/
theorem wx_othA {σ : Mem} (hI : wiX σ) {k : Nat} {f : Nat → Int32} (h1 : ¬ wt_isH k) (h2 : k ≠ 0) (h3 : k ≠ 83) (h4 : k ≠ 70) : wiX (upA σ k f) := by
  refine ⟨fun h hh => ?_, ?_, ?_, ?_, ?_⟩
  · rw [upA_k (fun q => h1 (by rw [← q]; exact hh))]; exact hI.1 h hh
  · rw [upA_k (fun q => h2 q.symm)]; exact hI.2.1
  · rw [upA_k (fun q => h3 q.symm)]; exact hI.2.2.1
  · rw [upA_k (fun q => h4 q.symm)]; exact hI.2.2.2.1
  · rw [upA_k (fun q => h4 q.symm)]; exact hI.2.2.2.2
theorem wx_put_X0_0 {σ : Mem} (hI : wiX σ) {h : Nat} (hh : wt_isH h) {x : Int32} (h1 : 0 ≤ x.toInt) (h2 : x.toInt ≤ 6) : wiX (up2 σ h 0 x) := by
  have hc := wt_Hcs hh
  refine ⟨fun g hg => ?_, ?_, ?_, ?_, ?_⟩
  · by_cases e : g = h
    · subst e; rw [up2_s, up2_i (by decide)]; exact ⟨⟨h1, h2⟩, (hI.1 g hg).2⟩
    · rw [up2_k e]; exact hI.1 g hg
  · rw [up2_k (by omega)]; exact hI.2.1
  · rw [up2_k (by omega)]; exact hI.2.2.1
  · rw [up2_k (by omega)]; exact hI.2.2.2.1
  · rw [up2_k (by omega)]; exact hI.2.2.2.2
theorem wx_put_X0_2 {σ : Mem} (hI : wiX σ) {h : Nat} (hh : wt_isH h) {x : Int32} (h1 : 0 ≤ x.toInt) (h2 : x.toInt ≤ 5) : wiX (up2 σ h 2 x) := by
  have hc := wt_Hcs hh
  refine ⟨fun g hg => ?_, ?_, ?_, ?_, ?_⟩
  · by_cases e : g = h
    · subst e; rw [up2_s, up2_i (by decide)]; exact ⟨(hI.1 g hg).1, ⟨h1, h2⟩⟩
    · rw [up2_k e]; exact hI.1 g hg
  · rw [up2_k (by omega)]; exact hI.2.1
  · rw [up2_k (by omega)]; exact hI.2.2.1
  · rw [up2_k (by omega)]; exact hI.2.2.2.1
  · rw [up2_k (by omega)]; exact hI.2.2.2.2
theorem wx_put_X3_7 {σ : Mem} (hI : wiX σ) {x : Int32} (h1 : 0 ≤ x.toInt) (h2 : x.toInt ≤ 12) : wiX (up2 σ 0 7 x) := by
  refine ⟨fun g hg => ?_, ?_, ?_, ?_, ?_⟩
  · have hc := wt_Hcs hg
    rw [up2_k (by omega)]; exact hI.1 g hg
  · rw [up2_s]; exact ⟨h1, h2⟩
  · rw [up2_k (by omega)]; exact hI.2.2.1
  · rw [up2_k (by omega)]; exact hI.2.2.2.1
  · rw [up2_k (by omega)]; exact hI.2.2.2.2
theorem wx_put_X1_1 {σ : Mem} (hI : wiX σ) {x : Int32} (h1 : 0 ≤ x.toInt) (h2 : x.toInt ≤ 96) : wiX (up2 σ 83 1 x) := by
  refine ⟨fun g hg => ?_, ?_, ?_, ?_, ?_⟩
  · have hc := wt_Hcs hg
    rw [up2_k (by omega)]; exact hI.1 g hg
  · rw [up2_k (by omega)]; exact hI.2.1
  · rw [up2_s]; exact ⟨h1, h2⟩
  · rw [up2_k (by omega)]; exact hI.2.2.2.1
  · rw [up2_k (by omega)]; exact hI.2.2.2.2
theorem wx_put_X2_4 {σ : Mem} (hI : wiX σ) {x : Int32} (h1 : 0 ≤ x.toInt) (h2 : x.toInt ≤ 7) : wiX (up2 σ 70 4 x) := by
  refine ⟨fun g hg => ?_, ?_, ?_, ?_, ?_⟩
  · have hc := wt_Hcs hg
    rw [up2_k (by omega)]; exact hI.1 g hg
  · rw [up2_k (by omega)]; exact hI.2.1
  · rw [up2_k (by omega)]; exact hI.2.2.1
  · rw [up2_s]; exact ⟨h1, h2⟩
  · rw [up2_i (by decide)]; exact hI.2.2.2.2
theorem wx_put_X2_5 {σ : Mem} (hI : wiX σ) {x : Int32} (h1 : 0 ≤ x.toInt) (h2 : x.toInt ≤ 8) : wiX (up2 σ 70 5 x) := by
  refine ⟨fun g hg => ?_, ?_, ?_, ?_, ?_⟩
  · have hc := wt_Hcs hg
    rw [up2_k (by omega)]; exact hI.1 g hg
  · rw [up2_k (by omega)]; exact hI.2.1
  · rw [up2_k (by omega)]; exact hI.2.2.1
  · rw [up2_i (by decide)]; exact hI.2.2.2.1
  · rw [up2_s]; exact ⟨h1, h2⟩
