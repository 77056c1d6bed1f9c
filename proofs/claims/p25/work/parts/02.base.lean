/-- the tables' words that a call takes along -/
def wt_tbl : List Cond := lw_tbl.filter goodWord
theorem wt_tI {w : Cond} (i : Nat) (h : tables_1[i]? = some w) (g : goodWord w = true) : w ∈ wt_tbl := List.mem_filter.mpr ⟨List.mem_append_right _ (List.mem_of_getElem? h), g⟩
theorem wt_tP {w : Cond} (i : Nat) (h : (k2_sels lw_privs)[i]? = some w) (g : goodWord w = true) : w ∈ wt_tbl := List.mem_filter.mpr ⟨List.mem_append_left _ (List.mem_of_getElem? h), g⟩
/-! the memory: region k of it is the cell B + k -/
abbrev Mem : Type := Nat → Nat → Int32
def up2 (σ : Mem) (k i : Nat) (x : Int32) : Mem := fun q => if q = k then upd (σ k) i x else σ q
def upA (σ : Mem) (k : Nat) (f : Nat → Int32) : Mem := fun q => if q = k then f else σ q
def wt_lt {α β : Type} (x : α) (K : α → Option β) : Option β := K x
def wt_bnd {α β : Type} (o : Option (α × Mem)) (K : α → Mem → Option β) : Option β := match o with
  | none => none
  | some q => K q.1 q.2
def wt_chk {β : Type} (i : Int32) (n : Nat) (K : Option β) : Option β := if i < 0 ∨ n ≤ i.toNatClampNeg then none else K
def wt_nz {β : Type} (y : Int32) (K : Option β) : Option β := if y = 0 then none else K
def wt_nzl {β : Type} (y : Int64) (K : Option β) : Option β := if y = 0 then none else K
def wt_bz {β : Type} (x : Int32) (K : Option β) : Option β := if x = 0 ∨ x = 1 then K else none
def wt_ushr (x y : Int32) : Int32 := (x.toUInt32 >>> (y.toUInt32 &&& Int32.toUInt32 31)).toInt32
def wt_min (x y : Int32) : Int32 := if y < x then y else x
def wt_max (x y : Int32) : Int32 := if x < y then y else x
theorem wt_none {α : Type} {x : α} {P : Prop} (h : (none : Option α) = some x) : P := by cases h
theorem wt_chk_of {β : Type} {i : Int32} {n : Nat} {K : Option β} {r : β} (h : wt_chk i n K = some r) : vp_in i n ∧ K = some r := by
  unfold wt_chk at h
  by_cases q : i < 0 ∨ n ≤ i.toNatClampNeg
  · rw [if_pos q] at h; cases h
  · rw [if_neg q] at h; exact ⟨q, h⟩
theorem wt_nz_of {β : Type} {y : Int32} {K : Option β} {r : β} (h : wt_nz y K = some r) : ¬ y = 0 ∧ K = some r := by
  unfold wt_nz at h
  by_cases q : y = 0
  · rw [if_pos q] at h; cases h
  · rw [if_neg q] at h; exact ⟨q, h⟩
theorem wt_nzl_of {β : Type} {y : Int64} {K : Option β} {r : β} (h : wt_nzl y K = some r) : ¬ y = 0 ∧ K = some r := by
  unfold wt_nzl at h
  by_cases q : y = 0
  · rw [if_pos q] at h; cases h
  · rw [if_neg q] at h; exact ⟨q, h⟩
theorem wt_bz_of {β : Type} {x : Int32} {K : Option β} {r : β} (h : wt_bz x K = some r) : (x = 0 ∨ x = 1) ∧ K = some r := by
  unfold wt_bz at h
  by_cases q : x = 0 ∨ x = 1
  · rw [if_pos q] at h
    exact ⟨q, h⟩
  · rw [if_neg q] at h; cases h
theorem wt_nar {x : Int32} (h : x = 0 ∨ x = 1) : narrow .boolean (.int x) = .int x := by rcases h with rfl | rfl <;> rfl
theorem wt_fit {x : Int32} (h : x = 0 ∨ x = 1) : fits .boolean (.int x) = true := by rcases h with rfl | rfl <;> rfl
theorem wt_bnd_of {α β : Type} {o : Option (α × Mem)} {K : α → Mem → Option β} {r : β} (h : wt_bnd o K = some r) : ∃ (a : α) (s : Mem), o = some (a, s) ∧ K a s = some r := by
  unfold wt_bnd at h
  match o, h with
  | some q, h => exact ⟨q.1, q.2, rfl, h⟩
def wt_rv (B : Nat) (x : Int32) : Value := if x = 0 then .null else .ref (B + x.toNatClampNeg)
def wt_H (tI tII : ClassId) (B h : Nat) (f : Nat → Int32) (j : Nat) : va_E := match j with
  | 0 => .inr (0, [.int (f 0), .ref (B + (h + 1)), .int (f 2), .ref (B + (h + 2)), .ref (B + (h + 3)), .ref (B + (h + 4)), .ref (B + (h + 10)), .ref (B + (h + 16)), .int (f 8), .int (f 9), .ref (B + (h + 17))])
  | 1 => .inl (tI, 6, .inl f)
  | 2 => .inl (tI, 5, .inl f)
  | 3 => .inl (tI, 5, .inl f)
  | 4 => .inl (tII, 5, .inr (.inr (.inr (.inr (fun i => if i < 5 then some (B + (h + 5 + i)) else none)))))
  | 5 => .inl (tI, 24, .inl f)
  | 6 => .inl (tI, 24, .inl f)
  | 7 => .inl (tI, 24, .inl f)
  | 8 => .inl (tI, 24, .inl f)
  | 9 => .inl (tI, 24, .inl f)
  | 10 => .inl (tII, 5, .inr (.inr (.inr (.inr (fun i => if i < 5 then some (B + (h + 11 + i)) else none)))))
  | 11 => .inl (tI, 8, .inl f)
  | 12 => .inl (tI, 8, .inl f)
  | 13 => .inl (tI, 8, .inl f)
  | 14 => .inl (tI, 8, .inl f)
  | 15 => .inl (tI, 8, .inl f)
  | 16 => .inl (tI, 8, .inl f)
  | 17 => .inl (tII, 5, .inr (.inr (.inr (.inr (fun i => if i < 5 then some (B + (h + 18 + i)) else none)))))
  | 18 => .inl (tI, 8, .inl f)
  | 19 => .inl (tI, 8, .inl f)
  | 20 => .inl (tI, 8, .inl f)
  | 21 => .inl (tI, 8, .inl f)
  | _ => .inl (tI, 8, .inl f)
def wt_T (tI tII : ClassId) (B : Nat) (f : Nat → Int32) (j : Nat) : va_E := match j with
  | 0 => .inr (2, [.ref (B + 71), .ref (B + 72), .ref (B + 73), .ref (B + 74), .int (f 4), .int (f 5)])
  | 1 => .inl (tI, 8, .inl f)
  | 2 => .inl (tI, 8, .inl f)
  | 3 => .inl (tI, 8, .inl f)
  | 4 => .inl (tII, 8, .inr (.inr (.inr (.inr (fun i => if i < 8 then some (B + (75 + i)) else none)))))
  | 5 => .inl (tI, 24, .inl f)
  | 6 => .inl (tI, 24, .inl f)
  | 7 => .inl (tI, 24, .inl f)
  | 8 => .inl (tI, 24, .inl f)
  | 9 => .inl (tI, 24, .inl f)
  | 10 => .inl (tI, 24, .inl f)
  | 11 => .inl (tI, 24, .inl f)
  | 12 => .inl (tI, 24, .inl f)
  | 13 => .inr (1, [.ref (B + 84), .int (f 1)])
  | 14 => .inl (tI, 96, .inl f)
  | 15 => .inl (tI, 12, .inl f)
  | 16 => .inl (tI, 7, .inl f)
  | 17 => .inl (tII, 6, .inr (.inr (.inr (.inr (fun i => if i < 6 then some (B + (88 + i)) else none)))))
  | 18 => .inl (tI, 6, .inl f)
  | 19 => .inl (tI, 6, .inl f)
  | 20 => .inl (tI, 6, .inl f)
  | 21 => .inl (tI, 6, .inl f)
  | 22 => .inl (tI, 6, .inl f)
  | 23 => .inl (tI, 6, .inl f)
  | 24 => .inl (tII, 6, .inr (.inr (.inr (.inr (fun i => if i < 6 then some (B + (95 + i)) else none)))))
  | 25 => .inl (tI, 6, .inl f)
  | 26 => .inl (tI, 6, .inl f)
  | 27 => .inl (tI, 6, .inl f)
  | 28 => .inl (tI, 6, .inl f)
  | 29 => .inl (tI, 6, .inl f)
  | 30 => .inl (tI, 6, .inl f)
  | 31 => .inr (4, [.ref (B + 102), .int (f 1), .ref (B + 103), .int (f 3), .ref (B + 104), .ref (B + 105), .ref (B + 106), .ref (B + 107), .int (f 8), .int (f 9), .int (f 10), .ref (B + 108), .ref (B + 109), .ref (B + 110), .ref (B + 111), .int (f 15), .int (f 16), .int (f 17), .int (f 18), .ref (B + 112), .ref (B + 113), .ref (B + 114), .ref (B + 115), .ref (B + 116), .int (f 24), .int (f 25), .int (f 26), wt_rv B (f 27), .ref (B + 117), .ref (B + 118), .int (f 30), .ref (B + 119), .ref (B + 120), .ref (B + 121), .int (f 34), .int (f 35)])
  | 32 => .inl (tI, 8, .inl f)
  | 33 => .inl (tI, 6, .inl f)
  | 34 => .inl (tI, 5, .inl f)
  | 35 => .inl (tI, 5, .inl f)
  | 36 => .inl (tI, 120, .inl f)
  | 37 => .inl (tI, 40, .inl f)
  | 38 => .inl (tI, 7, .inl f)
  | 39 => .inl (tI, 40, .inl f)
  | 40 => .inl (tI, 5, .inl f)
  | 41 => .inl (tI, 96, .inl f)
  | 42 => .inl (tI, 49, .inl f)
  | 43 => .inl (tI, 49, .inl f)
  | 44 => .inl (tI, 196, .inl f)
  | 45 => .inl (tI, 188, .inl f)
  | 46 => .inl (tI, 188, .inl f)
  | 47 => .inl (tI, 1504, .inl f)
  | 48 => .inl (tI, 188, .inl f)
  | 49 => .inl (tI, 36, .inl f)
  | 50 => .inl (tI, 36, .inl f)
  | _ => .inl (tI, 12, .inl f)
def wt_cell (tI tII : ClassId) (B k : Nat) (f : Nat → Int32) : va_E := if k < 70 then (if k = 0 then .inr (3, [.ref (B + 1), .ref (B + 24), .ref (B + 47), .int (f 3), .ref (B + 70), .ref (B + 83), .ref (B + 85), .int (f 7), .ref (B + 86), .ref (B + 87), .ref (B + 94)]) else if k < 24 then wt_H tI tII B 1 f (k - 1) else if k < 47 then wt_H tI tII B 24 f (k - 24) else wt_H tI tII B 47 f (k - 47)) else wt_T tI tII B f (k - 70)
def wt_isH (h : Nat) : Prop := h = 1 ∨ h = 24 ∨ h = 47
theorem wt_h1 : wt_isH 1 := Or.inl rfl
theorem wt_h24 : wt_isH 24 := Or.inr (Or.inl rfl)
theorem wt_h47 : wt_isH 47 := Or.inr (Or.inr rfl)
theorem wt_cH {h : Nat} (hh : wt_isH h) {j : Nat} (hj : j < 23) {tI tII : ClassId} {B : Nat} {f : Nat → Int32} : wt_cell tI tII B (h + j) f = wt_H tI tII B h f j := by
  unfold wt_cell
  rcases hh with rfl | rfl | rfl
  · rw [if_pos (by omega), if_neg (by omega), if_pos (by omega), Nat.add_sub_cancel_left]
  · rw [if_pos (by omega), if_neg (by omega), if_neg (by omega), if_pos (by omega), Nat.add_sub_cancel_left]
  · rw [if_pos (by omega), if_neg (by omega), if_neg (by omega), if_neg (by omega), Nat.add_sub_cancel_left]
theorem wt_Hlt {h : Nat} (hh : wt_isH h) {j : Nat} (hj : j < 23) : h + j < 122 := by rcases hh with rfl | rfl | rfl <;> omega
def wt_is188 (k : Nat) : Prop := k = 115 ∨ k = 116 ∨ k = 118
def wt_rk {β : Type} (x : Int32) (K : Option β) : Option β := if x.toNatClampNeg = 115 ∨ x.toNatClampNeg = 116 ∨ x.toNatClampNeg = 118 then K else none
theorem wt_rk_of {β : Type} {x : Int32} {K : Option β} {r : β} (h : wt_rk x K = some r) : wt_is188 x.toNatClampNeg ∧ K = some r := by
  unfold wt_rk at h
  split at h
  · rename_i q; exact ⟨q, h⟩
  · cases h
def wt_wld (tI tII : ClassId) (B : Nat) (σ : Mem) : va_W := (List.range 122).map (fun k => (B + k, wt_cell tI tII B k (σ k)))
theorem wt_wget {tI tII : ClassId} {B : Nat} {σ : Mem} {k : Nat} (hk : k < 122) : (wt_wld tI tII B σ)[k]? = some (B + k, wt_cell tI tII B k (σ k)) := by
  unfold wt_wld
  rw [List.getElem?_map, List.getElem?_range hk]
  rfl
theorem wt_wset {tI tII : ClassId} {B : Nat} {σ : Mem} {k : Nat} {f : Nat → Int32} (hk : k < 122) : (wt_wld tI tII B σ).set k (B + k, wt_cell tI tII B k f) = wt_wld tI tII B (upA σ k f) := by
  apply List.ext_getElem?
  intro j
  by_cases hj : j < 122
  · rw [wt_wget hj]
    by_cases e : k = j
    · subst e
      rw [List.getElem?_set_self (by simp [wt_wld, hk])]
      simp [upA]
    · rw [List.getElem?_set_ne e, wt_wget hj]
      simp [upA, show ¬ j = k from fun q => e q.symm]
  · rw [List.getElem?_eq_none (by simp [wt_wld]; omega), List.getElem?_eq_none (by simp [wt_wld]; omega)]
theorem wt_wD {tI tII : ClassId} {B : Nat} {σ : Mem} : va_D (fun q => B ≤ q) (wt_wld tI tII B σ) := by
  have key : ∀ (i : Nat) (p : Nat × va_E), (wt_wld tI tII B σ)[i]? = some p → p.1 = B + i := by
    intro i p h
    by_cases hi : i < 122
    · rw [wt_wget hi] at h
      exact (congrArg Prod.fst (Option.some.inj h)).symm
    · rw [List.getElem?_eq_none (by simp [wt_wld]; omega)] at h
      cases h
  refine ⟨fun i j p q hp hq e => ?_, fun k q hq => ?_⟩
  · have h1 := key i p hp
    have h2 := key j q hq
    omega
  · show B ≤ q.1
    rw [key k q hq]
    omega
theorem up2_A {σ : Mem} {k i : Nat} {x : Int32} : upA σ k (upd (σ k) i x) = up2 σ k i x := rfl
/-- the tables, as far as the walk asks them -/
def wt_K (D : va_G) (tI tII : ClassId) (s : State) : Prop := va_K D vwCl [(tI, .int), (tII, .array .int)] s
theorem wt_K.moved {D : va_G} {tI tII : ClassId} {u U : State} (h : u.vm.Alike U.vm) (k : wt_K D tI tII u) : wt_K D tI tII U := va_K.moved h k
/-- the heap as the memory tells it, and what was there before the system as it was -/
def wt_St (D : va_G) (tI tII : ClassId) (B : Nat) (σ : Mem) (s : State) (H : Heap) (locs : List Loc) : Prop := va_P D vwCl (wt_wld tI tII B σ) H ∧ va_S (fun q => B ≤ q) s.heap H locs
def wt_isA (k n : Nat) : Prop := k < 122 ∧ ∀ (tI tII : ClassId) (B : Nat) (f : Nat → Int32), wt_cell tI tII B k f = .inl (tI, n, .inl f)
def wt_isAA (k n t : Nat) : Prop := k < 122 ∧ ∀ (tI tII : ClassId) (B : Nat) (f : Nat → Int32), wt_cell tI tII B k f = .inl (tII, n, .inr (.inr (.inr (.inr (fun i => if i < n then some (B + (t + i)) else none)))))
theorem wt_aH_1 {h : Nat} (hh : wt_isH h) : wt_isA (h + 1) 6 := ⟨wt_Hlt hh (by decide), fun _ _ _ _ => by rw [wt_cH hh (by decide)]; rfl⟩
theorem wt_aH_2 {h : Nat} (hh : wt_isH h) : wt_isA (h + 2) 5 := ⟨wt_Hlt hh (by decide), fun _ _ _ _ => by rw [wt_cH hh (by decide)]; rfl⟩
theorem wt_aH_3 {h : Nat} (hh : wt_isH h) : wt_isA (h + 3) 5 := ⟨wt_Hlt hh (by decide), fun _ _ _ _ => by rw [wt_cH hh (by decide)]; rfl⟩
theorem wt_aaH_4 {h : Nat} (hh : wt_isH h) : wt_isAA (h + 4) 5 (h + 5) := ⟨wt_Hlt hh (by decide), fun _ _ _ _ => by rw [wt_cH hh (by decide)]; rfl⟩
theorem wt_rH_4 {h : Nat} (hh : wt_isH h) {i : Int32} (hin : vp_in i 5) : wt_isA (h + 5 + i.toNatClampNeg) 24 := by
  have hlt : i.toNatClampNeg < 5 := Nat.not_le.mp fun q => hin (Or.inr q)
  generalize i.toNatClampNeg = q at hlt
  refine ⟨by rw [Nat.add_assoc]; exact wt_Hlt hh (by omega), fun _ _ _ _ => ?_⟩
  rw [Nat.add_assoc, wt_cH hh (by omega)]
  rcases (show q = 0 ∨ q = 1 ∨ q = 2 ∨ q = 3 ∨ q = 4 by omega) with rfl | rfl | rfl | rfl | rfl <;> rfl
theorem wt_aaH_10 {h : Nat} (hh : wt_isH h) : wt_isAA (h + 10) 5 (h + 11) := ⟨wt_Hlt hh (by decide), fun _ _ _ _ => by rw [wt_cH hh (by decide)]; rfl⟩
theorem wt_rH_10 {h : Nat} (hh : wt_isH h) {i : Int32} (hin : vp_in i 5) : wt_isA (h + 11 + i.toNatClampNeg) 8 := by
  have hlt : i.toNatClampNeg < 5 := Nat.not_le.mp fun q => hin (Or.inr q)
  generalize i.toNatClampNeg = q at hlt
  refine ⟨by rw [Nat.add_assoc]; exact wt_Hlt hh (by omega), fun _ _ _ _ => ?_⟩
  rw [Nat.add_assoc, wt_cH hh (by omega)]
  rcases (show q = 0 ∨ q = 1 ∨ q = 2 ∨ q = 3 ∨ q = 4 by omega) with rfl | rfl | rfl | rfl | rfl <;> rfl
theorem wt_aH_16 {h : Nat} (hh : wt_isH h) : wt_isA (h + 16) 8 := ⟨wt_Hlt hh (by decide), fun _ _ _ _ => by rw [wt_cH hh (by decide)]; rfl⟩
theorem wt_aaH_17 {h : Nat} (hh : wt_isH h) : wt_isAA (h + 17) 5 (h + 18) := ⟨wt_Hlt hh (by decide), fun _ _ _ _ => by rw [wt_cH hh (by decide)]; rfl⟩
theorem wt_rH_17 {h : Nat} (hh : wt_isH h) {i : Int32} (hin : vp_in i 5) : wt_isA (h + 18 + i.toNatClampNeg) 8 := by
  have hlt : i.toNatClampNeg < 5 := Nat.not_le.mp fun q => hin (Or.inr q)
  generalize i.toNatClampNeg = q at hlt
  refine ⟨by rw [Nat.add_assoc]; exact wt_Hlt hh (by omega), fun _ _ _ _ => ?_⟩
  rw [Nat.add_assoc, wt_cH hh (by omega)]
  rcases (show q = 0 ∨ q = 1 ∨ q = 2 ∨ q = 3 ∨ q = 4 by omega) with rfl | rfl | rfl | rfl | rfl <;> rfl
theorem wt_a84 : wt_isA 84 96 := ⟨by decide, fun _ _ _ _ => rfl⟩
theorem wt_a71 : wt_isA 71 8 := ⟨by decide, fun _ _ _ _ => rfl⟩
theorem wt_a72 : wt_isA 72 8 := ⟨by decide, fun _ _ _ _ => rfl⟩
theorem wt_a73 : wt_isA 73 8 := ⟨by decide, fun _ _ _ _ => rfl⟩
theorem wt_aa74 : wt_isAA 74 8 75 := ⟨by decide, fun _ _ _ _ => rfl⟩
theorem wt_r74 {i : Int32} (hin : vp_in i 8) : wt_isA (75 + i.toNatClampNeg) 24 := by
  have hlt : i.toNatClampNeg < 8 := Nat.not_le.mp fun q => hin (Or.inr q)
  generalize i.toNatClampNeg = q at hlt
  rcases (show q = 0 ∨ q = 1 ∨ q = 2 ∨ q = 3 ∨ q = 4 ∨ q = 5 ∨ q = 6 ∨ q = 7 by omega) with rfl | rfl | rfl | rfl | rfl | rfl | rfl | rfl <;> exact ⟨by decide, fun _ _ _ _ => rfl⟩
theorem wt_a85 : wt_isA 85 12 := ⟨by decide, fun _ _ _ _ => rfl⟩
theorem wt_a86 : wt_isA 86 7 := ⟨by decide, fun _ _ _ _ => rfl⟩
theorem wt_aa87 : wt_isAA 87 6 88 := ⟨by decide, fun _ _ _ _ => rfl⟩
theorem wt_r87 {i : Int32} (hin : vp_in i 6) : wt_isA (88 + i.toNatClampNeg) 6 := by
  have hlt : i.toNatClampNeg < 6 := Nat.not_le.mp fun q => hin (Or.inr q)
  generalize i.toNatClampNeg = q at hlt
  rcases (show q = 0 ∨ q = 1 ∨ q = 2 ∨ q = 3 ∨ q = 4 ∨ q = 5 by omega) with rfl | rfl | rfl | rfl | rfl | rfl <;> exact ⟨by decide, fun _ _ _ _ => rfl⟩
theorem wt_aa94 : wt_isAA 94 6 95 := ⟨by decide, fun _ _ _ _ => rfl⟩
theorem wt_r94 {i : Int32} (hin : vp_in i 6) : wt_isA (95 + i.toNatClampNeg) 6 := by
  have hlt : i.toNatClampNeg < 6 := Nat.not_le.mp fun q => hin (Or.inr q)
  generalize i.toNatClampNeg = q at hlt
  rcases (show q = 0 ∨ q = 1 ∨ q = 2 ∨ q = 3 ∨ q = 4 ∨ q = 5 by omega) with rfl | rfl | rfl | rfl | rfl | rfl <;> exact ⟨by decide, fun _ _ _ _ => rfl⟩
theorem wt_a102 : wt_isA 102 8 := ⟨by decide, fun _ _ _ _ => rfl⟩
theorem wt_a103 : wt_isA 103 6 := ⟨by decide, fun _ _ _ _ => rfl⟩
theorem wt_a104 : wt_isA 104 5 := ⟨by decide, fun _ _ _ _ => rfl⟩
theorem wt_a105 : wt_isA 105 5 := ⟨by decide, fun _ _ _ _ => rfl⟩
theorem wt_a106 : wt_isA 106 120 := ⟨by decide, fun _ _ _ _ => rfl⟩
theorem wt_a107 : wt_isA 107 40 := ⟨by decide, fun _ _ _ _ => rfl⟩
theorem wt_a108 : wt_isA 108 7 := ⟨by decide, fun _ _ _ _ => rfl⟩
theorem wt_a109 : wt_isA 109 40 := ⟨by decide, fun _ _ _ _ => rfl⟩
theorem wt_a110 : wt_isA 110 5 := ⟨by decide, fun _ _ _ _ => rfl⟩
theorem wt_a111 : wt_isA 111 96 := ⟨by decide, fun _ _ _ _ => rfl⟩
theorem wt_a112 : wt_isA 112 49 := ⟨by decide, fun _ _ _ _ => rfl⟩
theorem wt_a113 : wt_isA 113 49 := ⟨by decide, fun _ _ _ _ => rfl⟩
theorem wt_a114 : wt_isA 114 196 := ⟨by decide, fun _ _ _ _ => rfl⟩
theorem wt_a115 : wt_isA 115 188 := ⟨by decide, fun _ _ _ _ => rfl⟩
theorem wt_a116 : wt_isA 116 188 := ⟨by decide, fun _ _ _ _ => rfl⟩
theorem wt_a117 : wt_isA 117 1504 := ⟨by decide, fun _ _ _ _ => rfl⟩
theorem wt_a118 : wt_isA 118 188 := ⟨by decide, fun _ _ _ _ => rfl⟩
theorem wt_a119 : wt_isA 119 36 := ⟨by decide, fun _ _ _ _ => rfl⟩
theorem wt_a120 : wt_isA 120 36 := ⟨by decide, fun _ _ _ _ => rfl⟩
theorem wt_a121 : wt_isA 121 12 := ⟨by decide, fun _ _ _ _ => rfl⟩
theorem wt_rk_a {k : Nat} (h : wt_is188 k) : wt_isA k 188 := by
  rcases h with rfl | rfl | rfl
  · exact wt_a115
  · exact wt_a116
  · exact wt_a118
theorem wt_oX0 {h : Nat} (hh : wt_isH h) {tI tII : ClassId} {B : Nat} {f : Nat → Int32} : wt_cell tI tII B h f = .inr (0, [.int (f 0), .ref (B + (h + 1)), .int (f 2), .ref (B + (h + 2)), .ref (B + (h + 3)), .ref (B + (h + 4)), .ref (B + (h + 10)), .ref (B + (h + 16)), .int (f 8), .int (f 9), .ref (B + (h + 17))]) := wt_cH hh (j := 0) (by decide)
theorem wt_rc_X0 {h : Nat} (hh : wt_isH h) : h < 122 ∧ (∀ (tI tII : ClassId) (B : Nat) (f : Nat → Int32), ∃ fs, wt_cell tI tII B h f = .inr (0, fs)) ∧ vwCl[0]? = some (RX0, TX0, 11) := ⟨wt_Hlt hh (j := 0) (by decide), fun _ _ _ _ => ⟨_, wt_oX0 hh⟩, rfl⟩
theorem wt_rc_X1 : 83 < 122 ∧ (∀ (tI tII : ClassId) (B : Nat) (f : Nat → Int32), ∃ fs, wt_cell tI tII B 83 f = .inr (1, fs)) ∧ vwCl[1]? = some (RX1, TX1, 2) := ⟨by decide, fun _ _ _ _ => ⟨_, rfl⟩, rfl⟩
theorem wt_rc_X2 : 70 < 122 ∧ (∀ (tI tII : ClassId) (B : Nat) (f : Nat → Int32), ∃ fs, wt_cell tI tII B 70 f = .inr (2, fs)) ∧ vwCl[2]? = some (RX2, TX2, 6) := ⟨by decide, fun _ _ _ _ => ⟨_, rfl⟩, rfl⟩
theorem wt_rc_X3 : 0 < 122 ∧ (∀ (tI tII : ClassId) (B : Nat) (f : Nat → Int32), ∃ fs, wt_cell tI tII B 0 f = .inr (3, fs)) ∧ vwCl[3]? = some (RX3, TX3, 11) := ⟨by decide, fun _ _ _ _ => ⟨_, rfl⟩, rfl⟩
theorem wt_rc_X4 : 101 < 122 ∧ (∀ (tI tII : ClassId) (B : Nat) (f : Nat → Int32), ∃ fs, wt_cell tI tII B 101 f = .inr (4, fs)) ∧ vwCl[4]? = some (RX4, TX4, 36) := ⟨by decide, fun _ _ _ _ => ⟨_, rfl⟩, rfl⟩
def wt_C (p : Program) (s : State) (m : MethodId) (args : Array Value) (meth : Method) (c : Code) (own : String) (cc : ByteArray) (nL : Nat) (ret : Option FieldType) (D : va_G) (tI tII : ClassId) : Prop :=
  p.tables.exec = Jvm.exec ∧ c.code = cc ∧ (∀ w ∈ wt_tbl, w.before args s = true) ∧ s.vm.findClass own = some m.cls ∧ c.maxLocals = nL ∧ meth.sig.returnType = ret ∧ meth.locks = false ∧ wt_K D tI tII s
abbrev wt_A (B : Nat) : Nat → Prop := fun q => B ≤ q
/-- what holds behind a method -/
abbrev wt_B (D : va_G) (tI tII : ClassId) (B : Nat) (σ : Mem) : Unit → State → Prop := fun _ t => va_P D vwCl (wt_wld tI tII B σ) t.heap ∧ wt_K D tI tII t
def wt_Qi (D : va_G) (tI tII : ClassId) (B : Nat) (r : Int32) (σ : Mem) : Array Value → State → Outcome → State → Prop := va_Qi (fun (x : Int32) (_ : Unit) => x = r) (wt_B D tI tII B σ) (fun q => B ≤ q)
def wt_Ql (D : va_G) (tI tII : ClassId) (B : Nat) (r : Int64) (σ : Mem) : Array Value → State → Outcome → State → Prop := va_Ql (fun (x : Int64) (_ : Unit) => x = r) (wt_B D tI tII B σ) (fun q => B ≤ q)
def wt_Qv (D : va_G) (tI tII : ClassId) (B : Nat) (σ : Mem) : Array Value → State → Outcome → State → Prop := va_Qv (fun (_ : Unit) => True) (wt_B D tI tII B σ) (fun q => B ≤ q)
abbrev wt_Pc (av : List Value) (D : va_G) (tI tII : ClassId) (B : Nat) (σ : Mem) : Array Value → State → Prop := va_Pc av (fun U => va_P D vwCl (wt_wld tI tII B σ) U.heap ∧ wt_K D tI tII U)
/-- a method's contract: from the memory σ it answers r, the memory is σ' -/
def wt_Mi (l : Launch) (y : MethodName) (cc : ByteArray) (nL : Nat) (ret : Option FieldType) (rm : Room) (av : List Value) (D : va_G) (tI tII : ClassId) (B : Nat) (σ : Mem) (r : Int32) (σ' : Mem) : Prop :=
  Met l y (.code y cc nL ret :: wt_tbl) rm (wt_Pc av D tI tII B σ) (wt_Qi D tI tII B r σ') 0 0 (fun q => B ≤ q)
def wt_Ml (l : Launch) (y : MethodName) (cc : ByteArray) (nL : Nat) (ret : Option FieldType) (rm : Room) (av : List Value) (D : va_G) (tI tII : ClassId) (B : Nat) (σ : Mem) (r : Int64) (σ' : Mem) : Prop :=
  Met l y (.code y cc nL ret :: wt_tbl) rm (wt_Pc av D tI tII B σ) (wt_Ql D tI tII B r σ') 0 0 (fun q => B ≤ q)
def wt_Mv (l : Launch) (y : MethodName) (cc : ByteArray) (nL : Nat) (ret : Option FieldType) (rm : Room) (av : List Value) (D : va_G) (tI tII : ClassId) (B : Nat) (σ : Mem) (σ' : Mem) : Prop :=
  Met l y (.code y cc nL ret :: wt_tbl) rm (wt_Pc av D tI tII B σ) (wt_Qv D tI tII B σ') 0 0 (fun q => B ≤ q)
theorem wt_good {w : Cond} (h : w ∈ wt_tbl) : w ∈ wt_tbl ∧ ((w.onTables && w.keeps) = true ∨ ∃ ty, w = .arrayClass ty) := ⟨h, good_of_word (List.mem_filter.mp h).2⟩
theorem wt_gV {own C : String} {idx nL : Nat} {y : MethodName} {cc : ByteArray} {ret : Option FieldType} (h1 : Cond.methodLink own idx y ∈ wt_tbl) (h2 : Cond.instanceMethod y ∈ wt_tbl) (h3 : Cond.selects C y y ∈ wt_tbl) (h4 : Cond.initialized C ∈ wt_tbl) (h5 : Cond.code y cc nL ret ∈ wt_tbl) : GoodIn wt_tbl (wsV own idx C y (.code y cc nL ret :: wt_tbl)) := by
  intro w hw
  rcases List.mem_append.mp hw with hw | hw
  · simp only [List.mem_cons, List.not_mem_nil, or_false] at hw
    rcases hw with rfl | rfl | rfl | rfl
    · exact wt_good h1
    · exact wt_good h2
    · exact wt_good h3
    · exact wt_good h4
  · rcases List.mem_cons.mp hw with rfl | hw
    · exact wt_good h5
    · exact wt_good hw
theorem wt_gS {own : String} {idx nL : Nat} {y : MethodName} {cc : ByteArray} {ret : Option FieldType} (h1 : Cond.methodLink own idx y ∈ wt_tbl) (h2 : Cond.static y ∈ wt_tbl) (h4 : Cond.initialized y.cls ∈ wt_tbl) (h5 : Cond.code y cc nL ret ∈ wt_tbl) : GoodIn wt_tbl (va_wsS own idx y (.code y cc nL ret :: wt_tbl)) := by
  intro w hw
  rcases List.mem_append.mp hw with hw | hw
  · simp only [List.mem_cons, List.not_mem_nil, or_false] at hw
    rcases hw with rfl | rfl | rfl
    · exact wt_good h1
    · exact wt_good h2
    · exact wt_good h4
  · rcases List.mem_cons.mp hw with rfl | hw
    · exact wt_good h5
    · exact wt_good hw
section WT
variable {p : Program} {l : Launch} {e : Env} {R : Room} {s : State} {m : MethodId} {args : Array Value} {below : List Frame} {meth : Method} {c : Code} {H : Heap} {locs : List Loc} {Q : State → Prop}
variable {cc : ByteArray} {pc : Nat} {ls : Array Slot} {rest : List Value} {D : va_G} {tI tII : ClassId} {B : Nat} {σ : Mem}
theorem wt_C_of {y : MethodName} {own : String} {nL : Nat} {ret : Option FieldType} {s₁ : State} {rm : Room} (B9 : BodyLoose p l y (headSpec (.code y cc nL ret :: wt_tbl) rm) cc nL ret e s m args below meth c s₁) (hml : c.maxLocals = nL) (hK : wt_K D tI tII s) (ho : y.cls = own := by rfl) : wt_C p s m args meth c own cc nL ret D tI tII := by
  subst ho
  exact ⟨B9.exec, B9.bytes, fun w hw => atoms_spec (ws := .code y cc nL ret :: wt_tbl) B9.pre w (List.mem_cons_of_mem _ hw), findClass_of_methodNamed B9.named, hml, B9.returns, B9.notSynchronized, hK⟩
theorem wt_leti {α : Type} {K : Int32 → Option α} {x : Int32} {r : α} (hf : wt_lt x K = some r) (kk : ∀ z : Int32, K z = some r → W p l e R s m args below meth c H locs 0 0 Q (F0 m pc ls (.int z :: rest))) : W p l e R s m args below meth c H locs 0 0 Q (F0 m pc ls (.int x :: rest)) := kk x hf
theorem wt_letl {α : Type} {K : Int64 → Option α} {x : Int64} {r : α} (hf : wt_lt x K = some r) (kk : ∀ z : Int64, K z = some r → W p l e R s m args below meth c H locs 0 0 Q (F0 m pc ls (.long z :: rest))) : W p l e R s m args below meth c H locs 0 0 Q (F0 m pc ls (.long x :: rest)) := kk x hf
theorem wt_gf (hx : p.tables.exec = Jvm.exec) (hb : c.code = cc) {own : String} (hts : ∀ w ∈ wt_tbl, w.before args s = true) (hown : s.vm.findClass own = some m.cls) (hK : wt_K D tI tII s) (hM : wt_St D tI tII B σ s H locs) {k ci N idx : Nat} {C : String} {T : u_T} {fs : List Value} (hk : k < 122) (he : wt_cell tI tII B k (σ k) = .inr (ci, fs)) (hc : vwCl[ci]? = some (C, T, N)) (j : Nat) (hj : j < N) (hin : ∀ w ∈ u_ws C T N, w ∈ wt_tbl) (hlink : Cond.fieldLink own idx (T j).1 (T j).2.1 (T j).2.2.1 ∈ wt_tbl) {v : Value} (hv : fs[j]? = some v) (hdg : decode cc pc = .ok (.getfield idx, 3))
    (kk : W p l e R s m args below meth c H locs 0 0 Q (F0 m (pc + 3) ls (v :: rest))) : W p l e R s m args below meth c H locs 0 0 Q (F0 m pc ls (.ref (B + k) :: rest)) :=
  va_get (D := D) (ci := ci) hx hb hts hin hown hK hM.1 k (by rw [wt_wget hk, he]) hc j hj (hts _ hlink) (fun _ h => h) hv hdg kk
theorem wt_pf (hx : p.tables.exec = Jvm.exec) (hb : c.code = cc) {own : String} (hts : ∀ w ∈ wt_tbl, w.before args s = true) (hown : s.vm.findClass own = some m.cls) (hK : wt_K D tI tII s) (hM : wt_St D tI tII B σ s H locs) {k ci N idx : Nat} {C : String} {T : u_T} {fs : List Value} (hk : k < 122) (he : wt_cell tI tII B k (σ k) = .inr (ci, fs)) (hc : vwCl[ci]? = some (C, T, N)) (j : Nat) (hj : j < N) (hin : ∀ w ∈ u_ws C T N, w ∈ wt_tbl) (hlink : Cond.fieldLink own idx (T j).1 (T j).2.1 (T j).2.2.1 ∈ wt_tbl)
    (ty0 : Nat → FieldType) (hty : ∀ k, k < N → parseFieldDescriptor (T k).2.2.1 = some (ty0 k)) (hnm : ∀ a, a < N → ∀ b, b < N → a ≠ b → (T a).2.1 ≠ (T b).2.1) (hfin : (T j).2.2.2 = false) {ty : FieldType} {v : Value} (hd : parseFieldDescriptor (T j).2.2.1 = some ty) (hn : narrow ty v = v) (hfit : fits ty v = true) (hl : j < fs.length) (f : Nat → Int32) (hs : ((B + k, .inr (ci, fs.set j v)) : Nat × va_E) = (B + k, wt_cell tI tII B k f))
    (hdg : decode cc pc = .ok (.putfield idx, 3))
    {α : Type} {K : Mem → Option α} {r : α} (hf : wt_lt (upA σ k f) K = some r)
    (kk : ∀ (s1 : Mem) (H1 : Heap) (locs1 : List Loc), K s1 = some r → wt_St D tI tII B s1 s H1 locs1 → W p l e R s m args below meth c H1 locs1 0 0 Q (F0 m (pc + 3) ls rest)) : W p l e R s m args below meth c H locs 0 0 Q (F0 m pc ls (v :: .ref (B + k) :: rest)) :=
  va_put (D := D) (ci := ci) hx hb hts hin ty0 hty hnm hown hK hM.1 wt_wD hM.2 k (by rw [wt_wget hk, he]) hc j hj (hts _ hlink) (fun _ h => h) hfin hd hn hfit hl hdg
    (fun H1 locs1 hP _ hS => kk _ H1 locs1 hf ⟨by rw [hs, wt_wset hk] at hP; exact hP, hS⟩)
theorem wt_ild (hx : p.tables.exec = Jvm.exec) (hb : c.code = cc) (hK : wt_K D tI tII s) (hM : wt_St D tI tII B σ s H locs) {k n : Nat} {i : Int32} (hA : wt_isA k n) (hin : vp_in i n) (hdg : decode cc pc = .ok (.iaload, 1))
    (kk : W p l e R s m args below meth c H locs 0 0 Q (F0 m (pc + 1) ls (.int (σ k i.toNatClampNeg) :: rest))) : W p l e R s m args below meth c H locs 0 0 Q (F0 m pc ls (.int i :: .ref (B + k) :: rest)) :=
  va_iald (D := D) hx hb hK hM.1 k 0 (by rw [wt_wget hA.1, hA.2]) rfl hin hdg kk
theorem wt_ist (hx : p.tables.exec = Jvm.exec) (hb : c.code = cc) (hK : wt_K D tI tII s) (hM : wt_St D tI tII B σ s H locs) {k n : Nat} {i x : Int32} (hA : wt_isA k n) (hin : vp_in i n) (hdg : decode cc pc = .ok (.iastore, 1))
    {α : Type} {K : Mem → Option α} {r : α} (hf : wt_lt (up2 σ k i.toNatClampNeg x) K = some r)
    (kk : ∀ (s1 : Mem) (H1 : Heap) (locs1 : List Loc), K s1 = some r → wt_St D tI tII B s1 s H1 locs1 → W p l e R s m args below meth c H1 locs1 0 0 Q (F0 m (pc + 1) ls rest)) : W p l e R s m args below meth c H locs 0 0 Q (F0 m pc ls (.int x :: .int i :: .ref (B + k) :: rest)) :=
  va_iast (D := D) hx hb hK hM.1 wt_wD hM.2 k 0 (by rw [wt_wget hA.1, hA.2]) rfl hin hdg
    (fun H1 locs1 hP _ hS => kk _ H1 locs1 hf ⟨by rw [← hA.2 tI tII B, wt_wset hA.1] at hP; exact hP, hS⟩)
theorem wt_ald (hx : p.tables.exec = Jvm.exec) (hb : c.code = cc) (hK : wt_K D tI tII s) (hM : wt_St D tI tII B σ s H locs) {k n t : Nat} {i : Int32} (hA : wt_isAA k n t) (hin : vp_in i n) (hdg : decode cc pc = .ok (.aaload, 1))
    (kk : W p l e R s m args below meth c H locs 0 0 Q (F0 m (pc + 1) ls (.ref (B + (t + i.toNatClampNeg)) :: rest))) : W p l e R s m args below meth c H locs 0 0 Q (F0 m pc ls (.int i :: .ref (B + k) :: rest)) := by
  have hlt : i.toNatClampNeg < n := Nat.not_le.mp fun q => hin (Or.inr q)
  have ha : (wt_wld tI tII B σ)[k]? = some (B + k, .inl (tII, n, .inr (.inr (.inr (.inr (fun i => if i < n then some (B + (t + i)) else none)))))) := by rw [wt_wget hA.1, hA.2]
  refine W.aald (v := .ref (B + (t + i.toNatClampNeg))) (ty := .array .int) hx hb (hM.1 k _ ha) ((hK.2 1 (tII, .array .int) rfl).1 n (fun j => va_rf (if j < n then some (B + (t + j)) else none))) rfl (fun q => by cases q) (by show ¬ (i < 0 ∨ (arrV _ _ _).slots.size ≤ _); rw [arrV_size]; exact hin) ?_ rfl rfl hdg kk
  show (arrV _ _ _).slots[_]? = _
  rw [arrV_read _ _ hlt]
  show some (va_rf (if i.toNatClampNeg < n then some (B + (t + i.toNatClampNeg)) else none)) = _
  rw [if_pos hlt]
  rfl
theorem wt_alen (hx : p.tables.exec = Jvm.exec) (hb : c.code = cc) (hK : wt_K D tI tII s) (hM : wt_St D tI tII B σ s H locs) {k n : Nat} {v : Int32} (hA : wt_isA k n) (hv : Int32.ofNat n = v) (hdg : decode cc pc = .ok (.arraylength, 1))
    (kk : W p l e R s m args below meth c H locs 0 0 Q (F0 m (pc + 1) ls (.int v :: rest))) : W p l e R s m args below meth c H locs 0 0 Q (F0 m pc ls (.ref (B + k) :: rest)) :=
  va_alen (D := D) (x := (n, .inl (σ k))) hx hb hK hM.1 k 0 (by rw [wt_wget hA.1, hA.2]) rfl hv hdg kk
theorem wt_mmin (hx : p.tables.exec = Jvm.exec) (hb : c.code = cc) {nL idx : Nat} {own : String} (hml : c.maxLocals = nL) (hts : ∀ w ∈ wt_tbl, w.before args s = true) (hown : s.vm.findClass own = some m.cls) (hsz : ls.size = nL) (h1 : Cond.methodLink own idx Lib.Math.min.name ∈ wt_tbl) (h2 : Cond.static Lib.Math.min.name ∈ wt_tbl) (h3 : Cond.initialized "java/lang/Math" ∈ wt_tbl) (h4 : Cond.code Lib.Math.min.name Lib.Math.min.code 2 (some .int) ∈ wt_tbl) (h5 : 1 ≤ R.frames) (h6 : (rest.map fun v => v.category).sum + 13 ≤ R.locals) {x y : Int32} (hdg : decode cc pc = .ok (.invokestatic idx, 3))
    (kk : W p l e R s m args below meth c H locs 0 0 Q (F0 m (pc + 3) ls (.int (wt_min x y) :: rest))) : W p l e R s m args below meth c H locs 0 0 Q (F0 m pc ls (.int y :: .int x :: rest)) :=
  va_mmin hx hb (hml.trans hsz.symm) hown (hts _ h1) (hts _ h2) (hts _ h3) (hts _ h4) h5 h6 (Nat.zero_le _) (Nat.zero_le _) hdg kk
theorem wt_mmax (hx : p.tables.exec = Jvm.exec) (hb : c.code = cc) {nL idx : Nat} {own : String} (hml : c.maxLocals = nL) (hts : ∀ w ∈ wt_tbl, w.before args s = true) (hown : s.vm.findClass own = some m.cls) (hsz : ls.size = nL) (h1 : Cond.methodLink own idx Lib.Math.max.name ∈ wt_tbl) (h2 : Cond.static Lib.Math.max.name ∈ wt_tbl) (h3 : Cond.initialized "java/lang/Math" ∈ wt_tbl) (h4 : Cond.code Lib.Math.max.name Lib.Math.max.code 2 (some .int) ∈ wt_tbl) (h5 : 1 ≤ R.frames) (h6 : (rest.map fun v => v.category).sum + 13 ≤ R.locals) {x y : Int32} (hdg : decode cc pc = .ok (.invokestatic idx, 3))
    (kk : W p l e R s m args below meth c H locs 0 0 Q (F0 m (pc + 3) ls (.int (wt_max x y) :: rest))) : W p l e R s m args below meth c H locs 0 0 Q (F0 m pc ls (.int y :: .int x :: rest)) :=
  va_mmax hx hb (hml.trans hsz.symm) hown (hts _ h1) (hts _ h2) (hts _ h3) (hts _ h4) h5 h6 (Nat.zero_le _) (Nat.zero_le _) hdg kk
theorem wt_cpy {N : Nat} {n : Int32} (hx : p.tables.exec = Jvm.exec) (hb : c.code = cc) {nL idx : Nat} {own : String} (hml : c.maxLocals = nL) (hts : ∀ w ∈ wt_tbl, w.before args s = true) (hown : s.vm.findClass own = some m.cls) (hK : wt_K D tI tII s) (hM : wt_St D tI tII B σ s H locs) (hsz : ls.size = nL) (h1 : Cond.methodLink own idx arraycopyName ∈ wt_tbl) (h2 : Cond.native arraycopyName ∈ wt_tbl) (h3 : Cond.static arraycopyName ∈ wt_tbl) (h4 : Cond.initialized "java/lang/System" ∈ wt_tbl) {k0 k1 n0 n1 : Nat} (hA0 : wt_isA k0 n0) (hA1 : wt_isA k1 n1) (g3 : ¬ n < 0) (g4 : n.toNatClampNeg ≤ n0) (g5 : n.toNatClampNeg ≤ n1) (hN : n.toNatClampNeg = N) (h5 : 1 ≤ R.frames) (h6 : (rest.map fun v => v.category).sum + (nativeFrameWords "java/lang/System" "arraycopy" 5 + 11) ≤ R.locals) (h7 : 0 ≤ 0) (hdg : decode cc pc = .ok (.invokestatic idx, 3))
    {α : Type} {K : Mem → Option α} {r : α} (hf : wt_lt (upA σ k1 (va_cpy (σ k0) (σ k1) 0 0 N)) K = some r)
    (kk : ∀ (s1 : Mem) (H1 : Heap) (locs1 : List Loc), K s1 = some r → wt_St D tI tII B s1 s H1 locs1 → W p l e R s m args below meth c H1 locs1 0 0 Q (F0 m (pc + 3) ls rest)) : W p l e R s m args below meth c H locs 0 0 Q (F0 m pc ls (.int n :: .int 0 :: .ref (B + k1) :: .int 0 :: .ref (B + k0) :: rest)) := by
  refine va_copyi (D := D) (f := σ k0) (g := σ k1) (n0 := n0) (n1 := n1) (c0 := tI) (c1 := tI) (sp := 0) (dp := 0) (ty := .int) hx hb (hml.trans hsz.symm) hown (hts _ h1) (hts _ h2) (hts _ h3) (hts _ h4) hK hM.1 wt_wD hM.2 k0 k1 0 0 (by rw [wt_wget hA0.1, hA0.2]) (by rw [wt_wget hA1.1, hA1.2]) rfl rfl rfl (by decide) (by decide) g3 (by simpa using g4) (by simpa using g5) (fun _ _ => rfl) h5 h6 hdg (fun H1 locs1 hP _ hS => kk _ H1 locs1 hf ⟨?_, hS⟩)
  rw [← hA1.2 tI tII B, wt_wset hA1.1, hN] at hP
  exact hP
theorem wt_blind {av : List Value} : FrameBlind (wt_Pc av D tI tII B σ) := fun a U g mk q => by
  obtain ⟨h1, h2, h3⟩ := q
  exact ⟨h1, h2, wt_K.moved (u := U) (U := U.calling g mk a) (Vm.Alike.refl U.vm) h3⟩
theorem wt_pre {av : List Value} (hK : wt_K D tI tII s) (hM : wt_St D tI tII B σ s H locs) : ∀ U : State, U.heap = H → s.WarmedH U.vm → wt_Pc av D tI tII B σ av.toArray U := fun U hU hW => ⟨rfl, by rw [hU]; exact hM.1, wt_K.moved hW.alike hK⟩
theorem wt_recv (hK : wt_K D tI tII s) (hM : wt_St D tI tII B σ s H locs) {k ci N : Nat} {C : String} {T : u_T} (hk : k < 122) (he : ∀ f, ∃ fs, wt_cell tI tII B k f = .inr (ci, fs)) (hc : vwCl[ci]? = some (C, T, N)) : ∃ cellB : Cell, H[B + k]? = some cellB ∧ cellB.vm.isStatics = false ∧ s.vm.findClass C = some cellB.cls := by
  obtain ⟨fs, hfs⟩ := he (σ k)
  have hP : va_P D vwCl [(B + k, .inr (ci, fs))] H := fun j q hj => by
    have h0 : j < 1 := (List.getElem?_eq_some_iff.mp hj).1
    rw [show j = 0 by omega] at hj
    cases hj
    exact hM.1 k _ (by rw [wt_wget hk, hfs])
  exact va_recv hK hP (ci := ci) (q0 := 0) hc rfl
theorem wt_up {H1 : Heap} {locs1 : List Loc} {σ1 : Mem} {t : State} (ht : t.heap = H1) (hB : va_P D vwCl (wt_wld tI tII B σ1) t.heap ∧ wt_K D tI tII t) (hS : va_S (fun q => B ≤ q) s.heap H1 locs1) : wt_St D tI tII B σ1 s H1 locs1 := ⟨by rw [← ht]; exact hB.1, hS⟩
theorem wt_callVi {As : List Value} {rest : List Value} (hx : p.tables.exec = Jvm.exec) (hb : c.code = cc) {nL idx : Nat} {own : String} (hml : c.maxLocals = nL) (hts : ∀ w ∈ wt_tbl, w.before args s = true) (hown : s.vm.findClass own = some m.cls) (hK : wt_K D tI tII s) (hM : wt_St D tI tII B σ s H locs) {k ci N : Nat} {C : String} {T : u_T} (hrc : k < 122 ∧ (∀ (tI tII : ClassId) (B : Nat) (f : Nat → Int32), ∃ fs, wt_cell tI tII B k f = .inr (ci, fs)) ∧ vwCl[ci]? = some (C, T, N)) {y : MethodName} {cy : ByteArray} {nY n : Nat} {ret : Option FieldType} {rm : Room} {st0 : List Value} (hG : GoodIn wt_tbl (wsV own idx C y (.code y cy nY ret :: wt_tbl)))
    (hd : y.cls = C ∧ y.cls ≠ "java/lang/invoke/MethodHandle" ∧ y.cls ≠ "java/lang/invoke/VarHandle" ∧ (parseMethodDescriptor y.desc).map (fun d => d.parameters.length) = some n) (hn : As.length = n) (hR : rm.frames + 1 ≤ R.frames ∧ 8 + (nY + 11) + rm.locals ≤ R.locals) (hrm : rm.cells = 0 ∧ rm.slots = 0) (hsz : ls.size = nL) (hst : st0 = As.reverse ++ .ref (B + k) :: rest) (hcat : (rest.map fun v => v.category).sum ≤ 8) (hdg : decode cc pc = .ok (.invokevirtual idx, 3))
    {α : Type} {o : Option (Int32 × Mem)} {K : Int32 → Mem → Option α} {r : α} (hf : wt_bnd o K = some r)
    (hc : ∀ (a : Int32) (s1 : Mem), o = some (a, s1) → wt_Mi l y cy nY ret rm (.ref (B + k) :: As) D tI tII B σ a s1)
    (kk : ∀ (a : Int32) (s1 : Mem) (H1 : Heap) (locs1 : List Loc), K a s1 = some r → wt_St D tI tII B s1 s H1 locs1 → W p l e R s m args below meth c H1 locs1 0 0 Q (F0 m (pc + 3) ls (.int a :: rest))) : W p l e R s m args below meth c H locs 0 0 Q (F0 m pc ls st0) := by
  obtain ⟨a, s1, ho, hf⟩ := wt_bnd_of hf
  subst hst
  refine va_calli (A0 := fun q => B ≤ q) (A1 := fun q => B ≤ q) (free := fun q => B ≤ q) (mc := 0) (ms := 0) (va_runV (As := As) (rest := rest) ⟨hx, hb, hml, hown, hts⟩ (hc a s1 ho) (cwV n hts hG rfl hrm.1 hrm.2 hd hR) ⟨wt_blind, wt_recv hK hM hrc.1 (hrc.2.1 tI tII B) hrc.2.2, wt_pre hK hM⟩ rfl hn hsz rfl (lv_room hcat) hdg ⟨Nat.zero_le _, Nat.zero_le _⟩) hM.2 (fun _ _ h => h) (fun _ h => h) (fun r1 u t H1 locs1 ht _ hw hB _ _ hS => ?_)
  subst hw
  exact kk _ s1 H1 locs1 hf (wt_up ht hB hS)
theorem wt_callVl {As : List Value} {rest : List Value} (hx : p.tables.exec = Jvm.exec) (hb : c.code = cc) {nL idx : Nat} {own : String} (hml : c.maxLocals = nL) (hts : ∀ w ∈ wt_tbl, w.before args s = true) (hown : s.vm.findClass own = some m.cls) (hK : wt_K D tI tII s) (hM : wt_St D tI tII B σ s H locs) {k ci N : Nat} {C : String} {T : u_T} (hrc : k < 122 ∧ (∀ (tI tII : ClassId) (B : Nat) (f : Nat → Int32), ∃ fs, wt_cell tI tII B k f = .inr (ci, fs)) ∧ vwCl[ci]? = some (C, T, N)) {y : MethodName} {cy : ByteArray} {nY n : Nat} {ret : Option FieldType} {rm : Room} {st0 : List Value} (hG : GoodIn wt_tbl (wsV own idx C y (.code y cy nY ret :: wt_tbl)))
    (hd : y.cls = C ∧ y.cls ≠ "java/lang/invoke/MethodHandle" ∧ y.cls ≠ "java/lang/invoke/VarHandle" ∧ (parseMethodDescriptor y.desc).map (fun d => d.parameters.length) = some n) (hn : As.length = n) (hR : rm.frames + 1 ≤ R.frames ∧ 8 + (nY + 11) + rm.locals ≤ R.locals) (hrm : rm.cells = 0 ∧ rm.slots = 0) (hsz : ls.size = nL) (hst : st0 = As.reverse ++ .ref (B + k) :: rest) (hcat : (rest.map fun v => v.category).sum ≤ 8) (hdg : decode cc pc = .ok (.invokevirtual idx, 3))
    {α : Type} {o : Option (Int64 × Mem)} {K : Int64 → Mem → Option α} {r : α} (hf : wt_bnd o K = some r)
    (hc : ∀ (a : Int64) (s1 : Mem), o = some (a, s1) → wt_Ml l y cy nY ret rm (.ref (B + k) :: As) D tI tII B σ a s1)
    (kk : ∀ (a : Int64) (s1 : Mem) (H1 : Heap) (locs1 : List Loc), K a s1 = some r → wt_St D tI tII B s1 s H1 locs1 → W p l e R s m args below meth c H1 locs1 0 0 Q (F0 m (pc + 3) ls (.long a :: rest))) : W p l e R s m args below meth c H locs 0 0 Q (F0 m pc ls st0) := by
  obtain ⟨a, s1, ho, hf⟩ := wt_bnd_of hf
  subst hst
  refine va_calll (A0 := fun q => B ≤ q) (A1 := fun q => B ≤ q) (free := fun q => B ≤ q) (mc := 0) (ms := 0) (va_runV (As := As) (rest := rest) ⟨hx, hb, hml, hown, hts⟩ (hc a s1 ho) (cwV n hts hG rfl hrm.1 hrm.2 hd hR) ⟨wt_blind, wt_recv hK hM hrc.1 (hrc.2.1 tI tII B) hrc.2.2, wt_pre hK hM⟩ rfl hn hsz rfl (lv_room hcat) hdg ⟨Nat.zero_le _, Nat.zero_le _⟩) hM.2 (fun _ _ h => h) (fun _ h => h) (fun r1 u t H1 locs1 ht _ hw hB _ _ hS => ?_)
  subst hw
  exact kk _ s1 H1 locs1 hf (wt_up ht hB hS)
theorem wt_callVv {As : List Value} {rest : List Value} (hx : p.tables.exec = Jvm.exec) (hb : c.code = cc) {nL idx : Nat} {own : String} (hml : c.maxLocals = nL) (hts : ∀ w ∈ wt_tbl, w.before args s = true) (hown : s.vm.findClass own = some m.cls) (hK : wt_K D tI tII s) (hM : wt_St D tI tII B σ s H locs) {k ci N : Nat} {C : String} {T : u_T} (hrc : k < 122 ∧ (∀ (tI tII : ClassId) (B : Nat) (f : Nat → Int32), ∃ fs, wt_cell tI tII B k f = .inr (ci, fs)) ∧ vwCl[ci]? = some (C, T, N)) {y : MethodName} {cy : ByteArray} {nY n : Nat} {ret : Option FieldType} {rm : Room} {st0 : List Value} (hG : GoodIn wt_tbl (wsV own idx C y (.code y cy nY ret :: wt_tbl)))
    (hd : y.cls = C ∧ y.cls ≠ "java/lang/invoke/MethodHandle" ∧ y.cls ≠ "java/lang/invoke/VarHandle" ∧ (parseMethodDescriptor y.desc).map (fun d => d.parameters.length) = some n) (hn : As.length = n) (hR : rm.frames + 1 ≤ R.frames ∧ 8 + (nY + 11) + rm.locals ≤ R.locals) (hrm : rm.cells = 0 ∧ rm.slots = 0) (hsz : ls.size = nL) (hst : st0 = As.reverse ++ .ref (B + k) :: rest) (hcat : (rest.map fun v => v.category).sum ≤ 8) (hdg : decode cc pc = .ok (.invokevirtual idx, 3))
    {α : Type} {o : Option (Unit × Mem)} {K : Unit → Mem → Option α} {r : α} (hf : wt_bnd o K = some r)
    (hc : ∀ (a : Unit) (s1 : Mem), o = some (a, s1) → wt_Mv l y cy nY ret rm (.ref (B + k) :: As) D tI tII B σ s1)
    (kk : ∀ (a : Unit) (s1 : Mem) (H1 : Heap) (locs1 : List Loc), K a s1 = some r → wt_St D tI tII B s1 s H1 locs1 → W p l e R s m args below meth c H1 locs1 0 0 Q (F0 m (pc + 3) ls rest)) : W p l e R s m args below meth c H locs 0 0 Q (F0 m pc ls st0) := by
  obtain ⟨a, s1, ho, hf⟩ := wt_bnd_of hf
  subst hst
  refine va_callv (A0 := fun q => B ≤ q) (A1 := fun q => B ≤ q) (free := fun q => B ≤ q) (mc := 0) (ms := 0) (va_runV (As := As) (rest := rest) ⟨hx, hb, hml, hown, hts⟩ (hc a s1 ho) (cwV n hts hG rfl hrm.1 hrm.2 hd hR) ⟨wt_blind, wt_recv hK hM hrc.1 (hrc.2.1 tI tII B) hrc.2.2, wt_pre hK hM⟩ rfl hn hsz rfl (lv_room hcat) hdg ⟨Nat.zero_le _, Nat.zero_le _⟩) hM.2 (fun _ _ h => h) (fun _ h => h) (fun u t H1 locs1 ht _ hw hB _ _ hS => ?_)
  exact kk a s1 H1 locs1 hf (wt_up ht hB hS)
theorem wt_callSi {As : List Value} {rest : List Value} (hx : p.tables.exec = Jvm.exec) (hb : c.code = cc) {nL idx : Nat} {own : String} (hml : c.maxLocals = nL) (hts : ∀ w ∈ wt_tbl, w.before args s = true) (hown : s.vm.findClass own = some m.cls) (hK : wt_K D tI tII s) (hM : wt_St D tI tII B σ s H locs) {y : MethodName} {cy : ByteArray} {nY n : Nat} {ret : Option FieldType} {rm : Room} {st0 : List Value} (hG : GoodIn wt_tbl (va_wsS own idx y (.code y cy nY ret :: wt_tbl)))
    (hd : y.cls ≠ "java/lang/invoke/MethodHandle" ∧ y.cls ≠ "java/lang/invoke/VarHandle" ∧ (parseMethodDescriptor y.desc).map (fun d => d.parameters.length) = some n) (hn : As.length = n) (hR : rm.frames + 1 ≤ R.frames ∧ 8 + (nY + 11) + rm.locals ≤ R.locals) (hrm : rm.cells = 0 ∧ rm.slots = 0) (hsz : ls.size = nL) (hst : st0 = As.reverse ++ rest) (hcat : (rest.map fun v => v.category).sum ≤ 8) (hdg : decode cc pc = .ok (.invokestatic idx, 3))
    {α : Type} {o : Option (Int32 × Mem)} {K : Int32 → Mem → Option α} {r : α} (hf : wt_bnd o K = some r)
    (hc : ∀ (a : Int32) (s1 : Mem), o = some (a, s1) → wt_Mi l y cy nY ret rm As D tI tII B σ a s1)
    (kk : ∀ (a : Int32) (s1 : Mem) (H1 : Heap) (locs1 : List Loc), K a s1 = some r → wt_St D tI tII B s1 s H1 locs1 → W p l e R s m args below meth c H1 locs1 0 0 Q (F0 m (pc + 3) ls (.int a :: rest))) : W p l e R s m args below meth c H locs 0 0 Q (F0 m pc ls st0) := by
  obtain ⟨a, s1, ho, hf⟩ := wt_bnd_of hf
  subst hst
  refine va_calli (A0 := fun q => B ≤ q) (A1 := fun q => B ≤ q) (free := fun q => B ≤ q) (mc := 0) (ms := 0) (va_runS (As := As) (rest := rest) ⟨hx, hb, hml, hown, hts⟩ (hc a s1 ho) (va_cwS n hts hG rfl hrm.1 hrm.2 hd hR) ⟨wt_blind, wt_pre hK hM⟩ rfl hn hsz rfl (lv_room hcat) hdg ⟨Nat.zero_le _, Nat.zero_le _⟩) hM.2 (fun _ _ h => h) (fun _ h => h) (fun r1 u t H1 locs1 ht _ hw hB _ _ hS => ?_)
  subst hw
  exact kk _ s1 H1 locs1 hf (wt_up ht hB hS)
theorem wt_callSl {As : List Value} {rest : List Value} (hx : p.tables.exec = Jvm.exec) (hb : c.code = cc) {nL idx : Nat} {own : String} (hml : c.maxLocals = nL) (hts : ∀ w ∈ wt_tbl, w.before args s = true) (hown : s.vm.findClass own = some m.cls) (hK : wt_K D tI tII s) (hM : wt_St D tI tII B σ s H locs) {y : MethodName} {cy : ByteArray} {nY n : Nat} {ret : Option FieldType} {rm : Room} {st0 : List Value} (hG : GoodIn wt_tbl (va_wsS own idx y (.code y cy nY ret :: wt_tbl)))
    (hd : y.cls ≠ "java/lang/invoke/MethodHandle" ∧ y.cls ≠ "java/lang/invoke/VarHandle" ∧ (parseMethodDescriptor y.desc).map (fun d => d.parameters.length) = some n) (hn : As.length = n) (hR : rm.frames + 1 ≤ R.frames ∧ 8 + (nY + 11) + rm.locals ≤ R.locals) (hrm : rm.cells = 0 ∧ rm.slots = 0) (hsz : ls.size = nL) (hst : st0 = As.reverse ++ rest) (hcat : (rest.map fun v => v.category).sum ≤ 8) (hdg : decode cc pc = .ok (.invokestatic idx, 3))
    {α : Type} {o : Option (Int64 × Mem)} {K : Int64 → Mem → Option α} {r : α} (hf : wt_bnd o K = some r)
    (hc : ∀ (a : Int64) (s1 : Mem), o = some (a, s1) → wt_Ml l y cy nY ret rm As D tI tII B σ a s1)
    (kk : ∀ (a : Int64) (s1 : Mem) (H1 : Heap) (locs1 : List Loc), K a s1 = some r → wt_St D tI tII B s1 s H1 locs1 → W p l e R s m args below meth c H1 locs1 0 0 Q (F0 m (pc + 3) ls (.long a :: rest))) : W p l e R s m args below meth c H locs 0 0 Q (F0 m pc ls st0) := by
  obtain ⟨a, s1, ho, hf⟩ := wt_bnd_of hf
  subst hst
  refine va_calll (A0 := fun q => B ≤ q) (A1 := fun q => B ≤ q) (free := fun q => B ≤ q) (mc := 0) (ms := 0) (va_runS (As := As) (rest := rest) ⟨hx, hb, hml, hown, hts⟩ (hc a s1 ho) (va_cwS n hts hG rfl hrm.1 hrm.2 hd hR) ⟨wt_blind, wt_pre hK hM⟩ rfl hn hsz rfl (lv_room hcat) hdg ⟨Nat.zero_le _, Nat.zero_le _⟩) hM.2 (fun _ _ h => h) (fun _ h => h) (fun r1 u t H1 locs1 ht _ hw hB _ _ hS => ?_)
  subst hw
  exact kk _ s1 H1 locs1 hf (wt_up ht hB hS)
theorem wt_iret (hx : p.tables.exec = Jvm.exec) (hb : c.code = cc) (hr : meth.sig.returnType = some .int) (hlk : meth.locks = false) (hK : wt_K D tI tII s) (hM : wt_St D tI tII B σ s H locs) {v r : Int32} {σ' : Mem} (hf : some (v, σ) = some (r, σ')) (hdg : decode cc pc = .ok (.ireturn, 1)) : W p l e R s m args below meth c H locs 0 0 (MQ below (wt_Qi D tI tII B r σ') args s 0 0 (fun q => B ≤ q)) (F0 m pc ls [.int v]) := by
  cases hf
  exact W.iret (v := v) hx hb hr (fun t ht hW => ⟨⟨v, (), rfl, rfl, by rw [ht]; exact hM.1, wt_K.moved hW.alike hK⟩, hM.2.F ht⟩) hM.2.2.2 hdg hlk
theorem wt_zret (hx : p.tables.exec = Jvm.exec) (hb : c.code = cc) (hr : meth.sig.returnType = some .boolean) (hlk : meth.locks = false) (hK : wt_K D tI tII s) (hM : wt_St D tI tII B σ s H locs) {v r : Int32} (hz : v = 0 ∨ v = 1) {σ' : Mem} (hf : some (v, σ) = some (r, σ')) (hdg : decode cc pc = .ok (.ireturn, 1)) : W p l e R s m args below meth c H locs 0 0 (MQ below (wt_Qi D tI tII B r σ') args s 0 0 (fun q => B ≤ q)) (F0 m pc ls [.int v]) := by
  cases hf
  exact W.zret (v := v) hx hb hr (wt_nar hz) (fun t ht hW => ⟨⟨v, (), rfl, rfl, by rw [ht]; exact hM.1, wt_K.moved hW.alike hK⟩, hM.2.F ht⟩) hM.2.2.2 hdg hlk
theorem wt_lret (hx : p.tables.exec = Jvm.exec) (hb : c.code = cc) (hr : meth.sig.returnType = some .long) (hlk : meth.locks = false) (hK : wt_K D tI tII s) (hM : wt_St D tI tII B σ s H locs) {v r : Int64} {σ' : Mem} (hf : some (v, σ) = some (r, σ')) (hdg : decode cc pc = .ok (.lreturn, 1)) : W p l e R s m args below meth c H locs 0 0 (MQ below (wt_Ql D tI tII B r σ') args s 0 0 (fun q => B ≤ q)) (F0 m pc ls [.long v]) := by
  cases hf
  exact W.lret (v := v) hx hb hr (fun t ht hW => ⟨⟨v, (), rfl, rfl, by rw [ht]; exact hM.1, wt_K.moved hW.alike hK⟩, hM.2.F ht⟩) hM.2.2.2 hdg hlk
theorem wt_vret (hx : p.tables.exec = Jvm.exec) (hb : c.code = cc) (hr : meth.sig.returnType = none) (hlk : meth.locks = false) (hK : wt_K D tI tII s) (hM : wt_St D tI tII B σ s H locs) {σ' : Mem} (hf : some ((), σ) = some ((), σ')) (hdg : decode cc pc = .ok (.return_, 1)) : W p l e R s m args below meth c H locs 0 0 (MQ below (wt_Qv D tI tII B σ') args s 0 0 (fun q => B ≤ q)) (F0 m pc ls []) := by
  cases hf
  exact W.vret hx hb hr (fun t ht hW => ⟨⟨(), rfl, trivial, by rw [ht]; exact hM.1, wt_K.moved hW.alike hK⟩, hM.2.F ht⟩) hM.2.2.2 hdg hlk
theorem wq_key {P : Prop} {α : Type} {x k : Int32} {A E : Option α} {r : α} (hf : (if x = k then A else E) = some r) (kt : x = k → A = some r → P) (kf : ¬ x = k → E = some r → P) : P := by
  by_cases h : x = k
  · rw [if_pos h] at hf; exact kt h hf
  · rw [if_neg h] at hf; exact kf h hf
theorem wq_tableD (ks : List Int32) (hx : p.tables.exec = Jvm.exec) (hb : c.code = cc) {dflt lo hi : Int} {offs : Array Int} {len : Nat} {x : Int32} {tgt : Nat} (hdg : decode cc pc = .ok (.tableswitch dflt lo hi offs, len)) (hne : ∀ k ∈ ks, ¬ x = k) (hall : ∀ j : Nat, j < (hi - lo + 1).toNat → (∀ k ∈ ks, ¬ k.toInt = lo + j) → offs[j]? = some dflt) (ht : (pc : Int) + dflt = (tgt : Int))
    (k : W p l e R s m args below meth c H locs 0 0 Q (F0 m tgt ls rest)) : W p l e R s m args below meth c H locs 0 0 Q (F0 m pc ls (.int x :: rest)) := by
  by_cases h : x.toInt < lo ∨ hi < x.toInt
  · exact lv_tableOut hx hb hdg h ht k
  · have h1 : ¬ x.toInt < lo := fun q => h (Or.inl q)
    have h2 : ¬ hi < x.toInt := fun q => h (Or.inr q)
    refine lv_tableIn hx hb hdg h1 h2 (hall (x.toInt - lo).toNat (by omega) (fun k hk q => hne k hk (Int32.toInt_inj.mp ?_))) ht k
    rw [q]
    omega
theorem wq_if_eq (hx : p.tables.exec = Jvm.exec) (hb : c.code = cc) {x : Int32} {off : Int} {tgt : Nat} (hdg : decode cc pc = .ok (.ifCond .eq off, 3)) (ht : (pc : Int) + off = (tgt : Int)) {α : Type} {A E : Option α} {r : α} (hf : (if x = 0 then A else E) = some r)
    (kt : A = some r → W p l e R s m args below meth c H locs 0 0 Q (F0 m tgt ls rest)) (kf : E = some r → W p l e R s m args below meth c H locs 0 0 Q (F0 m (pc + 3) ls rest)) : W p l e R s m args below meth c H locs 0 0 Q (F0 m pc ls (.int x :: rest)) :=
  lv_if_eq hx hb hdg ht (fun h => kt (by rw [if_pos h] at hf; exact hf)) (fun h => kf (by rw [if_neg h] at hf; exact hf))
theorem wq_if_ne (hx : p.tables.exec = Jvm.exec) (hb : c.code = cc) {x : Int32} {off : Int} {tgt : Nat} (hdg : decode cc pc = .ok (.ifCond .ne off, 3)) (ht : (pc : Int) + off = (tgt : Int)) {α : Type} {A E : Option α} {r : α} (hf : (if x = 0 then A else E) = some r)
    (kt : E = some r → W p l e R s m args below meth c H locs 0 0 Q (F0 m tgt ls rest)) (kf : A = some r → W p l e R s m args below meth c H locs 0 0 Q (F0 m (pc + 3) ls rest)) : W p l e R s m args below meth c H locs 0 0 Q (F0 m pc ls (.int x :: rest)) :=
  lv_if_ne hx hb hdg ht (fun h => kt (by rw [if_neg h] at hf; exact hf)) (fun h => kf (by rw [if_pos h] at hf; exact hf))
theorem wq_if_lt (hx : p.tables.exec = Jvm.exec) (hb : c.code = cc) {x : Int32} {off : Int} {tgt : Nat} (hdg : decode cc pc = .ok (.ifCond .lt off, 3)) (ht : (pc : Int) + off = (tgt : Int)) {α : Type} {A E : Option α} {r : α} (hf : (if x < 0 then A else E) = some r)
    (kt : A = some r → W p l e R s m args below meth c H locs 0 0 Q (F0 m tgt ls rest)) (kf : E = some r → W p l e R s m args below meth c H locs 0 0 Q (F0 m (pc + 3) ls rest)) : W p l e R s m args below meth c H locs 0 0 Q (F0 m pc ls (.int x :: rest)) :=
  lv_if_lt hx hb hdg ht (fun h => kt (by rw [if_pos h] at hf; exact hf)) (fun h => kf (by rw [if_neg h] at hf; exact hf))
theorem wq_if_ge (hx : p.tables.exec = Jvm.exec) (hb : c.code = cc) {x : Int32} {off : Int} {tgt : Nat} (hdg : decode cc pc = .ok (.ifCond .ge off, 3)) (ht : (pc : Int) + off = (tgt : Int)) {α : Type} {A E : Option α} {r : α} (hf : (if 0 ≤ x then A else E) = some r)
    (kt : A = some r → W p l e R s m args below meth c H locs 0 0 Q (F0 m tgt ls rest)) (kf : E = some r → W p l e R s m args below meth c H locs 0 0 Q (F0 m (pc + 3) ls rest)) : W p l e R s m args below meth c H locs 0 0 Q (F0 m pc ls (.int x :: rest)) :=
  lv_if_ge hx hb hdg ht (fun h => kt (by rw [if_pos h] at hf; exact hf)) (fun h => kf (by rw [if_neg h] at hf; exact hf))
theorem wq_if_gt (hx : p.tables.exec = Jvm.exec) (hb : c.code = cc) {x : Int32} {off : Int} {tgt : Nat} (hdg : decode cc pc = .ok (.ifCond .gt off, 3)) (ht : (pc : Int) + off = (tgt : Int)) {α : Type} {A E : Option α} {r : α} (hf : (if 0 < x then A else E) = some r)
    (kt : A = some r → W p l e R s m args below meth c H locs 0 0 Q (F0 m tgt ls rest)) (kf : E = some r → W p l e R s m args below meth c H locs 0 0 Q (F0 m (pc + 3) ls rest)) : W p l e R s m args below meth c H locs 0 0 Q (F0 m pc ls (.int x :: rest)) :=
  lv_if_gt hx hb hdg ht (fun h => kt (by rw [if_pos h] at hf; exact hf)) (fun h => kf (by rw [if_neg h] at hf; exact hf))
theorem wq_if_le (hx : p.tables.exec = Jvm.exec) (hb : c.code = cc) {x : Int32} {off : Int} {tgt : Nat} (hdg : decode cc pc = .ok (.ifCond .le off, 3)) (ht : (pc : Int) + off = (tgt : Int)) {α : Type} {A E : Option α} {r : α} (hf : (if x ≤ 0 then A else E) = some r)
    (kt : A = some r → W p l e R s m args below meth c H locs 0 0 Q (F0 m tgt ls rest)) (kf : E = some r → W p l e R s m args below meth c H locs 0 0 Q (F0 m (pc + 3) ls rest)) : W p l e R s m args below meth c H locs 0 0 Q (F0 m pc ls (.int x :: rest)) :=
  lv_if_le hx hb hdg ht (fun h => kt (by rw [if_pos h] at hf; exact hf)) (fun h => kf (by rw [if_neg h] at hf; exact hf))
theorem wq_icmp_eq (hx : p.tables.exec = Jvm.exec) (hb : c.code = cc) {x y : Int32} {off : Int} {tgt : Nat} (hdg : decode cc pc = .ok (.if_icmp .eq off, 3)) (ht : (pc : Int) + off = (tgt : Int)) {α : Type} {A E : Option α} {r : α} (hf : (if x = y then A else E) = some r)
    (kt : A = some r → W p l e R s m args below meth c H locs 0 0 Q (F0 m tgt ls rest)) (kf : E = some r → W p l e R s m args below meth c H locs 0 0 Q (F0 m (pc + 3) ls rest)) : W p l e R s m args below meth c H locs 0 0 Q (F0 m pc ls (.int y :: .int x :: rest)) :=
  lv_icmp_eq hx hb hdg ht (fun h => kt (by rw [if_pos h] at hf; exact hf)) (fun h => kf (by rw [if_neg h] at hf; exact hf))
theorem wq_icmp_ne (hx : p.tables.exec = Jvm.exec) (hb : c.code = cc) {x y : Int32} {off : Int} {tgt : Nat} (hdg : decode cc pc = .ok (.if_icmp .ne off, 3)) (ht : (pc : Int) + off = (tgt : Int)) {α : Type} {A E : Option α} {r : α} (hf : (if x = y then A else E) = some r)
    (kt : E = some r → W p l e R s m args below meth c H locs 0 0 Q (F0 m tgt ls rest)) (kf : A = some r → W p l e R s m args below meth c H locs 0 0 Q (F0 m (pc + 3) ls rest)) : W p l e R s m args below meth c H locs 0 0 Q (F0 m pc ls (.int y :: .int x :: rest)) :=
  lv_icmp_ne hx hb hdg ht (fun h => kt (by rw [if_neg h] at hf; exact hf)) (fun h => kf (by rw [if_pos h] at hf; exact hf))
theorem wq_icmp_lt (hx : p.tables.exec = Jvm.exec) (hb : c.code = cc) {x y : Int32} {off : Int} {tgt : Nat} (hdg : decode cc pc = .ok (.if_icmp .lt off, 3)) (ht : (pc : Int) + off = (tgt : Int)) {α : Type} {A E : Option α} {r : α} (hf : (if x < y then A else E) = some r)
    (kt : A = some r → W p l e R s m args below meth c H locs 0 0 Q (F0 m tgt ls rest)) (kf : E = some r → W p l e R s m args below meth c H locs 0 0 Q (F0 m (pc + 3) ls rest)) : W p l e R s m args below meth c H locs 0 0 Q (F0 m pc ls (.int y :: .int x :: rest)) :=
  lv_icmp_lt hx hb hdg ht (fun h => kt (by rw [if_pos h] at hf; exact hf)) (fun h => kf (by rw [if_neg h] at hf; exact hf))
theorem wq_icmp_ge (hx : p.tables.exec = Jvm.exec) (hb : c.code = cc) {x y : Int32} {off : Int} {tgt : Nat} (hdg : decode cc pc = .ok (.if_icmp .ge off, 3)) (ht : (pc : Int) + off = (tgt : Int)) {α : Type} {A E : Option α} {r : α} (hf : (if y ≤ x then A else E) = some r)
    (kt : A = some r → W p l e R s m args below meth c H locs 0 0 Q (F0 m tgt ls rest)) (kf : E = some r → W p l e R s m args below meth c H locs 0 0 Q (F0 m (pc + 3) ls rest)) : W p l e R s m args below meth c H locs 0 0 Q (F0 m pc ls (.int y :: .int x :: rest)) :=
  lv_icmp_ge hx hb hdg ht (fun h => kt (by rw [if_pos h] at hf; exact hf)) (fun h => kf (by rw [if_neg h] at hf; exact hf))
theorem wq_icmp_gt (hx : p.tables.exec = Jvm.exec) (hb : c.code = cc) {x y : Int32} {off : Int} {tgt : Nat} (hdg : decode cc pc = .ok (.if_icmp .gt off, 3)) (ht : (pc : Int) + off = (tgt : Int)) {α : Type} {A E : Option α} {r : α} (hf : (if y < x then A else E) = some r)
    (kt : A = some r → W p l e R s m args below meth c H locs 0 0 Q (F0 m tgt ls rest)) (kf : E = some r → W p l e R s m args below meth c H locs 0 0 Q (F0 m (pc + 3) ls rest)) : W p l e R s m args below meth c H locs 0 0 Q (F0 m pc ls (.int y :: .int x :: rest)) :=
  lv_icmp_gt hx hb hdg ht (fun h => kt (by rw [if_pos h] at hf; exact hf)) (fun h => kf (by rw [if_neg h] at hf; exact hf))
theorem wq_icmp_le (hx : p.tables.exec = Jvm.exec) (hb : c.code = cc) {x y : Int32} {off : Int} {tgt : Nat} (hdg : decode cc pc = .ok (.if_icmp .le off, 3)) (ht : (pc : Int) + off = (tgt : Int)) {α : Type} {A E : Option α} {r : α} (hf : (if x ≤ y then A else E) = some r)
    (kt : A = some r → W p l e R s m args below meth c H locs 0 0 Q (F0 m tgt ls rest)) (kf : E = some r → W p l e R s m args below meth c H locs 0 0 Q (F0 m (pc + 3) ls rest)) : W p l e R s m args below meth c H locs 0 0 Q (F0 m pc ls (.int y :: .int x :: rest)) :=
  lv_icmp_le hx hb hdg ht (fun h => kt (by rw [if_pos h] at hf; exact hf)) (fun h => kf (by rw [if_neg h] at hf; exact hf))
end WT
theorem wt_inX0 : ∀ w ∈ u_ws RX0 TX0 11, w ∈ wt_tbl := fun w h => List.mem_filter.mpr ⟨List.mem_append_right _ ((goodIn_r (big := tables_1) _ [48, 50, 52, 54, 56, 58, 60, 62, 64, 66, 68] (by decide +kernel) (by decide +kernel) w h).1), List.all_eq_true.mp (by decide +kernel : (u_ws RX0 TX0 11).all goodWord = true) w h⟩
theorem wt_inX1 : ∀ w ∈ u_ws RX1 TX1 2, w ∈ wt_tbl := fun w h => List.mem_filter.mpr ⟨List.mem_append_right _ ((goodIn_r (big := tables_1) _ [108, 110] (by decide +kernel) (by decide +kernel) w h).1), List.all_eq_true.mp (by decide +kernel : (u_ws RX1 TX1 2).all goodWord = true) w h⟩
theorem wt_inX2 : ∀ w ∈ u_ws RX2 TX2 6, w ∈ wt_tbl := fun w h => List.mem_filter.mpr ⟨List.mem_append_right _ ((goodIn_r (big := tables_1) _ [86, 88, 90, 92, 94, 96] (by decide +kernel) (by decide +kernel) w h).1), List.all_eq_true.mp (by decide +kernel : (u_ws RX2 TX2 6).all goodWord = true) w h⟩
theorem wt_inX3 : ∀ w ∈ u_ws RX3 TX3 11, w ∈ wt_tbl := fun w h => List.mem_filter.mpr ⟨List.mem_append_right _ ((goodIn_r (big := tables_1) _ [125, 127, 129, 131, 133, 135, 137, 139, 141, 143, 145] (by decide +kernel) (by decide +kernel) w h).1), List.all_eq_true.mp (by decide +kernel : (u_ws RX3 TX3 11).all goodWord = true) w h⟩
theorem wt_inX4 : ∀ w ∈ u_ws RX4 TX4 36, w ∈ wt_tbl := fun w h => List.mem_filter.mpr ⟨List.mem_append_right _ ((goodIn_r (big := tables_1) _ [746, 748, 750, 752, 754, 756, 758, 760, 762, 764, 766, 768, 770, 772, 774, 776, 778, 780, 782, 784, 786, 788, 790, 792, 794, 796, 798, 800, 802, 804, 806, 808, 810, 812, 814, 816] (by decide +kernel) (by decide +kernel) w h).1), List.all_eq_true.mp (by decide +kernel : (u_ws RX4 TX4 36).all goodWord = true) w h⟩
section WF
variable {p : Program} {l : Launch} {e : Env} {R : Room} {s : State} {m : MethodId} {args : Array Value} {below : List Frame} {meth : Method} {c : Code} {H : Heap} {locs : List Loc} {Q : State → Prop}
variable {cc : ByteArray} {pc : Nat} {ls : Array Slot} {rest : List Value} {D : va_G} {tI tII : ClassId} {B : Nat} {σ : Mem}
theorem gf_X0_paneCount {h : Nat} (hh : wt_isH h) (hx : p.tables.exec = Jvm.exec) (hb : c.code = cc) {own : String} (hts : ∀ w ∈ wt_tbl, w.before args s = true) (hown : s.vm.findClass own = some m.cls) (hK : wt_K D tI tII s) (hM : wt_St D tI tII B σ s H locs) {idx : Nat} (hlink : Cond.fieldLink own idx "WindowTaken$House" "paneCount" "I" ∈ wt_tbl) (hdg : decode cc pc = .ok (.getfield idx, 3)) (kk : W p l e R s m args below meth c H locs 0 0 Q (F0 m (pc + 3) ls (.int (σ h 0) :: rest))) : W p l e R s m args below meth c H locs 0 0 Q (F0 m pc ls (.ref (B + h) :: rest)) :=
  wt_gf hx hb hts hown hK hM (k := h) (wt_Hlt hh (j := 0) (by decide)) (wt_oX0 hh) rfl 0 (by decide) wt_inX0 hlink rfl hdg kk
theorem pf_X0_paneCount {h : Nat} (hh : wt_isH h) (hx : p.tables.exec = Jvm.exec) (hb : c.code = cc) {own : String} (hts : ∀ w ∈ wt_tbl, w.before args s = true) (hown : s.vm.findClass own = some m.cls) (hK : wt_K D tI tII s) (hM : wt_St D tI tII B σ s H locs) {idx : Nat} (hlink : Cond.fieldLink own idx "WindowTaken$House" "paneCount" "I" ∈ wt_tbl) {x : Int32} (hdg : decode cc pc = .ok (.putfield idx, 3)) {α : Type} {K : Mem → Option α} {r : α} (hf : wt_lt (up2 σ h 0 x) K = some r) (kk : ∀ (s1 : Mem) (H1 : Heap) (locs1 : List Loc), K s1 = some r → wt_St D tI tII B s1 s H1 locs1 → W p l e R s m args below meth c H1 locs1 0 0 Q (F0 m (pc + 3) ls rest)) : W p l e R s m args below meth c H locs 0 0 Q (F0 m pc ls (.int x :: .ref (B + h) :: rest)) :=
  wt_pf hx hb hts hown hK hM (k := h) (wt_Hlt hh (j := 0) (by decide)) (wt_oX0 hh) rfl 0 (by decide) wt_inX0 hlink tyX0 tyX0_ok nmX0 rfl (ty := .int) rfl rfl rfl (by simp) (upd (σ h) 0 x) (by rw [wt_oX0 hh]; rfl) hdg hf kk
theorem gf_X0_paneViews {h : Nat} (hh : wt_isH h) (hx : p.tables.exec = Jvm.exec) (hb : c.code = cc) {own : String} (hts : ∀ w ∈ wt_tbl, w.before args s = true) (hown : s.vm.findClass own = some m.cls) (hK : wt_K D tI tII s) (hM : wt_St D tI tII B σ s H locs) {idx : Nat} (hlink : Cond.fieldLink own idx "WindowTaken$House" "paneViews" "[I" ∈ wt_tbl) (hdg : decode cc pc = .ok (.getfield idx, 3)) (kk : W p l e R s m args below meth c H locs 0 0 Q (F0 m (pc + 3) ls (.ref (B + (h + 1)) :: rest))) : W p l e R s m args below meth c H locs 0 0 Q (F0 m pc ls (.ref (B + h) :: rest)) :=
  wt_gf hx hb hts hown hK hM (k := h) (wt_Hlt hh (j := 0) (by decide)) (wt_oX0 hh) rfl 1 (by decide) wt_inX0 hlink rfl hdg kk
theorem gf_X0_lookerCount {h : Nat} (hh : wt_isH h) (hx : p.tables.exec = Jvm.exec) (hb : c.code = cc) {own : String} (hts : ∀ w ∈ wt_tbl, w.before args s = true) (hown : s.vm.findClass own = some m.cls) (hK : wt_K D tI tII s) (hM : wt_St D tI tII B σ s H locs) {idx : Nat} (hlink : Cond.fieldLink own idx "WindowTaken$House" "lookerCount" "I" ∈ wt_tbl) (hdg : decode cc pc = .ok (.getfield idx, 3)) (kk : W p l e R s m args below meth c H locs 0 0 Q (F0 m (pc + 3) ls (.int (σ h 2) :: rest))) : W p l e R s m args below meth c H locs 0 0 Q (F0 m pc ls (.ref (B + h) :: rest)) :=
  wt_gf hx hb hts hown hK hM (k := h) (wt_Hlt hh (j := 0) (by decide)) (wt_oX0 hh) rfl 2 (by decide) wt_inX0 hlink rfl hdg kk
theorem pf_X0_lookerCount {h : Nat} (hh : wt_isH h) (hx : p.tables.exec = Jvm.exec) (hb : c.code = cc) {own : String} (hts : ∀ w ∈ wt_tbl, w.before args s = true) (hown : s.vm.findClass own = some m.cls) (hK : wt_K D tI tII s) (hM : wt_St D tI tII B σ s H locs) {idx : Nat} (hlink : Cond.fieldLink own idx "WindowTaken$House" "lookerCount" "I" ∈ wt_tbl) {x : Int32} (hdg : decode cc pc = .ok (.putfield idx, 3)) {α : Type} {K : Mem → Option α} {r : α} (hf : wt_lt (up2 σ h 2 x) K = some r) (kk : ∀ (s1 : Mem) (H1 : Heap) (locs1 : List Loc), K s1 = some r → wt_St D tI tII B s1 s H1 locs1 → W p l e R s m args below meth c H1 locs1 0 0 Q (F0 m (pc + 3) ls rest)) : W p l e R s m args below meth c H locs 0 0 Q (F0 m pc ls (.int x :: .ref (B + h) :: rest)) :=
  wt_pf hx hb hts hown hK hM (k := h) (wt_Hlt hh (j := 0) (by decide)) (wt_oX0 hh) rfl 2 (by decide) wt_inX0 hlink tyX0 tyX0_ok nmX0 rfl (ty := .int) rfl rfl rfl (by simp) (upd (σ h) 2 x) (by rw [wt_oX0 hh]; rfl) hdg hf kk
theorem gf_X0_kinds {h : Nat} (hh : wt_isH h) (hx : p.tables.exec = Jvm.exec) (hb : c.code = cc) {own : String} (hts : ∀ w ∈ wt_tbl, w.before args s = true) (hown : s.vm.findClass own = some m.cls) (hK : wt_K D tI tII s) (hM : wt_St D tI tII B σ s H locs) {idx : Nat} (hlink : Cond.fieldLink own idx "WindowTaken$House" "kinds" "[I" ∈ wt_tbl) (hdg : decode cc pc = .ok (.getfield idx, 3)) (kk : W p l e R s m args below meth c H locs 0 0 Q (F0 m (pc + 3) ls (.ref (B + (h + 2)) :: rest))) : W p l e R s m args below meth c H locs 0 0 Q (F0 m pc ls (.ref (B + h) :: rest)) :=
  wt_gf hx hb hts hown hK hM (k := h) (wt_Hlt hh (j := 0) (by decide)) (wt_oX0 hh) rfl 3 (by decide) wt_inX0 hlink rfl hdg kk
theorem gf_X0_figures {h : Nat} (hh : wt_isH h) (hx : p.tables.exec = Jvm.exec) (hb : c.code = cc) {own : String} (hts : ∀ w ∈ wt_tbl, w.before args s = true) (hown : s.vm.findClass own = some m.cls) (hK : wt_K D tI tII s) (hM : wt_St D tI tII B σ s H locs) {idx : Nat} (hlink : Cond.fieldLink own idx "WindowTaken$House" "figures" "[I" ∈ wt_tbl) (hdg : decode cc pc = .ok (.getfield idx, 3)) (kk : W p l e R s m args below meth c H locs 0 0 Q (F0 m (pc + 3) ls (.ref (B + (h + 3)) :: rest))) : W p l e R s m args below meth c H locs 0 0 Q (F0 m pc ls (.ref (B + h) :: rest)) :=
  wt_gf hx hb hts hown hK hM (k := h) (wt_Hlt hh (j := 0) (by decide)) (wt_oX0 hh) rfl 4 (by decide) wt_inX0 hlink rfl hdg kk
theorem gf_X0_rosters {h : Nat} (hh : wt_isH h) (hx : p.tables.exec = Jvm.exec) (hb : c.code = cc) {own : String} (hts : ∀ w ∈ wt_tbl, w.before args s = true) (hown : s.vm.findClass own = some m.cls) (hK : wt_K D tI tII s) (hM : wt_St D tI tII B σ s H locs) {idx : Nat} (hlink : Cond.fieldLink own idx "WindowTaken$House" "rosters" "[[I" ∈ wt_tbl) (hdg : decode cc pc = .ok (.getfield idx, 3)) (kk : W p l e R s m args below meth c H locs 0 0 Q (F0 m (pc + 3) ls (.ref (B + (h + 4)) :: rest))) : W p l e R s m args below meth c H locs 0 0 Q (F0 m pc ls (.ref (B + h) :: rest)) :=
  wt_gf hx hb hts hown hK hM (k := h) (wt_Hlt hh (j := 0) (by decide)) (wt_oX0 hh) rfl 5 (by decide) wt_inX0 hlink rfl hdg kk
theorem gf_X0_counts {h : Nat} (hh : wt_isH h) (hx : p.tables.exec = Jvm.exec) (hb : c.code = cc) {own : String} (hts : ∀ w ∈ wt_tbl, w.before args s = true) (hown : s.vm.findClass own = some m.cls) (hK : wt_K D tI tII s) (hM : wt_St D tI tII B σ s H locs) {idx : Nat} (hlink : Cond.fieldLink own idx "WindowTaken$House" "counts" "[[I" ∈ wt_tbl) (hdg : decode cc pc = .ok (.getfield idx, 3)) (kk : W p l e R s m args below meth c H locs 0 0 Q (F0 m (pc + 3) ls (.ref (B + (h + 10)) :: rest))) : W p l e R s m args below meth c H locs 0 0 Q (F0 m pc ls (.ref (B + h) :: rest)) :=
  wt_gf hx hb hts hown hK hM (k := h) (wt_Hlt hh (j := 0) (by decide)) (wt_oX0 hh) rfl 6 (by decide) wt_inX0 hlink rfl hdg kk
theorem gf_X0_worths {h : Nat} (hh : wt_isH h) (hx : p.tables.exec = Jvm.exec) (hb : c.code = cc) {own : String} (hts : ∀ w ∈ wt_tbl, w.before args s = true) (hown : s.vm.findClass own = some m.cls) (hK : wt_K D tI tII s) (hM : wt_St D tI tII B σ s H locs) {idx : Nat} (hlink : Cond.fieldLink own idx "WindowTaken$House" "worths" "[I" ∈ wt_tbl) (hdg : decode cc pc = .ok (.getfield idx, 3)) (kk : W p l e R s m args below meth c H locs 0 0 Q (F0 m (pc + 3) ls (.ref (B + (h + 16)) :: rest))) : W p l e R s m args below meth c H locs 0 0 Q (F0 m pc ls (.ref (B + h) :: rest)) :=
  wt_gf hx hb hts hown hK hM (k := h) (wt_Hlt hh (j := 0) (by decide)) (wt_oX0 hh) rfl 7 (by decide) wt_inX0 hlink rfl hdg kk
theorem gf_X0_law {h : Nat} (hh : wt_isH h) (hx : p.tables.exec = Jvm.exec) (hb : c.code = cc) {own : String} (hts : ∀ w ∈ wt_tbl, w.before args s = true) (hown : s.vm.findClass own = some m.cls) (hK : wt_K D tI tII s) (hM : wt_St D tI tII B σ s H locs) {idx : Nat} (hlink : Cond.fieldLink own idx "WindowTaken$House" "law" "I" ∈ wt_tbl) (hdg : decode cc pc = .ok (.getfield idx, 3)) (kk : W p l e R s m args below meth c H locs 0 0 Q (F0 m (pc + 3) ls (.int (σ h 8) :: rest))) : W p l e R s m args below meth c H locs 0 0 Q (F0 m pc ls (.ref (B + h) :: rest)) :=
  wt_gf hx hb hts hown hK hM (k := h) (wt_Hlt hh (j := 0) (by decide)) (wt_oX0 hh) rfl 8 (by decide) wt_inX0 hlink rfl hdg kk
theorem pf_X0_law {h : Nat} (hh : wt_isH h) (hx : p.tables.exec = Jvm.exec) (hb : c.code = cc) {own : String} (hts : ∀ w ∈ wt_tbl, w.before args s = true) (hown : s.vm.findClass own = some m.cls) (hK : wt_K D tI tII s) (hM : wt_St D tI tII B σ s H locs) {idx : Nat} (hlink : Cond.fieldLink own idx "WindowTaken$House" "law" "I" ∈ wt_tbl) {x : Int32} (hdg : decode cc pc = .ok (.putfield idx, 3)) {α : Type} {K : Mem → Option α} {r : α} (hf : wt_lt (up2 σ h 8 x) K = some r) (kk : ∀ (s1 : Mem) (H1 : Heap) (locs1 : List Loc), K s1 = some r → wt_St D tI tII B s1 s H1 locs1 → W p l e R s m args below meth c H1 locs1 0 0 Q (F0 m (pc + 3) ls rest)) : W p l e R s m args below meth c H locs 0 0 Q (F0 m pc ls (.int x :: .ref (B + h) :: rest)) :=
  wt_pf hx hb hts hown hK hM (k := h) (wt_Hlt hh (j := 0) (by decide)) (wt_oX0 hh) rfl 8 (by decide) wt_inX0 hlink tyX0 tyX0_ok nmX0 rfl (ty := .int) rfl rfl rfl (by simp) (upd (σ h) 8 x) (by rw [wt_oX0 hh]; rfl) hdg hf kk
theorem gf_X0_day {h : Nat} (hh : wt_isH h) (hx : p.tables.exec = Jvm.exec) (hb : c.code = cc) {own : String} (hts : ∀ w ∈ wt_tbl, w.before args s = true) (hown : s.vm.findClass own = some m.cls) (hK : wt_K D tI tII s) (hM : wt_St D tI tII B σ s H locs) {idx : Nat} (hlink : Cond.fieldLink own idx "WindowTaken$House" "day" "I" ∈ wt_tbl) (hdg : decode cc pc = .ok (.getfield idx, 3)) (kk : W p l e R s m args below meth c H locs 0 0 Q (F0 m (pc + 3) ls (.int (σ h 9) :: rest))) : W p l e R s m args below meth c H locs 0 0 Q (F0 m pc ls (.ref (B + h) :: rest)) :=
  wt_gf hx hb hts hown hK hM (k := h) (wt_Hlt hh (j := 0) (by decide)) (wt_oX0 hh) rfl 9 (by decide) wt_inX0 hlink rfl hdg kk
theorem pf_X0_day {h : Nat} (hh : wt_isH h) (hx : p.tables.exec = Jvm.exec) (hb : c.code = cc) {own : String} (hts : ∀ w ∈ wt_tbl, w.before args s = true) (hown : s.vm.findClass own = some m.cls) (hK : wt_K D tI tII s) (hM : wt_St D tI tII B σ s H locs) {idx : Nat} (hlink : Cond.fieldLink own idx "WindowTaken$House" "day" "I" ∈ wt_tbl) {x : Int32} (hdg : decode cc pc = .ok (.putfield idx, 3)) {α : Type} {K : Mem → Option α} {r : α} (hf : wt_lt (up2 σ h 9 x) K = some r) (kk : ∀ (s1 : Mem) (H1 : Heap) (locs1 : List Loc), K s1 = some r → wt_St D tI tII B s1 s H1 locs1 → W p l e R s m args below meth c H1 locs1 0 0 Q (F0 m (pc + 3) ls rest)) : W p l e R s m args below meth c H locs 0 0 Q (F0 m pc ls (.int x :: .ref (B + h) :: rest)) :=
  wt_pf hx hb hts hown hK hM (k := h) (wt_Hlt hh (j := 0) (by decide)) (wt_oX0 hh) rfl 9 (by decide) wt_inX0 hlink tyX0 tyX0_ok nmX0 rfl (ty := .int) rfl rfl rfl (by simp) (upd (σ h) 9 x) (by rw [wt_oX0 hh]; rfl) hdg hf kk
theorem gf_X0_gains {h : Nat} (hh : wt_isH h) (hx : p.tables.exec = Jvm.exec) (hb : c.code = cc) {own : String} (hts : ∀ w ∈ wt_tbl, w.before args s = true) (hown : s.vm.findClass own = some m.cls) (hK : wt_K D tI tII s) (hM : wt_St D tI tII B σ s H locs) {idx : Nat} (hlink : Cond.fieldLink own idx "WindowTaken$House" "gains" "[[I" ∈ wt_tbl) (hdg : decode cc pc = .ok (.getfield idx, 3)) (kk : W p l e R s m args below meth c H locs 0 0 Q (F0 m (pc + 3) ls (.ref (B + (h + 17)) :: rest))) : W p l e R s m args below meth c H locs 0 0 Q (F0 m pc ls (.ref (B + h) :: rest)) :=
  wt_gf hx hb hts hown hK hM (k := h) (wt_Hlt hh (j := 0) (by decide)) (wt_oX0 hh) rfl 10 (by decide) wt_inX0 hlink rfl hdg kk
theorem gf_X1_signs (hx : p.tables.exec = Jvm.exec) (hb : c.code = cc) {own : String} (hts : ∀ w ∈ wt_tbl, w.before args s = true) (hown : s.vm.findClass own = some m.cls) (hK : wt_K D tI tII s) (hM : wt_St D tI tII B σ s H locs) {idx : Nat} (hlink : Cond.fieldLink own idx "WindowTaken$Letters" "signs" "[I" ∈ wt_tbl) (hdg : decode cc pc = .ok (.getfield idx, 3)) (kk : W p l e R s m args below meth c H locs 0 0 Q (F0 m (pc + 3) ls (.ref (B + 84) :: rest))) : W p l e R s m args below meth c H locs 0 0 Q (F0 m pc ls (.ref (B + 83) :: rest)) :=
  wt_gf hx hb hts hown hK hM (k := 83) (by decide) (rfl) rfl 0 (by decide) wt_inX1 hlink rfl hdg kk
theorem gf_X1_size (hx : p.tables.exec = Jvm.exec) (hb : c.code = cc) {own : String} (hts : ∀ w ∈ wt_tbl, w.before args s = true) (hown : s.vm.findClass own = some m.cls) (hK : wt_K D tI tII s) (hM : wt_St D tI tII B σ s H locs) {idx : Nat} (hlink : Cond.fieldLink own idx "WindowTaken$Letters" "size" "I" ∈ wt_tbl) (hdg : decode cc pc = .ok (.getfield idx, 3)) (kk : W p l e R s m args below meth c H locs 0 0 Q (F0 m (pc + 3) ls (.int (σ 83 1) :: rest))) : W p l e R s m args below meth c H locs 0 0 Q (F0 m pc ls (.ref (B + 83) :: rest)) :=
  wt_gf hx hb hts hown hK hM (k := 83) (by decide) (rfl) rfl 1 (by decide) wt_inX1 hlink rfl hdg kk
theorem pf_X1_size (hx : p.tables.exec = Jvm.exec) (hb : c.code = cc) {own : String} (hts : ∀ w ∈ wt_tbl, w.before args s = true) (hown : s.vm.findClass own = some m.cls) (hK : wt_K D tI tII s) (hM : wt_St D tI tII B σ s H locs) {idx : Nat} (hlink : Cond.fieldLink own idx "WindowTaken$Letters" "size" "I" ∈ wt_tbl) {x : Int32} (hdg : decode cc pc = .ok (.putfield idx, 3)) {α : Type} {K : Mem → Option α} {r : α} (hf : wt_lt (up2 σ 83 1 x) K = some r) (kk : ∀ (s1 : Mem) (H1 : Heap) (locs1 : List Loc), K s1 = some r → wt_St D tI tII B s1 s H1 locs1 → W p l e R s m args below meth c H1 locs1 0 0 Q (F0 m (pc + 3) ls rest)) : W p l e R s m args below meth c H locs 0 0 Q (F0 m pc ls (.int x :: .ref (B + 83) :: rest)) :=
  wt_pf hx hb hts hown hK hM (k := 83) (by decide) (rfl) rfl 1 (by decide) wt_inX1 hlink tyX1 tyX1_ok nmX1 rfl (ty := .int) rfl rfl rfl (by simp) (upd (σ 83) 1 x) (rfl) hdg hf kk
theorem gf_X2_whats (hx : p.tables.exec = Jvm.exec) (hb : c.code = cc) {own : String} (hts : ∀ w ∈ wt_tbl, w.before args s = true) (hown : s.vm.findClass own = some m.cls) (hK : wt_K D tI tII s) (hM : wt_St D tI tII B σ s H locs) {idx : Nat} (hlink : Cond.fieldLink own idx "WindowTaken$Steps" "whats" "[I" ∈ wt_tbl) (hdg : decode cc pc = .ok (.getfield idx, 3)) (kk : W p l e R s m args below meth c H locs 0 0 Q (F0 m (pc + 3) ls (.ref (B + 71) :: rest))) : W p l e R s m args below meth c H locs 0 0 Q (F0 m pc ls (.ref (B + 70) :: rest)) :=
  wt_gf hx hb hts hown hK hM (k := 70) (by decide) (rfl) rfl 0 (by decide) wt_inX2 hlink rfl hdg kk
theorem gf_X2_places (hx : p.tables.exec = Jvm.exec) (hb : c.code = cc) {own : String} (hts : ∀ w ∈ wt_tbl, w.before args s = true) (hown : s.vm.findClass own = some m.cls) (hK : wt_K D tI tII s) (hM : wt_St D tI tII B σ s H locs) {idx : Nat} (hlink : Cond.fieldLink own idx "WindowTaken$Steps" "places" "[I" ∈ wt_tbl) (hdg : decode cc pc = .ok (.getfield idx, 3)) (kk : W p l e R s m args below meth c H locs 0 0 Q (F0 m (pc + 3) ls (.ref (B + 72) :: rest))) : W p l e R s m args below meth c H locs 0 0 Q (F0 m pc ls (.ref (B + 70) :: rest)) :=
  wt_gf hx hb hts hown hK hM (k := 70) (by decide) (rfl) rfl 1 (by decide) wt_inX2 hlink rfl hdg kk
theorem gf_X2_olds (hx : p.tables.exec = Jvm.exec) (hb : c.code = cc) {own : String} (hts : ∀ w ∈ wt_tbl, w.before args s = true) (hown : s.vm.findClass own = some m.cls) (hK : wt_K D tI tII s) (hM : wt_St D tI tII B σ s H locs) {idx : Nat} (hlink : Cond.fieldLink own idx "WindowTaken$Steps" "olds" "[I" ∈ wt_tbl) (hdg : decode cc pc = .ok (.getfield idx, 3)) (kk : W p l e R s m args below meth c H locs 0 0 Q (F0 m (pc + 3) ls (.ref (B + 73) :: rest))) : W p l e R s m args below meth c H locs 0 0 Q (F0 m pc ls (.ref (B + 70) :: rest)) :=
  wt_gf hx hb hts hown hK hM (k := 70) (by decide) (rfl) rfl 2 (by decide) wt_inX2 hlink rfl hdg kk
theorem gf_X2_oldRosters (hx : p.tables.exec = Jvm.exec) (hb : c.code = cc) {own : String} (hts : ∀ w ∈ wt_tbl, w.before args s = true) (hown : s.vm.findClass own = some m.cls) (hK : wt_K D tI tII s) (hM : wt_St D tI tII B σ s H locs) {idx : Nat} (hlink : Cond.fieldLink own idx "WindowTaken$Steps" "oldRosters" "[[I" ∈ wt_tbl) (hdg : decode cc pc = .ok (.getfield idx, 3)) (kk : W p l e R s m args below meth c H locs 0 0 Q (F0 m (pc + 3) ls (.ref (B + 74) :: rest))) : W p l e R s m args below meth c H locs 0 0 Q (F0 m pc ls (.ref (B + 70) :: rest)) :=
  wt_gf hx hb hts hown hK hM (k := 70) (by decide) (rfl) rfl 3 (by decide) wt_inX2 hlink rfl hdg kk
theorem gf_X2_first (hx : p.tables.exec = Jvm.exec) (hb : c.code = cc) {own : String} (hts : ∀ w ∈ wt_tbl, w.before args s = true) (hown : s.vm.findClass own = some m.cls) (hK : wt_K D tI tII s) (hM : wt_St D tI tII B σ s H locs) {idx : Nat} (hlink : Cond.fieldLink own idx "WindowTaken$Steps" "first" "I" ∈ wt_tbl) (hdg : decode cc pc = .ok (.getfield idx, 3)) (kk : W p l e R s m args below meth c H locs 0 0 Q (F0 m (pc + 3) ls (.int (σ 70 4) :: rest))) : W p l e R s m args below meth c H locs 0 0 Q (F0 m pc ls (.ref (B + 70) :: rest)) :=
  wt_gf hx hb hts hown hK hM (k := 70) (by decide) (rfl) rfl 4 (by decide) wt_inX2 hlink rfl hdg kk
theorem pf_X2_first (hx : p.tables.exec = Jvm.exec) (hb : c.code = cc) {own : String} (hts : ∀ w ∈ wt_tbl, w.before args s = true) (hown : s.vm.findClass own = some m.cls) (hK : wt_K D tI tII s) (hM : wt_St D tI tII B σ s H locs) {idx : Nat} (hlink : Cond.fieldLink own idx "WindowTaken$Steps" "first" "I" ∈ wt_tbl) {x : Int32} (hdg : decode cc pc = .ok (.putfield idx, 3)) {α : Type} {K : Mem → Option α} {r : α} (hf : wt_lt (up2 σ 70 4 x) K = some r) (kk : ∀ (s1 : Mem) (H1 : Heap) (locs1 : List Loc), K s1 = some r → wt_St D tI tII B s1 s H1 locs1 → W p l e R s m args below meth c H1 locs1 0 0 Q (F0 m (pc + 3) ls rest)) : W p l e R s m args below meth c H locs 0 0 Q (F0 m pc ls (.int x :: .ref (B + 70) :: rest)) :=
  wt_pf hx hb hts hown hK hM (k := 70) (by decide) (rfl) rfl 4 (by decide) wt_inX2 hlink tyX2 tyX2_ok nmX2 rfl (ty := .int) rfl rfl rfl (by simp) (upd (σ 70) 4 x) (rfl) hdg hf kk
theorem gf_X2_size (hx : p.tables.exec = Jvm.exec) (hb : c.code = cc) {own : String} (hts : ∀ w ∈ wt_tbl, w.before args s = true) (hown : s.vm.findClass own = some m.cls) (hK : wt_K D tI tII s) (hM : wt_St D tI tII B σ s H locs) {idx : Nat} (hlink : Cond.fieldLink own idx "WindowTaken$Steps" "size" "I" ∈ wt_tbl) (hdg : decode cc pc = .ok (.getfield idx, 3)) (kk : W p l e R s m args below meth c H locs 0 0 Q (F0 m (pc + 3) ls (.int (σ 70 5) :: rest))) : W p l e R s m args below meth c H locs 0 0 Q (F0 m pc ls (.ref (B + 70) :: rest)) :=
  wt_gf hx hb hts hown hK hM (k := 70) (by decide) (rfl) rfl 5 (by decide) wt_inX2 hlink rfl hdg kk
theorem pf_X2_size (hx : p.tables.exec = Jvm.exec) (hb : c.code = cc) {own : String} (hts : ∀ w ∈ wt_tbl, w.before args s = true) (hown : s.vm.findClass own = some m.cls) (hK : wt_K D tI tII s) (hM : wt_St D tI tII B σ s H locs) {idx : Nat} (hlink : Cond.fieldLink own idx "WindowTaken$Steps" "size" "I" ∈ wt_tbl) {x : Int32} (hdg : decode cc pc = .ok (.putfield idx, 3)) {α : Type} {K : Mem → Option α} {r : α} (hf : wt_lt (up2 σ 70 5 x) K = some r) (kk : ∀ (s1 : Mem) (H1 : Heap) (locs1 : List Loc), K s1 = some r → wt_St D tI tII B s1 s H1 locs1 → W p l e R s m args below meth c H1 locs1 0 0 Q (F0 m (pc + 3) ls rest)) : W p l e R s m args below meth c H locs 0 0 Q (F0 m pc ls (.int x :: .ref (B + 70) :: rest)) :=
  wt_pf hx hb hts hown hK hM (k := 70) (by decide) (rfl) rfl 5 (by decide) wt_inX2 hlink tyX2 tyX2_ok nmX2 rfl (ty := .int) rfl rfl rfl (by simp) (upd (σ 70) 5 x) (rfl) hdg hf kk
theorem gf_X3_house (hx : p.tables.exec = Jvm.exec) (hb : c.code = cc) {own : String} (hts : ∀ w ∈ wt_tbl, w.before args s = true) (hown : s.vm.findClass own = some m.cls) (hK : wt_K D tI tII s) (hM : wt_St D tI tII B σ s H locs) {idx : Nat} (hlink : Cond.fieldLink own idx "WindowTaken" "house" "LWindowTaken$House;" ∈ wt_tbl) (hdg : decode cc pc = .ok (.getfield idx, 3)) (kk : W p l e R s m args below meth c H locs 0 0 Q (F0 m (pc + 3) ls (.ref (B + 1) :: rest))) : W p l e R s m args below meth c H locs 0 0 Q (F0 m pc ls (.ref (B + 0) :: rest)) :=
  wt_gf hx hb hts hown hK hM (k := 0) (by decide) (rfl) rfl 0 (by decide) wt_inX3 hlink rfl hdg kk
theorem gf_X3_mind (hx : p.tables.exec = Jvm.exec) (hb : c.code = cc) {own : String} (hts : ∀ w ∈ wt_tbl, w.before args s = true) (hown : s.vm.findClass own = some m.cls) (hK : wt_K D tI tII s) (hM : wt_St D tI tII B σ s H locs) {idx : Nat} (hlink : Cond.fieldLink own idx "WindowTaken" "mind" "LWindowTaken$House;" ∈ wt_tbl) (hdg : decode cc pc = .ok (.getfield idx, 3)) (kk : W p l e R s m args below meth c H locs 0 0 Q (F0 m (pc + 3) ls (.ref (B + 24) :: rest))) : W p l e R s m args below meth c H locs 0 0 Q (F0 m pc ls (.ref (B + 0) :: rest)) :=
  wt_gf hx hb hts hown hK hM (k := 0) (by decide) (rfl) rfl 1 (by decide) wt_inX3 hlink rfl hdg kk
theorem gf_X3_kept (hx : p.tables.exec = Jvm.exec) (hb : c.code = cc) {own : String} (hts : ∀ w ∈ wt_tbl, w.before args s = true) (hown : s.vm.findClass own = some m.cls) (hK : wt_K D tI tII s) (hM : wt_St D tI tII B σ s H locs) {idx : Nat} (hlink : Cond.fieldLink own idx "WindowTaken" "kept" "LWindowTaken$House;" ∈ wt_tbl) (hdg : decode cc pc = .ok (.getfield idx, 3)) (kk : W p l e R s m args below meth c H locs 0 0 Q (F0 m (pc + 3) ls (.ref (B + 47) :: rest))) : W p l e R s m args below meth c H locs 0 0 Q (F0 m pc ls (.ref (B + 0) :: rest)) :=
  wt_gf hx hb hts hown hK hM (k := 0) (by decide) (rfl) rfl 2 (by decide) wt_inX3 hlink rfl hdg kk
theorem gf_X3_imageTaken (hx : p.tables.exec = Jvm.exec) (hb : c.code = cc) {own : String} (hts : ∀ w ∈ wt_tbl, w.before args s = true) (hown : s.vm.findClass own = some m.cls) (hK : wt_K D tI tII s) (hM : wt_St D tI tII B σ s H locs) {idx : Nat} (hlink : Cond.fieldLink own idx "WindowTaken" "imageTaken" "Z" ∈ wt_tbl) (hdg : decode cc pc = .ok (.getfield idx, 3)) (kk : W p l e R s m args below meth c H locs 0 0 Q (F0 m (pc + 3) ls (.int (σ 0 3) :: rest))) : W p l e R s m args below meth c H locs 0 0 Q (F0 m pc ls (.ref (B + 0) :: rest)) :=
  wt_gf hx hb hts hown hK hM (k := 0) (by decide) (rfl) rfl 3 (by decide) wt_inX3 hlink rfl hdg kk
theorem pf_X3_imageTaken (hx : p.tables.exec = Jvm.exec) (hb : c.code = cc) {own : String} (hts : ∀ w ∈ wt_tbl, w.before args s = true) (hown : s.vm.findClass own = some m.cls) (hK : wt_K D tI tII s) (hM : wt_St D tI tII B σ s H locs) {idx : Nat} (hlink : Cond.fieldLink own idx "WindowTaken" "imageTaken" "Z" ∈ wt_tbl) {x : Int32} (hz : x = 0 ∨ x = 1) (hdg : decode cc pc = .ok (.putfield idx, 3)) {α : Type} {K : Mem → Option α} {r : α} (hf : wt_lt (up2 σ 0 3 x) K = some r) (kk : ∀ (s1 : Mem) (H1 : Heap) (locs1 : List Loc), K s1 = some r → wt_St D tI tII B s1 s H1 locs1 → W p l e R s m args below meth c H1 locs1 0 0 Q (F0 m (pc + 3) ls rest)) : W p l e R s m args below meth c H locs 0 0 Q (F0 m pc ls (.int x :: .ref (B + 0) :: rest)) :=
  wt_pf hx hb hts hown hK hM (k := 0) (by decide) (rfl) rfl 3 (by decide) wt_inX3 hlink tyX3 tyX3_ok nmX3 rfl (ty := .boolean) rfl (wt_nar hz) (wt_fit hz) (by simp) (upd (σ 0) 3 x) (rfl) hdg hf kk
theorem gf_X3_steps (hx : p.tables.exec = Jvm.exec) (hb : c.code = cc) {own : String} (hts : ∀ w ∈ wt_tbl, w.before args s = true) (hown : s.vm.findClass own = some m.cls) (hK : wt_K D tI tII s) (hM : wt_St D tI tII B σ s H locs) {idx : Nat} (hlink : Cond.fieldLink own idx "WindowTaken" "steps" "LWindowTaken$Steps;" ∈ wt_tbl) (hdg : decode cc pc = .ok (.getfield idx, 3)) (kk : W p l e R s m args below meth c H locs 0 0 Q (F0 m (pc + 3) ls (.ref (B + 70) :: rest))) : W p l e R s m args below meth c H locs 0 0 Q (F0 m pc ls (.ref (B + 0) :: rest)) :=
  wt_gf hx hb hts hown hK hM (k := 0) (by decide) (rfl) rfl 4 (by decide) wt_inX3 hlink rfl hdg kk
theorem gf_X3_letters (hx : p.tables.exec = Jvm.exec) (hb : c.code = cc) {own : String} (hts : ∀ w ∈ wt_tbl, w.before args s = true) (hown : s.vm.findClass own = some m.cls) (hK : wt_K D tI tII s) (hM : wt_St D tI tII B σ s H locs) {idx : Nat} (hlink : Cond.fieldLink own idx "WindowTaken" "letters" "LWindowTaken$Letters;" ∈ wt_tbl) (hdg : decode cc pc = .ok (.getfield idx, 3)) (kk : W p l e R s m args below meth c H locs 0 0 Q (F0 m (pc + 3) ls (.ref (B + 83) :: rest))) : W p l e R s m args below meth c H locs 0 0 Q (F0 m pc ls (.ref (B + 0) :: rest)) :=
  wt_gf hx hb hts hown hK hM (k := 0) (by decide) (rfl) rfl 5 (by decide) wt_inX3 hlink rfl hdg kk
theorem gf_X3_rowNumbers (hx : p.tables.exec = Jvm.exec) (hb : c.code = cc) {own : String} (hts : ∀ w ∈ wt_tbl, w.before args s = true) (hown : s.vm.findClass own = some m.cls) (hK : wt_K D tI tII s) (hM : wt_St D tI tII B σ s H locs) {idx : Nat} (hlink : Cond.fieldLink own idx "WindowTaken" "rowNumbers" "[I" ∈ wt_tbl) (hdg : decode cc pc = .ok (.getfield idx, 3)) (kk : W p l e R s m args below meth c H locs 0 0 Q (F0 m (pc + 3) ls (.ref (B + 85) :: rest))) : W p l e R s m args below meth c H locs 0 0 Q (F0 m pc ls (.ref (B + 0) :: rest)) :=
  wt_gf hx hb hts hown hK hM (k := 0) (by decide) (rfl) rfl 6 (by decide) wt_inX3 hlink rfl hdg kk
theorem gf_X3_rowSize (hx : p.tables.exec = Jvm.exec) (hb : c.code = cc) {own : String} (hts : ∀ w ∈ wt_tbl, w.before args s = true) (hown : s.vm.findClass own = some m.cls) (hK : wt_K D tI tII s) (hM : wt_St D tI tII B σ s H locs) {idx : Nat} (hlink : Cond.fieldLink own idx "WindowTaken" "rowSize" "I" ∈ wt_tbl) (hdg : decode cc pc = .ok (.getfield idx, 3)) (kk : W p l e R s m args below meth c H locs 0 0 Q (F0 m (pc + 3) ls (.int (σ 0 7) :: rest))) : W p l e R s m args below meth c H locs 0 0 Q (F0 m pc ls (.ref (B + 0) :: rest)) :=
  wt_gf hx hb hts hown hK hM (k := 0) (by decide) (rfl) rfl 7 (by decide) wt_inX3 hlink rfl hdg kk
theorem pf_X3_rowSize (hx : p.tables.exec = Jvm.exec) (hb : c.code = cc) {own : String} (hts : ∀ w ∈ wt_tbl, w.before args s = true) (hown : s.vm.findClass own = some m.cls) (hK : wt_K D tI tII s) (hM : wt_St D tI tII B σ s H locs) {idx : Nat} (hlink : Cond.fieldLink own idx "WindowTaken" "rowSize" "I" ∈ wt_tbl) {x : Int32} (hdg : decode cc pc = .ok (.putfield idx, 3)) {α : Type} {K : Mem → Option α} {r : α} (hf : wt_lt (up2 σ 0 7 x) K = some r) (kk : ∀ (s1 : Mem) (H1 : Heap) (locs1 : List Loc), K s1 = some r → wt_St D tI tII B s1 s H1 locs1 → W p l e R s m args below meth c H1 locs1 0 0 Q (F0 m (pc + 3) ls rest)) : W p l e R s m args below meth c H locs 0 0 Q (F0 m pc ls (.int x :: .ref (B + 0) :: rest)) :=
  wt_pf hx hb hts hown hK hM (k := 0) (by decide) (rfl) rfl 7 (by decide) wt_inX3 hlink tyX3 tyX3_ok nmX3 rfl (ty := .int) rfl rfl rfl (by simp) (upd (σ 0) 7 x) (rfl) hdg hf kk
theorem gf_X3_refusals (hx : p.tables.exec = Jvm.exec) (hb : c.code = cc) {own : String} (hts : ∀ w ∈ wt_tbl, w.before args s = true) (hown : s.vm.findClass own = some m.cls) (hK : wt_K D tI tII s) (hM : wt_St D tI tII B σ s H locs) {idx : Nat} (hlink : Cond.fieldLink own idx "WindowTaken" "refusals" "[I" ∈ wt_tbl) (hdg : decode cc pc = .ok (.getfield idx, 3)) (kk : W p l e R s m args below meth c H locs 0 0 Q (F0 m (pc + 3) ls (.ref (B + 86) :: rest))) : W p l e R s m args below meth c H locs 0 0 Q (F0 m pc ls (.ref (B + 0) :: rest)) :=
  wt_gf hx hb hts hown hK hM (k := 0) (by decide) (rfl) rfl 8 (by decide) wt_inX3 hlink rfl hdg kk
theorem gf_X3_firstPays (hx : p.tables.exec = Jvm.exec) (hb : c.code = cc) {own : String} (hts : ∀ w ∈ wt_tbl, w.before args s = true) (hown : s.vm.findClass own = some m.cls) (hK : wt_K D tI tII s) (hM : wt_St D tI tII B σ s H locs) {idx : Nat} (hlink : Cond.fieldLink own idx "WindowTaken" "firstPays" "[[I" ∈ wt_tbl) (hdg : decode cc pc = .ok (.getfield idx, 3)) (kk : W p l e R s m args below meth c H locs 0 0 Q (F0 m (pc + 3) ls (.ref (B + 87) :: rest))) : W p l e R s m args below meth c H locs 0 0 Q (F0 m pc ls (.ref (B + 0) :: rest)) :=
  wt_gf hx hb hts hown hK hM (k := 0) (by decide) (rfl) rfl 9 (by decide) wt_inX3 hlink rfl hdg kk
theorem gf_X3_otherPays (hx : p.tables.exec = Jvm.exec) (hb : c.code = cc) {own : String} (hts : ∀ w ∈ wt_tbl, w.before args s = true) (hown : s.vm.findClass own = some m.cls) (hK : wt_K D tI tII s) (hM : wt_St D tI tII B σ s H locs) {idx : Nat} (hlink : Cond.fieldLink own idx "WindowTaken" "otherPays" "[[I" ∈ wt_tbl) (hdg : decode cc pc = .ok (.getfield idx, 3)) (kk : W p l e R s m args below meth c H locs 0 0 Q (F0 m (pc + 3) ls (.ref (B + 94) :: rest))) : W p l e R s m args below meth c H locs 0 0 Q (F0 m pc ls (.ref (B + 0) :: rest)) :=
  wt_gf hx hb hts hown hK hM (k := 0) (by decide) (rfl) rfl 10 (by decide) wt_inX3 hlink rfl hdg kk
theorem gf_X4_worths (hx : p.tables.exec = Jvm.exec) (hb : c.code = cc) {own : String} (hts : ∀ w ∈ wt_tbl, w.before args s = true) (hown : s.vm.findClass own = some m.cls) (hK : wt_K D tI tII s) (hM : wt_St D tI tII B σ s H locs) {idx : Nat} (hlink : Cond.fieldLink own idx "WindowTakenModel" "worths" "[I" ∈ wt_tbl) (hdg : decode cc pc = .ok (.getfield idx, 3)) (kk : W p l e R s m args below meth c H locs 0 0 Q (F0 m (pc + 3) ls (.ref (B + 102) :: rest))) : W p l e R s m args below meth c H locs 0 0 Q (F0 m pc ls (.ref (B + 101) :: rest)) :=
  wt_gf hx hb hts hown hK hM (k := 101) (by decide) (rfl) rfl 0 (by decide) wt_inX4 hlink rfl hdg kk
theorem gf_X4_panes (hx : p.tables.exec = Jvm.exec) (hb : c.code = cc) {own : String} (hts : ∀ w ∈ wt_tbl, w.before args s = true) (hown : s.vm.findClass own = some m.cls) (hK : wt_K D tI tII s) (hM : wt_St D tI tII B σ s H locs) {idx : Nat} (hlink : Cond.fieldLink own idx "WindowTakenModel" "panes" "I" ∈ wt_tbl) (hdg : decode cc pc = .ok (.getfield idx, 3)) (kk : W p l e R s m args below meth c H locs 0 0 Q (F0 m (pc + 3) ls (.int (σ 101 1) :: rest))) : W p l e R s m args below meth c H locs 0 0 Q (F0 m pc ls (.ref (B + 101) :: rest)) :=
  wt_gf hx hb hts hown hK hM (k := 101) (by decide) (rfl) rfl 1 (by decide) wt_inX4 hlink rfl hdg kk
theorem pf_X4_panes (hx : p.tables.exec = Jvm.exec) (hb : c.code = cc) {own : String} (hts : ∀ w ∈ wt_tbl, w.before args s = true) (hown : s.vm.findClass own = some m.cls) (hK : wt_K D tI tII s) (hM : wt_St D tI tII B σ s H locs) {idx : Nat} (hlink : Cond.fieldLink own idx "WindowTakenModel" "panes" "I" ∈ wt_tbl) {x : Int32} (hdg : decode cc pc = .ok (.putfield idx, 3)) {α : Type} {K : Mem → Option α} {r : α} (hf : wt_lt (up2 σ 101 1 x) K = some r) (kk : ∀ (s1 : Mem) (H1 : Heap) (locs1 : List Loc), K s1 = some r → wt_St D tI tII B s1 s H1 locs1 → W p l e R s m args below meth c H1 locs1 0 0 Q (F0 m (pc + 3) ls rest)) : W p l e R s m args below meth c H locs 0 0 Q (F0 m pc ls (.int x :: .ref (B + 101) :: rest)) :=
  wt_pf hx hb hts hown hK hM (k := 101) (by decide) (rfl) rfl 1 (by decide) wt_inX4 hlink tyX4 tyX4_ok nmX4 rfl (ty := .int) rfl rfl rfl (by simp) (upd (σ 101) 1 x) (rfl) hdg hf kk
theorem gf_X4_shows (hx : p.tables.exec = Jvm.exec) (hb : c.code = cc) {own : String} (hts : ∀ w ∈ wt_tbl, w.before args s = true) (hown : s.vm.findClass own = some m.cls) (hK : wt_K D tI tII s) (hM : wt_St D tI tII B σ s H locs) {idx : Nat} (hlink : Cond.fieldLink own idx "WindowTakenModel" "shows" "[I" ∈ wt_tbl) (hdg : decode cc pc = .ok (.getfield idx, 3)) (kk : W p l e R s m args below meth c H locs 0 0 Q (F0 m (pc + 3) ls (.ref (B + 103) :: rest))) : W p l e R s m args below meth c H locs 0 0 Q (F0 m pc ls (.ref (B + 101) :: rest)) :=
  wt_gf hx hb hts hown hK hM (k := 101) (by decide) (rfl) rfl 2 (by decide) wt_inX4 hlink rfl hdg kk
theorem gf_X4_lookers (hx : p.tables.exec = Jvm.exec) (hb : c.code = cc) {own : String} (hts : ∀ w ∈ wt_tbl, w.before args s = true) (hown : s.vm.findClass own = some m.cls) (hK : wt_K D tI tII s) (hM : wt_St D tI tII B σ s H locs) {idx : Nat} (hlink : Cond.fieldLink own idx "WindowTakenModel" "lookers" "I" ∈ wt_tbl) (hdg : decode cc pc = .ok (.getfield idx, 3)) (kk : W p l e R s m args below meth c H locs 0 0 Q (F0 m (pc + 3) ls (.int (σ 101 3) :: rest))) : W p l e R s m args below meth c H locs 0 0 Q (F0 m pc ls (.ref (B + 101) :: rest)) :=
  wt_gf hx hb hts hown hK hM (k := 101) (by decide) (rfl) rfl 3 (by decide) wt_inX4 hlink rfl hdg kk
theorem pf_X4_lookers (hx : p.tables.exec = Jvm.exec) (hb : c.code = cc) {own : String} (hts : ∀ w ∈ wt_tbl, w.before args s = true) (hown : s.vm.findClass own = some m.cls) (hK : wt_K D tI tII s) (hM : wt_St D tI tII B σ s H locs) {idx : Nat} (hlink : Cond.fieldLink own idx "WindowTakenModel" "lookers" "I" ∈ wt_tbl) {x : Int32} (hdg : decode cc pc = .ok (.putfield idx, 3)) {α : Type} {K : Mem → Option α} {r : α} (hf : wt_lt (up2 σ 101 3 x) K = some r) (kk : ∀ (s1 : Mem) (H1 : Heap) (locs1 : List Loc), K s1 = some r → wt_St D tI tII B s1 s H1 locs1 → W p l e R s m args below meth c H1 locs1 0 0 Q (F0 m (pc + 3) ls rest)) : W p l e R s m args below meth c H locs 0 0 Q (F0 m pc ls (.int x :: .ref (B + 101) :: rest)) :=
  wt_pf hx hb hts hown hK hM (k := 101) (by decide) (rfl) rfl 3 (by decide) wt_inX4 hlink tyX4 tyX4_ok nmX4 rfl (ty := .int) rfl rfl rfl (by simp) (upd (σ 101) 3 x) (rfl) hdg hf kk
theorem gf_X4_kinds (hx : p.tables.exec = Jvm.exec) (hb : c.code = cc) {own : String} (hts : ∀ w ∈ wt_tbl, w.before args s = true) (hown : s.vm.findClass own = some m.cls) (hK : wt_K D tI tII s) (hM : wt_St D tI tII B σ s H locs) {idx : Nat} (hlink : Cond.fieldLink own idx "WindowTakenModel" "kinds" "[I" ∈ wt_tbl) (hdg : decode cc pc = .ok (.getfield idx, 3)) (kk : W p l e R s m args below meth c H locs 0 0 Q (F0 m (pc + 3) ls (.ref (B + 104) :: rest))) : W p l e R s m args below meth c H locs 0 0 Q (F0 m pc ls (.ref (B + 101) :: rest)) :=
  wt_gf hx hb hts hown hK hM (k := 101) (by decide) (rfl) rfl 4 (by decide) wt_inX4 hlink rfl hdg kk
theorem gf_X4_figures (hx : p.tables.exec = Jvm.exec) (hb : c.code = cc) {own : String} (hts : ∀ w ∈ wt_tbl, w.before args s = true) (hown : s.vm.findClass own = some m.cls) (hK : wt_K D tI tII s) (hM : wt_St D tI tII B σ s H locs) {idx : Nat} (hlink : Cond.fieldLink own idx "WindowTakenModel" "figures" "[I" ∈ wt_tbl) (hdg : decode cc pc = .ok (.getfield idx, 3)) (kk : W p l e R s m args below meth c H locs 0 0 Q (F0 m (pc + 3) ls (.ref (B + 105) :: rest))) : W p l e R s m args below meth c H locs 0 0 Q (F0 m pc ls (.ref (B + 101) :: rest)) :=
  wt_gf hx hb hts hown hK hM (k := 101) (by decide) (rfl) rfl 5 (by decide) wt_inX4 hlink rfl hdg kk
theorem gf_X4_rosters (hx : p.tables.exec = Jvm.exec) (hb : c.code = cc) {own : String} (hts : ∀ w ∈ wt_tbl, w.before args s = true) (hown : s.vm.findClass own = some m.cls) (hK : wt_K D tI tII s) (hM : wt_St D tI tII B σ s H locs) {idx : Nat} (hlink : Cond.fieldLink own idx "WindowTakenModel" "rosters" "[I" ∈ wt_tbl) (hdg : decode cc pc = .ok (.getfield idx, 3)) (kk : W p l e R s m args below meth c H locs 0 0 Q (F0 m (pc + 3) ls (.ref (B + 106) :: rest))) : W p l e R s m args below meth c H locs 0 0 Q (F0 m pc ls (.ref (B + 101) :: rest)) :=
  wt_gf hx hb hts hown hK hM (k := 101) (by decide) (rfl) rfl 6 (by decide) wt_inX4 hlink rfl hdg kk
theorem gf_X4_counted (hx : p.tables.exec = Jvm.exec) (hb : c.code = cc) {own : String} (hts : ∀ w ∈ wt_tbl, w.before args s = true) (hown : s.vm.findClass own = some m.cls) (hK : wt_K D tI tII s) (hM : wt_St D tI tII B σ s H locs) {idx : Nat} (hlink : Cond.fieldLink own idx "WindowTakenModel" "counted" "[I" ∈ wt_tbl) (hdg : decode cc pc = .ok (.getfield idx, 3)) (kk : W p l e R s m args below meth c H locs 0 0 Q (F0 m (pc + 3) ls (.ref (B + 107) :: rest))) : W p l e R s m args below meth c H locs 0 0 Q (F0 m pc ls (.ref (B + 101) :: rest)) :=
  wt_gf hx hb hts hown hK hM (k := 101) (by decide) (rfl) rfl 7 (by decide) wt_inX4 hlink rfl hdg kk
theorem gf_X4_law0 (hx : p.tables.exec = Jvm.exec) (hb : c.code = cc) {own : String} (hts : ∀ w ∈ wt_tbl, w.before args s = true) (hown : s.vm.findClass own = some m.cls) (hK : wt_K D tI tII s) (hM : wt_St D tI tII B σ s H locs) {idx : Nat} (hlink : Cond.fieldLink own idx "WindowTakenModel" "law0" "I" ∈ wt_tbl) (hdg : decode cc pc = .ok (.getfield idx, 3)) (kk : W p l e R s m args below meth c H locs 0 0 Q (F0 m (pc + 3) ls (.int (σ 101 8) :: rest))) : W p l e R s m args below meth c H locs 0 0 Q (F0 m pc ls (.ref (B + 101) :: rest)) :=
  wt_gf hx hb hts hown hK hM (k := 101) (by decide) (rfl) rfl 8 (by decide) wt_inX4 hlink rfl hdg kk
theorem pf_X4_law0 (hx : p.tables.exec = Jvm.exec) (hb : c.code = cc) {own : String} (hts : ∀ w ∈ wt_tbl, w.before args s = true) (hown : s.vm.findClass own = some m.cls) (hK : wt_K D tI tII s) (hM : wt_St D tI tII B σ s H locs) {idx : Nat} (hlink : Cond.fieldLink own idx "WindowTakenModel" "law0" "I" ∈ wt_tbl) {x : Int32} (hdg : decode cc pc = .ok (.putfield idx, 3)) {α : Type} {K : Mem → Option α} {r : α} (hf : wt_lt (up2 σ 101 8 x) K = some r) (kk : ∀ (s1 : Mem) (H1 : Heap) (locs1 : List Loc), K s1 = some r → wt_St D tI tII B s1 s H1 locs1 → W p l e R s m args below meth c H1 locs1 0 0 Q (F0 m (pc + 3) ls rest)) : W p l e R s m args below meth c H locs 0 0 Q (F0 m pc ls (.int x :: .ref (B + 101) :: rest)) :=
  wt_pf hx hb hts hown hK hM (k := 101) (by decide) (rfl) rfl 8 (by decide) wt_inX4 hlink tyX4 tyX4_ok nmX4 rfl (ty := .int) rfl rfl rfl (by simp) (upd (σ 101) 8 x) (rfl) hdg hf kk
theorem gf_X4_today (hx : p.tables.exec = Jvm.exec) (hb : c.code = cc) {own : String} (hts : ∀ w ∈ wt_tbl, w.before args s = true) (hown : s.vm.findClass own = some m.cls) (hK : wt_K D tI tII s) (hM : wt_St D tI tII B σ s H locs) {idx : Nat} (hlink : Cond.fieldLink own idx "WindowTakenModel" "today" "I" ∈ wt_tbl) (hdg : decode cc pc = .ok (.getfield idx, 3)) (kk : W p l e R s m args below meth c H locs 0 0 Q (F0 m (pc + 3) ls (.int (σ 101 9) :: rest))) : W p l e R s m args below meth c H locs 0 0 Q (F0 m pc ls (.ref (B + 101) :: rest)) :=
  wt_gf hx hb hts hown hK hM (k := 101) (by decide) (rfl) rfl 9 (by decide) wt_inX4 hlink rfl hdg kk
theorem pf_X4_today (hx : p.tables.exec = Jvm.exec) (hb : c.code = cc) {own : String} (hts : ∀ w ∈ wt_tbl, w.before args s = true) (hown : s.vm.findClass own = some m.cls) (hK : wt_K D tI tII s) (hM : wt_St D tI tII B σ s H locs) {idx : Nat} (hlink : Cond.fieldLink own idx "WindowTakenModel" "today" "I" ∈ wt_tbl) {x : Int32} (hdg : decode cc pc = .ok (.putfield idx, 3)) {α : Type} {K : Mem → Option α} {r : α} (hf : wt_lt (up2 σ 101 9 x) K = some r) (kk : ∀ (s1 : Mem) (H1 : Heap) (locs1 : List Loc), K s1 = some r → wt_St D tI tII B s1 s H1 locs1 → W p l e R s m args below meth c H1 locs1 0 0 Q (F0 m (pc + 3) ls rest)) : W p l e R s m args below meth c H locs 0 0 Q (F0 m pc ls (.int x :: .ref (B + 101) :: rest)) :=
  wt_pf hx hb hts hown hK hM (k := 101) (by decide) (rfl) rfl 9 (by decide) wt_inX4 hlink tyX4 tyX4_ok nmX4 rfl (ty := .int) rfl rfl rfl (by simp) (upd (σ 101) 9 x) (rfl) hdg hf kk
theorem gf_X4_thrown (hx : p.tables.exec = Jvm.exec) (hb : c.code = cc) {own : String} (hts : ∀ w ∈ wt_tbl, w.before args s = true) (hown : s.vm.findClass own = some m.cls) (hK : wt_K D tI tII s) (hM : wt_St D tI tII B σ s H locs) {idx : Nat} (hlink : Cond.fieldLink own idx "WindowTakenModel" "thrown" "I" ∈ wt_tbl) (hdg : decode cc pc = .ok (.getfield idx, 3)) (kk : W p l e R s m args below meth c H locs 0 0 Q (F0 m (pc + 3) ls (.int (σ 101 10) :: rest))) : W p l e R s m args below meth c H locs 0 0 Q (F0 m pc ls (.ref (B + 101) :: rest)) :=
  wt_gf hx hb hts hown hK hM (k := 101) (by decide) (rfl) rfl 10 (by decide) wt_inX4 hlink rfl hdg kk
theorem pf_X4_thrown (hx : p.tables.exec = Jvm.exec) (hb : c.code = cc) {own : String} (hts : ∀ w ∈ wt_tbl, w.before args s = true) (hown : s.vm.findClass own = some m.cls) (hK : wt_K D tI tII s) (hM : wt_St D tI tII B σ s H locs) {idx : Nat} (hlink : Cond.fieldLink own idx "WindowTakenModel" "thrown" "I" ∈ wt_tbl) {x : Int32} (hdg : decode cc pc = .ok (.putfield idx, 3)) {α : Type} {K : Mem → Option α} {r : α} (hf : wt_lt (up2 σ 101 10 x) K = some r) (kk : ∀ (s1 : Mem) (H1 : Heap) (locs1 : List Loc), K s1 = some r → wt_St D tI tII B s1 s H1 locs1 → W p l e R s m args below meth c H1 locs1 0 0 Q (F0 m (pc + 3) ls rest)) : W p l e R s m args below meth c H locs 0 0 Q (F0 m pc ls (.int x :: .ref (B + 101) :: rest)) :=
  wt_pf hx hb hts hown hK hM (k := 101) (by decide) (rfl) rfl 10 (by decide) wt_inX4 hlink tyX4 tyX4_ok nmX4 rfl (ty := .int) rfl rfl rfl (by simp) (upd (σ 101) 10 x) (rfl) hdg hf kk
theorem gf_X4_refusals (hx : p.tables.exec = Jvm.exec) (hb : c.code = cc) {own : String} (hts : ∀ w ∈ wt_tbl, w.before args s = true) (hown : s.vm.findClass own = some m.cls) (hK : wt_K D tI tII s) (hM : wt_St D tI tII B σ s H locs) {idx : Nat} (hlink : Cond.fieldLink own idx "WindowTakenModel" "refusals" "[I" ∈ wt_tbl) (hdg : decode cc pc = .ok (.getfield idx, 3)) (kk : W p l e R s m args below meth c H locs 0 0 Q (F0 m (pc + 3) ls (.ref (B + 108) :: rest))) : W p l e R s m args below meth c H locs 0 0 Q (F0 m pc ls (.ref (B + 101) :: rest)) :=
  wt_gf hx hb hts hown hK hM (k := 101) (by decide) (rfl) rfl 11 (by decide) wt_inX4 hlink rfl hdg kk
theorem gf_X4_brings (hx : p.tables.exec = Jvm.exec) (hb : c.code = cc) {own : String} (hts : ∀ w ∈ wt_tbl, w.before args s = true) (hown : s.vm.findClass own = some m.cls) (hK : wt_K D tI tII s) (hM : wt_St D tI tII B σ s H locs) {idx : Nat} (hlink : Cond.fieldLink own idx "WindowTakenModel" "brings" "[I" ∈ wt_tbl) (hdg : decode cc pc = .ok (.getfield idx, 3)) (kk : W p l e R s m args below meth c H locs 0 0 Q (F0 m (pc + 3) ls (.ref (B + 109) :: rest))) : W p l e R s m args below meth c H locs 0 0 Q (F0 m pc ls (.ref (B + 101) :: rest)) :=
  wt_gf hx hb hts hown hK hM (k := 101) (by decide) (rfl) rfl 12 (by decide) wt_inX4 hlink rfl hdg kk
theorem gf_X4_looked (hx : p.tables.exec = Jvm.exec) (hb : c.code = cc) {own : String} (hts : ∀ w ∈ wt_tbl, w.before args s = true) (hown : s.vm.findClass own = some m.cls) (hK : wt_K D tI tII s) (hM : wt_St D tI tII B σ s H locs) {idx : Nat} (hlink : Cond.fieldLink own idx "WindowTakenModel" "looked" "[I" ∈ wt_tbl) (hdg : decode cc pc = .ok (.getfield idx, 3)) (kk : W p l e R s m args below meth c H locs 0 0 Q (F0 m (pc + 3) ls (.ref (B + 110) :: rest))) : W p l e R s m args below meth c H locs 0 0 Q (F0 m pc ls (.ref (B + 101) :: rest)) :=
  wt_gf hx hb hts hown hK hM (k := 101) (by decide) (rfl) rfl 13 (by decide) wt_inX4 hlink rfl hdg kk
theorem gf_X4_letters (hx : p.tables.exec = Jvm.exec) (hb : c.code = cc) {own : String} (hts : ∀ w ∈ wt_tbl, w.before args s = true) (hown : s.vm.findClass own = some m.cls) (hK : wt_K D tI tII s) (hM : wt_St D tI tII B σ s H locs) {idx : Nat} (hlink : Cond.fieldLink own idx "WindowTakenModel" "letters" "[I" ∈ wt_tbl) (hdg : decode cc pc = .ok (.getfield idx, 3)) (kk : W p l e R s m args below meth c H locs 0 0 Q (F0 m (pc + 3) ls (.ref (B + 111) :: rest))) : W p l e R s m args below meth c H locs 0 0 Q (F0 m pc ls (.ref (B + 101) :: rest)) :=
  wt_gf hx hb hts hown hK hM (k := 101) (by decide) (rfl) rfl 14 (by decide) wt_inX4 hlink rfl hdg kk
theorem gf_X4_letterMany (hx : p.tables.exec = Jvm.exec) (hb : c.code = cc) {own : String} (hts : ∀ w ∈ wt_tbl, w.before args s = true) (hown : s.vm.findClass own = some m.cls) (hK : wt_K D tI tII s) (hM : wt_St D tI tII B σ s H locs) {idx : Nat} (hlink : Cond.fieldLink own idx "WindowTakenModel" "letterMany" "I" ∈ wt_tbl) (hdg : decode cc pc = .ok (.getfield idx, 3)) (kk : W p l e R s m args below meth c H locs 0 0 Q (F0 m (pc + 3) ls (.int (σ 101 15) :: rest))) : W p l e R s m args below meth c H locs 0 0 Q (F0 m pc ls (.ref (B + 101) :: rest)) :=
  wt_gf hx hb hts hown hK hM (k := 101) (by decide) (rfl) rfl 15 (by decide) wt_inX4 hlink rfl hdg kk
theorem pf_X4_letterMany (hx : p.tables.exec = Jvm.exec) (hb : c.code = cc) {own : String} (hts : ∀ w ∈ wt_tbl, w.before args s = true) (hown : s.vm.findClass own = some m.cls) (hK : wt_K D tI tII s) (hM : wt_St D tI tII B σ s H locs) {idx : Nat} (hlink : Cond.fieldLink own idx "WindowTakenModel" "letterMany" "I" ∈ wt_tbl) {x : Int32} (hdg : decode cc pc = .ok (.putfield idx, 3)) {α : Type} {K : Mem → Option α} {r : α} (hf : wt_lt (up2 σ 101 15 x) K = some r) (kk : ∀ (s1 : Mem) (H1 : Heap) (locs1 : List Loc), K s1 = some r → wt_St D tI tII B s1 s H1 locs1 → W p l e R s m args below meth c H1 locs1 0 0 Q (F0 m (pc + 3) ls rest)) : W p l e R s m args below meth c H locs 0 0 Q (F0 m pc ls (.int x :: .ref (B + 101) :: rest)) :=
  wt_pf hx hb hts hown hK hM (k := 101) (by decide) (rfl) rfl 15 (by decide) wt_inX4 hlink tyX4 tyX4_ok nmX4 rfl (ty := .int) rfl rfl rfl (by simp) (upd (σ 101) 15 x) (rfl) hdg hf kk
theorem gf_X4_at (hx : p.tables.exec = Jvm.exec) (hb : c.code = cc) {own : String} (hts : ∀ w ∈ wt_tbl, w.before args s = true) (hown : s.vm.findClass own = some m.cls) (hK : wt_K D tI tII s) (hM : wt_St D tI tII B σ s H locs) {idx : Nat} (hlink : Cond.fieldLink own idx "WindowTakenModel" "at" "I" ∈ wt_tbl) (hdg : decode cc pc = .ok (.getfield idx, 3)) (kk : W p l e R s m args below meth c H locs 0 0 Q (F0 m (pc + 3) ls (.int (σ 101 16) :: rest))) : W p l e R s m args below meth c H locs 0 0 Q (F0 m pc ls (.ref (B + 101) :: rest)) :=
  wt_gf hx hb hts hown hK hM (k := 101) (by decide) (rfl) rfl 16 (by decide) wt_inX4 hlink rfl hdg kk
theorem pf_X4_at (hx : p.tables.exec = Jvm.exec) (hb : c.code = cc) {own : String} (hts : ∀ w ∈ wt_tbl, w.before args s = true) (hown : s.vm.findClass own = some m.cls) (hK : wt_K D tI tII s) (hM : wt_St D tI tII B σ s H locs) {idx : Nat} (hlink : Cond.fieldLink own idx "WindowTakenModel" "at" "I" ∈ wt_tbl) {x : Int32} (hdg : decode cc pc = .ok (.putfield idx, 3)) {α : Type} {K : Mem → Option α} {r : α} (hf : wt_lt (up2 σ 101 16 x) K = some r) (kk : ∀ (s1 : Mem) (H1 : Heap) (locs1 : List Loc), K s1 = some r → wt_St D tI tII B s1 s H1 locs1 → W p l e R s m args below meth c H1 locs1 0 0 Q (F0 m (pc + 3) ls rest)) : W p l e R s m args below meth c H locs 0 0 Q (F0 m pc ls (.int x :: .ref (B + 101) :: rest)) :=
  wt_pf hx hb hts hown hK hM (k := 101) (by decide) (rfl) rfl 16 (by decide) wt_inX4 hlink tyX4 tyX4_ok nmX4 rfl (ty := .int) rfl rfl rfl (by simp) (upd (σ 101) 16 x) (rfl) hdg hf kk
theorem gf_X4_isBad (hx : p.tables.exec = Jvm.exec) (hb : c.code = cc) {own : String} (hts : ∀ w ∈ wt_tbl, w.before args s = true) (hown : s.vm.findClass own = some m.cls) (hK : wt_K D tI tII s) (hM : wt_St D tI tII B σ s H locs) {idx : Nat} (hlink : Cond.fieldLink own idx "WindowTakenModel" "isBad" "Z" ∈ wt_tbl) (hdg : decode cc pc = .ok (.getfield idx, 3)) (kk : W p l e R s m args below meth c H locs 0 0 Q (F0 m (pc + 3) ls (.int (σ 101 17) :: rest))) : W p l e R s m args below meth c H locs 0 0 Q (F0 m pc ls (.ref (B + 101) :: rest)) :=
  wt_gf hx hb hts hown hK hM (k := 101) (by decide) (rfl) rfl 17 (by decide) wt_inX4 hlink rfl hdg kk
theorem pf_X4_isBad (hx : p.tables.exec = Jvm.exec) (hb : c.code = cc) {own : String} (hts : ∀ w ∈ wt_tbl, w.before args s = true) (hown : s.vm.findClass own = some m.cls) (hK : wt_K D tI tII s) (hM : wt_St D tI tII B σ s H locs) {idx : Nat} (hlink : Cond.fieldLink own idx "WindowTakenModel" "isBad" "Z" ∈ wt_tbl) {x : Int32} (hz : x = 0 ∨ x = 1) (hdg : decode cc pc = .ok (.putfield idx, 3)) {α : Type} {K : Mem → Option α} {r : α} (hf : wt_lt (up2 σ 101 17 x) K = some r) (kk : ∀ (s1 : Mem) (H1 : Heap) (locs1 : List Loc), K s1 = some r → wt_St D tI tII B s1 s H1 locs1 → W p l e R s m args below meth c H1 locs1 0 0 Q (F0 m (pc + 3) ls rest)) : W p l e R s m args below meth c H locs 0 0 Q (F0 m pc ls (.int x :: .ref (B + 101) :: rest)) :=
  wt_pf hx hb hts hown hK hM (k := 101) (by decide) (rfl) rfl 17 (by decide) wt_inX4 hlink tyX4 tyX4_ok nmX4 rfl (ty := .boolean) rfl (wt_nar hz) (wt_fit hz) (by simp) (upd (σ 101) 17 x) (rfl) hdg hf kk
theorem gf_X4_statements (hx : p.tables.exec = Jvm.exec) (hb : c.code = cc) {own : String} (hts : ∀ w ∈ wt_tbl, w.before args s = true) (hown : s.vm.findClass own = some m.cls) (hK : wt_K D tI tII s) (hM : wt_St D tI tII B σ s H locs) {idx : Nat} (hlink : Cond.fieldLink own idx "WindowTakenModel" "statements" "I" ∈ wt_tbl) (hdg : decode cc pc = .ok (.getfield idx, 3)) (kk : W p l e R s m args below meth c H locs 0 0 Q (F0 m (pc + 3) ls (.int (σ 101 18) :: rest))) : W p l e R s m args below meth c H locs 0 0 Q (F0 m pc ls (.ref (B + 101) :: rest)) :=
  wt_gf hx hb hts hown hK hM (k := 101) (by decide) (rfl) rfl 18 (by decide) wt_inX4 hlink rfl hdg kk
theorem pf_X4_statements (hx : p.tables.exec = Jvm.exec) (hb : c.code = cc) {own : String} (hts : ∀ w ∈ wt_tbl, w.before args s = true) (hown : s.vm.findClass own = some m.cls) (hK : wt_K D tI tII s) (hM : wt_St D tI tII B σ s H locs) {idx : Nat} (hlink : Cond.fieldLink own idx "WindowTakenModel" "statements" "I" ∈ wt_tbl) {x : Int32} (hdg : decode cc pc = .ok (.putfield idx, 3)) {α : Type} {K : Mem → Option α} {r : α} (hf : wt_lt (up2 σ 101 18 x) K = some r) (kk : ∀ (s1 : Mem) (H1 : Heap) (locs1 : List Loc), K s1 = some r → wt_St D tI tII B s1 s H1 locs1 → W p l e R s m args below meth c H1 locs1 0 0 Q (F0 m (pc + 3) ls rest)) : W p l e R s m args below meth c H locs 0 0 Q (F0 m pc ls (.int x :: .ref (B + 101) :: rest)) :=
  wt_pf hx hb hts hown hK hM (k := 101) (by decide) (rfl) rfl 18 (by decide) wt_inX4 hlink tyX4 tyX4_ok nmX4 rfl (ty := .int) rfl rfl rfl (by simp) (upd (σ 101) 18 x) (rfl) hdg hf kk
theorem gf_X4_placeIn (hx : p.tables.exec = Jvm.exec) (hb : c.code = cc) {own : String} (hts : ∀ w ∈ wt_tbl, w.before args s = true) (hown : s.vm.findClass own = some m.cls) (hK : wt_K D tI tII s) (hM : wt_St D tI tII B σ s H locs) {idx : Nat} (hlink : Cond.fieldLink own idx "WindowTakenModel" "placeIn" "[I" ∈ wt_tbl) (hdg : decode cc pc = .ok (.getfield idx, 3)) (kk : W p l e R s m args below meth c H locs 0 0 Q (F0 m (pc + 3) ls (.ref (B + 112) :: rest))) : W p l e R s m args below meth c H locs 0 0 Q (F0 m pc ls (.ref (B + 101) :: rest)) :=
  wt_gf hx hb hts hown hK hM (k := 101) (by decide) (rfl) rfl 19 (by decide) wt_inX4 hlink rfl hdg kk
theorem gf_X4_letterOf (hx : p.tables.exec = Jvm.exec) (hb : c.code = cc) {own : String} (hts : ∀ w ∈ wt_tbl, w.before args s = true) (hown : s.vm.findClass own = some m.cls) (hK : wt_K D tI tII s) (hM : wt_St D tI tII B σ s H locs) {idx : Nat} (hlink : Cond.fieldLink own idx "WindowTakenModel" "letterOf" "[I" ∈ wt_tbl) (hdg : decode cc pc = .ok (.getfield idx, 3)) (kk : W p l e R s m args below meth c H locs 0 0 Q (F0 m (pc + 3) ls (.ref (B + 113) :: rest))) : W p l e R s m args below meth c H locs 0 0 Q (F0 m pc ls (.ref (B + 101) :: rest)) :=
  wt_gf hx hb hts hown hK hM (k := 101) (by decide) (rfl) rfl 20 (by decide) wt_inX4 hlink rfl hdg kk
theorem gf_X4_told (hx : p.tables.exec = Jvm.exec) (hb : c.code = cc) {own : String} (hts : ∀ w ∈ wt_tbl, w.before args s = true) (hown : s.vm.findClass own = some m.cls) (hK : wt_K D tI tII s) (hM : wt_St D tI tII B σ s H locs) {idx : Nat} (hlink : Cond.fieldLink own idx "WindowTakenModel" "told" "[I" ∈ wt_tbl) (hdg : decode cc pc = .ok (.getfield idx, 3)) (kk : W p l e R s m args below meth c H locs 0 0 Q (F0 m (pc + 3) ls (.ref (B + 114) :: rest))) : W p l e R s m args below meth c H locs 0 0 Q (F0 m pc ls (.ref (B + 101) :: rest)) :=
  wt_gf hx hb hts hown hK hM (k := 101) (by decide) (rfl) rfl 21 (by decide) wt_inX4 hlink rfl hdg kk
theorem gf_X4_kept (hx : p.tables.exec = Jvm.exec) (hb : c.code = cc) {own : String} (hts : ∀ w ∈ wt_tbl, w.before args s = true) (hown : s.vm.findClass own = some m.cls) (hK : wt_K D tI tII s) (hM : wt_St D tI tII B σ s H locs) {idx : Nat} (hlink : Cond.fieldLink own idx "WindowTakenModel" "kept" "[I" ∈ wt_tbl) (hdg : decode cc pc = .ok (.getfield idx, 3)) (kk : W p l e R s m args below meth c H locs 0 0 Q (F0 m (pc + 3) ls (.ref (B + 115) :: rest))) : W p l e R s m args below meth c H locs 0 0 Q (F0 m pc ls (.ref (B + 101) :: rest)) :=
  wt_gf hx hb hts hown hK hM (k := 101) (by decide) (rfl) rfl 22 (by decide) wt_inX4 hlink rfl hdg kk
theorem gf_X4_imaged (hx : p.tables.exec = Jvm.exec) (hb : c.code = cc) {own : String} (hts : ∀ w ∈ wt_tbl, w.before args s = true) (hown : s.vm.findClass own = some m.cls) (hK : wt_K D tI tII s) (hM : wt_St D tI tII B σ s H locs) {idx : Nat} (hlink : Cond.fieldLink own idx "WindowTakenModel" "imaged" "[I" ∈ wt_tbl) (hdg : decode cc pc = .ok (.getfield idx, 3)) (kk : W p l e R s m args below meth c H locs 0 0 Q (F0 m (pc + 3) ls (.ref (B + 116) :: rest))) : W p l e R s m args below meth c H locs 0 0 Q (F0 m pc ls (.ref (B + 101) :: rest)) :=
  wt_gf hx hb hts hown hK hM (k := 101) (by decide) (rfl) rfl 23 (by decide) wt_inX4 hlink rfl hdg kk
theorem gf_X4_hasImage (hx : p.tables.exec = Jvm.exec) (hb : c.code = cc) {own : String} (hts : ∀ w ∈ wt_tbl, w.before args s = true) (hown : s.vm.findClass own = some m.cls) (hK : wt_K D tI tII s) (hM : wt_St D tI tII B σ s H locs) {idx : Nat} (hlink : Cond.fieldLink own idx "WindowTakenModel" "hasImage" "Z" ∈ wt_tbl) (hdg : decode cc pc = .ok (.getfield idx, 3)) (kk : W p l e R s m args below meth c H locs 0 0 Q (F0 m (pc + 3) ls (.int (σ 101 24) :: rest))) : W p l e R s m args below meth c H locs 0 0 Q (F0 m pc ls (.ref (B + 101) :: rest)) :=
  wt_gf hx hb hts hown hK hM (k := 101) (by decide) (rfl) rfl 24 (by decide) wt_inX4 hlink rfl hdg kk
theorem pf_X4_hasImage (hx : p.tables.exec = Jvm.exec) (hb : c.code = cc) {own : String} (hts : ∀ w ∈ wt_tbl, w.before args s = true) (hown : s.vm.findClass own = some m.cls) (hK : wt_K D tI tII s) (hM : wt_St D tI tII B σ s H locs) {idx : Nat} (hlink : Cond.fieldLink own idx "WindowTakenModel" "hasImage" "Z" ∈ wt_tbl) {x : Int32} (hz : x = 0 ∨ x = 1) (hdg : decode cc pc = .ok (.putfield idx, 3)) {α : Type} {K : Mem → Option α} {r : α} (hf : wt_lt (up2 σ 101 24 x) K = some r) (kk : ∀ (s1 : Mem) (H1 : Heap) (locs1 : List Loc), K s1 = some r → wt_St D tI tII B s1 s H1 locs1 → W p l e R s m args below meth c H1 locs1 0 0 Q (F0 m (pc + 3) ls rest)) : W p l e R s m args below meth c H locs 0 0 Q (F0 m pc ls (.int x :: .ref (B + 101) :: rest)) :=
  wt_pf hx hb hts hown hK hM (k := 101) (by decide) (rfl) rfl 24 (by decide) wt_inX4 hlink tyX4 tyX4_ok nmX4 rfl (ty := .boolean) rfl (wt_nar hz) (wt_fit hz) (by simp) (upd (σ 101) 24 x) (rfl) hdg hf kk
theorem gf_X4_place0 (hx : p.tables.exec = Jvm.exec) (hb : c.code = cc) {own : String} (hts : ∀ w ∈ wt_tbl, w.before args s = true) (hown : s.vm.findClass own = some m.cls) (hK : wt_K D tI tII s) (hM : wt_St D tI tII B σ s H locs) {idx : Nat} (hlink : Cond.fieldLink own idx "WindowTakenModel" "place0" "I" ∈ wt_tbl) (hdg : decode cc pc = .ok (.getfield idx, 3)) (kk : W p l e R s m args below meth c H locs 0 0 Q (F0 m (pc + 3) ls (.int (σ 101 25) :: rest))) : W p l e R s m args below meth c H locs 0 0 Q (F0 m pc ls (.ref (B + 101) :: rest)) :=
  wt_gf hx hb hts hown hK hM (k := 101) (by decide) (rfl) rfl 25 (by decide) wt_inX4 hlink rfl hdg kk
theorem pf_X4_place0 (hx : p.tables.exec = Jvm.exec) (hb : c.code = cc) {own : String} (hts : ∀ w ∈ wt_tbl, w.before args s = true) (hown : s.vm.findClass own = some m.cls) (hK : wt_K D tI tII s) (hM : wt_St D tI tII B σ s H locs) {idx : Nat} (hlink : Cond.fieldLink own idx "WindowTakenModel" "place0" "I" ∈ wt_tbl) {x : Int32} (hdg : decode cc pc = .ok (.putfield idx, 3)) {α : Type} {K : Mem → Option α} {r : α} (hf : wt_lt (up2 σ 101 25 x) K = some r) (kk : ∀ (s1 : Mem) (H1 : Heap) (locs1 : List Loc), K s1 = some r → wt_St D tI tII B s1 s H1 locs1 → W p l e R s m args below meth c H1 locs1 0 0 Q (F0 m (pc + 3) ls rest)) : W p l e R s m args below meth c H locs 0 0 Q (F0 m pc ls (.int x :: .ref (B + 101) :: rest)) :=
  wt_pf hx hb hts hown hK hM (k := 101) (by decide) (rfl) rfl 25 (by decide) wt_inX4 hlink tyX4 tyX4_ok nmX4 rfl (ty := .int) rfl rfl rfl (by simp) (upd (σ 101) 25 x) (rfl) hdg hf kk
theorem gf_X4_isTaking (hx : p.tables.exec = Jvm.exec) (hb : c.code = cc) {own : String} (hts : ∀ w ∈ wt_tbl, w.before args s = true) (hown : s.vm.findClass own = some m.cls) (hK : wt_K D tI tII s) (hM : wt_St D tI tII B σ s H locs) {idx : Nat} (hlink : Cond.fieldLink own idx "WindowTakenModel" "isTaking" "Z" ∈ wt_tbl) (hdg : decode cc pc = .ok (.getfield idx, 3)) (kk : W p l e R s m args below meth c H locs 0 0 Q (F0 m (pc + 3) ls (.int (σ 101 26) :: rest))) : W p l e R s m args below meth c H locs 0 0 Q (F0 m pc ls (.ref (B + 101) :: rest)) :=
  wt_gf hx hb hts hown hK hM (k := 101) (by decide) (rfl) rfl 26 (by decide) wt_inX4 hlink rfl hdg kk
theorem pf_X4_isTaking (hx : p.tables.exec = Jvm.exec) (hb : c.code = cc) {own : String} (hts : ∀ w ∈ wt_tbl, w.before args s = true) (hown : s.vm.findClass own = some m.cls) (hK : wt_K D tI tII s) (hM : wt_St D tI tII B σ s H locs) {idx : Nat} (hlink : Cond.fieldLink own idx "WindowTakenModel" "isTaking" "Z" ∈ wt_tbl) {x : Int32} (hz : x = 0 ∨ x = 1) (hdg : decode cc pc = .ok (.putfield idx, 3)) {α : Type} {K : Mem → Option α} {r : α} (hf : wt_lt (up2 σ 101 26 x) K = some r) (kk : ∀ (s1 : Mem) (H1 : Heap) (locs1 : List Loc), K s1 = some r → wt_St D tI tII B s1 s H1 locs1 → W p l e R s m args below meth c H1 locs1 0 0 Q (F0 m (pc + 3) ls rest)) : W p l e R s m args below meth c H locs 0 0 Q (F0 m pc ls (.int x :: .ref (B + 101) :: rest)) :=
  wt_pf hx hb hts hown hK hM (k := 101) (by decide) (rfl) rfl 26 (by decide) wt_inX4 hlink tyX4 tyX4_ok nmX4 rfl (ty := .boolean) rfl (wt_nar hz) (wt_fit hz) (by simp) (upd (σ 101) 26 x) (rfl) hdg hf kk
theorem gf_X4_keptIn (hr : wt_is188 (σ 101 27).toNatClampNeg) (hx : p.tables.exec = Jvm.exec) (hb : c.code = cc) {own : String} (hts : ∀ w ∈ wt_tbl, w.before args s = true) (hown : s.vm.findClass own = some m.cls) (hK : wt_K D tI tII s) (hM : wt_St D tI tII B σ s H locs) {idx : Nat} (hlink : Cond.fieldLink own idx "WindowTakenModel" "keptIn" "[I" ∈ wt_tbl) (hdg : decode cc pc = .ok (.getfield idx, 3)) (kk : W p l e R s m args below meth c H locs 0 0 Q (F0 m (pc + 3) ls (.ref (B + (σ 101 27).toNatClampNeg) :: rest))) : W p l e R s m args below meth c H locs 0 0 Q (F0 m pc ls (.ref (B + 101) :: rest)) := by
  have e0 : ¬ σ 101 27 = 0 := fun q => by rw [q] at hr; revert hr; unfold wt_is188; decide
  refine wt_gf hx hb hts hown hK hM (k := 101) (by decide) rfl rfl 27 (by decide) wt_inX4 hlink (v := wt_rv B (σ 101 27)) rfl hdg ?_
  rw [show wt_rv B (σ 101 27) = .ref (B + (σ 101 27).toNatClampNeg) from if_neg e0]
  exact kk
theorem pf_X4_keptIn {a : Nat} (ha : wt_isA a 188) (hx : p.tables.exec = Jvm.exec) (hb : c.code = cc) {own : String} (hts : ∀ w ∈ wt_tbl, w.before args s = true) (hown : s.vm.findClass own = some m.cls) (hK : wt_K D tI tII s) (hM : wt_St D tI tII B σ s H locs) {idx : Nat} (hlink : Cond.fieldLink own idx "WindowTakenModel" "keptIn" "[I" ∈ wt_tbl) (hdg : decode cc pc = .ok (.putfield idx, 3)) {α : Type} {K : Mem → Option α} {r : α} (hf : wt_lt (up2 σ 101 27 (Int32.ofNat a)) K = some r) (kk : ∀ (s1 : Mem) (H1 : Heap) (locs1 : List Loc), K s1 = some r → wt_St D tI tII B s1 s H1 locs1 → W p l e R s m args below meth c H1 locs1 0 0 Q (F0 m (pc + 3) ls rest)) : W p l e R s m args below meth c H locs 0 0 Q (F0 m pc ls (.ref (B + a) :: .ref (B + 101) :: rest)) := by
  have ea : wt_rv B (Int32.ofNat a) = .ref (B + a) := by
    have h1 : a < 122 := ha.1
    have h2 : (Int32.ofNat a).toNatClampNeg = a := nI_clamp (by omega)
    unfold wt_rv
    rw [if_neg, h2]
    intro q
    rw [q] at h2
    have h3 : a = 0 := h2.symm
    subst h3
    exact absurd (ha.2 0 0 0 (fun _ => 0)) (by intro q; cases q)
  refine wt_pf hx hb hts hown hK hM (k := 101) (by decide) rfl rfl 27 (by decide) wt_inX4 hlink tyX4 tyX4_ok nmX4 rfl (ty := .array .int) rfl rfl rfl (by simp) (upd (σ 101) 27 (Int32.ofNat a)) ?_ hdg hf kk
  rw [← ea]
  rfl
theorem gf_X4_turns (hx : p.tables.exec = Jvm.exec) (hb : c.code = cc) {own : String} (hts : ∀ w ∈ wt_tbl, w.before args s = true) (hown : s.vm.findClass own = some m.cls) (hK : wt_K D tI tII s) (hM : wt_St D tI tII B σ s H locs) {idx : Nat} (hlink : Cond.fieldLink own idx "WindowTakenModel" "turns" "[I" ∈ wt_tbl) (hdg : decode cc pc = .ok (.getfield idx, 3)) (kk : W p l e R s m args below meth c H locs 0 0 Q (F0 m (pc + 3) ls (.ref (B + 117) :: rest))) : W p l e R s m args below meth c H locs 0 0 Q (F0 m pc ls (.ref (B + 101) :: rest)) :=
  wt_gf hx hb hts hown hK hM (k := 101) (by decide) (rfl) rfl 28 (by decide) wt_inX4 hlink rfl hdg kk
theorem gf_X4_turnOf (hx : p.tables.exec = Jvm.exec) (hb : c.code = cc) {own : String} (hts : ∀ w ∈ wt_tbl, w.before args s = true) (hown : s.vm.findClass own = some m.cls) (hK : wt_K D tI tII s) (hM : wt_St D tI tII B σ s H locs) {idx : Nat} (hlink : Cond.fieldLink own idx "WindowTakenModel" "turnOf" "[I" ∈ wt_tbl) (hdg : decode cc pc = .ok (.getfield idx, 3)) (kk : W p l e R s m args below meth c H locs 0 0 Q (F0 m (pc + 3) ls (.ref (B + 118) :: rest))) : W p l e R s m args below meth c H locs 0 0 Q (F0 m pc ls (.ref (B + 101) :: rest)) :=
  wt_gf hx hb hts hown hK hM (k := 101) (by decide) (rfl) rfl 29 (by decide) wt_inX4 hlink rfl hdg kk
theorem gf_X4_turned (hx : p.tables.exec = Jvm.exec) (hb : c.code = cc) {own : String} (hts : ∀ w ∈ wt_tbl, w.before args s = true) (hown : s.vm.findClass own = some m.cls) (hK : wt_K D tI tII s) (hM : wt_St D tI tII B σ s H locs) {idx : Nat} (hlink : Cond.fieldLink own idx "WindowTakenModel" "turned" "I" ∈ wt_tbl) (hdg : decode cc pc = .ok (.getfield idx, 3)) (kk : W p l e R s m args below meth c H locs 0 0 Q (F0 m (pc + 3) ls (.int (σ 101 30) :: rest))) : W p l e R s m args below meth c H locs 0 0 Q (F0 m pc ls (.ref (B + 101) :: rest)) :=
  wt_gf hx hb hts hown hK hM (k := 101) (by decide) (rfl) rfl 30 (by decide) wt_inX4 hlink rfl hdg kk
theorem pf_X4_turned (hx : p.tables.exec = Jvm.exec) (hb : c.code = cc) {own : String} (hts : ∀ w ∈ wt_tbl, w.before args s = true) (hown : s.vm.findClass own = some m.cls) (hK : wt_K D tI tII s) (hM : wt_St D tI tII B σ s H locs) {idx : Nat} (hlink : Cond.fieldLink own idx "WindowTakenModel" "turned" "I" ∈ wt_tbl) {x : Int32} (hdg : decode cc pc = .ok (.putfield idx, 3)) {α : Type} {K : Mem → Option α} {r : α} (hf : wt_lt (up2 σ 101 30 x) K = some r) (kk : ∀ (s1 : Mem) (H1 : Heap) (locs1 : List Loc), K s1 = some r → wt_St D tI tII B s1 s H1 locs1 → W p l e R s m args below meth c H1 locs1 0 0 Q (F0 m (pc + 3) ls rest)) : W p l e R s m args below meth c H locs 0 0 Q (F0 m pc ls (.int x :: .ref (B + 101) :: rest)) :=
  wt_pf hx hb hts hown hK hM (k := 101) (by decide) (rfl) rfl 30 (by decide) wt_inX4 hlink tyX4 tyX4_ok nmX4 rfl (ty := .int) rfl rfl rfl (by simp) (upd (σ 101) 30 x) (rfl) hdg hf kk
theorem gf_X4_oneHas (hx : p.tables.exec = Jvm.exec) (hb : c.code = cc) {own : String} (hts : ∀ w ∈ wt_tbl, w.before args s = true) (hown : s.vm.findClass own = some m.cls) (hK : wt_K D tI tII s) (hM : wt_St D tI tII B σ s H locs) {idx : Nat} (hlink : Cond.fieldLink own idx "WindowTakenModel" "oneHas" "[I" ∈ wt_tbl) (hdg : decode cc pc = .ok (.getfield idx, 3)) (kk : W p l e R s m args below meth c H locs 0 0 Q (F0 m (pc + 3) ls (.ref (B + 119) :: rest))) : W p l e R s m args below meth c H locs 0 0 Q (F0 m pc ls (.ref (B + 101) :: rest)) :=
  wt_gf hx hb hts hown hK hM (k := 101) (by decide) (rfl) rfl 31 (by decide) wt_inX4 hlink rfl hdg kk
theorem gf_X4_otherHas (hx : p.tables.exec = Jvm.exec) (hb : c.code = cc) {own : String} (hts : ∀ w ∈ wt_tbl, w.before args s = true) (hown : s.vm.findClass own = some m.cls) (hK : wt_K D tI tII s) (hM : wt_St D tI tII B σ s H locs) {idx : Nat} (hlink : Cond.fieldLink own idx "WindowTakenModel" "otherHas" "[I" ∈ wt_tbl) (hdg : decode cc pc = .ok (.getfield idx, 3)) (kk : W p l e R s m args below meth c H locs 0 0 Q (F0 m (pc + 3) ls (.ref (B + 120) :: rest))) : W p l e R s m args below meth c H locs 0 0 Q (F0 m pc ls (.ref (B + 101) :: rest)) :=
  wt_gf hx hb hts hown hK hM (k := 101) (by decide) (rfl) rfl 32 (by decide) wt_inX4 hlink rfl hdg kk
theorem gf_X4_row (hx : p.tables.exec = Jvm.exec) (hb : c.code = cc) {own : String} (hts : ∀ w ∈ wt_tbl, w.before args s = true) (hown : s.vm.findClass own = some m.cls) (hK : wt_K D tI tII s) (hM : wt_St D tI tII B σ s H locs) {idx : Nat} (hlink : Cond.fieldLink own idx "WindowTakenModel" "row" "[I" ∈ wt_tbl) (hdg : decode cc pc = .ok (.getfield idx, 3)) (kk : W p l e R s m args below meth c H locs 0 0 Q (F0 m (pc + 3) ls (.ref (B + 121) :: rest))) : W p l e R s m args below meth c H locs 0 0 Q (F0 m pc ls (.ref (B + 101) :: rest)) :=
  wt_gf hx hb hts hown hK hM (k := 101) (by decide) (rfl) rfl 33 (by decide) wt_inX4 hlink rfl hdg kk
theorem gf_X4_rowMany (hx : p.tables.exec = Jvm.exec) (hb : c.code = cc) {own : String} (hts : ∀ w ∈ wt_tbl, w.before args s = true) (hown : s.vm.findClass own = some m.cls) (hK : wt_K D tI tII s) (hM : wt_St D tI tII B σ s H locs) {idx : Nat} (hlink : Cond.fieldLink own idx "WindowTakenModel" "rowMany" "I" ∈ wt_tbl) (hdg : decode cc pc = .ok (.getfield idx, 3)) (kk : W p l e R s m args below meth c H locs 0 0 Q (F0 m (pc + 3) ls (.int (σ 101 34) :: rest))) : W p l e R s m args below meth c H locs 0 0 Q (F0 m pc ls (.ref (B + 101) :: rest)) :=
  wt_gf hx hb hts hown hK hM (k := 101) (by decide) (rfl) rfl 34 (by decide) wt_inX4 hlink rfl hdg kk
theorem pf_X4_rowMany (hx : p.tables.exec = Jvm.exec) (hb : c.code = cc) {own : String} (hts : ∀ w ∈ wt_tbl, w.before args s = true) (hown : s.vm.findClass own = some m.cls) (hK : wt_K D tI tII s) (hM : wt_St D tI tII B σ s H locs) {idx : Nat} (hlink : Cond.fieldLink own idx "WindowTakenModel" "rowMany" "I" ∈ wt_tbl) {x : Int32} (hdg : decode cc pc = .ok (.putfield idx, 3)) {α : Type} {K : Mem → Option α} {r : α} (hf : wt_lt (up2 σ 101 34 x) K = some r) (kk : ∀ (s1 : Mem) (H1 : Heap) (locs1 : List Loc), K s1 = some r → wt_St D tI tII B s1 s H1 locs1 → W p l e R s m args below meth c H1 locs1 0 0 Q (F0 m (pc + 3) ls rest)) : W p l e R s m args below meth c H locs 0 0 Q (F0 m pc ls (.int x :: .ref (B + 101) :: rest)) :=
  wt_pf hx hb hts hown hK hM (k := 101) (by decide) (rfl) rfl 34 (by decide) wt_inX4 hlink tyX4 tyX4_ok nmX4 rfl (ty := .int) rfl rfl rfl (by simp) (upd (σ 101) 34 x) (rfl) hdg hf kk
theorem gf_X4_seed (hx : p.tables.exec = Jvm.exec) (hb : c.code = cc) {own : String} (hts : ∀ w ∈ wt_tbl, w.before args s = true) (hown : s.vm.findClass own = some m.cls) (hK : wt_K D tI tII s) (hM : wt_St D tI tII B σ s H locs) {idx : Nat} (hlink : Cond.fieldLink own idx "WindowTakenModel" "seed" "I" ∈ wt_tbl) (hdg : decode cc pc = .ok (.getfield idx, 3)) (kk : W p l e R s m args below meth c H locs 0 0 Q (F0 m (pc + 3) ls (.int (σ 101 35) :: rest))) : W p l e R s m args below meth c H locs 0 0 Q (F0 m pc ls (.ref (B + 101) :: rest)) :=
  wt_gf hx hb hts hown hK hM (k := 101) (by decide) (rfl) rfl 35 (by decide) wt_inX4 hlink rfl hdg kk
theorem pf_X4_seed (hx : p.tables.exec = Jvm.exec) (hb : c.code = cc) {own : String} (hts : ∀ w ∈ wt_tbl, w.before args s = true) (hown : s.vm.findClass own = some m.cls) (hK : wt_K D tI tII s) (hM : wt_St D tI tII B σ s H locs) {idx : Nat} (hlink : Cond.fieldLink own idx "WindowTakenModel" "seed" "I" ∈ wt_tbl) {x : Int32} (hdg : decode cc pc = .ok (.putfield idx, 3)) {α : Type} {K : Mem → Option α} {r : α} (hf : wt_lt (up2 σ 101 35 x) K = some r) (kk : ∀ (s1 : Mem) (H1 : Heap) (locs1 : List Loc), K s1 = some r → wt_St D tI tII B s1 s H1 locs1 → W p l e R s m args below meth c H1 locs1 0 0 Q (F0 m (pc + 3) ls rest)) : W p l e R s m args below meth c H locs 0 0 Q (F0 m pc ls (.int x :: .ref (B + 101) :: rest)) :=
  wt_pf hx hb hts hown hK hM (k := 101) (by decide) (rfl) rfl 35 (by decide) wt_inX4 hlink tyX4 tyX4_ok nmX4 rfl (ty := .int) rfl rfl rfl (by simp) (upd (σ 101) 35 x) (rfl) hdg hf kk
end WF
