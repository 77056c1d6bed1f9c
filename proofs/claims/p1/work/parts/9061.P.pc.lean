/-! partial: what holds of the answer and the memory, if it answers -/
def pc {α : Type} (o : Option (α × Mem)) (Q : α → Mem → Prop) : Prop := ∀ a s, o = some (a, s) → Q a s
theorem pc_none {α : Type} {o : Option (α × Mem)} {Q : α → Mem → Prop} (h : o = none) : pc o Q := fun a s e => by rw [h] at e; cases e
theorem pc_ret {α : Type} {a : α} {s : Mem} {Q : α → Mem → Prop} (h : Q a s) : pc (some (a, s)) Q := fun a' s' e => by cases e; exact h
theorem pc_lt {α β : Type} {x : α} {K : α → Option (β × Mem)} {Q : β → Mem → Prop} (h : ∀ z, z = x → pc (K z) Q) : pc (wt_lt x K) Q := h x rfl
theorem pc_chk {β : Type} {i : Int32} {n : Nat} {K : Option (β × Mem)} {Q : β → Mem → Prop} (h : 0 ≤ i.toInt ∧ i.toInt < n ∧ i.toNatClampNeg < n → pc K Q) : pc (wt_chk i n K) Q := by
  unfold wt_chk
  by_cases c : i < 0 ∨ n ≤ i.toNatClampNeg
  · rw [if_pos c]; exact pc_none rfl
  · rw [if_neg c]
    have h1 : 0 ≤ i.toInt := ti_nlt (fun q => c (Or.inl q))
    have h2 : i.toNatClampNeg < n := Nat.not_le.mp (fun q => c (Or.inr q))
    have h3 := ti_nat i
    exact h ⟨h1, by omega, h2⟩
theorem pc_nz {β : Type} {y : Int32} {K : Option (β × Mem)} {Q : β → Mem → Prop} (h : ¬ y = 0 → pc K Q) : pc (wt_nz y K) Q := by
  unfold wt_nz
  by_cases c : y = 0
  · rw [if_pos c]; exact pc_none rfl
  · rw [if_neg c]; exact h c
theorem pc_nzl {β : Type} {y : Int64} {K : Option (β × Mem)} {Q : β → Mem → Prop} (h : ¬ y = 0 → pc K Q) : pc (wt_nzl y K) Q := by
  unfold wt_nzl
  by_cases c : y = 0
  · rw [if_pos c]; exact pc_none rfl
  · rw [if_neg c]; exact h c
theorem pc_bz {β : Type} {x : Int32} {K : Option (β × Mem)} {Q : β → Mem → Prop} (h : x = 0 ∨ x = 1 → pc K Q) : pc (wt_bz x K) Q := by
  unfold wt_bz
  by_cases c : x = 0 ∨ x = 1
  · rw [if_pos c]; exact h c
  · rw [if_neg c]; exact pc_none rfl
theorem pc_ite {β : Type} {c : Prop} [Decidable c] {A E : Option (β × Mem)} {Q : β → Mem → Prop} (h1 : c → pc A Q) (h2 : ¬ c → pc E Q) : pc (if c then A else E) Q := by
  by_cases h : c
  · rw [if_pos h]; exact h1 h
  · rw [if_neg h]; exact h2 h
theorem pc_bnd {α β : Type} {o : Option (α × Mem)} {K : α → Mem → Option (β × Mem)} {P : α → Mem → Prop} {Q : β → Mem → Prop} (h : pc o P) (k : ∀ a s, P a s → pc (K a s) Q) : pc (wt_bnd o K) Q := by
  unfold wt_bnd
  cases ho : o with
  | none => exact pc_none rfl
  | some q => exact k q.1 q.2 (h q.1 q.2 ho)
theorem pc_be {α β : Type} {o : Option (α × Mem)} {a : α} {s : Mem} {K : α → Mem → Option (β × Mem)} {Q : β → Mem → Prop} (h : o = some (a, s)) (k : pc (K a s) Q) : pc (wt_bnd o K) Q := by
  rw [h]; exact k
theorem pc_eq {α : Type} {o : Option (α × Mem)} {a : α} {s : Mem} {Q : α → Mem → Prop} (h : o = some (a, s)) (k : Q a s) : pc o Q := by
  rw [h]; exact pc_ret k
theorem pc_mono {α : Type} {o : Option (α × Mem)} {P Q : α → Mem → Prop} (h : pc o P) (k : ∀ a s, P a s → Q a s) : pc o Q := fun a s e => k a s (h a s e)
theorem pc_and {α : Type} {o : Option (α × Mem)} {P Q : α → Mem → Prop} (h : pc o P) (k : pc o Q) : pc o (fun a s => P a s ∧ Q a s) := fun a s e => ⟨h a s e, k a s e⟩
theorem pc_pf {α : Type} {o : Option (α × Mem)} {W : Nat → Prop} {τ : Mem} (h : pf W o τ) : pc o (fun _ s => fr W τ s) := h
theorem pc_sf {α : Type} {o : Option (α × Mem)} {P Q : α → Mem → Prop} (h : sf o P) (k : pc o Q) : sf o (fun a s => P a s ∧ Q a s) := by
  obtain ⟨a, s, e, q⟩ := h
  exact ⟨a, s, e, q, k a s e⟩
theorem sf_pc {α : Type} {o : Option (α × Mem)} {P : α → Mem → Prop} (h : sf o P) : pc o P := by
  obtain ⟨a, s, e, q⟩ := h
  intro a' s' e'
  rw [e] at e'
  cases e'
  exact q
