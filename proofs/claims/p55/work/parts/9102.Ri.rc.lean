/-- the relation, and the refusals counted alike -/
def wC (σ : Mem) : Prop := wR 188 σ ∧ σ 86 = σ 108
theorem wC_m0 : wC wt_m0 := ⟨wR_m0, rfl⟩
theorem rc_both {α β : Type} {σ : Mem} {E : Int32} {o1 : Option (α × Mem)} {o2 : Mem → Option (β × Mem)} (h : ∃ r1 s1 r2 s2, o1 = some (r1, s1) ∧ o2 s1 = some (r2, s2) ∧ wR 188 s2) (e : σ 86 = σ 108) (p0 : pc o1 (fun _ s => ∀ k, 101 ≤ k → s k = σ k)) (p1 : pc o1 (fun _ s => s 86 = wB (σ 86) E)) (p2 : ∀ s, (∀ k, 101 ≤ k → s k = σ k) → pc (o2 s) (fun _ z => z 108 = wB (σ 108) E)) (p3 : ∀ s, (∀ k, 101 ≤ k → s k = σ k) → pc (o2 s) (fun _ z => ∀ k, k < 101 → z k = s k)) : ∃ r1 s1 r2 s2, o1 = some (r1, s1) ∧ o2 s1 = some (r2, s2) ∧ wC s2 := by
  obtain ⟨r1, s1, r2, s2, e1, e2, w⟩ := h
  have hs := p0 r1 s1 e1
  refine ⟨r1, s1, r2, s2, e1, e2, w, ?_⟩
  rw [p3 s1 hs r2 s2 e2 86 (by decide), p1 r1 s1 e1, p2 s1 hs r2 s2 e2, e]
theorem rc_dr {α : Type} {o1 : Option (α × Mem)} {o2 : Mem → Option (α × Mem)} (h : ∃ r1 s1 r2 s2, o1 = some (r1, s1) ∧ o2 s1 = some (r2, s2) ∧ wR 188 s2 ∧ r1 = r2) : ∃ r1 s1 r2 s2, o1 = some (r1, s1) ∧ o2 s1 = some (r2, s2) ∧ wR 188 s2 := by
  obtain ⟨r1, s1, r2, s2, e1, e2, w, -⟩ := h
  exact ⟨r1, s1, r2, s2, e1, e2, w⟩
theorem rc_eq {α : Type} {o1 : Option (α × Mem)} {o2 : Mem → Option (α × Mem)} (h : ∃ r1 s1 r2 s2, o1 = some (r1, s1) ∧ o2 s1 = some (r2, s2) ∧ wC s2) (k : ∀ r1 s1 r2 s2, o1 = some (r1, s1) → o2 s1 = some (r2, s2) → r1 = r2) : ∃ r1 s1 r2 s2, o1 = some (r1, s1) ∧ o2 s1 = some (r2, s2) ∧ wC s2 ∧ r1 = r2 := by
  obtain ⟨r1, s1, r2, s2, e1, e2, w⟩ := h
  exact ⟨r1, s1, r2, s2, e1, e2, w, k r1 s1 r2 s2 e1 e2⟩
