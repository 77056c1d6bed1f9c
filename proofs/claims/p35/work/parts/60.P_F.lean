section
/-! partial: what holds of the answer and the memory, if it answers -/
def pc {α : Type} (o : Option (α × Mem)) (Q : α → Mem → Prop) : Prop := ∀ a s, o = some (a, s) → Q a s
theorem pc_none {α : Type} {o : Option (α × Mem)} {Q : α → Mem → Prop} (h : o = none) : pc o Q := fun a s e => by rw [h] at e; cases e
theorem pc_ret {α : Type} {a : α} {s : Mem} {Q : α → Mem → Prop} (h : Q a s) : pc (some (a, s)) Q := fun a' s' e => by cases e; exact h
theorem pc_lt {α β : Type} {x : α} {K : α → Option (β × Mem)} {Q : β → Mem → Prop} (h : ∀ z, z = x → pc (K z) Q) : pc (wt_lt x K) Q := h x rfl
theorem pc_chk {β : Type} {i : Int32} {n : Nat} {K : Option (β × Mem)} {Q : β → Mem → Prop} (h : 0 ≤ i.toInt ∧ i.toInt < n ∧ i.toNatClampNeg < n → pc K Q) : pc (wt_chk i n K) Q := by
  unfold wt_chk
  by_cases c : i < 0 ∨ n ≤ i.toNatClampNeg
  · rw [if_pos c]; exact pc_none rfl
  · rw [if_neg c]
    have h1 : 0 ≤ i.toInt := ti_nlt (fun q => c (Or.inl q))
    have h2 : i.toNatClampNeg < n := Nat.not_le.mp (fun q => c (Or.inr q))
    have h3 := ti_nat i
    exact h ⟨h1, by omega, h2⟩
theorem pc_nz {β : Type} {y : Int32} {K : Option (β × Mem)} {Q : β → Mem → Prop} (h : ¬ y = 0 → pc K Q) : pc (wt_nz y K) Q := by
  unfold wt_nz
  by_cases c : y = 0
  · rw [if_pos c]; exact pc_none rfl
  · rw [if_neg c]; exact h c
theorem pc_nzl {β : Type} {y : Int64} {K : Option (β × Mem)} {Q : β → Mem → Prop} (h : ¬ y = 0 → pc K Q) : pc (wt_nzl y K) Q := by
  unfold wt_nzl
  by_cases c : y = 0
  · rw [if_pos c]; exact pc_none rfl
  · rw [if_neg c]; exact h c
theorem pc_bz {β : Type} {x : Int32} {K : Option (β × Mem)} {Q : β → Mem → Prop} (h : x = 0 ∨ x = 1 → pc K Q) : pc (wt_bz x K) Q := by
  unfold wt_bz
  by_cases c : x = 0 ∨ x = 1
  · rw [if_pos c]; exact h c
  · rw [if_neg c]; exact pc_none rfl
theorem pc_ite {β : Type} {c : Prop} [Decidable c] {A E : Option (β × Mem)} {Q : β → Mem → Prop} (h1 : c → pc A Q) (h2 : ¬ c → pc E Q) : pc (if c then A else E) Q := by
  by_cases h : c
  · rw [if_pos h]; exact h1 h
  · rw [if_neg h]; exact h2 h
theorem pc_bnd {α β : Type} {o : Option (α × Mem)} {K : α → Mem → Option (β × Mem)} {P : α → Mem → Prop} {Q : β → Mem → Prop} (h : pc o P) (k : ∀ a s, P a s → pc (K a s) Q) : pc (wt_bnd o K) Q := by
  unfold wt_bnd
  cases ho : o with
  | none => exact pc_none rfl
  | some q => exact k q.1 q.2 (h q.1 q.2 ho)
theorem pc_be {α β : Type} {o : Option (α × Mem)} {a : α} {s : Mem} {K : α → Mem → Option (β × Mem)} {Q : β → Mem → Prop} (h : o = some (a, s)) (k : pc (K a s) Q) : pc (wt_bnd o K) Q := by
  rw [h]; exact k
theorem pc_eq {α : Type} {o : Option (α × Mem)} {a : α} {s : Mem} {Q : α → Mem → Prop} (h : o = some (a, s)) (k : Q a s) : pc o Q := by
  rw [h]; exact pc_ret k
theorem pc_mono {α : Type} {o : Option (α × Mem)} {P Q : α → Mem → Prop} (h : pc o P) (k : ∀ a s, P a s → Q a s) : pc o Q := fun a s e => k a s (h a s e)
theorem pc_and {α : Type} {o : Option (α × Mem)} {P Q : α → Mem → Prop} (h : pc o P) (k : pc o Q) : pc o (fun a s => P a s ∧ Q a s) := fun a s e => ⟨h a s e, k a s e⟩
theorem pc_pf {α : Type} {o : Option (α × Mem)} {W : Nat → Prop} {τ : Mem} (h : pf W o τ) : pc o (fun _ s => fr W τ s) := h
theorem pc_sf {α : Type} {o : Option (α × Mem)} {P Q : α → Mem → Prop} (h : sf o P) (k : pc o Q) : sf o (fun a s => P a s ∧ Q a s) := by
  obtain ⟨a, s, e, q⟩ := h
  exact ⟨a, s, e, q, k a s e⟩
theorem sf_pc {α : Type} {o : Option (α × Mem)} {P : α → Mem → Prop} (h : sf o P) : pc o P := by
  obtain ⟨a, s, e, q⟩ := h
  intro a' s' e'
  rw [e] at e'
  cases e'
  exact q
end
section
/-! literals by their numbers -/
theorem tz_m2000 : (-2000 : Int32).toInt = -2000 := rfl
theorem tz_m1000 : (-1000 : Int32).toInt = -1000 := rfl
theorem tz_m9 : (-9 : Int32).toInt = -9 := rfl
theorem tz_m6 : (-6 : Int32).toInt = -6 := rfl
theorem tz_m4 : (-4 : Int32).toInt = -4 := rfl
theorem tz_m3 : (-3 : Int32).toInt = -3 := rfl
theorem tz_m2 : (-2 : Int32).toInt = -2 := rfl
theorem tz_m1 : (-1 : Int32).toInt = -1 := rfl
theorem tz_0 : (0 : Int32).toInt = 0 := rfl
theorem tz_1 : (1 : Int32).toInt = 1 := rfl
theorem tz_2 : (2 : Int32).toInt = 2 := rfl
theorem tz_3 : (3 : Int32).toInt = 3 := rfl
theorem tz_4 : (4 : Int32).toInt = 4 := rfl
theorem tz_5 : (5 : Int32).toInt = 5 := rfl
theorem tz_6 : (6 : Int32).toInt = 6 := rfl
theorem tz_7 : (7 : Int32).toInt = 7 := rfl
theorem tz_8 : (8 : Int32).toInt = 8 := rfl
theorem tz_9 : (9 : Int32).toInt = 9 := rfl
theorem tz_10 : (10 : Int32).toInt = 10 := rfl
theorem tz_11 : (11 : Int32).toInt = 11 := rfl
theorem tz_12 : (12 : Int32).toInt = 12 := rfl
theorem tz_20 : (20 : Int32).toInt = 20 := rfl
theorem tz_23 : (23 : Int32).toInt = 23 := rfl
theorem tz_24 : (24 : Int32).toInt = 24 := rfl
theorem tz_31 : (31 : Int32).toInt = 31 := rfl
theorem tz_48 : (48 : Int32).toInt = 48 := rfl
theorem tz_57 : (57 : Int32).toInt = 57 := rfl
theorem tz_59 : (59 : Int32).toInt = 59 := rfl
theorem tz_60 : (60 : Int32).toInt = 60 := rfl
theorem tz_95 : (95 : Int32).toInt = 95 := rfl
theorem tz_96 : (96 : Int32).toInt = 96 := rfl
theorem tz_98 : (98 : Int32).toInt = 98 := rfl
theorem tz_99 : (99 : Int32).toInt = 99 := rfl
theorem tz_100 : (100 : Int32).toInt = 100 := rfl
theorem tz_108 : (108 : Int32).toInt = 108 := rfl
theorem tz_112 : (112 : Int32).toInt = 112 := rfl
theorem tz_115 : (115 : Int32).toInt = 115 := rfl
theorem tz_117 : (117 : Int32).toInt = 117 := rfl
theorem tz_118 : (118 : Int32).toInt = 118 := rfl
theorem tz_119 : (119 : Int32).toInt = 119 := rfl
theorem tz_120 : (120 : Int32).toInt = 120 := rfl
theorem tz_188 : (188 : Int32).toInt = 188 := rfl
theorem tz_255 : (255 : Int32).toInt = 255 := rfl
theorem tz_999 : (999 : Int32).toInt = 999 := rfl
theorem tz_1000 : (1000 : Int32).toInt = 1000 := rfl
theorem tz_9999 : (9999 : Int32).toInt = 9999 := rfl
theorem tz_99999 : (99999 : Int32).toInt = 99999 := rfl
theorem wv_us {f : Nat → Int32} {k : Nat} {x : Int32} : upd f k x k = x := if_pos rfl
theorem wv_un {f : Nat → Int32} {k j : Nat} {x : Int32} (h : ¬ j = k) : upd f k x j = f j := if_neg h
/-! a house as a vector of 188 numbers: panes, lookers, law, day, 8 worths, 6 panes' views, 5 kinds and figures, 5 * 24 hours (-9 none), 5 * 8 counts -/
def wvJ (p : Nat) : Nat := if p < 4 then 0 else if p < 12 then 16 else if p < 18 then 1 else if p < 28 then (if p % 2 = 0 then 2 else 3) else if p < 148 then 5 + (p - 28) / 24 else 11 + (p - 148) / 8
def wvI (p : Nat) : Nat := if p = 0 then 0 else if p = 1 then 2 else if p = 2 then 8 else if p = 3 then 9 else if p < 12 then p - 4 else if p < 18 then p - 12 else if p < 28 then (p - 18) / 2 else if p < 148 then (p - 28) % 24 else (p - 148) % 8
def wvPl (j i : Nat) : Nat := if j = 0 then (if i = 0 then 0 else if i = 2 then 1 else if i = 8 then 2 else 3) else if j = 16 then 4 + i else if j = 1 then 12 + i else if j = 2 then 18 + 2 * i else if j = 3 then 19 + 2 * i else if j < 11 then 28 + 24 * (j - 5) + i else 148 + 8 * (j - 11) + i
theorem wvPl_ok : ∀ p, p < 188 → wvPl (wvJ p) (wvI p) = p := by decide +kernel
theorem wvJ_le : ∀ p, p < 188 → wvJ p ≤ 16 := by decide +kernel
theorem wvJ_0 : ∀ p, p < 188 → wvJ p = 0 → wvI p = 0 ∨ wvI p = 2 ∨ wvI p = 8 ∨ wvI p = 9 := by decide +kernel
theorem wvJI_16 : ∀ v, v < 8 → 16 = wvJ (4 + v) ∧ v = wvI (4 + v) := by decide +kernel
theorem wvJI_1 : ∀ v, v < 6 → 1 = wvJ (12 + v) ∧ v = wvI (12 + v) := by decide +kernel
theorem wvJI_2 : ∀ v, v < 5 → 2 = wvJ (18 + 2 * v) ∧ v = wvI (18 + 2 * v) := by decide +kernel
theorem wvJI_3 : ∀ v, v < 5 → 3 = wvJ (19 + 2 * v) ∧ v = wvI (19 + 2 * v) := by decide +kernel
theorem wvJI_5 : ∀ l, l < 5 → ∀ t, t < 24 → 5 + l = wvJ (28 + 24 * l + t) ∧ t = wvI (28 + 24 * l + t) := by decide +kernel
theorem wvJI_11 : ∀ l, l < 5 → ∀ v, v < 8 → 11 + l = wvJ (148 + 8 * l + v) ∧ v = wvI (148 + 8 * l + v) := by decide +kernel
theorem wvJ_5' : ∀ k, k < 5 → ∀ p, p < 188 → wvJ p = 5 + k → 28 + 24 * k ≤ p ∧ p < 52 + 24 * k := by decide +kernel
theorem wvJ_11' : ∀ k, k < 5 → ∀ p, p < 188 → wvJ p = 11 + k → 148 + 8 * k ≤ p ∧ p < 156 + 8 * k := by decide +kernel
theorem wtJ_no107 : ∀ p, p < 148 → wtJ p ≠ 107 := by decide +kernel
theorem wvJ_lo : ∀ p, p < 148 → 4 ≤ p → (1 ≤ wvJ p ∧ wvJ p ≤ 9) ∨ wvJ p = 16 := by decide +kernel
theorem wvJ_cs : ∀ p, p < 28 → (wvJ p = 0 ∧ (wvI p = 0 ∨ wvI p = 2 ∨ wvI p = 8 ∨ wvI p = 9)) ∨ (wvJ p = 16 ∧ wvI p < 8) ∨ (wvJ p = 1 ∧ wvI p < 6) ∨ (wvJ p = 2 ∧ wvI p < 5) ∨ (wvJ p = 3 ∧ wvI p < 5) := by decide +kernel
def wvN (x : Int32) : Int32 := if x = 9 then -9 else if x = -9 then 9 else x
theorem wvN_o {x : Int32} (h : 0 ≤ x.toInt) (h9 : ¬ x = 9) : wvN x = x := by
  unfold wvN
  rw [if_neg h9, if_neg (fun q => by rw [q] at h; exact absurd h (by decide))]
def wvE (p : Nat) (x : Int32) : Int32 := if 28 ≤ p ∧ p < 148 then wvN x else x
def wvX (h : Nat) (σ : Mem) (p : Nat) : Int32 := wvE p (σ (h + wvJ p) (wvI p))
def wvM (σ : Mem) (p : Nat) : Int32 := σ (wtJ p) (wtI p)
theorem wvE_o {p : Nat} {x : Int32} (h : p < 28 ∨ 148 ≤ p) : wvE p x = x := if_neg (by omega)
theorem wvE_i {p : Nat} {x : Int32} (h : 28 ≤ p ∧ p < 148) : wvE p x = wvN x := if_pos h
theorem wvX_at {h q k i : Nat} {σ : Mem} {x : Int32} (hq : q < 188) (hk : k = h + wvJ q) (hi : i = wvI q) {p : Nat} (hp : p < 188) : wvX h (up2 σ k i x) p = upd (wvX h σ) q (wvE q x) p := by
  subst hk hi
  by_cases e : p = q
  · subst e; rw [wv_us]; unfold wvX; rw [up2_s]
  · have hne : ¬ (wvJ p = wvJ q ∧ wvI p = wvI q) := fun h => e (by rw [← wvPl_ok p hp, ← wvPl_ok q hq, h.1, h.2])
    rw [wv_un e]
    unfold wvX
    by_cases e2 : wvJ p = wvJ q
    · rw [e2, up2_i (fun h => hne ⟨e2, h⟩)]
    · rw [up2_k (by omega)]
theorem wvX_eq {h : Nat} {σ s : Mem} (e : ∀ p, p < 188 → s (h + wvJ p) (wvI p) = σ (h + wvJ p) (wvI p)) {p : Nat} (hp : p < 188) : wvX h s p = wvX h σ p := by
  unfold wvX
  rw [e p hp]
theorem wvX_k {h k i : Nat} {σ : Mem} {x : Int32} (hk : k < h ∨ h + 16 < k) {p : Nat} (hp : p < 188) : wvX h (up2 σ k i x) p = wvX h σ p := by
  refine wvX_eq (fun p hp => ?_) hp
  have := wvJ_le p hp
  rw [up2_k (by omega)]
theorem wvX_fr {W : Nat → Prop} {h : Nat} {τ s : Mem} (hh : wt_isH h) (hf : fr W τ s) (hW : ∀ c, h ≤ c → c ≤ h + 16 → ¬ W c) {p : Nat} (hp : p < 188) : wvX h s p = wvX h τ p := by
  refine wvX_eq (fun p hp => hf _ _ ?_) hp
  have h1 := wvJ_le p hp
  have h2 := wt_Hcs hh
  rw [wcid_lo (by omega) (by omega)]
  exact hW _ (by omega) (by omega)
theorem wvM_at {q k i : Nat} {σ : Mem} {x : Int32} (hq : q < 188) (hk : k = wtJ q) (hi : i = wtI q) {p : Nat} (hp : p < 188) : wvM (up2 σ k i x) p = upd (wvM σ) q x p := by
  subst hk hi
  by_cases e : p = q
  · subst e; rw [wv_us]; unfold wvM; rw [up2_s]
  · have hne : ¬ (wtJ p = wtJ q ∧ wtI p = wtI q) := fun h => e (by rw [← wtPl_ok p hp, ← wtPl_ok q hq, h.1, h.2])
    rw [wv_un e]
    unfold wvM
    by_cases e2 : wtJ p = wtJ q
    · rw [e2, up2_i (fun h => hne ⟨e2, h⟩)]
    · rw [up2_k e2]
theorem wvM_no {k i : Nat} {σ : Mem} {x : Int32} (hk : ¬ (102 ≤ k ∧ k ≤ 107)) (hi : ¬ (k = 101 ∧ (i = 1 ∨ i = 3 ∨ i = 8 ∨ i = 9))) {p : Nat} (hp : p < 188) : wvM (up2 σ k i x) p = wvM σ p := by
  unfold wvM
  rw [wm_key, if_neg]
  rintro ⟨rfl, rfl⟩
  have h1 := wtJ_101 p hp
  by_cases e : wtJ p = 101
  · have := wtI_fld p hp e
    exact hi ⟨e, this⟩
  · omega
theorem wvM_cid {p : Nat} (hp : p < 188) : (102 ≤ wcid (wtJ p) (wtI p) ∧ wcid (wtJ p) (wtI p) ≤ 107) ∨ wcid (wtJ p) (wtI p) = 1001 ∨ wcid (wtJ p) (wtI p) = 1003 ∨ wcid (wtJ p) (wtI p) = 1008 ∨ wcid (wtJ p) (wtI p) = 1009 := by
  have h2 := wtJ_101 p hp
  by_cases e : wtJ p = 101
  · have h3 := wtI_fld p hp e
    have h5 : wcid (wtJ p) (wtI p) = 1000 + wtI p := by rw [e]; rfl
    omega
  · have h5 : wcid (wtJ p) (wtI p) = wtJ p := wcid_M (by omega)
    omega
theorem wvM_fr {W : Nat → Prop} {τ s : Mem} (hf : fr W τ s) (hW : ∀ c, (102 ≤ c ∧ c ≤ 107) ∨ c = 1001 ∨ c = 1003 ∨ c = 1008 ∨ c = 1009 → ¬ W c) {p : Nat} (hp : p < 188) : wvM s p = wvM τ p := hf _ _ (hW _ (wvM_cid hp))
/-! what the changes do to a vector -/
def aPane (V : Nat → Int32) (x : Int32) : Nat → Int32 := upd (upd V (12 + (V 0).toNatClampNeg) x) 0 (V 0 + 1)
def aLooker (V : Nat → Int32) (k f : Int32) (p : Nat) : Int32 :=
  if p = 1 then V 1 + 1 else if p = 18 + 2 * (V 1).toNatClampNeg then k else if p = 19 + 2 * (V 1).toNatClampNeg then f else if 28 + 24 * (V 1).toNatClampNeg ≤ p ∧ p < 52 + 24 * (V 1).toNatClampNeg then -9 else if 148 + 8 * (V 1).toNatClampNeg ≤ p ∧ p < 156 + 8 * (V 1).toNatClampNeg then 0 else V p
def aStand (V : Nat → Int32) (l a b : Nat) (x : Int32) (p : Nat) : Int32 := if 28 + 24 * l + a ≤ p ∧ p ≤ 28 + 24 * l + b then wvN x else V p
def aWall (V : Nat → Int32) (x v : Int32) : Nat → Int32 := upd V (12 + x.toNatClampNeg) (V (12 + x.toNatClampNeg) ^^^ ((1 : Int32) <<< (v &&& 31)))
def aWorth (V : Nat → Int32) (v x : Int32) : Nat → Int32 := upd V (4 + v.toNatClampNeg) x
def aLaw (V : Nat → Int32) (x : Int32) : Nat → Int32 := upd V 2 x
def aDay (V : Nat → Int32) (x : Int32) : Nat → Int32 := upd V 3 (V 3 + x)
/-- the cells that count: of lookers there are -/
def live (V : Nat → Int32) (p : Nat) : Prop := (28 ≤ p → p < 148 → (p - 28) / 24 < (V 1).toNatClampNeg) ∧ (148 ≤ p → (p - 148) / 8 < (V 1).toNatClampNeg)
def weq (lim : Nat) (A B : Nat → Int32) : Prop := ∀ p, p < lim → live A p → B p = A p
theorem live_lo {V : Nat → Int32} {p : Nat} (h : p < 28) : live V p := ⟨fun h1 => by omega, fun h1 => by omega⟩
theorem weq_lo {lim : Nat} {A B : Nat → Int32} (h : weq lim A B) (hl : 28 ≤ lim) {p : Nat} (hp : p < 28) : B p = A p := h p (by omega) (live_lo hp)
theorem weq_rf {lim : Nat} {A : Nat → Int32} : weq lim A A := fun _ _ _ => rfl
theorem weq_cg {lim : Nat} {A B A' B' : Nat → Int32} (h : weq lim A B) (hl : 28 ≤ lim) (h1 : ∀ p, p < lim → A' p = A p) (h2 : ∀ p, p < lim → B' p = B p) : weq lim A' B' := by
  intro p hp hv
  rw [h1 p hp, h2 p hp]
  refine h p hp ?_
  unfold live at hv ⊢
  rw [h1 1 (by omega)] at hv
  exact hv
/-! the numbers of a vector within their bounds -/
def wvV (V : Nat → Int32) : Prop := (0 ≤ (V 0).toInt ∧ (V 0).toInt ≤ 6) ∧ (0 ≤ (V 1).toInt ∧ (V 1).toInt ≤ 5) ∧ (0 ≤ (V 2).toInt ∧ (V 2).toInt ≤ 2) ∧ (∀ p, 4 ≤ p → p < 12 → 0 ≤ (V p).toInt ∧ (V p).toInt ≤ 9) ∧ (∀ p, 28 ≤ p → p < 148 → live V p → (V p).toInt = -9 ∨ (0 ≤ (V p).toInt ∧ (V p).toInt < (V 0).toInt))
theorem wvV_cg {V V' : Nat → Int32} (h : wvV V) (e : ∀ p, p < 188 → V' p = V p) : wvV V' := by
  obtain ⟨h0, h1, h2, h3, h4⟩ := h
  refine ⟨by rw [e 0 (by decide)]; exact h0, by rw [e 1 (by decide)]; exact h1, by rw [e 2 (by decide)]; exact h2, fun p a b => by rw [e p (by omega)]; exact h3 p a b, fun p a b c => ?_⟩
  rw [e p (by omega), e 0 (by decide)]
  refine h4 p a b ?_
  unfold live at c ⊢
  rw [e 1 (by decide)] at c
  exact c
end
section
/-! the class's changes of a house -/
theorem tn_lt {x : Int32} {n : Nat} (h0 : 0 ≤ x.toInt) (h : x.toInt < (n : Int)) : x.toNatClampNeg < n := by
  rw [ti_nat]; omega
theorem ax_isPane {F h : Nat} {x : Int32} {σ : Mem} (b : (σ h 0).toInt ≤ 6) : f_X0_isPane F h x σ = some (if 0 ≤ x.toInt ∧ x.toInt < (σ h 0).toInt then 1 else 0, σ) := by
  rw [f_X0_isPane_e]
  simp only [j_X0_isPane_22_e]
  by_cases c1 : x < 0
  · rw [if_pos c1, if_neg (fun q => by have := ti_lt c1; have := q.1; rw [tz_0] at *; omega)]
  · rw [if_neg c1]
    have d1 := ti_nlt c1
    rw [tz_0] at d1
    by_cases c2 : σ h 0 ≤ x
    · rw [if_pos c2, if_neg (fun q => by have := ti_le c2; have := q.2; omega)]
    · rw [if_neg c2]
      have d2 := ti_nle c2
      rw [if_neg (fun c3 => by have := ti_le c3; rw [tz_6] at this; omega), if_pos ⟨d1, d2⟩]
theorem ax_isLooker {F h : Nat} {x : Int32} {σ : Mem} (b : (σ h 2).toInt ≤ 5) : f_X0_isLooker F h x σ = some (if 0 ≤ x.toInt ∧ x.toInt < (σ h 2).toInt then 1 else 0, σ) := by
  rw [f_X0_isLooker_e]
  simp only [j_X0_isLooker_21_e]
  by_cases c1 : x < 0
  · rw [if_pos c1, if_neg (fun q => by have := ti_lt c1; have := q.1; rw [tz_0] at *; omega)]
  · rw [if_neg c1]
    have d1 := ti_nlt c1
    rw [tz_0] at d1
    by_cases c2 : σ h 2 ≤ x
    · rw [if_pos c2, if_neg (fun q => by have := ti_le c2; have := q.2; omega)]
    · rw [if_neg c2]
      have d2 := ti_nle c2
      rw [if_neg (fun c3 => by have := ti_le c3; rw [tz_5] at this; omega), if_pos ⟨d1, d2⟩]
theorem ax_isHour {F : Nat} {x : Int32} {σ : Mem} : f_X0_isHour F x σ = some (if 0 ≤ x.toInt ∧ x.toInt ≤ 23 then 1 else 0, σ) := by
  rw [f_X0_isHour_e]
  simp only [j_X0_isHour_14_e]
  by_cases c1 : x < 0
  · rw [if_pos c1, if_neg (fun q => by have := ti_lt c1; have := q.1; rw [tz_0] at *; omega)]
  · rw [if_neg c1]
    have d1 := ti_nlt c1
    rw [tz_0] at d1
    by_cases c2 : (24 : Int32) ≤ x
    · rw [if_pos c2, if_neg (fun q => by have := ti_le c2; have := q.2; rw [tz_24] at *; omega)]
    · have d2 := ti_nle c2
      rw [tz_24] at d2
      rw [if_neg c2, if_pos ⟨d1, by omega⟩]
theorem ax_isView {F : Nat} {x : Int32} {σ : Mem} : f_X0_isView F x σ = some (if 0 ≤ x.toInt ∧ x.toInt ≤ 7 then 1 else 0, σ) := by
  rw [f_X0_isView_e]
  simp only [j_X0_isView_14_e]
  by_cases c1 : x < 0
  · rw [if_pos c1, if_neg (fun q => by have := ti_lt c1; have := q.1; rw [tz_0] at *; omega)]
  · rw [if_neg c1]
    have d1 := ti_nlt c1
    rw [tz_0] at d1
    by_cases c2 : (8 : Int32) ≤ x
    · rw [if_pos c2, if_neg (fun q => by have := ti_le c2; have := q.2; rw [tz_8] at *; omega)]
    · have d2 := ti_nle c2
      rw [tz_8] at d2
      rw [if_neg c2, if_pos ⟨d1, by omega⟩]
/-- what a change answers: 1 and it is done, or 0 and all is as it was -/
def wok (c : Prop) (r : Int32) (σ s : Mem) (h : Nat) (A : Nat → Int32) : Prop := (c → r = 1 ∧ ∀ p, p < 188 → wvX h s p = A p) ∧ (¬ c → r = 0 ∧ s = σ)
theorem wok_no {c : Prop} {σ : Mem} {h : Nat} {A : Nat → Int32} (hc : ¬ c) : wok c 0 σ σ h A := ⟨fun q => absurd q hc, fun _ => ⟨rfl, rfl⟩⟩
theorem wok_yes {c : Prop} {σ s : Mem} {h : Nat} {A : Nat → Int32} (hc : c) (hA : ∀ p, p < 188 → wvX h s p = A p) : wok c 1 σ s h A := ⟨fun _ => ⟨rfl, hA⟩, fun q => absurd hc q⟩
theorem upd_cg {f g : Nat → Int32} {k : Nat} {x y : Int32} {p : Nat} (h : f p = g p) (hx : x = y) : upd f k x p = upd g k y p := by
  subst hx
  by_cases e : p = k
  · subst e; rw [wv_us, wv_us]
  · rw [wv_un e, wv_un e, h]
theorem ax_addPane {F h : Nat} {x : Int32} {σ : Mem} (hh : wt_isH h) (b : 0 ≤ (σ h 0).toInt ∧ (σ h 0).toInt ≤ 6) : pc (f_X0_addPane F h x σ) (fun r s => wok (0 ≤ x.toInt ∧ x.toInt ≤ 255 ∧ (σ h 0).toInt < 6) r σ s h (aPane (wvX h σ) x)) := by
  have hc := wt_Hcs hh
  rw [f_X0_addPane_e]
  simp only [j_X0_addPane_27_e]
  refine pc_ite (fun c1 => pc_ret (wok_no (fun q => ?_))) (fun c1 => ?_)
  · ((try simp only [Int32.lt_iff_toInt_lt, Int32.le_iff_toInt_le, ← Int32.toInt_inj, tz_m2000, tz_m1000, tz_m9, tz_m6, tz_m4, tz_m3, tz_m2, tz_m1, tz_0, tz_1, tz_2, tz_3, tz_4, tz_5, tz_6, tz_7, tz_8, tz_9, tz_10, tz_11, tz_12, tz_20, tz_23, tz_24, tz_31, tz_48, tz_57, tz_59, tz_60, tz_95, tz_96, tz_98, tz_99, tz_100, tz_108, tz_112, tz_115, tz_117, tz_118, tz_119, tz_120, tz_188, tz_255, tz_999, tz_1000, tz_9999, tz_99999] at *) <;> omega)
  refine pc_ite (fun c2 => pc_ret (wok_no (fun q => ?_))) (fun c2 => ?_)
  · ((try simp only [Int32.lt_iff_toInt_lt, Int32.le_iff_toInt_le, ← Int32.toInt_inj, tz_m2000, tz_m1000, tz_m9, tz_m6, tz_m4, tz_m3, tz_m2, tz_m1, tz_0, tz_1, tz_2, tz_3, tz_4, tz_5, tz_6, tz_7, tz_8, tz_9, tz_10, tz_11, tz_12, tz_20, tz_23, tz_24, tz_31, tz_48, tz_57, tz_59, tz_60, tz_95, tz_96, tz_98, tz_99, tz_100, tz_108, tz_112, tz_115, tz_117, tz_118, tz_119, tz_120, tz_188, tz_255, tz_999, tz_1000, tz_9999, tz_99999] at *) <;> omega)
  refine pc_ite (fun c3 => pc_ret (wok_no (fun q => ?_))) (fun c3 => ?_)
  · ((try simp only [Int32.lt_iff_toInt_lt, Int32.le_iff_toInt_le, ← Int32.toInt_inj, tz_m2000, tz_m1000, tz_m9, tz_m6, tz_m4, tz_m3, tz_m2, tz_m1, tz_0, tz_1, tz_2, tz_3, tz_4, tz_5, tz_6, tz_7, tz_8, tz_9, tz_10, tz_11, tz_12, tz_20, tz_23, tz_24, tz_31, tz_48, tz_57, tz_59, tz_60, tz_95, tz_96, tz_98, tz_99, tz_100, tz_108, tz_112, tz_115, tz_117, tz_118, tz_119, tz_120, tz_188, tz_255, tz_999, tz_1000, tz_9999, tz_99999] at *) <;> omega)
  refine pc_ite (fun c4 => ?_) (fun c4 => pc_ret (wok_no (fun q => ?_)))
  rotate_left
  · ((try simp only [Int32.lt_iff_toInt_lt, Int32.le_iff_toInt_le, ← Int32.toInt_inj, tz_m2000, tz_m1000, tz_m9, tz_m6, tz_m4, tz_m3, tz_m2, tz_m1, tz_0, tz_1, tz_2, tz_3, tz_4, tz_5, tz_6, tz_7, tz_8, tz_9, tz_10, tz_11, tz_12, tz_20, tz_23, tz_24, tz_31, tz_48, tz_57, tz_59, tz_60, tz_95, tz_96, tz_98, tz_99, tz_100, tz_108, tz_112, tz_115, tz_117, tz_118, tz_119, tz_120, tz_188, tz_255, tz_999, tz_1000, tz_9999, tz_99999] at *) <;> omega)
  have d4 := ti_lt c4
  rw [tz_6] at d4
  have hn : (σ h 0).toNatClampNeg < 6 := tn_lt b.1 d4
  refine pc_chk (fun _ => pc_lt (fun s2 h2 => pc_lt (fun s3 h3 => pc_ret (wok_yes ⟨?_, ?_, d4⟩ (fun p hp => ?_)))))
  · ((try simp only [Int32.lt_iff_toInt_lt, Int32.le_iff_toInt_le, ← Int32.toInt_inj, tz_m2000, tz_m1000, tz_m9, tz_m6, tz_m4, tz_m3, tz_m2, tz_m1, tz_0, tz_1, tz_2, tz_3, tz_4, tz_5, tz_6, tz_7, tz_8, tz_9, tz_10, tz_11, tz_12, tz_20, tz_23, tz_24, tz_31, tz_48, tz_57, tz_59, tz_60, tz_95, tz_96, tz_98, tz_99, tz_100, tz_108, tz_112, tz_115, tz_117, tz_118, tz_119, tz_120, tz_188, tz_255, tz_999, tz_1000, tz_9999, tz_99999] at *) <;> omega)
  · ((try simp only [Int32.lt_iff_toInt_lt, Int32.le_iff_toInt_le, ← Int32.toInt_inj, tz_m2000, tz_m1000, tz_m9, tz_m6, tz_m4, tz_m3, tz_m2, tz_m1, tz_0, tz_1, tz_2, tz_3, tz_4, tz_5, tz_6, tz_7, tz_8, tz_9, tz_10, tz_11, tz_12, tz_20, tz_23, tz_24, tz_31, tz_48, tz_57, tz_59, tz_60, tz_95, tz_96, tz_98, tz_99, tz_100, tz_108, tz_112, tz_115, tz_117, tz_118, tz_119, tz_120, tz_188, tz_255, tz_999, tz_1000, tz_9999, tz_99999] at *) <;> omega)
  have hj := wvJI_1 _ hn
  rw [h3, wvX_at (k := h) (i := 0) (q := 0) (by decide) rfl rfl hp]
  unfold aPane
  refine upd_cg ?_ ?_
  · rw [h2, wvX_at (q := 12 + (σ h 0).toNatClampNeg) (by omega) (by omega) hj.2 hp, wvE_o (Or.inl (by omega))]
    rfl
  · rw [wvE_o (Or.inl (by decide)), h2, up2_k (by omega)]
    rfl
theorem ax_rule {F h : Nat} {x : Int32} {σ : Mem} : pc (f_X0_rule F h x σ) (fun r s => wok (0 ≤ x.toInt ∧ x.toInt ≤ 2) r σ s h (aLaw (wvX h σ) x)) := by
  rw [f_X0_rule_e]
  simp only [j_X0_rule_9_e]
  refine pc_ite (fun c1 => pc_ret (wok_no (fun q => ?_))) (fun c1 => ?_)
  · ((try simp only [Int32.lt_iff_toInt_lt, Int32.le_iff_toInt_le, ← Int32.toInt_inj, tz_m2000, tz_m1000, tz_m9, tz_m6, tz_m4, tz_m3, tz_m2, tz_m1, tz_0, tz_1, tz_2, tz_3, tz_4, tz_5, tz_6, tz_7, tz_8, tz_9, tz_10, tz_11, tz_12, tz_20, tz_23, tz_24, tz_31, tz_48, tz_57, tz_59, tz_60, tz_95, tz_96, tz_98, tz_99, tz_100, tz_108, tz_112, tz_115, tz_117, tz_118, tz_119, tz_120, tz_188, tz_255, tz_999, tz_1000, tz_9999, tz_99999] at *) <;> omega)
  refine pc_ite (fun c2 => ?_) (fun c2 => pc_ret (wok_no (fun q => ?_)))
  rotate_left
  · ((try simp only [Int32.lt_iff_toInt_lt, Int32.le_iff_toInt_le, ← Int32.toInt_inj, tz_m2000, tz_m1000, tz_m9, tz_m6, tz_m4, tz_m3, tz_m2, tz_m1, tz_0, tz_1, tz_2, tz_3, tz_4, tz_5, tz_6, tz_7, tz_8, tz_9, tz_10, tz_11, tz_12, tz_20, tz_23, tz_24, tz_31, tz_48, tz_57, tz_59, tz_60, tz_95, tz_96, tz_98, tz_99, tz_100, tz_108, tz_112, tz_115, tz_117, tz_118, tz_119, tz_120, tz_188, tz_255, tz_999, tz_1000, tz_9999, tz_99999] at *) <;> omega)
  refine pc_lt (fun s1 h1 => pc_ret (wok_yes ⟨?_, ?_⟩ (fun p hp => ?_)))
  · ((try simp only [Int32.lt_iff_toInt_lt, Int32.le_iff_toInt_le, ← Int32.toInt_inj, tz_m2000, tz_m1000, tz_m9, tz_m6, tz_m4, tz_m3, tz_m2, tz_m1, tz_0, tz_1, tz_2, tz_3, tz_4, tz_5, tz_6, tz_7, tz_8, tz_9, tz_10, tz_11, tz_12, tz_20, tz_23, tz_24, tz_31, tz_48, tz_57, tz_59, tz_60, tz_95, tz_96, tz_98, tz_99, tz_100, tz_108, tz_112, tz_115, tz_117, tz_118, tz_119, tz_120, tz_188, tz_255, tz_999, tz_1000, tz_9999, tz_99999] at *) <;> omega)
  · ((try simp only [Int32.lt_iff_toInt_lt, Int32.le_iff_toInt_le, ← Int32.toInt_inj, tz_m2000, tz_m1000, tz_m9, tz_m6, tz_m4, tz_m3, tz_m2, tz_m1, tz_0, tz_1, tz_2, tz_3, tz_4, tz_5, tz_6, tz_7, tz_8, tz_9, tz_10, tz_11, tz_12, tz_20, tz_23, tz_24, tz_31, tz_48, tz_57, tz_59, tz_60, tz_95, tz_96, tz_98, tz_99, tz_100, tz_108, tz_112, tz_115, tz_117, tz_118, tz_119, tz_120, tz_188, tz_255, tz_999, tz_1000, tz_9999, tz_99999] at *) <;> omega)
  rw [h1, wvX_at (k := h) (i := 8) (q := 2) (by decide) rfl rfl hp]
  rfl
theorem ax_price {F h : Nat} {x1 x2 : Int32} {σ : Mem} : pc (f_X0_price F h x1 x2 σ) (fun r s => wok (0 ≤ x1.toInt ∧ x1.toInt ≤ 7 ∧ 0 ≤ x2.toInt ∧ x2.toInt ≤ 9) r σ s h (aWorth (wvX h σ) x1 x2)) := by
  rw [f_X0_price_e]
  simp only [j_X0_price_17_e]
  refine pc_be ax_isView ?_
  by_cases c0 : 0 ≤ x1.toInt ∧ x1.toInt ≤ 7
  rotate_left
  · rw [if_neg c0, if_pos rfl]; exact pc_ret (wok_no (fun q => c0 ⟨q.1, q.2.1⟩))
  rw [if_pos c0, if_neg (by decide)]
  refine pc_ite (fun c1 => pc_ret (wok_no (fun q => ?_))) (fun c1 => ?_)
  · ((try simp only [Int32.lt_iff_toInt_lt, Int32.le_iff_toInt_le, ← Int32.toInt_inj, tz_m2000, tz_m1000, tz_m9, tz_m6, tz_m4, tz_m3, tz_m2, tz_m1, tz_0, tz_1, tz_2, tz_3, tz_4, tz_5, tz_6, tz_7, tz_8, tz_9, tz_10, tz_11, tz_12, tz_20, tz_23, tz_24, tz_31, tz_48, tz_57, tz_59, tz_60, tz_95, tz_96, tz_98, tz_99, tz_100, tz_108, tz_112, tz_115, tz_117, tz_118, tz_119, tz_120, tz_188, tz_255, tz_999, tz_1000, tz_9999, tz_99999] at *) <;> omega)
  refine pc_ite (fun c2 => ?_) (fun c2 => pc_ret (wok_no (fun q => ?_)))
  rotate_left
  · ((try simp only [Int32.lt_iff_toInt_lt, Int32.le_iff_toInt_le, ← Int32.toInt_inj, tz_m2000, tz_m1000, tz_m9, tz_m6, tz_m4, tz_m3, tz_m2, tz_m1, tz_0, tz_1, tz_2, tz_3, tz_4, tz_5, tz_6, tz_7, tz_8, tz_9, tz_10, tz_11, tz_12, tz_20, tz_23, tz_24, tz_31, tz_48, tz_57, tz_59, tz_60, tz_95, tz_96, tz_98, tz_99, tz_100, tz_108, tz_112, tz_115, tz_117, tz_118, tz_119, tz_120, tz_188, tz_255, tz_999, tz_1000, tz_9999, tz_99999] at *) <;> omega)
  have hn : x1.toNatClampNeg < 8 := tn_lt c0.1 (by omega)
  refine pc_chk (fun _ => pc_lt (fun s1 h1 => pc_ret (wok_yes ⟨c0.1, c0.2, ?_, ?_⟩ (fun p hp => ?_))))
  · ((try simp only [Int32.lt_iff_toInt_lt, Int32.le_iff_toInt_le, ← Int32.toInt_inj, tz_m2000, tz_m1000, tz_m9, tz_m6, tz_m4, tz_m3, tz_m2, tz_m1, tz_0, tz_1, tz_2, tz_3, tz_4, tz_5, tz_6, tz_7, tz_8, tz_9, tz_10, tz_11, tz_12, tz_20, tz_23, tz_24, tz_31, tz_48, tz_57, tz_59, tz_60, tz_95, tz_96, tz_98, tz_99, tz_100, tz_108, tz_112, tz_115, tz_117, tz_118, tz_119, tz_120, tz_188, tz_255, tz_999, tz_1000, tz_9999, tz_99999] at *) <;> omega)
  · ((try simp only [Int32.lt_iff_toInt_lt, Int32.le_iff_toInt_le, ← Int32.toInt_inj, tz_m2000, tz_m1000, tz_m9, tz_m6, tz_m4, tz_m3, tz_m2, tz_m1, tz_0, tz_1, tz_2, tz_3, tz_4, tz_5, tz_6, tz_7, tz_8, tz_9, tz_10, tz_11, tz_12, tz_20, tz_23, tz_24, tz_31, tz_48, tz_57, tz_59, tz_60, tz_95, tz_96, tz_98, tz_99, tz_100, tz_108, tz_112, tz_115, tz_117, tz_118, tz_119, tz_120, tz_188, tz_255, tz_999, tz_1000, tz_9999, tz_99999] at *) <;> omega)
  have hj := wvJI_16 _ hn
  rw [h1, wvX_at (q := 4 + x1.toNatClampNeg) (by omega) (by omega) hj.2 hp, wvE_o (Or.inl (by omega))]
  rfl
theorem ax_flip {F h : Nat} {x1 x2 : Int32} {σ : Mem} (b : (σ h 0).toInt ≤ 6) : pc (f_X0_flip F h x1 x2 σ) (fun r s => wok (0 ≤ x1.toInt ∧ x1.toInt < (σ h 0).toInt ∧ 0 ≤ x2.toInt ∧ x2.toInt ≤ 7) r σ s h (aWall (wvX h σ) x1 x2)) := by
  rw [f_X0_flip_e]
  simp only [j_X0_flip_15_e]
  refine pc_be (ax_isPane b) ?_
  by_cases c0 : 0 ≤ x1.toInt ∧ x1.toInt < (σ h 0).toInt
  rotate_left
  · rw [if_neg c0, if_pos rfl]; exact pc_ret (wok_no (fun q => c0 ⟨q.1, q.2.1⟩))
  rw [if_pos c0, if_neg (by decide)]
  refine pc_be ax_isView ?_
  by_cases c1 : 0 ≤ x2.toInt ∧ x2.toInt ≤ 7
  rotate_left
  · rw [if_neg c1, if_pos rfl]; exact pc_ret (wok_no (fun q => c1 ⟨q.2.2.1, q.2.2.2⟩))
  rw [if_pos c1, if_neg (by decide)]
  have hn : x1.toNatClampNeg < 6 := tn_lt c0.1 (by omega)
  refine pc_chk (fun _ => pc_lt (fun s1 h1 => pc_ret (wok_yes ⟨c0.1, c0.2, c1.1, c1.2⟩ (fun p hp => ?_))))
  have hj := wvJI_1 _ hn
  rw [h1, wvX_at (q := 12 + x1.toNatClampNeg) (by omega) (by omega) hj.2 hp, wvE_o (Or.inl (by omega))]
  unfold aWall
  refine upd_cg rfl ?_
  unfold wvX
  rw [wvE_o (Or.inl (by omega)), ← hj.1, ← hj.2]
end
section
theorem tn_int {x : Int32} {k : Nat} (h : x.toInt = (k : Int)) : x.toNatClampNeg = k := by rw [ti_nat, h]; rfl
theorem ti_nx {x : Int32} {k : Nat} (h : x.toInt = (k : Int)) (hk : k < 100000) : (x + 1).toInt = ((k + 1 : Nat) : Int) := by
  rw [ti_add (by rw [h, tz_1]; omega) (by rw [h, tz_1]; omega), h, tz_1]; rfl
/-- a row of hours filled -/
theorem ax_post_48 {F h : Nat} {x1 x3 x4 : Int32} {l b : Nat} (hl : x1.toInt = (l : Int)) (hl5 : l < 5) (hb : x3.toInt = (b : Int)) (hb24 : b < 24) : ∀ (N k : Nat) (x5 : Int32) (σ : Mem), x5.toInt = (k : Int) → k ≤ b + 1 → pc (lp_X0_post_48 F h x1 x3 x4 N x5 σ) (fun r s => r = 1 ∧ ∀ p, p < 188 → wvX h s p = aStand (wvX h σ) l k b x4 p) := by
  intro N
  induction N with
  | zero => intro k x5 σ h1 h2; exact pc_none rfl
  | succ N ih =>
    intro k x5 σ h1 h2
    rw [lp_X0_post_48_s]
    refine pc_ite (fun c => ?_) (fun c => ?_)
    · have d := ti_lt c
      refine pc_ret ⟨rfl, fun p hp => ?_⟩
      unfold aStand
      rw [if_neg (by omega)]
    · have d := ti_nlt c
      refine pc_chk (fun _ => pc_chk (fun _ => pc_lt (fun s3 h3' => ?_)))
      refine pc_mono (ih (k + 1) _ s3 (ti_nx h1 (by omega)) (by omega)) (fun r s q => ⟨q.1, fun p hp => ?_⟩)
      rw [q.2 p hp]
      have hj := wvJI_5 l hl5 k (by omega)
      have e : ∀ p, p < 188 → wvX h s3 p = upd (wvX h σ) (28 + 24 * l + k) (wvN x4) p := fun p hp => by
        rw [h3', wvX_at (q := 28 + 24 * l + k) (by omega) (by rw [tn_int hl]; omega) (by rw [tn_int h1]; exact hj.2) hp, wvE_i (by omega)]
      unfold aStand
      by_cases e1 : p = 28 + 24 * l + k
      · rw [if_neg (by omega), if_pos (by omega), e p hp, e1, wv_us]
      · by_cases e2 : 28 + 24 * l + k ≤ p ∧ p ≤ 28 + 24 * l + b
        · rw [if_pos (by omega), if_pos e2]
        · rw [if_neg (by omega), if_neg e2, e p hp, wv_un e1]
def cPost (P L : Int) (x1 x2 x3 x4 : Int32) : Prop := (0 ≤ x1.toInt ∧ x1.toInt < L) ∧ (0 ≤ x2.toInt ∧ x2.toInt ≤ 23) ∧ (0 ≤ x3.toInt ∧ x3.toInt ≤ 23) ∧ x2.toInt ≤ x3.toInt ∧ (x4.toInt = 9 ∨ (0 ≤ x4.toInt ∧ x4.toInt < P))
theorem ax_post {F h : Nat} {x1 x2 x3 x4 : Int32} {σ : Mem} (b : (σ h 0).toInt ≤ 6) (b2 : (σ h 2).toInt ≤ 5) : pc (f_X0_post F h x1 x2 x3 x4 σ) (fun r s => wok (cPost (σ h 0).toInt (σ h 2).toInt x1 x2 x3 x4) r σ s h (aStand (wvX h σ) x1.toNatClampNeg x2.toNatClampNeg x3.toNatClampNeg x4)) := by
  rw [f_X0_post_e]
  simp only [j_X0_post_43_e, j_X0_post_45_e]
  refine pc_be (ax_isLooker b2) ?_
  by_cases c0 : 0 ≤ x1.toInt ∧ x1.toInt < (σ h 2).toInt
  rotate_left
  · rw [if_neg c0, if_pos rfl]; exact pc_ret (wok_no (fun q => c0 q.1))
  rw [if_pos c0, if_neg (by decide)]
  refine pc_be ax_isHour ?_
  by_cases c1 : 0 ≤ x2.toInt ∧ x2.toInt ≤ 23
  rotate_left
  · rw [if_neg c1, if_pos rfl]; exact pc_ret (wok_no (fun q => c1 q.2.1))
  rw [if_pos c1, if_neg (by decide)]
  refine pc_be ax_isHour ?_
  by_cases c2 : 0 ≤ x3.toInt ∧ x3.toInt ≤ 23
  rotate_left
  · rw [if_neg c2, if_pos rfl]; exact pc_ret (wok_no (fun q => c2 q.2.2.1))
  rw [if_pos c2, if_neg (by decide)]
  refine pc_ite (fun c3 => pc_ret (wok_no (fun q => ?_))) (fun c3 => ?_)
  · have := ti_lt c3; have := q.2.2.2.1; omega
  have d3 := ti_nlt c3
  have l1 : x1.toInt = (x1.toNatClampNeg : Int) := by rw [ti_nat]; omega
  have l2 : x2.toInt = (x2.toNatClampNeg : Int) := by rw [ti_nat]; omega
  have l3 : x3.toInt = (x3.toNatClampNeg : Int) := by rw [ti_nat]; omega
  have go : (x4.toInt = 9 ∨ (0 ≤ x4.toInt ∧ x4.toInt < (σ h 0).toInt)) → pc (lp_X0_post_48 F h x1 x3 x4 F x2 σ) (fun r z => wok (cPost (σ h 0).toInt (σ h 2).toInt x1 x2 x3 x4) r σ z h (aStand (wvX h σ) x1.toNatClampNeg x2.toNatClampNeg x3.toNatClampNeg x4)) := fun c4 =>
    pc_mono (ax_post_48 l1 (by omega) l3 (by omega) F x2.toNatClampNeg x2 σ l2 (by omega)) (fun r z q => by
      rw [q.1]
      exact wok_yes ⟨c0, c1, c2, d3, c4⟩ q.2)
  refine pc_ite (fun c4 => ?_) (fun c4 => ?_)
  · exact go (Or.inl (ti_eq c4))
  have d4 := ti_ne c4
  refine pc_be (ax_isPane b) ?_
  by_cases c5 : 0 ≤ x4.toInt ∧ x4.toInt < (σ h 0).toInt
  rotate_left
  · rw [if_neg c5, if_pos rfl]
    exact pc_ret (wok_no (fun q => by have := q.2.2.2.2; rw [tz_9] at d4; omega))
  rw [if_pos c5, if_neg (by decide)]
  exact go (Or.inr c5)
theorem ax_addLooker_86 {F h : Nat} {n : Nat} (hn : n < 5) {y : Int32} (hy : y.toInt = (n : Int)) : ∀ (N k : Nat) (x3 : Int32) (σ : Mem), x3.toInt = (k : Int) → k ≤ 8 → σ h 2 = y → pc (lp_X0_addLooker_86 F h N x3 σ) (fun r s => r = 1 ∧ ∀ p, p < 188 → wvX h s p = if p = 1 then y + 1 else if 148 + 8 * n + k ≤ p ∧ p < 156 + 8 * n then 0 else wvX h σ p) := by
  intro N
  induction N with
  | zero => intro k x3 σ h1 h2 h4; exact pc_none rfl
  | succ N ih =>
    intro k x3 σ h1 h2 h4
    rw [lp_X0_addLooker_86_s]
    refine pc_ite (fun c => ?_) (fun c => ?_)
    · have d := ti_le c
      rw [tz_8] at d
      refine pc_lt (fun s1 hs => pc_ret ⟨rfl, fun p hp => ?_⟩)
      rw [hs, wvX_at (k := h) (i := 2) (q := 1) (by decide) rfl rfl hp, wvE_o (Or.inl (by decide)), h4]
      by_cases e : p = 1
      · subst e; rw [wv_us, if_pos rfl]
      · rw [wv_un e, if_neg e, if_neg (by omega)]
    · have d := ti_nle c
      rw [tz_8] at d
      rw [h4]
      refine pc_chk (fun _ => pc_chk (fun _ => pc_lt (fun s4 hs => ?_)))
      have hne : ¬ h = h + 11 + y.toNatClampNeg := by omega
      refine pc_mono (ih (k + 1) _ s4 (ti_nx h1 (by omega)) (by omega) (by rw [hs, up2_k hne, h4])) (fun r s q => ⟨q.1, fun p hp => ?_⟩)
      rw [q.2 p hp]
      have hj := wvJI_11 n hn k (by omega)
      have e : wvX h s4 p = upd (wvX h σ) (148 + 8 * n + k) 0 p := by
        rw [hs, wvX_at (q := 148 + 8 * n + k) (by omega) (by rw [tn_int hy]; omega) (by rw [tn_int h1]; exact hj.2) hp, wvE_o (Or.inr (by omega))]
      by_cases e0 : p = 1
      · rw [if_pos e0, if_pos e0]
      rw [if_neg e0, if_neg e0]
      by_cases e1 : p = 148 + 8 * n + k
      · rw [if_neg (by omega), if_pos (by omega), e, e1, wv_us]
      · by_cases e2 : 148 + 8 * n + k ≤ p ∧ p < 156 + 8 * n
        · rw [if_pos (by omega), if_pos e2]
        · rw [if_neg (by omega), if_neg e2, e, wv_un e1]
theorem ax_addLooker_59 {F h : Nat} {n : Nat} (hn : n < 5) {y : Int32} (hy : y.toInt = (n : Int)) : ∀ (N k : Nat) (x3 : Int32) (σ : Mem), x3.toInt = (k : Int) → k ≤ 24 → σ h 2 = y → pc (lp_X0_addLooker_59 F h N x3 σ) (fun r s => r = 1 ∧ ∀ p, p < 188 → wvX h s p = if p = 1 then y + 1 else if 28 + 24 * n + k ≤ p ∧ p < 52 + 24 * n then -9 else if 148 + 8 * n ≤ p ∧ p < 156 + 8 * n then 0 else wvX h σ p) := by
  intro N
  induction N with
  | zero => intro k x3 σ h1 h2 h4; exact pc_none rfl
  | succ N ih =>
    intro k x3 σ h1 h2 h4
    rw [lp_X0_addLooker_59_s]
    refine pc_ite (fun c => ?_) (fun c => ?_)
    · have d := ti_le c
      rw [tz_24] at d
      refine pc_mono (ax_addLooker_86 hn hy F 0 0 σ rfl (by omega) h4) (fun r s q => ⟨q.1, fun p hp => ?_⟩)
      rw [q.2 p hp]
      by_cases e : p = 1
      · rw [if_pos e, if_pos e]
      · rw [if_neg e, if_neg e, if_neg (show ¬ (28 + 24 * n + k ≤ p ∧ p < 52 + 24 * n) by omega)]
        rfl
    · have d := ti_nle c
      rw [tz_24] at d
      rw [h4]
      refine pc_chk (fun _ => pc_chk (fun _ => pc_lt (fun s4 hs => ?_)))
      have hne : ¬ h = h + 5 + y.toNatClampNeg := by omega
      refine pc_mono (ih (k + 1) _ s4 (ti_nx h1 (by omega)) (by omega) (by rw [hs, up2_k hne, h4])) (fun r s q => ⟨q.1, fun p hp => ?_⟩)
      rw [q.2 p hp]
      have hj := wvJI_5 n hn k (by omega)
      have e : wvX h s4 p = upd (wvX h σ) (28 + 24 * n + k) (-9) p := by
        rw [hs, wvX_at (q := 28 + 24 * n + k) (by omega) (by rw [tn_int hy]; omega) (by rw [tn_int h1]; exact hj.2) hp, wvE_i (by omega)]
        rfl
      by_cases e0 : p = 1
      · rw [if_pos e0, if_pos e0]
      rw [if_neg e0, if_neg e0]
      by_cases e1 : p = 28 + 24 * n + k
      · rw [if_neg (by omega), if_pos (show 28 + 24 * n + k ≤ p ∧ p < 52 + 24 * n by omega), if_neg (by omega), e, e1, wv_us]
      · by_cases e2 : 28 + 24 * n + k ≤ p ∧ p < 52 + 24 * n
        · rw [if_pos (show 28 + 24 * n + (k + 1) ≤ p ∧ p < 52 + 24 * n by omega), if_pos e2]
        · rw [if_neg (show ¬ (28 + 24 * n + (k + 1) ≤ p ∧ p < 52 + 24 * n) by omega), if_neg e2, e, wv_un e1]
theorem ax_addLooker {F h : Nat} {x1 x2 : Int32} {σ : Mem} (hh : wt_isH h) (b : 0 ≤ (σ h 2).toInt ∧ (σ h 2).toInt ≤ 5) : pc (f_X0_addLooker F h x1 x2 σ) (fun r s => wok ((0 ≤ x1.toInt ∧ x1.toInt ≤ 5) ∧ (0 ≤ x2.toInt ∧ x2.toInt ≤ 9) ∧ (σ h 2).toInt < 5) r σ s h (aLooker (wvX h σ) x1 x2)) := by
  have hc := wt_Hcs hh
  rw [f_X0_addLooker_e]
  simp only [j_X0_addLooker_35_e]
  refine pc_ite (fun c1 => pc_ret (wok_no (fun q => ?_))) (fun c1 => ?_)
  · ((try simp only [Int32.lt_iff_toInt_lt, Int32.le_iff_toInt_le, ← Int32.toInt_inj, tz_m2000, tz_m1000, tz_m9, tz_m6, tz_m4, tz_m3, tz_m2, tz_m1, tz_0, tz_1, tz_2, tz_3, tz_4, tz_5, tz_6, tz_7, tz_8, tz_9, tz_10, tz_11, tz_12, tz_20, tz_23, tz_24, tz_31, tz_48, tz_57, tz_59, tz_60, tz_95, tz_96, tz_98, tz_99, tz_100, tz_108, tz_112, tz_115, tz_117, tz_118, tz_119, tz_120, tz_188, tz_255, tz_999, tz_1000, tz_9999, tz_99999] at *) <;> omega)
  refine pc_ite (fun c2 => pc_ret (wok_no (fun q => ?_))) (fun c2 => ?_)
  · ((try simp only [Int32.lt_iff_toInt_lt, Int32.le_iff_toInt_le, ← Int32.toInt_inj, tz_m2000, tz_m1000, tz_m9, tz_m6, tz_m4, tz_m3, tz_m2, tz_m1, tz_0, tz_1, tz_2, tz_3, tz_4, tz_5, tz_6, tz_7, tz_8, tz_9, tz_10, tz_11, tz_12, tz_20, tz_23, tz_24, tz_31, tz_48, tz_57, tz_59, tz_60, tz_95, tz_96, tz_98, tz_99, tz_100, tz_108, tz_112, tz_115, tz_117, tz_118, tz_119, tz_120, tz_188, tz_255, tz_999, tz_1000, tz_9999, tz_99999] at *) <;> omega)
  refine pc_ite (fun c3 => pc_ret (wok_no (fun q => ?_))) (fun c3 => ?_)
  · ((try simp only [Int32.lt_iff_toInt_lt, Int32.le_iff_toInt_le, ← Int32.toInt_inj, tz_m2000, tz_m1000, tz_m9, tz_m6, tz_m4, tz_m3, tz_m2, tz_m1, tz_0, tz_1, tz_2, tz_3, tz_4, tz_5, tz_6, tz_7, tz_8, tz_9, tz_10, tz_11, tz_12, tz_20, tz_23, tz_24, tz_31, tz_48, tz_57, tz_59, tz_60, tz_95, tz_96, tz_98, tz_99, tz_100, tz_108, tz_112, tz_115, tz_117, tz_118, tz_119, tz_120, tz_188, tz_255, tz_999, tz_1000, tz_9999, tz_99999] at *) <;> omega)
  refine pc_ite (fun c4 => pc_ret (wok_no (fun q => ?_))) (fun c4 => ?_)
  · ((try simp only [Int32.lt_iff_toInt_lt, Int32.le_iff_toInt_le, ← Int32.toInt_inj, tz_m2000, tz_m1000, tz_m9, tz_m6, tz_m4, tz_m3, tz_m2, tz_m1, tz_0, tz_1, tz_2, tz_3, tz_4, tz_5, tz_6, tz_7, tz_8, tz_9, tz_10, tz_11, tz_12, tz_20, tz_23, tz_24, tz_31, tz_48, tz_57, tz_59, tz_60, tz_95, tz_96, tz_98, tz_99, tz_100, tz_108, tz_112, tz_115, tz_117, tz_118, tz_119, tz_120, tz_188, tz_255, tz_999, tz_1000, tz_9999, tz_99999] at *) <;> omega)
  refine pc_ite (fun c5 => pc_ret (wok_no (fun q => ?_))) (fun c5 => ?_)
  · ((try simp only [Int32.lt_iff_toInt_lt, Int32.le_iff_toInt_le, ← Int32.toInt_inj, tz_m2000, tz_m1000, tz_m9, tz_m6, tz_m4, tz_m3, tz_m2, tz_m1, tz_0, tz_1, tz_2, tz_3, tz_4, tz_5, tz_6, tz_7, tz_8, tz_9, tz_10, tz_11, tz_12, tz_20, tz_23, tz_24, tz_31, tz_48, tz_57, tz_59, tz_60, tz_95, tz_96, tz_98, tz_99, tz_100, tz_108, tz_112, tz_115, tz_117, tz_118, tz_119, tz_120, tz_188, tz_255, tz_999, tz_1000, tz_9999, tz_99999] at *) <;> omega)
  refine pc_ite (fun c6 => ?_) (fun c6 => pc_ret (wok_no (fun q => ?_)))
  rotate_left
  · ((try simp only [Int32.lt_iff_toInt_lt, Int32.le_iff_toInt_le, ← Int32.toInt_inj, tz_m2000, tz_m1000, tz_m9, tz_m6, tz_m4, tz_m3, tz_m2, tz_m1, tz_0, tz_1, tz_2, tz_3, tz_4, tz_5, tz_6, tz_7, tz_8, tz_9, tz_10, tz_11, tz_12, tz_20, tz_23, tz_24, tz_31, tz_48, tz_57, tz_59, tz_60, tz_95, tz_96, tz_98, tz_99, tz_100, tz_108, tz_112, tz_115, tz_117, tz_118, tz_119, tz_120, tz_188, tz_255, tz_999, tz_1000, tz_9999, tz_99999] at *) <;> omega)
  have d6 := ti_lt c6
  rw [tz_5] at d6
  have hn : (σ h 2).toNatClampNeg < 5 := tn_lt b.1 d6
  have hy : (σ h 2).toInt = ((σ h 2).toNatClampNeg : Int) := by rw [ti_nat]; omega
  refine pc_chk (fun _ => pc_lt (fun s9 h9 => ?_))
  have e9 : s9 h 2 = σ h 2 := by rw [h9, up2_k (by omega)]
  rw [e9]
  refine pc_chk (fun _ => pc_lt (fun s11 h11 => ?_))
  have e11 : s11 h 2 = σ h 2 := by rw [h11, up2_k (by omega), e9]
  refine pc_mono (ax_addLooker_59 hn hy F 0 0 s11 rfl (by omega) e11) (fun r s q => ?_)
  rw [q.1]
  refine wok_yes ⟨⟨?_, ?_⟩, ⟨?_, ?_⟩, d6⟩ (fun p hp => ?_)
  · ((try simp only [Int32.lt_iff_toInt_lt, Int32.le_iff_toInt_le, ← Int32.toInt_inj, tz_m2000, tz_m1000, tz_m9, tz_m6, tz_m4, tz_m3, tz_m2, tz_m1, tz_0, tz_1, tz_2, tz_3, tz_4, tz_5, tz_6, tz_7, tz_8, tz_9, tz_10, tz_11, tz_12, tz_20, tz_23, tz_24, tz_31, tz_48, tz_57, tz_59, tz_60, tz_95, tz_96, tz_98, tz_99, tz_100, tz_108, tz_112, tz_115, tz_117, tz_118, tz_119, tz_120, tz_188, tz_255, tz_999, tz_1000, tz_9999, tz_99999] at *) <;> omega)
  · ((try simp only [Int32.lt_iff_toInt_lt, Int32.le_iff_toInt_le, ← Int32.toInt_inj, tz_m2000, tz_m1000, tz_m9, tz_m6, tz_m4, tz_m3, tz_m2, tz_m1, tz_0, tz_1, tz_2, tz_3, tz_4, tz_5, tz_6, tz_7, tz_8, tz_9, tz_10, tz_11, tz_12, tz_20, tz_23, tz_24, tz_31, tz_48, tz_57, tz_59, tz_60, tz_95, tz_96, tz_98, tz_99, tz_100, tz_108, tz_112, tz_115, tz_117, tz_118, tz_119, tz_120, tz_188, tz_255, tz_999, tz_1000, tz_9999, tz_99999] at *) <;> omega)
  · ((try simp only [Int32.lt_iff_toInt_lt, Int32.le_iff_toInt_le, ← Int32.toInt_inj, tz_m2000, tz_m1000, tz_m9, tz_m6, tz_m4, tz_m3, tz_m2, tz_m1, tz_0, tz_1, tz_2, tz_3, tz_4, tz_5, tz_6, tz_7, tz_8, tz_9, tz_10, tz_11, tz_12, tz_20, tz_23, tz_24, tz_31, tz_48, tz_57, tz_59, tz_60, tz_95, tz_96, tz_98, tz_99, tz_100, tz_108, tz_112, tz_115, tz_117, tz_118, tz_119, tz_120, tz_188, tz_255, tz_999, tz_1000, tz_9999, tz_99999] at *) <;> omega)
  · ((try simp only [Int32.lt_iff_toInt_lt, Int32.le_iff_toInt_le, ← Int32.toInt_inj, tz_m2000, tz_m1000, tz_m9, tz_m6, tz_m4, tz_m3, tz_m2, tz_m1, tz_0, tz_1, tz_2, tz_3, tz_4, tz_5, tz_6, tz_7, tz_8, tz_9, tz_10, tz_11, tz_12, tz_20, tz_23, tz_24, tz_31, tz_48, tz_57, tz_59, tz_60, tz_95, tz_96, tz_98, tz_99, tz_100, tz_108, tz_112, tz_115, tz_117, tz_118, tz_119, tz_120, tz_188, tz_255, tz_999, tz_1000, tz_9999, tz_99999] at *) <;> omega)
  rw [q.2 p hp]
  have hj2 := wvJI_2 _ hn
  have hj3 := wvJI_3 _ hn
  have e : wvX h s11 p = upd (upd (wvX h σ) (18 + 2 * (σ h 2).toNatClampNeg) x1) (19 + 2 * (σ h 2).toNatClampNeg) x2 p := by
    rw [h11, wvX_at (q := 19 + 2 * (σ h 2).toNatClampNeg) (by omega) (by omega) hj3.2 hp, wvE_o (Or.inl (by omega))]
    refine upd_cg ?_ rfl
    rw [h9, wvX_at (q := 18 + 2 * (σ h 2).toNatClampNeg) (by omega) (by omega) hj2.2 hp, wvE_o (Or.inl (by omega))]
  unfold aLooker
  show _ = if p = 1 then σ h 2 + 1 else if p = 18 + 2 * (σ h 2).toNatClampNeg then x1 else if p = 19 + 2 * (σ h 2).toNatClampNeg then x2 else if 28 + 24 * (σ h 2).toNatClampNeg ≤ p ∧ p < 52 + 24 * (σ h 2).toNatClampNeg then -9 else if 148 + 8 * (σ h 2).toNatClampNeg ≤ p ∧ p < 156 + 8 * (σ h 2).toNatClampNeg then 0 else wvX h σ p
  by_cases e0 : p = 1
  · rw [if_pos e0, if_pos e0]
  rw [if_neg e0, if_neg e0, e]
  by_cases e1 : p = 18 + 2 * (σ h 2).toNatClampNeg
  · rw [if_pos e1, if_neg (by omega), if_neg (by omega), wv_un (by omega), e1, wv_us]
  rw [if_neg e1]
  by_cases e2 : p = 19 + 2 * (σ h 2).toNatClampNeg
  · rw [if_pos e2, if_neg (by omega), if_neg (by omega), e2, wv_us]
  rw [if_neg e2, wv_un e2, wv_un e1]
  rfl
/-- one house taken over into another -/
theorem ax_takeFrom_92 {F h g : Nat} (hg : g + 23 ≤ h ∨ h + 23 ≤ g) {τ : Mem} : ∀ (N k : Nat) (x2 : Int32) (σ : Mem), x2.toInt = (k : Int) → k ≤ 5 → (∀ q, g ≤ q → q < g + 23 → σ q = τ q) → (∀ p, p < 188 → (p < 28 ∨ (28 ≤ p ∧ p < 28 + 24 * k) ∨ (148 ≤ p ∧ p < 148 + 8 * k)) → wvX h σ p = wvX g τ p) → pc (lp_X0_takeFrom_92 F h g N x2 σ) (fun _ s => ∀ p, p < 188 → wvX h s p = wvX g τ p) := by
  intro N
  induction N with
  | zero => intro k x2 σ h1 h2 h4 h5; exact pc_none rfl
  | succ N ih =>
    intro k x2 σ h1 h2 h4 h5
    rw [lp_X0_takeFrom_92_s]
    refine pc_ite (fun c => ?_) (fun c => ?_)
    · have d := ti_le c
      rw [tz_5] at d
      exact pc_ret (fun p hp => h5 p hp (by omega))
    · have d := ti_nle c
      rw [tz_5] at d
      refine pc_chk (fun _ => pc_lt (fun s2 hs2 => pc_lt (fun s3 hs3 => ?_)))
      rw [tn_int h1] at hs2 hs3
      refine ih (k + 1) _ s3 (ti_nx h1 (by omega)) (by omega) (fun q a b => ?_) (fun p hp hcs => ?_)
      · rw [hs3, upA_k (by omega), hs2, upA_k (by omega)]; exact h4 q a b
      · by_cases e1 : 28 + 24 * k ≤ p ∧ p < 28 + 24 * (k + 1)
        · have hj := wvJI_5 k (by omega) (p - (28 + 24 * k)) (by omega)
          rw [show 28 + 24 * k + (p - (28 + 24 * k)) = p by omega] at hj
          unfold wvX
          rw [← hj.1, ← hj.2, hs3, upA_k (by omega), hs2, show h + (5 + k) = h + 5 + k by omega, upA_s, sb_cpy0 (by omega), h4 _ (by omega) (by omega), show g + (5 + k) = g + 5 + k by omega]
        · by_cases e2 : 148 + 8 * k ≤ p ∧ p < 148 + 8 * (k + 1)
          · have hj := wvJI_11 k (by omega) (p - (148 + 8 * k)) (by omega)
            rw [show 148 + 8 * k + (p - (148 + 8 * k)) = p by omega] at hj
            unfold wvX
            rw [← hj.1, ← hj.2, hs3, show h + (11 + k) = h + 11 + k by omega, upA_s, sb_cpy0 (by omega), hs2, upA_k (by omega), h4 _ (by omega) (by omega), show g + (11 + k) = g + 11 + k by omega]
          · rw [← h5 p hp (by omega)]
            have n1 : ¬ wvJ p = 5 + k := fun q => e1 (by have := wvJ_5' k (by omega) p hp q; omega)
            have n2 : ¬ wvJ p = 11 + k := fun q => e2 (by have := wvJ_11' k (by omega) p hp q; omega)
            unfold wvX
            rw [hs3, upA_k (by omega), hs2, upA_k (by omega)]
theorem ax_takeFrom {F h g : Nat} (hg : g + 23 ≤ h ∨ h + 23 ≤ g) {σ : Mem} : pc (f_X0_takeFrom F h g σ) (fun _ s => ∀ p, p < 188 → wvX h s p = wvX g σ p) := by
  rw [f_X0_takeFrom_e]
  refine pc_lt (fun s4 h4 => pc_lt (fun s5 h5 => pc_lt (fun s6 h6 => pc_lt (fun s7 h7 => pc_lt (fun s8 h8 => pc_lt (fun s9 h9 => pc_lt (fun s10 h10 => pc_lt (fun s11 h11 => ?_))))))))
  have o4 : ∀ q, ¬ q = h → s4 q = σ q := fun q n => by rw [h4, up2_k n]
  have o5 : ∀ q, ¬ q = h → s5 q = σ q := fun q n => by rw [h5, up2_k n, o4 q n]
  have o6 : ∀ q, ¬ q = h → s6 q = σ q := fun q n => by rw [h6, up2_k n, o5 q n]
  have o7 : ∀ q, ¬ q = h → s7 q = σ q := fun q n => by rw [h7, up2_k n, o6 q n]
  have f7 : s7 h 0 = σ g 0 ∧ s7 h 2 = σ g 2 ∧ s7 h 8 = σ g 8 ∧ s7 h 9 = σ g 9 := by
    refine ⟨?_, ?_, ?_, ?_⟩
    · rw [h7, up2_i (by decide), h6, up2_i (by decide), h5, up2_i (by decide), h4, up2_s]
    · rw [h7, up2_i (by decide), h6, up2_i (by decide), h5, up2_s, o4 g (by omega)]
    · rw [h7, up2_i (by decide), h6, up2_s, o5 g (by omega)]
    · rw [h7, up2_s, o6 g (by omega)]
  have o11 : ∀ q, ¬ q = h → ¬ q = h + 1 → ¬ q = h + 2 → ¬ q = h + 3 → ¬ q = h + 16 → s11 q = σ q := fun q n0 n1 n2 n3 n4 => by
    rw [h11, upA_k n4, h10, upA_k n3, h9, upA_k n2, h8, upA_k n1, o7 q n0]
  have f11 : s11 h = s7 h := by rw [h11, upA_k (by omega), h10, upA_k (by omega), h9, upA_k (by omega), h8, upA_k (by omega)]
  have f1 : ∀ i, i < 6 → s11 (h + 1) i = σ (g + 1) i := fun i hi => by
    rw [h11, upA_k (by omega), h10, upA_k (by omega), h9, upA_k (by omega), h8, upA_s, sb_cpy0 hi, o7 _ (by omega)]
  have f2 : ∀ i, i < 5 → s11 (h + 2) i = σ (g + 2) i := fun i hi => by
    rw [h11, upA_k (by omega), h10, upA_k (by omega), h9, upA_s, sb_cpy0 hi, h8, upA_k (by omega), o7 _ (by omega)]
  have f3 : ∀ i, i < 5 → s11 (h + 3) i = σ (g + 3) i := fun i hi => by
    rw [h11, upA_k (by omega), h10, upA_s, sb_cpy0 hi, h9, upA_k (by omega), h8, upA_k (by omega), o7 _ (by omega)]
  have f16 : ∀ i, i < 8 → s11 (h + 16) i = σ (g + 16) i := fun i hi => by
    rw [h11, upA_s, sb_cpy0 hi, h10, upA_k (by omega), h9, upA_k (by omega), h8, upA_k (by omega), o7 _ (by omega)]
  refine ax_takeFrom_92 (τ := σ) hg F 0 0 s11 rfl (by omega) (fun q a b => o11 q (by omega) (by omega) (by omega) (by omega) (by omega)) (fun p hp hcs => ?_)
  have hp28 : p < 28 := by omega
  unfold wvX
  congr 1
  have hj := wvJ_cs p hp28
  rcases hj with ⟨a, b⟩ | ⟨a, b⟩ | ⟨a, b⟩ | ⟨a, b⟩ | ⟨a, b⟩
  · rw [a]
    show s11 h (wvI p) = σ g (wvI p)
    rw [f11]
    rcases b with e | e | e | e <;> rw [e]
    · exact f7.1
    · exact f7.2.1
    · exact f7.2.2.1
    · exact f7.2.2.2
  · rw [a]; exact f16 _ b
  · rw [a]; exact f1 _ b
  · rw [a]; exact f2 _ b
  · rw [a]; exact f3 _ b
/-- days pass: the day; what is below the counts stays -/
theorem ax_pass_41 {F h : Nat} {k31 : Int32 → Mem → Option (Int32 × Mem)} {x1 x2 : Int32} {y : Nat → Int32} {Q : Int32 → Mem → Prop} (hk : ∀ (x : Int32) (σ : Mem), σ h = y → pc (k31 x σ) Q) : ∀ (N : Nat) (x3 : Int32) (σ : Mem), σ h = y → pc (lp_X0_pass_41 F k31 h x1 x2 N x3 σ) Q := by
  intro N
  induction N with
  | zero => intro x3 σ h1; exact pc_none rfl
  | succ N ih =>
    intro x3 σ h1
    rw [lp_X0_pass_41_s]
    refine pc_ite (fun c => hk _ _ h1) (fun c => pc_chk (fun v => ?_))
    refine pc_bnd (P := fun _ s => s = σ) (fun a s e => ?_) (fun r s e => ?_)
    · rw [f_X0_behind_e] at e
      revert a s
      exact pc_chk (fun _ => pc_chk (fun _ => pc_ret rfl))
    · refine pc_chk (fun v2 => pc_lt (fun s5 h5 => ih _ _ ?_))
      rw [h5, up2_k (by omega), e, h1]
theorem ax_pass_31 {F h : Nat} {x1 : Int32} {y : Nat → Int32} : ∀ (N : Nat) (x2 : Int32) (σ : Mem), σ h = y → pc (lp_X0_pass_31 F h x1 N x2 σ) (fun r s => r = 1 ∧ s h = upd y 9 (y 9 + x1)) := by
  intro N
  induction N with
  | zero => intro x2 σ h1; exact pc_none rfl
  | succ N ih =>
    intro x2 σ h1
    rw [lp_X0_pass_31_s]
    refine pc_ite (fun c => pc_lt (fun s6 h6 => pc_ret ⟨rfl, ?_⟩)) (fun c => ax_pass_41 ih _ _ _ h1)
    rw [h6]
    unfold up2
    rw [if_pos rfl, h1]
theorem ax_pass {F h : Nat} (hF : 1000 ≤ F) {x : Int32} {σ : Mem} (hh : wt_isH h) : pc (f_X0_pass F h x σ) (fun r s => ((1 ≤ x.toInt ∧ x.toInt ≤ 99 ∧ (σ h 9 + x).toInt ≤ 9999) → r = 1 ∧ ∀ p, p < 148 → wvX h s p = aDay (wvX h σ) x p) ∧ (¬ (1 ≤ x.toInt ∧ x.toInt ≤ 99 ∧ (σ h 9 + x).toInt ≤ 9999) → r = 0 ∧ s = σ)) := by
  have hc := wt_Hcs hh
  refine pc_mono (pc_and (P := fun r s => ((1 ≤ x.toInt ∧ x.toInt ≤ 99 ∧ (σ h 9 + x).toInt ≤ 9999) → r = 1 ∧ s h = upd (σ h) 9 (σ h 9 + x)) ∧ (¬ (1 ≤ x.toInt ∧ x.toInt ≤ 99 ∧ (σ h 9 + x).toInt ≤ 9999) → r = 0 ∧ s = σ)) ?_ (pc_pf (fr_X0_pass hF hh))) (fun r s q => ⟨fun c => ⟨(q.1.1 c).1, fun p hp => ?_⟩, q.1.2⟩)
  · rw [f_X0_pass_e]
    simp only [j_X0_pass_23_e]
    refine pc_ite (fun c1 => pc_ret ⟨fun q => ?_, fun _ => ⟨rfl, rfl⟩⟩) (fun c1 => ?_)
    · exfalso; ((try simp only [Int32.lt_iff_toInt_lt, Int32.le_iff_toInt_le, ← Int32.toInt_inj, tz_m2000, tz_m1000, tz_m9, tz_m6, tz_m4, tz_m3, tz_m2, tz_m1, tz_0, tz_1, tz_2, tz_3, tz_4, tz_5, tz_6, tz_7, tz_8, tz_9, tz_10, tz_11, tz_12, tz_20, tz_23, tz_24, tz_31, tz_48, tz_57, tz_59, tz_60, tz_95, tz_96, tz_98, tz_99, tz_100, tz_108, tz_112, tz_115, tz_117, tz_118, tz_119, tz_120, tz_188, tz_255, tz_999, tz_1000, tz_9999, tz_99999] at *) <;> omega)
    refine pc_ite (fun c2 => pc_ret ⟨fun q => ?_, fun _ => ⟨rfl, rfl⟩⟩) (fun c2 => ?_)
    · exfalso; ((try simp only [Int32.lt_iff_toInt_lt, Int32.le_iff_toInt_le, ← Int32.toInt_inj, tz_m2000, tz_m1000, tz_m9, tz_m6, tz_m4, tz_m3, tz_m2, tz_m1, tz_0, tz_1, tz_2, tz_3, tz_4, tz_5, tz_6, tz_7, tz_8, tz_9, tz_10, tz_11, tz_12, tz_20, tz_23, tz_24, tz_31, tz_48, tz_57, tz_59, tz_60, tz_95, tz_96, tz_98, tz_99, tz_100, tz_108, tz_112, tz_115, tz_117, tz_118, tz_119, tz_120, tz_188, tz_255, tz_999, tz_1000, tz_9999, tz_99999] at *) <;> omega)
    refine pc_ite (fun c3 => ?_) (fun c3 => pc_ret ⟨fun q => ?_, fun _ => ⟨rfl, rfl⟩⟩)
    rotate_left
    · exfalso; ((try simp only [Int32.lt_iff_toInt_lt, Int32.le_iff_toInt_le, ← Int32.toInt_inj, tz_m2000, tz_m1000, tz_m9, tz_m6, tz_m4, tz_m3, tz_m2, tz_m1, tz_0, tz_1, tz_2, tz_3, tz_4, tz_5, tz_6, tz_7, tz_8, tz_9, tz_10, tz_11, tz_12, tz_20, tz_23, tz_24, tz_31, tz_48, tz_57, tz_59, tz_60, tz_95, tz_96, tz_98, tz_99, tz_100, tz_108, tz_112, tz_115, tz_117, tz_118, tz_119, tz_120, tz_188, tz_255, tz_999, tz_1000, tz_9999, tz_99999] at *) <;> omega)
    refine pc_bnd (pc_pf (fr_X0_reckon hF hh)) (fun _ s8 f8 => ?_)
    have e8 : s8 h = σ h := funext fun i => f8 h i (fun w => by rw [wcid_lo (by omega) (by omega)] at w; revert w; unfold wf_8; omega)
    refine pc_mono (ax_pass_31 F 0 s8 e8) (fun r s q => ⟨fun _ => q, fun n => ?_⟩)
    exfalso
    apply n
    refine ⟨?_, ?_, ?_⟩
    · ((try simp only [Int32.lt_iff_toInt_lt, Int32.le_iff_toInt_le, ← Int32.toInt_inj, tz_m2000, tz_m1000, tz_m9, tz_m6, tz_m4, tz_m3, tz_m2, tz_m1, tz_0, tz_1, tz_2, tz_3, tz_4, tz_5, tz_6, tz_7, tz_8, tz_9, tz_10, tz_11, tz_12, tz_20, tz_23, tz_24, tz_31, tz_48, tz_57, tz_59, tz_60, tz_95, tz_96, tz_98, tz_99, tz_100, tz_108, tz_112, tz_115, tz_117, tz_118, tz_119, tz_120, tz_188, tz_255, tz_999, tz_1000, tz_9999, tz_99999] at *) <;> omega)
    · ((try simp only [Int32.lt_iff_toInt_lt, Int32.le_iff_toInt_le, ← Int32.toInt_inj, tz_m2000, tz_m1000, tz_m9, tz_m6, tz_m4, tz_m3, tz_m2, tz_m1, tz_0, tz_1, tz_2, tz_3, tz_4, tz_5, tz_6, tz_7, tz_8, tz_9, tz_10, tz_11, tz_12, tz_20, tz_23, tz_24, tz_31, tz_48, tz_57, tz_59, tz_60, tz_95, tz_96, tz_98, tz_99, tz_100, tz_108, tz_112, tz_115, tz_117, tz_118, tz_119, tz_120, tz_188, tz_255, tz_999, tz_1000, tz_9999, tz_99999] at *) <;> omega)
    · ((try simp only [Int32.lt_iff_toInt_lt, Int32.le_iff_toInt_le, ← Int32.toInt_inj, tz_m2000, tz_m1000, tz_m9, tz_m6, tz_m4, tz_m3, tz_m2, tz_m1, tz_0, tz_1, tz_2, tz_3, tz_4, tz_5, tz_6, tz_7, tz_8, tz_9, tz_10, tz_11, tz_12, tz_20, tz_23, tz_24, tz_31, tz_48, tz_57, tz_59, tz_60, tz_95, tz_96, tz_98, tz_99, tz_100, tz_108, tz_112, tz_115, tz_117, tz_118, tz_119, tz_120, tz_188, tz_255, tz_999, tz_1000, tz_9999, tz_99999] at *) <;> omega)
  · obtain ⟨⟨qy, -⟩, f⟩ := q
    have q2 := (qy c).2
    unfold aDay
    by_cases e : p < 4
    · have hj : wvJ p = 0 := by unfold wvJ; rw [if_pos e]
      unfold wvX
      rw [wvE_o (Or.inl (by omega)), hj]
      show s h (wvI p) = _
      rw [q2]
      rcases (show p = 0 ∨ p = 1 ∨ p = 2 ∨ p = 3 by omega) with rfl | rfl | rfl | rfl <;> rfl
    · rw [wv_un (by omega)]
      unfold wvX
      have h1 := wvJ_le p (by omega)
      have h2 := wvJ_lo p hp (by omega)
      rw [f _ _ (fun w => by rw [wcid_lo (by omega) (by omega)] at w; revert w; unfold wf_9; omega)]
end
section
/-! steps of the class: a ring of 8 -/
theorem ax_mod8 {x : Int32} (h0 : 0 ≤ x.toInt) : (x - x / (8 : Int32) * (8 : Int32)).toInt = x.toInt % 8 := by
  rw [ti_rem, tz_8, Int.tmod_eq_emod_of_nonneg h0]
/-- where a step goes, and the ring's two numbers then -/
def wsSlot (σ : Mem) : Nat := ((σ 70 4).toNatClampNeg + (σ 70 5).toNatClampNeg) % 8
def wsRing (σ s : Mem) : Prop :=
  ((σ 70 5).toInt < 8 → (s 70 4).toInt = (σ 70 4).toInt ∧ (s 70 5).toInt = (σ 70 5).toInt + 1) ∧ ((σ 70 5).toInt = 8 → (s 70 4).toInt = ((σ 70 4).toInt + 1) % 8 ∧ (s 70 5).toInt = 8)
theorem ax_nextSlot {F : Nat} {σ : Mem} (b4 : 0 ≤ (σ 70 4).toInt ∧ (σ 70 4).toInt ≤ 7) (b5 : 0 ≤ (σ 70 5).toInt ∧ (σ 70 5).toInt ≤ 8) : pc (f_X2_nextSlot F σ) (fun r s => r.toInt = (wsSlot σ : Int) ∧ wsRing σ s ∧ ∀ k, k ≠ 70 → s k = σ k) := by
  rw [f_X2_nextSlot_e]
  simp only [j_X2_nextSlot_48_e]
  refine pc_lt (fun z1 h1 => ?_)
  have ea : ((σ 70 4) + (σ 70 5)).toInt = (σ 70 4).toInt + (σ 70 5).toInt := ti_add (by omega) (by omega)
  have ez : z1.toInt = (wsSlot σ : Int) := by
    rw [h1, ax_mod8 (by omega), ea]
    unfold wsSlot
    rw [ti_nat, ti_nat]
    omega
  refine pc_ite (fun c => ?_) (fun c => ?_)
  · have d := ti_le c
    rw [tz_8] at d
    refine pc_lt (fun s2 h2 => pc_ret ⟨ez, ⟨fun q => by omega, fun q => ⟨?_, ?_⟩⟩, fun k hk => by rw [h2, up2_k hk]⟩)
    · have e1 : ((σ 70 4) + (1 : Int32)).toInt = (σ 70 4).toInt + 1 := by rw [ti_add (by rw [tz_1]; omega) (by rw [tz_1]; omega), tz_1]
      rw [h2, up2_s, ax_mod8 (by omega), e1]
    · rw [h2, up2_i (by decide), q]
  · have d := ti_nle c
    rw [tz_8] at d
    refine pc_lt (fun s3 h3 => pc_ret ⟨ez, ⟨fun q => ⟨?_, ?_⟩, fun q => by omega⟩, fun k hk => by rw [h3, up2_k hk]⟩)
    · rw [h3, up2_i (by decide)]
    · rw [h3, up2_s, ti_add (by rw [tz_1]; omega) (by rw [tz_1]; omega), tz_1]
theorem ax_keep {F : Nat} {x1 x2 x3 : Int32} {σ : Mem} (b4 : 0 ≤ (σ 70 4).toInt ∧ (σ 70 4).toInt ≤ 7) (b5 : 0 ≤ (σ 70 5).toInt ∧ (σ 70 5).toInt ≤ 8) : pc (f_X2_keep F x1 x2 x3 σ) (fun _ s => wsRing σ s ∧ s 71 = upd (σ 71) (wsSlot σ) x1 ∧ s 72 = upd (σ 72) (wsSlot σ) x2 ∧ s 73 = upd (σ 73) (wsSlot σ) x3 ∧ ∀ k, k ≠ 70 → k ≠ 71 → k ≠ 72 → k ≠ 73 → s k = σ k) := by
  rw [f_X2_keep_e]
  refine pc_bnd (ax_nextSlot b4 b5) (fun r s2 q => ?_)
  obtain ⟨er, hR, ho⟩ := q
  refine pc_chk (fun _ => pc_lt (fun s4 h4 => pc_lt (fun s5 h5 => pc_lt (fun s6 h6 => pc_ret ?_))))
  rw [tn_int er] at h4 h5 h6
  have e70 : s6 70 = s2 70 := by rw [h6, up2_k (by decide), h5, up2_k (by decide), h4, up2_k (by decide)]
  refine ⟨by unfold wsRing; rw [e70]; exact hR, ?_, ?_, ?_, fun k n0 n1 n2 n3 => ?_⟩
  · rw [h6, up2_k (by decide), h5, up2_k (by decide), h4]
    unfold up2
    rw [if_pos rfl, ho _ (by decide)]
  · rw [h6, up2_k (by decide), h5]
    unfold up2
    rw [if_pos rfl, h4, up2_k (by decide), ho _ (by decide)]
  · rw [h6]
    unfold up2
    rw [if_pos rfl, h5, up2_k (by decide), h4, up2_k (by decide), ho _ (by decide)]
  · rw [h6, up2_k n3, h5, up2_k n2, h4, up2_k n1, ho _ n0]
theorem ax_keepRoster_22 {F a : Nat} {x3 : Int32} {q : Nat} (hq : x3.toInt = (q : Int)) (ha : a ≠ 75 + q) {f : Nat → Int32} : ∀ (N k : Nat) (x4 : Int32) (σ : Mem), x4.toInt = (k : Int) → k ≤ 24 → σ a = f → pc (lp_X2_keepRoster_22 F a x3 N x4 σ) (fun _ s => (∀ j, j ≠ 75 + q → s j = σ j) ∧ (∀ t, k ≤ t → t < 24 → s (75 + q) t = f t) ∧ (∀ t, t < k → s (75 + q) t = σ (75 + q) t)) := by
  intro N
  induction N with
  | zero => intro k x4 σ h1 h2 h3; exact pc_none rfl
  | succ N ih =>
    intro k x4 σ h1 h2 h3
    rw [lp_X2_keepRoster_22_s]
    have ex : (24 : Int32) ≤ x4 → k = 24 := fun c => by have d := ti_le c; rw [tz_24] at d; omega
    refine pc_ite (fun c => pc_ret ⟨fun _ _ => rfl, fun t a b => by have := ex c; omega, fun _ _ => rfl⟩) (fun c => ?_)
    refine pc_ite (fun c => pc_ret ⟨fun _ _ => rfl, fun t a b => by have := ex c; omega, fun _ _ => rfl⟩) (fun c => ?_)
    have d := ti_nle c
    rw [tz_24] at d
    refine pc_chk (fun _ => pc_chk (fun _ => pc_lt (fun s3 h => ?_)))
    rw [tn_int hq, tn_int h1] at h
    refine pc_mono (ih (k + 1) _ s3 (ti_nx h1 (by omega)) (by omega) (by rw [h, up2_k ha, h3])) (fun r s w => ?_)
    obtain ⟨w1, w2, w3⟩ := w
    refine ⟨fun j hj => by rw [w1 j hj, h, up2_k hj], fun t a b => ?_, fun t a => ?_⟩
    · by_cases e : t = k
      · subst e; rw [w3 _ (by omega), h, up2_s, h3]
      · exact w2 t (by omega) b
    · rw [w3 t (by omega), h, up2_i (by omega)]
theorem ax_keepRoster {F a : Nat} {x1 : Int32} {σ : Mem} (ha : a < 70) (b4 : 0 ≤ (σ 70 4).toInt ∧ (σ 70 4).toInt ≤ 7) (b5 : 0 ≤ (σ 70 5).toInt ∧ (σ 70 5).toInt ≤ 8) : pc (f_X2_keepRoster F x1 a σ) (fun _ s => wsRing σ s ∧ s 71 = upd (σ 71) (wsSlot σ) 0 ∧ s 72 = upd (σ 72) (wsSlot σ) x1 ∧ (∀ t, t < 24 → s (75 + wsSlot σ) t = σ a t) ∧ ∀ k, k ≠ 70 → k ≠ 71 → k ≠ 72 → k ≠ 75 + wsSlot σ → s k = σ k) := by
  rw [f_X2_keepRoster_e]
  refine pc_bnd (ax_nextSlot b4 b5) (fun r s2 q => ?_)
  obtain ⟨er, hR, ho⟩ := q
  refine pc_chk (fun _ => pc_lt (fun s4 h4 => pc_lt (fun s5 h5 => ?_)))
  rw [tn_int er] at h4 h5
  have e5 : ∀ k, k ≠ 70 → k ≠ 71 → k ≠ 72 → s5 k = σ k := fun k n0 n1 n2 => by rw [h5, up2_k n2, h4, up2_k n1, ho _ n0]
  refine pc_mono (ax_keepRoster_22 (a := a) (f := σ a) er (by omega) F 0 0 s5 rfl (by omega) (e5 a (by omega) (by omega) (by omega))) (fun _ s w => ?_)
  obtain ⟨w1, w2, -⟩ := w
  refine ⟨?_, ?_, ?_, fun t ht => w2 t (by omega) ht, fun k n0 n1 n2 n3 => by rw [w1 k n3, e5 k n0 n1 n2]⟩
  · unfold wsRing
    rw [w1 70 (by omega), h5, up2_k (by decide), h4, up2_k (by decide)]
    exact hR
  · rw [w1 71 (by omega), h5, up2_k (by decide), h4]
    unfold up2
    rw [if_pos rfl, ho _ (by decide)]
  · rw [w1 72 (by omega), h5]
    unfold up2
    rw [if_pos rfl, h4, up2_k (by decide), ho _ (by decide)]
end
section
theorem wcid_or (k i : Nat) : wcid k i = k ∨ 1000 ≤ wcid k i := by
  unfold wcid
  split
  · right; omega
  split
  · right; omega
  split
  · right; omega
  split
  · right; omega
  left; rfl
theorem fr_reg {W : Nat → Prop} {τ s : Mem} {j : Nat} (hf : fr W τ s) (h1 : ¬ W j) (h2 : ∀ c, 1000 ≤ c → ¬ W c) : s j = τ j := by
  funext i
  refine hf j i ?_
  rcases wcid_or j i with e | e
  · rw [e]; exact h1
  · exact h2 _ e
theorem ax_undo_75o {F : Nat} (hF : 1000 ≤ F) {x2 x3 : Int32} : ∀ (N : Nat) (x4 : Int32) (σ : Mem), pc (lp_X2_undoLatest_75 F 1 x2 x3 N x4 σ) (fun _ s => ∀ j, ¬ (6 ≤ j ∧ j ≤ 10) → s j = σ j) := by
  intro N
  induction N with
  | zero => intro x4 σ; exact pc_none rfl
  | succ N ih =>
    intro x4 σ
    rw [lp_X2_undoLatest_75_s]
    refine pc_ite (fun c => pc_ret (fun _ _ => rfl)) (fun c => pc_chk (fun _ => pc_chk (fun _ => ?_)))
    refine pc_bnd (pc_pf (fr_X0_post hF wt_h1)) (fun r s4 w => pc_mono (ih _ s4) (fun _ s z j hj => ?_))
    rw [z j hj]
    exact fr_reg w (by unfold wf_4; omega) (fun c hc => by unfold wf_4; omega)
theorem ax_undo_75 {F : Nat} (hF : 1000 ≤ F) {q l : Nat} {x2 x3 : Int32} (hq : x2.toInt = (q : Int)) (hl : x3.toInt = (l : Int)) {P L : Int} {f : Nat → Int32} (hL : (l : Int) < L) (hL5 : L ≤ 5) (hP : P ≤ 6) (hf : ∀ t, t < 24 → (f t).toInt = 9 ∨ (0 ≤ (f t).toInt ∧ (f t).toInt < P)) : ∀ (N k : Nat) (x4 : Int32) (σ : Mem), x4.toInt = (k : Int) → k ≤ 24 → σ (75 + q) = f → (σ 1 0).toInt = P → (σ 1 2).toInt = L → pc (lp_X2_undoLatest_75 F 1 x2 x3 N x4 σ) (fun _ s => (∀ p, p < 188 → wvX 1 s p = if 28 + 24 * l + k ≤ p ∧ p < 52 + 24 * l then wvN (f (p - (28 + 24 * l))) else wvX 1 σ p) ∧ ∀ j, ¬ (6 ≤ j ∧ j ≤ 10) → s j = σ j) := by
  intro N
  induction N with
  | zero => intro k x4 σ h1 h2 h3 h4 h5; exact pc_none rfl
  | succ N ih =>
    intro k x4 σ h1 h2 h3 h4 h5
    rw [lp_X2_undoLatest_75_s]
    refine pc_ite (fun c => pc_ret ⟨fun p hp => ?_, fun _ _ => rfl⟩) (fun c => ?_)
    · have d := ti_le c
      rw [tz_24] at d
      rw [if_neg (by omega)]
    have d := ti_nle c
    rw [tz_24] at d
    refine pc_chk (fun _ => pc_chk (fun _ => ?_))
    rw [tn_int hq, tn_int h1, h3]
    have hk := hf k (by omega)
    refine pc_bnd (pc_and (ax_post (by omega) (by omega)) (pc_pf (fr_X0_post hF wt_h1))) (fun r s4 w => ?_)
    obtain ⟨w1, w2⟩ := w
    have w3 := (w1.1 ⟨⟨by omega, by omega⟩, ⟨by omega, by omega⟩, ⟨by omega, by omega⟩, by omega, by omega⟩).2
    rw [tn_int hl, tn_int h1] at w3
    have o4 : ∀ j, ¬ (6 ≤ j ∧ j ≤ 10) → s4 j = σ j := fun j hj => fr_reg w2 (by unfold wf_4; omega) (fun c hc => by unfold wf_4; omega)
    refine pc_mono (ih (k + 1) _ s4 (ti_nx h1 (by omega)) (by omega) (by rw [o4 _ (by omega), h3]) (by rw [o4 1 (by omega), h4]) (by rw [o4 1 (by omega), h5])) (fun _ s z => ⟨fun p hp => ?_, fun j hj => by rw [z.2 j hj, o4 j hj]⟩)
    rw [z.1 p hp]
    by_cases e1 : p = 28 + 24 * l + k
    · rw [if_neg (by omega), if_pos (by omega), w3 p hp]
      unfold aStand
      rw [if_pos (by omega), show p - (28 + 24 * l) = k by omega]
    · by_cases e2 : 28 + 24 * l + k ≤ p ∧ p < 52 + 24 * l
      · rw [if_pos (by omega), if_pos e2]
      · rw [if_neg (by omega), if_neg e2, w3 p hp]
        unfold aStand
        rw [if_neg (by omega)]
/-- the slot of the latest step -/
def wsLast (σ : Mem) : Nat := ((σ 70 4).toNatClampNeg + ((σ 70 5).toNatClampNeg - 1)) % 8
def wsUndone (σ s : Mem) (q : Nat) : Prop :=
  (σ 71 q = 0 → ∀ l : Nat, (σ 72 q).toInt = (l : Int) → (l : Int) < (σ 1 2).toInt → (∀ t, t < 24 → (σ (75 + q) t).toInt = 9 ∨ (0 ≤ (σ (75 + q) t).toInt ∧ (σ (75 + q) t).toInt < (σ 1 0).toInt)) → ∀ p, p < 188 → wvX 1 s p = if 28 + 24 * l ≤ p ∧ p < 52 + 24 * l then wvN (σ (75 + q) (p - (28 + 24 * l))) else wvX 1 σ p) ∧
  (σ 71 q = 1 → ∀ i : Nat, (σ 72 q).toInt = (i : Int) → (i : Int) < (σ 1 0).toInt → ∀ p, p < 188 → wvX 1 s p = upd (wvX 1 σ) (12 + i) (σ 73 q) p) ∧
  (σ 71 q = 2 → ∀ i : Nat, (σ 72 q).toInt = (i : Int) → i < 8 → 0 ≤ (σ 73 q).toInt → (σ 73 q).toInt ≤ 9 → ∀ p, p < 188 → wvX 1 s p = upd (wvX 1 σ) (4 + i) (σ 73 q) p) ∧
  (σ 71 q = 3 → 0 ≤ (σ 73 q).toInt → (σ 73 q).toInt ≤ 2 → ∀ p, p < 188 → wvX 1 s p = upd (wvX 1 σ) 2 (σ 73 q) p)
theorem ax_undo {F : Nat} (hF : 1000 ≤ F) {σ : Mem} (b0 : 0 ≤ (σ 1 0).toInt ∧ (σ 1 0).toInt ≤ 6) (b2 : 0 ≤ (σ 1 2).toInt ∧ (σ 1 2).toInt ≤ 5) (b4 : 0 ≤ (σ 70 4).toInt ∧ (σ 70 4).toInt ≤ 7) (b5 : 1 ≤ (σ 70 5).toInt ∧ (σ 70 5).toInt ≤ 8) : pc (f_X2_undoLatest F 1 σ) (fun _ s => (s 70 4 = σ 70 4 ∧ (s 70 5).toInt = (σ 70 5).toInt - 1) ∧ wsUndone σ s (wsLast σ)) := by
  rw [f_X2_undoLatest_e]
  refine pc_ite (fun _ => ?_) (fun c => by exfalso; have := ti_nlt c; rw [tz_0] at this; omega)
  refine pc_lt (fun s5 h5 => pc_lt (fun z6 h6 => ?_))
  have e5 : ∀ k, k ≠ 70 → s5 k = σ k := fun k hk => by rw [h5, up2_k hk]
  have e54 : s5 70 4 = σ 70 4 := by rw [h5, up2_i (by decide)]
  have e55 : (s5 70 5).toInt = (σ 70 5).toInt - 1 := by rw [h5, up2_s, ti_sub (by rw [tz_1]; omega) (by rw [tz_1]; omega), tz_1]
  have ez : z6.toInt = (wsLast σ : Int) := by
    have ea : ((s5 70 4) + (s5 70 5)).toInt = (σ 70 4).toInt + ((σ 70 5).toInt - 1) := by rw [ti_add (by rw [e54, e55]; omega) (by rw [e54, e55]; omega), e54, e55]
    rw [h6, ax_mod8 (by omega), ea]
    unfold wsLast
    rw [ti_nat, ti_nat]
    omega
  generalize hq : wsLast σ = q at ez ⊢
  have hq8 : q < 8 := by rw [← hq]; exact Nat.mod_lt _ (by decide)
  refine pc_chk (fun _ => pc_lt (fun z8 h8 => ?_))
  rw [tn_int ez] at h8
  rw [tn_int ez, e5 71 (by decide), e5 73 (by decide)]
  rw [e5 72 (by decide)] at h8
  have n70 : ∀ s : Mem, s 70 = s5 70 → s 70 4 = σ 70 4 ∧ (s 70 5).toInt = (σ 70 5).toInt - 1 := fun s e => by rw [e]; exact ⟨e54, e55⟩
  have hX : ∀ p, p < 188 → wvX 1 s5 p = wvX 1 σ p := fun p hp => wvX_eq (fun p hp => by have := wvJ_le p hp; rw [e5 _ (by omega)]) hp
  have e1 : s5 1 = σ 1 := e5 1 (by decide)
  refine pc_ite (fun c => ?_) (fun c0 => ?_)
  · intro a s e
    have z := fun (l : Nat) (hl : (σ 72 q).toInt = (l : Int)) (hlt : (l : Int) < (σ 1 2).toInt) hf => ax_undo_75 hF ez (by rw [h8]; exact hl) (P := (σ 1 0).toInt) (L := (σ 1 2).toInt) (f := σ (75 + q)) hlt b2.2 b0.2 hf F 0 0 s5 rfl (by omega) (e5 _ (by omega)) (by rw [e1]) (by rw [e1]) a s e
    have f70 : s 70 = s5 70 := ax_undo_75o hF F 0 s5 a s e 70 (by omega)
    refine ⟨n70 s f70, ⟨fun _ l hl hlt hf p hp => ?_, fun h => ?_, fun h => ?_, fun h => ?_⟩⟩
    · rw [(z l hl hlt hf).1 p hp, hX p hp]
      rfl
    · rw [c] at h; exact absurd h (by decide)
    · rw [c] at h; exact absurd h (by decide)
    · rw [c] at h; exact absurd h (by decide)
  refine pc_ite (fun c => ?_) (fun c1 => ?_)
  · refine pc_be (ax_isPane (by rw [e1]; omega)) ?_
    rw [e1, h8]
    have nn : ∀ s : Mem, (∀ i : Nat, (σ 72 q).toInt = (i : Int) → (i : Int) < (σ 1 0).toInt → ∀ p, p < 188 → wvX 1 s p = upd (wvX 1 σ) (12 + i) (σ 73 q) p) → wsUndone σ s q := fun s h => ⟨fun h => absurd h c0, fun _ => h, fun h => by rw [c] at h; exact absurd h (by decide), fun h => by rw [c] at h; exact absurd h (by decide)⟩
    by_cases cp : 0 ≤ (σ 72 q).toInt ∧ (σ 72 q).toInt < (σ 1 0).toInt
    · rw [if_pos cp, if_neg (by decide)]
      refine pc_chk (fun v => pc_lt (fun s13 h13 => pc_ret ⟨n70 _ (by rw [h13, up2_k (by decide)]), nn _ (fun i hi _ p hp => ?_)⟩))
      have hj := wvJI_1 i (by omega)
      rw [h13, wvX_at (q := 12 + i) (by omega) (by omega) (by rw [tn_int hi]; exact hj.2) hp, wvE_o (Or.inl (by omega)), e5 73 (by decide)]
      exact upd_cg (hX p hp) rfl
    · rw [if_neg cp, if_pos rfl]
      exact pc_ret ⟨n70 _ rfl, nn _ (fun i hi hlt => by exfalso; omega)⟩
  refine pc_ite (fun c => ?_) (fun c2 => ?_)
  · refine pc_bnd (pc_and ax_price (pc_pf (fr_X0_price hF wt_h1))) (fun r s w => pc_ret ⟨n70 _ (fr_reg w.2 (by unfold wf_6; omega) (fun c hc => by unfold wf_6; omega)), ?_⟩)
    refine ⟨fun h => absurd h c0, fun h => absurd h c1, fun _ i hi hlt h0 h9 p hp => ?_, fun h => by rw [c] at h; exact absurd h (by decide)⟩
    rw [h8] at w
    rw [(w.1.1 ⟨by omega, by omega, h0, h9⟩).2 p hp]
    unfold aWorth
    rw [tn_int hi]
    exact upd_cg (hX p hp) rfl
  · refine pc_bnd (pc_and ax_rule (pc_pf (fr_X0_rule hF wt_h1))) (fun r s w => pc_ret ⟨n70 _ (fr_reg w.2 (by unfold wf_7; omega) (fun c hc => by unfold wf_7; omega)), ?_⟩)
    refine ⟨fun h => absurd h c0, fun h => absurd h c1, fun h => absurd h c2, fun _ h0 h2 p hp => ?_⟩
    rw [(w.1.1 ⟨h0, h2⟩).2 p hp]
    unfold aLaw
    exact upd_cg (hX p hp) rfl
end
section
/-! the reference's changes of its house -/
theorem mx_in {F : Nat} {y0 y2 y4 : Int64} {σ : Mem} : f_X4_in F y0 y2 y4 σ = some (if y2.toInt ≤ y0.toInt ∧ y0.toInt ≤ y4.toInt then 1 else 0, σ) := by
  rw [f_X4_in_e]
  simp only [j_X4_in_17_e]
  by_cases c1 : lg_cmp y0 y2 < 0
  · have d := lg_ltl c1
    rw [if_pos c1, if_neg (by omega)]
  · have d := lg_ltln c1
    rw [if_neg c1]
    by_cases c2 : 0 < lg_cmp y0 y4
    · have e := lg_ltr c2
      rw [if_pos c2, if_neg (by omega)]
    · have e := lg_ltrn c2
      rw [if_neg c2, if_pos ⟨d, e⟩]
theorem mx_in32 {F : Nat} {x : Int32} {a b : Int64} {lo hi : Int} {σ : Mem} (h1 : a.toInt = lo) (h2 : b.toInt = hi) : f_X4_in F (Int32.toInt64 x) a b σ = some (if lo ≤ x.toInt ∧ x.toInt ≤ hi then 1 else 0, σ) := by
  rw [mx_in, Int32.toInt_toInt64, h1, h2]
theorem wt_bz01 {β : Type} {c : Prop} [Decidable c] {K : Option (β × Mem)} : wt_bz (if c then (1 : Int32) else 0) K = K := by
  unfold wt_bz
  by_cases h : c
  · rw [if_pos h, if_pos (Or.inr rfl)]
  · rw [if_neg h, if_pos (Or.inl rfl)]
theorem wt_bnd_eq {α β : Type} {o : Option (α × Mem)} {a : α} {s : Mem} {K : α → Mem → Option β} (h : o = some (a, s)) : wt_bnd o K = K a s := by rw [h]; rfl
theorem ite_cg {c d : Prop} [Decidable c] [Decidable d] (h : c ↔ d) : (if c then (1 : Int32) else 0) = if d then 1 else 0 := by
  by_cases q : c
  · rw [if_pos q, if_pos (h.mp q)]
  · rw [if_neg q, if_neg (fun r => q (h.mpr r))]
theorem ti_pred {x : Int32} (h : 0 ≤ x.toInt) : (x - (1 : Int32)).toInt = x.toInt - 1 := by
  have := ti_hi x
  rw [ti_sub (by rw [tz_1]; omega) (by rw [tz_1]; omega), tz_1]
theorem ti64_pred {x : Int32} (h : 0 ≤ x.toInt) : (Int32.toInt64 (x - (1 : Int32))).toInt = x.toInt - 1 := by rw [Int32.toInt_toInt64, ti_pred h]
theorem mx_isLooker {F : Nat} {x : Int32} {σ : Mem} (b : 0 ≤ (σ 101 3).toInt) : f_X4_isLooker F x σ = some (if 0 ≤ x.toInt ∧ x.toInt < (σ 101 3).toInt then 1 else 0, σ) := by
  rw [f_X4_isLooker_e, wt_bnd_eq (mx_in32 (lo := 0) rfl (ti64_pred b)), wt_bz01, ite_cg (d := 0 ≤ x.toInt ∧ x.toInt < (σ 101 3).toInt) (by omega)]
theorem mx_isPane {F : Nat} {x : Int32} {σ : Mem} (b : 0 ≤ (σ 101 1).toInt) : f_X4_isPane F x σ = some (if 0 ≤ x.toInt ∧ x.toInt < (σ 101 1).toInt then 1 else 0, σ) := by
  rw [f_X4_isPane_e, wt_bnd_eq (mx_in32 (lo := 0) rfl (ti64_pred b)), wt_bz01, ite_cg (d := 0 ≤ x.toInt ∧ x.toInt < (σ 101 1).toInt) (by omega)]
theorem mx_isView {F : Nat} {x : Int32} {σ : Mem} : f_X4_isView F x σ = some (if 0 ≤ x.toInt ∧ x.toInt ≤ 7 then 1 else 0, σ) := by
  rw [f_X4_isView_e, wt_bnd_eq (mx_in32 (lo := 0) (hi := 7) rfl rfl), wt_bz01]
theorem mx_isHour {F : Nat} {x : Int32} {σ : Mem} : f_X4_isHour F x σ = some (if 0 ≤ x.toInt ∧ x.toInt ≤ 23 then 1 else 0, σ) := by
  rw [f_X4_isHour_e, wt_bnd_eq (mx_in32 (lo := 0) (hi := 23) rfl rfl), wt_bz01]
theorem mx_wrongNumber {F : Nat} {x a b : Int32} {σ : Mem} : f_X4_wrongNumber F x a b σ = some (if a.toInt ≤ x.toInt then (if x.toInt ≤ b.toInt then 0 else -6) else -4, σ) := by
  rw [f_X4_wrongNumber_e]
  by_cases c1 : a ≤ x
  · rw [if_pos c1, if_pos (ti_le c1)]
    by_cases c2 : x ≤ b
    · rw [if_pos c2, if_pos (ti_le c2)]
    · rw [if_neg c2, if_neg (Int.not_le.mpr (ti_nle c2))]
  · rw [if_neg c1, if_neg (Int.not_le.mpr (ti_nle c1))]
theorem mx_refuse {F : Nat} {x : Int32} {σ : Mem} : pc (f_X4_refuse F x σ) (fun r s => r = x ∧ ∀ k, k ≠ 108 → s k = σ k) := by
  rw [f_X4_refuse_e]
  exact pc_chk (fun _ => pc_lt (fun s2 h2 => pc_ret ⟨rfl, fun k hk => by rw [h2, up2_k hk]⟩))
/-- indices of rows laid in one row -/
theorem tn_24 {x y : Int32} {l k : Nat} (hx : x.toInt = (l : Int)) (hy : y.toInt = (k : Int)) (hl : l < 5) (hk : k < 24) : (((24 : Int32) * x) + y).toNatClampNeg = 24 * l + k := by
  have e1 : ((24 : Int32) * x).toInt = 24 * (l : Int) := by rw [ti_mul (by rw [tz_24, hx]; omega) (by rw [tz_24, hx]; omega), tz_24, hx]
  have e2 : (((24 : Int32) * x) + y).toInt = 24 * (l : Int) + (k : Int) := by rw [ti_add (by rw [e1, hy]; omega) (by rw [e1, hy]; omega), e1, hy]
  rw [ti_nat, e2]
  omega
theorem tn_8 {x y : Int32} {l k : Nat} (hx : x.toInt = (l : Int)) (hy : y.toInt = (k : Int)) (hl : l < 5) (hk : k < 8) : (((8 : Int32) * x) + y).toNatClampNeg = 8 * l + k := by
  have e1 : ((8 : Int32) * x).toInt = 8 * (l : Int) := by rw [ti_mul (by rw [tz_8, hx]; omega) (by rw [tz_8, hx]; omega), tz_8, hx]
  have e2 : (((8 : Int32) * x) + y).toInt = 8 * (l : Int) + (k : Int) := by rw [ti_add (by rw [e1, hy]; omega) (by rw [e1, hy]; omega), e1, hy]
  rw [ti_nat, e2]
  omega
theorem mx_stand_3 {F : Nat} {x1 x3 x4 : Int32} {l b : Nat} (hx4 : x4.toInt = 9 ∨ 0 ≤ x4.toInt) (hl : x1.toInt = (l : Int)) (hl5 : l < 5) (hb : x3.toInt = (b : Int)) (hb24 : b < 24) : ∀ (N k : Nat) (x5 : Int32) (σ : Mem), x5.toInt = (k : Int) → k ≤ b + 1 → pc (lp_X4_stand_3 F x1 x3 x4 N x5 σ) (fun _ s => (∀ p, p < 188 → wvM s p = aStand (wvM σ) l k b x4 p) ∧ (∀ j, j ≠ 106 → s j = σ j) ∧ ∀ i, ¬ (24 * l + k ≤ i ∧ i ≤ 24 * l + b) → s 106 i = σ 106 i) := by
  intro N
  induction N with
  | zero => intro k x5 σ h1 h2; exact pc_none rfl
  | succ N ih =>
    intro k x5 σ h1 h2
    rw [lp_X4_stand_3_s]
    simp only [j_X4_stand_34_e]
    refine pc_ite (fun c => ?_) (fun c => ?_)
    · have d := ti_lt c
      refine pc_ret ⟨fun p hp => ?_, fun _ _ => rfl, fun _ _ => rfl⟩
      unfold aStand
      rw [if_neg (by omega)]
    have d := ti_nlt c
    have ei := tn_24 hl h1 hl5 (by omega)
    have go : ∀ v : Int32, v = wvN x4 → pc (wt_chk ((24 : Int32) * x1 + x5) 120 (wt_lt (up2 σ 106 (Int32.toNatClampNeg ((24 : Int32) * x1 + x5)) v) fun s2 => lp_X4_stand_3 F x1 x3 x4 N (x5 + (1 : Int32)) s2)) (fun _ s => (∀ p, p < 188 → wvM s p = aStand (wvM σ) l k b x4 p) ∧ (∀ j, j ≠ 106 → s j = σ j) ∧ ∀ i, ¬ (24 * l + k ≤ i ∧ i ≤ 24 * l + b) → s 106 i = σ 106 i) := fun v hv => by
      refine pc_chk (fun _ => pc_lt (fun s2 h2' => ?_))
      rw [ei, hv] at h2'
      refine pc_mono (ih (k + 1) _ s2 (ti_nx h1 (by omega)) (by omega)) (fun r s q => ⟨fun p hp => ?_, fun j hj => by rw [q.2.1 j hj, h2', up2_k hj], fun i hi => by rw [q.2.2 i (by omega), h2', up2_i (by omega)]⟩)
      rw [q.1 p hp]
      have hj := wtJI_106 (24 * l + k) (by omega)
      have e : ∀ p, p < 188 → wvM s2 p = upd (wvM σ) (28 + 24 * l + k) (wvN x4) p := fun p hp => by
        rw [h2', wvM_at (q := 28 + (24 * l + k)) (by omega) hj.1.symm hj.2.symm hp, show 28 + (24 * l + k) = 28 + 24 * l + k by omega]
      unfold aStand
      by_cases e1 : p = 28 + 24 * l + k
      · rw [if_neg (by omega), if_pos (by omega), e p hp, e1, wv_us]
      · by_cases e2 : 28 + 24 * l + k ≤ p ∧ p ≤ 28 + 24 * l + b
        · rw [if_pos (by omega), if_pos e2]
        · rw [if_neg (by omega), if_neg e2, e p hp, wv_un e1]
    refine pc_ite (fun c9 => ?_) (fun c9 => ?_)
    · exact go _ (by unfold wvN; rw [if_pos c9])
    · refine go _ (wvN_o ?_ c9).symm
      rcases hx4 with q | q
      · exact absurd (Int32.toInt_inj.mp (by rw [q]; rfl)) c9
      · exact q
theorem mx_stand {F : Nat} {x1 x2 x3 x4 : Int32} {l a b : Nat} {σ : Mem} (hx4 : x4.toInt = 9 ∨ 0 ≤ x4.toInt) (hl : x1.toInt = (l : Int)) (hl5 : l < 5) (ha : x2.toInt = (a : Int)) (hb : x3.toInt = (b : Int)) (hab : a ≤ b + 1) (hb24 : b < 24) : pc (f_X4_stand F x1 x2 x3 x4 σ) (fun _ s => (∀ p, p < 188 → wvM s p = aStand (wvM σ) l a b x4 p) ∧ (∀ j, j ≠ 106 → s j = σ j) ∧ ∀ i, ¬ (24 * l + a ≤ i ∧ i ≤ 24 * l + b) → s 106 i = σ 106 i) := by
  rw [f_X4_stand_e]
  exact mx_stand_3 hx4 hl hl5 hb hb24 F a x2 σ ha hab
theorem mx_lookerComes_52 {F : Nat} {n : Nat} (hn : n < 5) {y : Int32} (hy : y.toInt = (n : Int)) : ∀ (N k : Nat) (x3 : Int32) (σ : Mem), x3.toInt = (k : Int) → k ≤ 8 → σ 101 3 = y → pc (lp_X4_lookerComes_52 F N x3 σ) (fun _ s => ∀ p, p < 188 → wvM s p = if p = 1 then y + 1 else if 148 + 8 * n + k ≤ p ∧ p < 156 + 8 * n then 0 else wvM σ p) := by
  intro N
  induction N with
  | zero => intro k x3 σ h1 h2 h4; exact pc_none rfl
  | succ N ih =>
    intro k x3 σ h1 h2 h4
    rw [lp_X4_lookerComes_52_s]
    refine pc_ite (fun c => ?_) (fun c => ?_)
    · have d := ti_le c
      rw [tz_8] at d
      refine pc_lt (fun s1 hs => pc_ret (fun p hp => ?_))
      rw [hs, wvM_at (k := 101) (i := 3) (q := 1) (by decide) rfl rfl hp, h4]
      by_cases e : p = 1
      · subst e; rw [wv_us, if_pos rfl]
      · rw [wv_un e, if_neg e, if_neg (by omega)]
    · have d := ti_nle c
      rw [tz_8] at d
      rw [h4]
      have ei := tn_8 hy h1 hn (by omega)
      refine pc_chk (fun _ => pc_lt (fun s4 hs => ?_))
      rw [ei] at hs
      refine pc_mono (ih (k + 1) _ s4 (ti_nx h1 (by omega)) (by omega) (by rw [hs, up2_k (by decide), h4])) (fun r s q => fun p hp => ?_)
      rw [q p hp]
      have hj := wtJI_107 (8 * n + k) (by omega)
      have e : wvM s4 p = upd (wvM σ) (148 + 8 * n + k) 0 p := by
        rw [hs, wvM_at (q := 148 + (8 * n + k)) (by omega) hj.1.symm hj.2.symm hp, show 148 + (8 * n + k) = 148 + 8 * n + k by omega]
      by_cases e0 : p = 1
      · rw [if_pos e0, if_pos e0]
      rw [if_neg e0, if_neg e0]
      by_cases e1 : p = 148 + 8 * n + k
      · rw [if_neg (by omega), if_pos (by omega), e, e1, wv_us]
      · by_cases e2 : 148 + 8 * n + k ≤ p ∧ p < 156 + 8 * n
        · rw [if_pos (by omega), if_pos e2]
        · rw [if_neg (by omega), if_neg e2, e, wv_un e1]
theorem mx_lookerComes_22 {F : Nat} {n : Nat} (hn : n < 5) {y : Int32} (hy : y.toInt = (n : Int)) : ∀ (N k : Nat) (x3 : Int32) (σ : Mem), x3.toInt = (k : Int) → k ≤ 24 → σ 101 3 = y → pc (lp_X4_lookerComes_22 F N x3 σ) (fun _ s => ∀ p, p < 188 → wvM s p = if p = 1 then y + 1 else if 28 + 24 * n + k ≤ p ∧ p < 52 + 24 * n then -9 else if 148 + 8 * n ≤ p ∧ p < 156 + 8 * n then 0 else wvM σ p) := by
  intro N
  induction N with
  | zero => intro k x3 σ h1 h2 h4; exact pc_none rfl
  | succ N ih =>
    intro k x3 σ h1 h2 h4
    rw [lp_X4_lookerComes_22_s]
    refine pc_ite (fun c => ?_) (fun c => ?_)
    · have d := ti_le c
      rw [tz_24] at d
      refine pc_mono (mx_lookerComes_52 hn hy F 0 0 σ rfl (by omega) h4) (fun r s q => fun p hp => ?_)
      rw [q p hp]
      by_cases e : p = 1
      · rw [if_pos e, if_pos e]
      · rw [if_neg e, if_neg e, if_neg (show ¬ (28 + 24 * n + k ≤ p ∧ p < 52 + 24 * n) by omega)]
        rfl
    · have d := ti_nle c
      rw [tz_24] at d
      rw [h4]
      have ei := tn_24 hy h1 hn (by omega)
      refine pc_chk (fun _ => pc_lt (fun s4 hs => ?_))
      rw [ei] at hs
      refine pc_mono (ih (k + 1) _ s4 (ti_nx h1 (by omega)) (by omega) (by rw [hs, up2_k (by decide), h4])) (fun r s q => fun p hp => ?_)
      rw [q p hp]
      have hj := wtJI_106 (24 * n + k) (by omega)
      have e : wvM s4 p = upd (wvM σ) (28 + 24 * n + k) (-9) p := by
        rw [hs, wvM_at (q := 28 + (24 * n + k)) (by omega) hj.1.symm hj.2.symm hp, show 28 + (24 * n + k) = 28 + 24 * n + k by omega]
      by_cases e0 : p = 1
      · rw [if_pos e0, if_pos e0]
      rw [if_neg e0, if_neg e0]
      by_cases e1 : p = 28 + 24 * n + k
      · rw [if_neg (by omega), if_pos (show 28 + 24 * n + k ≤ p ∧ p < 52 + 24 * n by omega), if_neg (by omega), e, e1, wv_us]
      · by_cases e2 : 28 + 24 * n + k ≤ p ∧ p < 52 + 24 * n
        · rw [if_pos (show 28 + 24 * n + (k + 1) ≤ p ∧ p < 52 + 24 * n by omega), if_pos e2]
        · rw [if_neg (show ¬ (28 + 24 * n + (k + 1) ≤ p ∧ p < 52 + 24 * n) by omega), if_neg e2, e, wv_un e1]
theorem mx_lookerComes {F : Nat} {x1 x2 : Int32} {σ : Mem} (b : 0 ≤ (σ 101 3).toInt ∧ (σ 101 3).toInt < 5) : pc (f_X4_lookerComes F x1 x2 σ) (fun _ s => ∀ p, p < 188 → wvM s p = aLooker (wvM σ) x1 x2 p) := by
  rw [f_X4_lookerComes_e]
  have hn : (σ 101 3).toNatClampNeg < 5 := tn_lt b.1 b.2
  have hy : (σ 101 3).toInt = ((σ 101 3).toNatClampNeg : Int) := by rw [ti_nat]; omega
  refine pc_chk (fun _ => pc_lt (fun s9 h9 => ?_))
  have e9 : s9 101 3 = σ 101 3 := by rw [h9, up2_k (by decide)]
  rw [e9]
  refine pc_chk (fun _ => pc_lt (fun s11 h11 => ?_))
  have e11 : s11 101 3 = σ 101 3 := by rw [h11, up2_k (by decide), e9]
  refine pc_mono (mx_lookerComes_22 hn hy F 0 0 s11 rfl (by omega) e11) (fun r s q => fun p hp => ?_)
  rw [q p hp]
  have hj2 := wtJI_104 _ hn
  have hj3 := wtJI_105 _ hn
  have e : wvM s11 p = upd (upd (wvM σ) (18 + 2 * (σ 101 3).toNatClampNeg) x1) (19 + 2 * (σ 101 3).toNatClampNeg) x2 p := by
    rw [h11, wvM_at (q := 18 + 2 * (σ 101 3).toNatClampNeg + 1) (by omega) hj3.1.symm hj3.2.symm hp, show 18 + 2 * (σ 101 3).toNatClampNeg + 1 = 19 + 2 * (σ 101 3).toNatClampNeg by omega]
    refine upd_cg ?_ rfl
    rw [h9, wvM_at (q := 18 + 2 * (σ 101 3).toNatClampNeg) (by omega) hj2.1.symm hj2.2.symm hp]
  unfold aLooker
  show _ = if p = 1 then σ 101 3 + 1 else if p = 18 + 2 * (σ 101 3).toNatClampNeg then x1 else if p = 19 + 2 * (σ 101 3).toNatClampNeg then x2 else if 28 + 24 * (σ 101 3).toNatClampNeg ≤ p ∧ p < 52 + 24 * (σ 101 3).toNatClampNeg then -9 else if 148 + 8 * (σ 101 3).toNatClampNeg ≤ p ∧ p < 156 + 8 * (σ 101 3).toNatClampNeg then 0 else wvM σ p
  by_cases e0 : p = 1
  · rw [if_pos e0, if_pos e0]
  rw [if_neg e0, if_neg e0, e]
  by_cases e1 : p = 18 + 2 * (σ 101 3).toNatClampNeg
  · rw [if_pos e1, if_neg (by omega), if_neg (by omega), wv_un (by omega), e1, wv_us]
  rw [if_neg e1]
  by_cases e2 : p = 19 + 2 * (σ 101 3).toNatClampNeg
  · rw [if_pos e2, if_neg (by omega), if_neg (by omega), e2, wv_us]
  rw [if_neg e2, wv_un e2, wv_un e1]
  rfl
/-- the day; what is below the counts stays -/
theorem mx_goDays_6 {F : Nat} (hF : 1000 ≤ F) {x1 : Int32} {y : Nat → Int32} : ∀ (N : Nat) (x2 : Int32) (σ : Mem), σ 101 = y → pc (lp_X4_goDays_6 F x1 N x2 σ) (fun _ s => s 101 = upd y 9 (y 9 + x1)) := by
  intro N
  induction N with
  | zero => intro x2 σ h1; exact pc_none rfl
  | succ N ih =>
    intro x2 σ h1
    rw [lp_X4_goDays_6_s]
    refine pc_ite (fun c => pc_lt (fun s6 h6 => pc_ret ?_)) (fun c => pc_chk (fun _ => ?_))
    · rw [h6]
      unfold up2
      rw [if_pos rfl, h1]
    · refine pc_bnd (pc_pf (fr_X4_held hF)) (fun r s4 f => pc_lt (fun s5 h5 => ih _ _ ?_))
      rw [h5, up2_k (by decide)]
      exact (funext fun i => f 101 i (fun w => by revert w; unfold wf_1; exact id)).trans h1
theorem mx_goDays {F : Nat} (hF : 1000 ≤ F) {x : Int32} {σ : Mem} : pc (f_X4_goDays F x σ) (fun _ s => ∀ p, p < 148 → wvM s p = aDay (wvM σ) x p) := by
  refine pc_mono (pc_and (P := fun _ s => s 101 = upd (σ 101) 9 (σ 101 9 + x)) ?_ (pc_pf (fr_X4_goDays hF))) (fun r s q => fun p hp => ?_)
  · rw [f_X4_goDays_e]
    refine pc_bnd (pc_pf (fr_X4_layBrings hF)) (fun _ s7 f => mx_goDays_6 hF F 0 s7 ?_)
    exact funext fun i => f 101 i (fun w => by revert w; show ¬ _; unfold wf_46; rw [show wcid 101 i = 1000 + i from rfl]; omega)
  · have h2 := wtJ_101 p (by omega)
    unfold aDay
    by_cases e : wtJ p = 101
    · have h3 := wtI_fld p (by omega) e
      unfold wvM
      rw [e, q.1]
      by_cases e3 : p = 3
      · subst e3; rw [wv_us]; rfl
      · have h4 : ¬ wtI p = 9 := fun h => e3 (by have := wtPl_ok p (by omega); rw [e, h] at this; exact this.symm)
        rw [wv_un h4, wv_un e3, e]
    · have h107 : wtJ p ≠ 107 := wtJ_no107 p hp
      have e3 : ¬ p = 3 := fun h => e (by rw [h]; rfl)
      rw [wv_un e3]
      unfold wvM
      refine q.2 _ _ (fun w => ?_)
      rw [wcid_M (by omega)] at w
      revert w
      show ¬ _
      unfold wf_49
      omega
end
