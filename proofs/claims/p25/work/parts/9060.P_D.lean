section
/-! partial: what holds of the answer and the memory, if it answers -/
def pc {α : Type} (o : Option (α × Mem)) (Q : α → Mem → Prop) : Prop := ∀ a s, o = some (a, s) → Q a s
theorem pc_none {α : Type} {o : Option (α × Mem)} {Q : α → Mem → Prop} (h : o = none) : pc o Q := fun a s e => by rw [h] at e; cases e
theorem pc_ret {α : Type} {a : α} {s : Mem} {Q : α → Mem → Prop} (h : Q a s) : pc (some (a, s)) Q := fun a' s' e => by cases e; exact h
theorem pc_lt {α β : Type} {x : α} {K : α → Option (β × Mem)} {Q : β → Mem → Prop} (h : ∀ z, z = x → pc (K z) Q) : pc (wt_lt x K) Q := h x rfl
theorem pc_chk {β : Type} {i : Int32} {n : Nat} {K : Option (β × Mem)} {Q : β → Mem → Prop} (h : 0 ≤ i.toInt ∧ i.toInt < n ∧ i.toNatClampNeg < n → pc K Q) : pc (wt_chk i n K) Q := by
  unfold wt_chk
  by_cases c : i < 0 ∨ n ≤ i.toNatClampNeg
  · rw [if_pos c]; exact pc_none rfl
  · rw [if_neg c]
    have h1 : 0 ≤ i.toInt := ti_nlt (fun q => c (Or.inl q))
    have h2 : i.toNatClampNeg < n := Nat.not_le.mp (fun q => c (Or.inr q))
    have h3 := ti_nat i
    exact h ⟨h1, by omega, h2⟩
theorem pc_nz {β : Type} {y : Int32} {K : Option (β × Mem)} {Q : β → Mem → Prop} (h : ¬ y = 0 → pc K Q) : pc (wt_nz y K) Q := by
  unfold wt_nz
  by_cases c : y = 0
  · rw [if_pos c]; exact pc_none rfl
  · rw [if_neg c]; exact h c
theorem pc_nzl {β : Type} {y : Int64} {K : Option (β × Mem)} {Q : β → Mem → Prop} (h : ¬ y = 0 → pc K Q) : pc (wt_nzl y K) Q := by
  unfold wt_nzl
  by_cases c : y = 0
  · rw [if_pos c]; exact pc_none rfl
  · rw [if_neg c]; exact h c
theorem pc_bz {β : Type} {x : Int32} {K : Option (β × Mem)} {Q : β → Mem → Prop} (h : x = 0 ∨ x = 1 → pc K Q) : pc (wt_bz x K) Q := by
  unfold wt_bz
  by_cases c : x = 0 ∨ x = 1
  · rw [if_pos c]; exact h c
  · rw [if_neg c]; exact pc_none rfl
theorem pc_ite {β : Type} {c : Prop} [Decidable c] {A E : Option (β × Mem)} {Q : β → Mem → Prop} (h1 : c → pc A Q) (h2 : ¬ c → pc E Q) : pc (if c then A else E) Q := by
  by_cases h : c
  · rw [if_pos h]; exact h1 h
  · rw [if_neg h]; exact h2 h
theorem pc_bnd {α β : Type} {o : Option (α × Mem)} {K : α → Mem → Option (β × Mem)} {P : α → Mem → Prop} {Q : β → Mem → Prop} (h : pc o P) (k : ∀ a s, P a s → pc (K a s) Q) : pc (wt_bnd o K) Q := by
  unfold wt_bnd
  cases ho : o with
  | none => exact pc_none rfl
  | some q => exact k q.1 q.2 (h q.1 q.2 ho)
theorem pc_be {α β : Type} {o : Option (α × Mem)} {a : α} {s : Mem} {K : α → Mem → Option (β × Mem)} {Q : β → Mem → Prop} (h : o = some (a, s)) (k : pc (K a s) Q) : pc (wt_bnd o K) Q := by
  rw [h]; exact k
theorem pc_eq {α : Type} {o : Option (α × Mem)} {a : α} {s : Mem} {Q : α → Mem → Prop} (h : o = some (a, s)) (k : Q a s) : pc o Q := by
  rw [h]; exact pc_ret k
theorem pc_mono {α : Type} {o : Option (α × Mem)} {P Q : α → Mem → Prop} (h : pc o P) (k : ∀ a s, P a s → Q a s) : pc o Q := fun a s e => k a s (h a s e)
theorem pc_and {α : Type} {o : Option (α × Mem)} {P Q : α → Mem → Prop} (h : pc o P) (k : pc o Q) : pc o (fun a s => P a s ∧ Q a s) := fun a s e => ⟨h a s e, k a s e⟩
theorem pc_pf {α : Type} {o : Option (α × Mem)} {W : Nat → Prop} {τ : Mem} (h : pf W o τ) : pc o (fun _ s => fr W τ s) := h
theorem pc_sf {α : Type} {o : Option (α × Mem)} {P Q : α → Mem → Prop} (h : sf o P) (k : pc o Q) : sf o (fun a s => P a s ∧ Q a s) := by
  obtain ⟨a, s, e, q⟩ := h
  exact ⟨a, s, e, q, k a s e⟩
theorem sf_pc {α : Type} {o : Option (α × Mem)} {P : α → Mem → Prop} (h : sf o P) : pc o P := by
  obtain ⟨a, s, e, q⟩ := h
  intro a' s' e'
  rw [e] at e'
  cases e'
  exact q
end
section
/-! literals by their numbers -/
theorem tz_m2000 : (-2000 : Int32).toInt = -2000 := rfl
theorem tz_m1000 : (-1000 : Int32).toInt = -1000 := rfl
theorem tz_m9 : (-9 : Int32).toInt = -9 := rfl
theorem tz_m6 : (-6 : Int32).toInt = -6 := rfl
theorem tz_m4 : (-4 : Int32).toInt = -4 := rfl
theorem tz_m3 : (-3 : Int32).toInt = -3 := rfl
theorem tz_m2 : (-2 : Int32).toInt = -2 := rfl
theorem tz_m1 : (-1 : Int32).toInt = -1 := rfl
theorem tz_0 : (0 : Int32).toInt = 0 := rfl
theorem tz_1 : (1 : Int32).toInt = 1 := rfl
theorem tz_2 : (2 : Int32).toInt = 2 := rfl
theorem tz_3 : (3 : Int32).toInt = 3 := rfl
theorem tz_4 : (4 : Int32).toInt = 4 := rfl
theorem tz_5 : (5 : Int32).toInt = 5 := rfl
theorem tz_6 : (6 : Int32).toInt = 6 := rfl
theorem tz_7 : (7 : Int32).toInt = 7 := rfl
theorem tz_8 : (8 : Int32).toInt = 8 := rfl
theorem tz_9 : (9 : Int32).toInt = 9 := rfl
theorem tz_10 : (10 : Int32).toInt = 10 := rfl
theorem tz_11 : (11 : Int32).toInt = 11 := rfl
theorem tz_12 : (12 : Int32).toInt = 12 := rfl
theorem tz_20 : (20 : Int32).toInt = 20 := rfl
theorem tz_23 : (23 : Int32).toInt = 23 := rfl
theorem tz_24 : (24 : Int32).toInt = 24 := rfl
theorem tz_31 : (31 : Int32).toInt = 31 := rfl
theorem tz_48 : (48 : Int32).toInt = 48 := rfl
theorem tz_57 : (57 : Int32).toInt = 57 := rfl
theorem tz_59 : (59 : Int32).toInt = 59 := rfl
theorem tz_60 : (60 : Int32).toInt = 60 := rfl
theorem tz_95 : (95 : Int32).toInt = 95 := rfl
theorem tz_96 : (96 : Int32).toInt = 96 := rfl
theorem tz_98 : (98 : Int32).toInt = 98 := rfl
theorem tz_99 : (99 : Int32).toInt = 99 := rfl
theorem tz_100 : (100 : Int32).toInt = 100 := rfl
theorem tz_108 : (108 : Int32).toInt = 108 := rfl
theorem tz_112 : (112 : Int32).toInt = 112 := rfl
theorem tz_115 : (115 : Int32).toInt = 115 := rfl
theorem tz_117 : (117 : Int32).toInt = 117 := rfl
theorem tz_118 : (118 : Int32).toInt = 118 := rfl
theorem tz_119 : (119 : Int32).toInt = 119 := rfl
theorem tz_120 : (120 : Int32).toInt = 120 := rfl
theorem tz_188 : (188 : Int32).toInt = 188 := rfl
theorem tz_255 : (255 : Int32).toInt = 255 := rfl
theorem tz_999 : (999 : Int32).toInt = 999 := rfl
theorem tz_1000 : (1000 : Int32).toInt = 1000 := rfl
theorem tz_9999 : (9999 : Int32).toInt = 9999 := rfl
theorem tz_99999 : (99999 : Int32).toInt = 99999 := rfl
theorem wv_us {f : Nat → Int32} {k : Nat} {x : Int32} : upd f k x k = x := if_pos rfl
theorem wv_un {f : Nat → Int32} {k j : Nat} {x : Int32} (h : ¬ j = k) : upd f k x j = f j := if_neg h
/-! a house as a vector of 188 numbers: panes, lookers, law, day, 8 worths, 6 panes' views, 5 kinds and figures, 5 * 24 hours (-9 none), 5 * 8 counts -/
def wvJ (p : Nat) : Nat := if p < 4 then 0 else if p < 12 then 16 else if p < 18 then 1 else if p < 28 then (if p % 2 = 0 then 2 else 3) else if p < 148 then 5 + (p - 28) / 24 else 11 + (p - 148) / 8
def wvI (p : Nat) : Nat := if p = 0 then 0 else if p = 1 then 2 else if p = 2 then 8 else if p = 3 then 9 else if p < 12 then p - 4 else if p < 18 then p - 12 else if p < 28 then (p - 18) / 2 else if p < 148 then (p - 28) % 24 else (p - 148) % 8
def wvPl (j i : Nat) : Nat := if j = 0 then (if i = 0 then 0 else if i = 2 then 1 else if i = 8 then 2 else 3) else if j = 16 then 4 + i else if j = 1 then 12 + i else if j = 2 then 18 + 2 * i else if j = 3 then 19 + 2 * i else if j < 11 then 28 + 24 * (j - 5) + i else 148 + 8 * (j - 11) + i
theorem wvPl_ok : ∀ p, p < 188 → wvPl (wvJ p) (wvI p) = p := by decide +kernel
theorem wvJ_le : ∀ p, p < 188 → wvJ p ≤ 16 := by decide +kernel
theorem wvJ_0 : ∀ p, p < 188 → wvJ p = 0 → wvI p = 0 ∨ wvI p = 2 ∨ wvI p = 8 ∨ wvI p = 9 := by decide +kernel
theorem wvJI_16 : ∀ v, v < 8 → 16 = wvJ (4 + v) ∧ v = wvI (4 + v) := by decide +kernel
theorem wvJI_1 : ∀ v, v < 6 → 1 = wvJ (12 + v) ∧ v = wvI (12 + v) := by decide +kernel
theorem wvJI_2 : ∀ v, v < 5 → 2 = wvJ (18 + 2 * v) ∧ v = wvI (18 + 2 * v) := by decide +kernel
theorem wvJI_3 : ∀ v, v < 5 → 3 = wvJ (19 + 2 * v) ∧ v = wvI (19 + 2 * v) := by decide +kernel
theorem wvJI_5 : ∀ l, l < 5 → ∀ t, t < 24 → 5 + l = wvJ (28 + 24 * l + t) ∧ t = wvI (28 + 24 * l + t) := by decide +kernel
theorem wvJI_11 : ∀ l, l < 5 → ∀ v, v < 8 → 11 + l = wvJ (148 + 8 * l + v) ∧ v = wvI (148 + 8 * l + v) := by decide +kernel
theorem wvJ_5' : ∀ k, k < 5 → ∀ p, p < 188 → wvJ p = 5 + k → 28 + 24 * k ≤ p ∧ p < 52 + 24 * k := by decide +kernel
theorem wvJ_11' : ∀ k, k < 5 → ∀ p, p < 188 → wvJ p = 11 + k → 148 + 8 * k ≤ p ∧ p < 156 + 8 * k := by decide +kernel
theorem wtJ_no107 : ∀ p, p < 148 → wtJ p ≠ 107 := by decide +kernel
theorem wvJ_lo : ∀ p, p < 148 → 4 ≤ p → (1 ≤ wvJ p ∧ wvJ p ≤ 9) ∨ wvJ p = 16 := by decide +kernel
theorem wvJ_cs : ∀ p, p < 28 → (wvJ p = 0 ∧ (wvI p = 0 ∨ wvI p = 2 ∨ wvI p = 8 ∨ wvI p = 9)) ∨ (wvJ p = 16 ∧ wvI p < 8) ∨ (wvJ p = 1 ∧ wvI p < 6) ∨ (wvJ p = 2 ∧ wvI p < 5) ∨ (wvJ p = 3 ∧ wvI p < 5) := by decide +kernel
def wvN (x : Int32) : Int32 := if x = 9 then -9 else if x = -9 then 9 else x
theorem wvN_o {x : Int32} (h : 0 ≤ x.toInt) (h9 : ¬ x = 9) : wvN x = x := by
  unfold wvN
  rw [if_neg h9, if_neg (fun q => by rw [q] at h; exact absurd h (by decide))]
def wvE (p : Nat) (x : Int32) : Int32 := if 28 ≤ p ∧ p < 148 then wvN x else x
def wvX (h : Nat) (σ : Mem) (p : Nat) : Int32 := wvE p (σ (h + wvJ p) (wvI p))
def wvM (σ : Mem) (p : Nat) : Int32 := σ (wtJ p) (wtI p)
theorem wvE_o {p : Nat} {x : Int32} (h : p < 28 ∨ 148 ≤ p) : wvE p x = x := if_neg (by omega)
theorem wvE_i {p : Nat} {x : Int32} (h : 28 ≤ p ∧ p < 148) : wvE p x = wvN x := if_pos h
theorem wvX_at {h q k i : Nat} {σ : Mem} {x : Int32} (hq : q < 188) (hk : k = h + wvJ q) (hi : i = wvI q) {p : Nat} (hp : p < 188) : wvX h (up2 σ k i x) p = upd (wvX h σ) q (wvE q x) p := by
  subst hk hi
  by_cases e : p = q
  · subst e; rw [wv_us]; unfold wvX; rw [up2_s]
  · have hne : ¬ (wvJ p = wvJ q ∧ wvI p = wvI q) := fun h => e (by rw [← wvPl_ok p hp, ← wvPl_ok q hq, h.1, h.2])
    rw [wv_un e]
    unfold wvX
    by_cases e2 : wvJ p = wvJ q
    · rw [e2, up2_i (fun h => hne ⟨e2, h⟩)]
    · rw [up2_k (by omega)]
theorem wvX_eq {h : Nat} {σ s : Mem} (e : ∀ p, p < 188 → s (h + wvJ p) (wvI p) = σ (h + wvJ p) (wvI p)) {p : Nat} (hp : p < 188) : wvX h s p = wvX h σ p := by
  unfold wvX
  rw [e p hp]
theorem wvX_k {h k i : Nat} {σ : Mem} {x : Int32} (hk : k < h ∨ h + 16 < k) {p : Nat} (hp : p < 188) : wvX h (up2 σ k i x) p = wvX h σ p := by
  refine wvX_eq (fun p hp => ?_) hp
  have := wvJ_le p hp
  rw [up2_k (by omega)]
theorem wvX_fr {W : Nat → Prop} {h : Nat} {τ s : Mem} (hh : wt_isH h) (hf : fr W τ s) (hW : ∀ c, h ≤ c → c ≤ h + 16 → ¬ W c) {p : Nat} (hp : p < 188) : wvX h s p = wvX h τ p := by
  refine wvX_eq (fun p hp => hf _ _ ?_) hp
  have h1 := wvJ_le p hp
  have h2 := wt_Hcs hh
  rw [wcid_lo (by omega) (by omega)]
  exact hW _ (by omega) (by omega)
theorem wvM_at {q k i : Nat} {σ : Mem} {x : Int32} (hq : q < 188) (hk : k = wtJ q) (hi : i = wtI q) {p : Nat} (hp : p < 188) : wvM (up2 σ k i x) p = upd (wvM σ) q x p := by
  subst hk hi
  by_cases e : p = q
  · subst e; rw [wv_us]; unfold wvM; rw [up2_s]
  · have hne : ¬ (wtJ p = wtJ q ∧ wtI p = wtI q) := fun h => e (by rw [← wtPl_ok p hp, ← wtPl_ok q hq, h.1, h.2])
    rw [wv_un e]
    unfold wvM
    by_cases e2 : wtJ p = wtJ q
    · rw [e2, up2_i (fun h => hne ⟨e2, h⟩)]
    · rw [up2_k e2]
theorem wvM_no {k i : Nat} {σ : Mem} {x : Int32} (hk : ¬ (102 ≤ k ∧ k ≤ 107)) (hi : ¬ (k = 101 ∧ (i = 1 ∨ i = 3 ∨ i = 8 ∨ i = 9))) {p : Nat} (hp : p < 188) : wvM (up2 σ k i x) p = wvM σ p := by
  unfold wvM
  rw [wm_key, if_neg]
  rintro ⟨rfl, rfl⟩
  have h1 := wtJ_101 p hp
  by_cases e : wtJ p = 101
  · have := wtI_fld p hp e
    exact hi ⟨e, this⟩
  · omega
theorem wvM_cid {p : Nat} (hp : p < 188) : (102 ≤ wcid (wtJ p) (wtI p) ∧ wcid (wtJ p) (wtI p) ≤ 107) ∨ wcid (wtJ p) (wtI p) = 1001 ∨ wcid (wtJ p) (wtI p) = 1003 ∨ wcid (wtJ p) (wtI p) = 1008 ∨ wcid (wtJ p) (wtI p) = 1009 := by
  have h2 := wtJ_101 p hp
  by_cases e : wtJ p = 101
  · have h3 := wtI_fld p hp e
    have h5 : wcid (wtJ p) (wtI p) = 1000 + wtI p := by rw [e]; rfl
    omega
  · have h5 : wcid (wtJ p) (wtI p) = wtJ p := wcid_M (by omega)
    omega
theorem wvM_fr {W : Nat → Prop} {τ s : Mem} (hf : fr W τ s) (hW : ∀ c, (102 ≤ c ∧ c ≤ 107) ∨ c = 1001 ∨ c = 1003 ∨ c = 1008 ∨ c = 1009 → ¬ W c) {p : Nat} (hp : p < 188) : wvM s p = wvM τ p := hf _ _ (hW _ (wvM_cid hp))
/-! what the changes do to a vector -/
def aPane (V : Nat → Int32) (x : Int32) : Nat → Int32 := upd (upd V (12 + (V 0).toNatClampNeg) x) 0 (V 0 + 1)
def aLooker (V : Nat → Int32) (k f : Int32) (p : Nat) : Int32 :=
  if p = 1 then V 1 + 1 else if p = 18 + 2 * (V 1).toNatClampNeg then k else if p = 19 + 2 * (V 1).toNatClampNeg then f else if 28 + 24 * (V 1).toNatClampNeg ≤ p ∧ p < 52 + 24 * (V 1).toNatClampNeg then -9 else if 148 + 8 * (V 1).toNatClampNeg ≤ p ∧ p < 156 + 8 * (V 1).toNatClampNeg then 0 else V p
def aStand (V : Nat → Int32) (l a b : Nat) (x : Int32) (p : Nat) : Int32 := if 28 + 24 * l + a ≤ p ∧ p ≤ 28 + 24 * l + b then wvN x else V p
def aWall (V : Nat → Int32) (x v : Int32) : Nat → Int32 := upd V (12 + x.toNatClampNeg) (V (12 + x.toNatClampNeg) ^^^ ((1 : Int32) <<< (v &&& 31)))
def aWorth (V : Nat → Int32) (v x : Int32) : Nat → Int32 := upd V (4 + v.toNatClampNeg) x
def aLaw (V : Nat → Int32) (x : Int32) : Nat → Int32 := upd V 2 x
/-- the bits of all panes' views -/
def aAll (V : Nat → Int32) : Nat → Int32
  | 0 => 0
  | n + 1 => aAll V n ||| V (12 + n)
def aInv (t : Int32) : Int32 := if t < 6 then 1 else if 17 < t then 1 else 2
/-- what looker l pulls in hour t -/
def aPull (V : Nat → Int32) (l : Nat) (t : Int32) : Int32 :=
  if V (18 + 2 * l) = 0 then 1 else if V (18 + 2 * l) = 1 then aInv t else if V (18 + 2 * l) = 2 then (if t = V (19 + 2 * l) + 8 then 5 else 0) else if V (18 + 2 * l) = 3 then (if t - t / 2 * 2 = 0 then 1 else 0) else if V (18 + 2 * l) = 4 then V (19 + 2 * l) / 3 + aInv t else if V (18 + 2 * l) = 5 then (V (19 + 2 * l) / 3 + aInv t) * (if t < 20 then 1 else 2) else 0
/-- what it sees then -/
def aSees (V : Nat → Int32) (l t : Nat) : Int32 := if V (18 + 2 * l) = 2 then aAll V (V 0).toNatClampNeg else if (V (28 + 24 * l + t)).toInt < 0 then 0 else V (12 + (V (28 + 24 * l + t)).toNatClampNeg)
/-- what it brings of view v in the hours below t -/
def aGain (V : Nat → Int32) (l v : Nat) : Nat → Int32
  | 0 => 0
  | t + 1 => aGain V l v t + (if (aSees V l t >>> (Int32.ofNat v &&& 31)) &&& (1 : Int32) = 1 then aPull V l (Int32.ofNat t) else 0)
def aBehind (V : Nat → Int32) (x : Int32) (l v : Nat) : Int32 := wt_min 99999 (V (148 + 8 * l + v) + x * aGain V l v 24)
def aDay (V : Nat → Int32) (x : Int32) (p : Nat) : Int32 := if p = 3 then V 3 + x else if 148 ≤ p ∧ p < 188 ∧ (p - 148) / 8 < (V 1).toNatClampNeg then aBehind V x ((p - 148) / 8) ((p - 148) % 8) else V p
/-- the cells that count: of lookers there are -/
def live (V : Nat → Int32) (p : Nat) : Prop := (28 ≤ p → p < 148 → (p - 28) / 24 < (V 1).toNatClampNeg) ∧ (148 ≤ p → (p - 148) / 8 < (V 1).toNatClampNeg)
def weq (lim : Nat) (A B : Nat → Int32) : Prop := ∀ p, p < lim → live A p → B p = A p
theorem live_lo {V : Nat → Int32} {p : Nat} (h : p < 28) : live V p := ⟨fun h1 => by omega, fun h1 => by omega⟩
theorem weq_lo {lim : Nat} {A B : Nat → Int32} (h : weq lim A B) (hl : 28 ≤ lim) {p : Nat} (hp : p < 28) : B p = A p := h p (by omega) (live_lo hp)
theorem weq_rf {lim : Nat} {A : Nat → Int32} : weq lim A A := fun _ _ _ => rfl
theorem weq_cg {lim : Nat} {A B A' B' : Nat → Int32} (h : weq lim A B) (hl : 28 ≤ lim) (h1 : ∀ p, p < lim → A' p = A p) (h2 : ∀ p, p < lim → B' p = B p) : weq lim A' B' := by
  intro p hp hv
  rw [h1 p hp, h2 p hp]
  refine h p hp ?_
  unfold live at hv ⊢
  rw [h1 1 (by omega)] at hv
  exact hv
/-! the numbers of a vector within their bounds -/
def wvV (V : Nat → Int32) : Prop := (0 ≤ (V 0).toInt ∧ (V 0).toInt ≤ 6) ∧ (0 ≤ (V 1).toInt ∧ (V 1).toInt ≤ 5) ∧ (0 ≤ (V 2).toInt ∧ (V 2).toInt ≤ 2) ∧ (∀ p, 4 ≤ p → p < 12 → 0 ≤ (V p).toInt ∧ (V p).toInt ≤ 9) ∧ (∀ p, 28 ≤ p → p < 148 → live V p → (V p).toInt = -9 ∨ (0 ≤ (V p).toInt ∧ (V p).toInt < (V 0).toInt)) ∧ (∀ l : Nat, (l : Int) < (V 1).toInt → (0 ≤ (V (18 + 2 * l)).toInt ∧ (V (18 + 2 * l)).toInt ≤ 5) ∧ (0 ≤ (V (19 + 2 * l)).toInt ∧ (V (19 + 2 * l)).toInt ≤ 9)) ∧ (∀ p, 148 ≤ p → p < 188 → live V p → 0 ≤ (V p).toInt ∧ (V p).toInt ≤ 99999)
theorem wvV_cg {V V' : Nat → Int32} (h : wvV V) (e : ∀ p, p < 188 → V' p = V p) : wvV V' := by
  obtain ⟨h0, h1, h2, h3, h4, h5, h6⟩ := h
  have lv : ∀ p, live V' p → live V p := fun p c => by
    unfold live at c ⊢
    rw [e 1 (by decide)] at c
    exact c
  refine ⟨by rw [e 0 (by decide)]; exact h0, by rw [e 1 (by decide)]; exact h1, by rw [e 2 (by decide)]; exact h2, fun p a b => by rw [e p (by omega)]; exact h3 p a b, fun p a b c => ?_, fun l hl => ?_, fun p a b c => ?_⟩
  · rw [e p (by omega), e 0 (by decide)]
    exact h4 p a b (lv p c)
  · rw [e 1 (by decide)] at hl
    rw [e (18 + 2 * l) (by omega), e (19 + 2 * l) (by omega)]
    exact h5 l hl
  · rw [e p (by omega)]
    exact h6 p a b (lv p c)
/-- the cell of a looker there is -/
theorem vV_c {V : Nat → Int32} (h : wvV V) {l t : Nat} (hl : (l : Int) < (V 1).toInt) (ht : t < 24) : (V (28 + 24 * l + t)).toInt = -9 ∨ (0 ≤ (V (28 + 24 * l + t)).toInt ∧ (V (28 + 24 * l + t)).toInt < (V 0).toInt) := by
  have h5 := h.2.1.2
  have n1 := ti_nat (V 1)
  exact h.2.2.2.2.1 (28 + 24 * l + t) (by omega) (by omega) ⟨fun _ _ => by omega, fun _ => by omega⟩
theorem vV_n {V : Nat → Int32} (h : wvV V) {l v : Nat} (hl : (l : Int) < (V 1).toInt) (hv : v < 8) : 0 ≤ (V (148 + 8 * l + v)).toInt ∧ (V (148 + 8 * l + v)).toInt ≤ 99999 := by
  have h5 := h.2.1.2
  have n1 := ti_nat (V 1)
  exact h.2.2.2.2.2.2 (148 + 8 * l + v) (by omega) (by omega) ⟨fun _ => by omega, fun _ => by omega⟩
theorem io_nat : ∀ n, n < 24 → (Int32.ofNat n).toInt = (n : Int) := by decide +kernel
theorem io_eq {x : Int32} {n : Nat} (h : x.toInt = (n : Int)) (hn : n < 24) : x = Int32.ofNat n := Int32.toInt_inj.mp (by rw [h, io_nat n hn])
theorem ti_div3 {z : Int32} (h : 0 ≤ z.toInt ∧ z.toInt ≤ 9) : 0 ≤ (z / 3).toInt ∧ (z / 3).toInt ≤ 3 := by
  have e : z = Int32.ofNat z.toNatClampNeg := io_eq (by rw [ti_nat]; omega) (by rw [ti_nat]; omega)
  have k : ∀ n, n < 10 → 0 ≤ ((Int32.ofNat n) / 3).toInt ∧ ((Int32.ofNat n) / 3).toInt ≤ 3 := by decide +kernel
  rw [e]
  exact k _ (by rw [ti_nat]; omega)
end
section
/-! the class's changes of a house -/
theorem tn_lt {x : Int32} {n : Nat} (h0 : 0 ≤ x.toInt) (h : x.toInt < (n : Int)) : x.toNatClampNeg < n := by
  rw [ti_nat]; omega
theorem ax_isPane {F h : Nat} {x : Int32} {σ : Mem} (b : (σ h 0).toInt ≤ 6) : f_X0_isPane F h x σ = some (if 0 ≤ x.toInt ∧ x.toInt < (σ h 0).toInt then 1 else 0, σ) := by
  rw [f_X0_isPane_e]
  simp only [j_X0_isPane_22_e]
  by_cases c1 : x < 0
  · rw [if_pos c1, if_neg (fun q => by have := ti_lt c1; have := q.1; rw [tz_0] at *; omega)]
  · rw [if_neg c1]
    have d1 := ti_nlt c1
    rw [tz_0] at d1
    by_cases c2 : σ h 0 ≤ x
    · rw [if_pos c2, if_neg (fun q => by have := ti_le c2; have := q.2; omega)]
    · rw [if_neg c2]
      have d2 := ti_nle c2
      rw [if_neg (fun c3 => by have := ti_le c3; rw [tz_6] at this; omega), if_pos ⟨d1, d2⟩]
theorem ax_isLooker {F h : Nat} {x : Int32} {σ : Mem} (b : (σ h 2).toInt ≤ 5) : f_X0_isLooker F h x σ = some (if 0 ≤ x.toInt ∧ x.toInt < (σ h 2).toInt then 1 else 0, σ) := by
  rw [f_X0_isLooker_e]
  simp only [j_X0_isLooker_21_e]
  by_cases c1 : x < 0
  · rw [if_pos c1, if_neg (fun q => by have := ti_lt c1; have := q.1; rw [tz_0] at *; omega)]
  · rw [if_neg c1]
    have d1 := ti_nlt c1
    rw [tz_0] at d1
    by_cases c2 : σ h 2 ≤ x
    · rw [if_pos c2, if_neg (fun q => by have := ti_le c2; have := q.2; omega)]
    · rw [if_neg c2]
      have d2 := ti_nle c2
      rw [if_neg (fun c3 => by have := ti_le c3; rw [tz_5] at this; omega), if_pos ⟨d1, d2⟩]
theorem ax_isHour {F : Nat} {x : Int32} {σ : Mem} : f_X0_isHour F x σ = some (if 0 ≤ x.toInt ∧ x.toInt ≤ 23 then 1 else 0, σ) := by
  rw [f_X0_isHour_e]
  simp only [j_X0_isHour_14_e]
  by_cases c1 : x < 0
  · rw [if_pos c1, if_neg (fun q => by have := ti_lt c1; have := q.1; rw [tz_0] at *; omega)]
  · rw [if_neg c1]
    have d1 := ti_nlt c1
    rw [tz_0] at d1
    by_cases c2 : (24 : Int32) ≤ x
    · rw [if_pos c2, if_neg (fun q => by have := ti_le c2; have := q.2; rw [tz_24] at *; omega)]
    · have d2 := ti_nle c2
      rw [tz_24] at d2
      rw [if_neg c2, if_pos ⟨d1, by omega⟩]
theorem ax_isView {F : Nat} {x : Int32} {σ : Mem} : f_X0_isView F x σ = some (if 0 ≤ x.toInt ∧ x.toInt ≤ 7 then 1 else 0, σ) := by
  rw [f_X0_isView_e]
  simp only [j_X0_isView_14_e]
  by_cases c1 : x < 0
  · rw [if_pos c1, if_neg (fun q => by have := ti_lt c1; have := q.1; rw [tz_0] at *; omega)]
  · rw [if_neg c1]
    have d1 := ti_nlt c1
    rw [tz_0] at d1
    by_cases c2 : (8 : Int32) ≤ x
    · rw [if_pos c2, if_neg (fun q => by have := ti_le c2; have := q.2; rw [tz_8] at *; omega)]
    · have d2 := ti_nle c2
      rw [tz_8] at d2
      rw [if_neg c2, if_pos ⟨d1, by omega⟩]
/-- what a change answers: 1 and it is done, or 0 and all is as it was -/
def wok (c : Prop) (r : Int32) (σ s : Mem) (h : Nat) (A : Nat → Int32) : Prop := (c → r = 1 ∧ ∀ p, p < 188 → wvX h s p = A p) ∧ (¬ c → r = 0 ∧ s = σ)
theorem wok_no {c : Prop} {σ : Mem} {h : Nat} {A : Nat → Int32} (hc : ¬ c) : wok c 0 σ σ h A := ⟨fun q => absurd q hc, fun _ => ⟨rfl, rfl⟩⟩
theorem wok_yes {c : Prop} {σ s : Mem} {h : Nat} {A : Nat → Int32} (hc : c) (hA : ∀ p, p < 188 → wvX h s p = A p) : wok c 1 σ s h A := ⟨fun _ => ⟨rfl, hA⟩, fun q => absurd hc q⟩
theorem upd_cg {f g : Nat → Int32} {k : Nat} {x y : Int32} {p : Nat} (h : f p = g p) (hx : x = y) : upd f k x p = upd g k y p := by
  subst hx
  by_cases e : p = k
  · subst e; rw [wv_us, wv_us]
  · rw [wv_un e, wv_un e, h]
theorem ax_addPane {F h : Nat} {x : Int32} {σ : Mem} (hh : wt_isH h) (b : 0 ≤ (σ h 0).toInt ∧ (σ h 0).toInt ≤ 6) : pc (f_X0_addPane F h x σ) (fun r s => wok (0 ≤ x.toInt ∧ x.toInt ≤ 255 ∧ (σ h 0).toInt < 6) r σ s h (aPane (wvX h σ) x)) := by
  have hc := wt_Hcs hh
  rw [f_X0_addPane_e]
  simp only [j_X0_addPane_27_e]
  refine pc_ite (fun c1 => pc_ret (wok_no (fun q => ?_))) (fun c1 => ?_)
  · ((try simp only [Int32.lt_iff_toInt_lt, Int32.le_iff_toInt_le, ← Int32.toInt_inj, tz_m2000, tz_m1000, tz_m9, tz_m6, tz_m4, tz_m3, tz_m2, tz_m1, tz_0, tz_1, tz_2, tz_3, tz_4, tz_5, tz_6, tz_7, tz_8, tz_9, tz_10, tz_11, tz_12, tz_20, tz_23, tz_24, tz_31, tz_48, tz_57, tz_59, tz_60, tz_95, tz_96, tz_98, tz_99, tz_100, tz_108, tz_112, tz_115, tz_117, tz_118, tz_119, tz_120, tz_188, tz_255, tz_999, tz_1000, tz_9999, tz_99999] at *) <;> omega)
  refine pc_ite (fun c2 => pc_ret (wok_no (fun q => ?_))) (fun c2 => ?_)
  · ((try simp only [Int32.lt_iff_toInt_lt, Int32.le_iff_toInt_le, ← Int32.toInt_inj, tz_m2000, tz_m1000, tz_m9, tz_m6, tz_m4, tz_m3, tz_m2, tz_m1, tz_0, tz_1, tz_2, tz_3, tz_4, tz_5, tz_6, tz_7, tz_8, tz_9, tz_10, tz_11, tz_12, tz_20, tz_23, tz_24, tz_31, tz_48, tz_57, tz_59, tz_60, tz_95, tz_96, tz_98, tz_99, tz_100, tz_108, tz_112, tz_115, tz_117, tz_118, tz_119, tz_120, tz_188, tz_255, tz_999, tz_1000, tz_9999, tz_99999] at *) <;> omega)
  refine pc_ite (fun c3 => pc_ret (wok_no (fun q => ?_))) (fun c3 => ?_)
  · ((try simp only [Int32.lt_iff_toInt_lt, Int32.le_iff_toInt_le, ← Int32.toInt_inj, tz_m2000, tz_m1000, tz_m9, tz_m6, tz_m4, tz_m3, tz_m2, tz_m1, tz_0, tz_1, tz_2, tz_3, tz_4, tz_5, tz_6, tz_7, tz_8, tz_9, tz_10, tz_11, tz_12, tz_20, tz_23, tz_24, tz_31, tz_48, tz_57, tz_59, tz_60, tz_95, tz_96, tz_98, tz_99, tz_100, tz_108, tz_112, tz_115, tz_117, tz_118, tz_119, tz_120, tz_188, tz_255, tz_999, tz_1000, tz_9999, tz_99999] at *) <;> omega)
  refine pc_ite (fun c4 => ?_) (fun c4 => pc_ret (wok_no (fun q => ?_)))
  rotate_left
  · ((try simp only [Int32.lt_iff_toInt_lt, Int32.le_iff_toInt_le, ← Int32.toInt_inj, tz_m2000, tz_m1000, tz_m9, tz_m6, tz_m4, tz_m3, tz_m2, tz_m1, tz_0, tz_1, tz_2, tz_3, tz_4, tz_5, tz_6, tz_7, tz_8, tz_9, tz_10, tz_11, tz_12, tz_20, tz_23, tz_24, tz_31, tz_48, tz_57, tz_59, tz_60, tz_95, tz_96, tz_98, tz_99, tz_100, tz_108, tz_112, tz_115, tz_117, tz_118, tz_119, tz_120, tz_188, tz_255, tz_999, tz_1000, tz_9999, tz_99999] at *) <;> omega)
  have d4 := ti_lt c4
  rw [tz_6] at d4
  have hn : (σ h 0).toNatClampNeg < 6 := tn_lt b.1 d4
  refine pc_chk (fun _ => pc_lt (fun s2 h2 => pc_lt (fun s3 h3 => pc_ret (wok_yes ⟨?_, ?_, d4⟩ (fun p hp => ?_)))))
  · ((try simp only [Int32.lt_iff_toInt_lt, Int32.le_iff_toInt_le, ← Int32.toInt_inj, tz_m2000, tz_m1000, tz_m9, tz_m6, tz_m4, tz_m3, tz_m2, tz_m1, tz_0, tz_1, tz_2, tz_3, tz_4, tz_5, tz_6, tz_7, tz_8, tz_9, tz_10, tz_11, tz_12, tz_20, tz_23, tz_24, tz_31, tz_48, tz_57, tz_59, tz_60, tz_95, tz_96, tz_98, tz_99, tz_100, tz_108, tz_112, tz_115, tz_117, tz_118, tz_119, tz_120, tz_188, tz_255, tz_999, tz_1000, tz_9999, tz_99999] at *) <;> omega)
  · ((try simp only [Int32.lt_iff_toInt_lt, Int32.le_iff_toInt_le, ← Int32.toInt_inj, tz_m2000, tz_m1000, tz_m9, tz_m6, tz_m4, tz_m3, tz_m2, tz_m1, tz_0, tz_1, tz_2, tz_3, tz_4, tz_5, tz_6, tz_7, tz_8, tz_9, tz_10, tz_11, tz_12, tz_20, tz_23, tz_24, tz_31, tz_48, tz_57, tz_59, tz_60, tz_95, tz_96, tz_98, tz_99, tz_100, tz_108, tz_112, tz_115, tz_117, tz_118, tz_119, tz_120, tz_188, tz_255, tz_999, tz_1000, tz_9999, tz_99999] at *) <;> omega)
  have hj := wvJI_1 _ hn
  rw [h3, wvX_at (k := h) (i := 0) (q := 0) (by decide) rfl rfl hp]
  unfold aPane
  refine upd_cg ?_ ?_
  · rw [h2, wvX_at (q := 12 + (σ h 0).toNatClampNeg) (by omega) (by omega) hj.2 hp, wvE_o (Or.inl (by omega))]
    rfl
  · rw [wvE_o (Or.inl (by decide)), h2, up2_k (by omega)]
    rfl
theorem ax_rule {F h : Nat} {x : Int32} {σ : Mem} : pc (f_X0_rule F h x σ) (fun r s => wok (0 ≤ x.toInt ∧ x.toInt ≤ 2) r σ s h (aLaw (wvX h σ) x)) := by
  rw [f_X0_rule_e]
  simp only [j_X0_rule_9_e]
  refine pc_ite (fun c1 => pc_ret (wok_no (fun q => ?_))) (fun c1 => ?_)
  · ((try simp only [Int32.lt_iff_toInt_lt, Int32.le_iff_toInt_le, ← Int32.toInt_inj, tz_m2000, tz_m1000, tz_m9, tz_m6, tz_m4, tz_m3, tz_m2, tz_m1, tz_0, tz_1, tz_2, tz_3, tz_4, tz_5, tz_6, tz_7, tz_8, tz_9, tz_10, tz_11, tz_12, tz_20, tz_23, tz_24, tz_31, tz_48, tz_57, tz_59, tz_60, tz_95, tz_96, tz_98, tz_99, tz_100, tz_108, tz_112, tz_115, tz_117, tz_118, tz_119, tz_120, tz_188, tz_255, tz_999, tz_1000, tz_9999, tz_99999] at *) <;> omega)
  refine pc_ite (fun c2 => ?_) (fun c2 => pc_ret (wok_no (fun q => ?_)))
  rotate_left
  · ((try simp only [Int32.lt_iff_toInt_lt, Int32.le_iff_toInt_le, ← Int32.toInt_inj, tz_m2000, tz_m1000, tz_m9, tz_m6, tz_m4, tz_m3, tz_m2, tz_m1, tz_0, tz_1, tz_2, tz_3, tz_4, tz_5, tz_6, tz_7, tz_8, tz_9, tz_10, tz_11, tz_12, tz_20, tz_23, tz_24, tz_31, tz_48, tz_57, tz_59, tz_60, tz_95, tz_96, tz_98, tz_99, tz_100, tz_108, tz_112, tz_115, tz_117, tz_118, tz_119, tz_120, tz_188, tz_255, tz_999, tz_1000, tz_9999, tz_99999] at *) <;> omega)
  refine pc_lt (fun s1 h1 => pc_ret (wok_yes ⟨?_, ?_⟩ (fun p hp => ?_)))
  · ((try simp only [Int32.lt_iff_toInt_lt, Int32.le_iff_toInt_le, ← Int32.toInt_inj, tz_m2000, tz_m1000, tz_m9, tz_m6, tz_m4, tz_m3, tz_m2, tz_m1, tz_0, tz_1, tz_2, tz_3, tz_4, tz_5, tz_6, tz_7, tz_8, tz_9, tz_10, tz_11, tz_12, tz_20, tz_23, tz_24, tz_31, tz_48, tz_57, tz_59, tz_60, tz_95, tz_96, tz_98, tz_99, tz_100, tz_108, tz_112, tz_115, tz_117, tz_118, tz_119, tz_120, tz_188, tz_255, tz_999, tz_1000, tz_9999, tz_99999] at *) <;> omega)
  · ((try simp only [Int32.lt_iff_toInt_lt, Int32.le_iff_toInt_le, ← Int32.toInt_inj, tz_m2000, tz_m1000, tz_m9, tz_m6, tz_m4, tz_m3, tz_m2, tz_m1, tz_0, tz_1, tz_2, tz_3, tz_4, tz_5, tz_6, tz_7, tz_8, tz_9, tz_10, tz_11, tz_12, tz_20, tz_23, tz_24, tz_31, tz_48, tz_57, tz_59, tz_60, tz_95, tz_96, tz_98, tz_99, tz_100, tz_108, tz_112, tz_115, tz_117, tz_118, tz_119, tz_120, tz_188, tz_255, tz_999, tz_1000, tz_9999, tz_99999] at *) <;> omega)
  rw [h1, wvX_at (k := h) (i := 8) (q := 2) (by decide) rfl rfl hp]
  rfl
theorem ax_price {F h : Nat} {x1 x2 : Int32} {σ : Mem} : pc (f_X0_price F h x1 x2 σ) (fun r s => wok (0 ≤ x1.toInt ∧ x1.toInt ≤ 7 ∧ 0 ≤ x2.toInt ∧ x2.toInt ≤ 9) r σ s h (aWorth (wvX h σ) x1 x2)) := by
  rw [f_X0_price_e]
  simp only [j_X0_price_17_e]
  refine pc_be ax_isView ?_
  by_cases c0 : 0 ≤ x1.toInt ∧ x1.toInt ≤ 7
  rotate_left
  · rw [if_neg c0, if_pos rfl]; exact pc_ret (wok_no (fun q => c0 ⟨q.1, q.2.1⟩))
  rw [if_pos c0, if_neg (by decide)]
  refine pc_ite (fun c1 => pc_ret (wok_no (fun q => ?_))) (fun c1 => ?_)
  · ((try simp only [Int32.lt_iff_toInt_lt, Int32.le_iff_toInt_le, ← Int32.toInt_inj, tz_m2000, tz_m1000, tz_m9, tz_m6, tz_m4, tz_m3, tz_m2, tz_m1, tz_0, tz_1, tz_2, tz_3, tz_4, tz_5, tz_6, tz_7, tz_8, tz_9, tz_10, tz_11, tz_12, tz_20, tz_23, tz_24, tz_31, tz_48, tz_57, tz_59, tz_60, tz_95, tz_96, tz_98, tz_99, tz_100, tz_108, tz_112, tz_115, tz_117, tz_118, tz_119, tz_120, tz_188, tz_255, tz_999, tz_1000, tz_9999, tz_99999] at *) <;> omega)
  refine pc_ite (fun c2 => ?_) (fun c2 => pc_ret (wok_no (fun q => ?_)))
  rotate_left
  · ((try simp only [Int32.lt_iff_toInt_lt, Int32.le_iff_toInt_le, ← Int32.toInt_inj, tz_m2000, tz_m1000, tz_m9, tz_m6, tz_m4, tz_m3, tz_m2, tz_m1, tz_0, tz_1, tz_2, tz_3, tz_4, tz_5, tz_6, tz_7, tz_8, tz_9, tz_10, tz_11, tz_12, tz_20, tz_23, tz_24, tz_31, tz_48, tz_57, tz_59, tz_60, tz_95, tz_96, tz_98, tz_99, tz_100, tz_108, tz_112, tz_115, tz_117, tz_118, tz_119, tz_120, tz_188, tz_255, tz_999, tz_1000, tz_9999, tz_99999] at *) <;> omega)
  have hn : x1.toNatClampNeg < 8 := tn_lt c0.1 (by omega)
  refine pc_chk (fun _ => pc_lt (fun s1 h1 => pc_ret (wok_yes ⟨c0.1, c0.2, ?_, ?_⟩ (fun p hp => ?_))))
  · ((try simp only [Int32.lt_iff_toInt_lt, Int32.le_iff_toInt_le, ← Int32.toInt_inj, tz_m2000, tz_m1000, tz_m9, tz_m6, tz_m4, tz_m3, tz_m2, tz_m1, tz_0, tz_1, tz_2, tz_3, tz_4, tz_5, tz_6, tz_7, tz_8, tz_9, tz_10, tz_11, tz_12, tz_20, tz_23, tz_24, tz_31, tz_48, tz_57, tz_59, tz_60, tz_95, tz_96, tz_98, tz_99, tz_100, tz_108, tz_112, tz_115, tz_117, tz_118, tz_119, tz_120, tz_188, tz_255, tz_999, tz_1000, tz_9999, tz_99999] at *) <;> omega)
  · ((try simp only [Int32.lt_iff_toInt_lt, Int32.le_iff_toInt_le, ← Int32.toInt_inj, tz_m2000, tz_m1000, tz_m9, tz_m6, tz_m4, tz_m3, tz_m2, tz_m1, tz_0, tz_1, tz_2, tz_3, tz_4, tz_5, tz_6, tz_7, tz_8, tz_9, tz_10, tz_11, tz_12, tz_20, tz_23, tz_24, tz_31, tz_48, tz_57, tz_59, tz_60, tz_95, tz_96, tz_98, tz_99, tz_100, tz_108, tz_112, tz_115, tz_117, tz_118, tz_119, tz_120, tz_188, tz_255, tz_999, tz_1000, tz_9999, tz_99999] at *) <;> omega)
  have hj := wvJI_16 _ hn
  rw [h1, wvX_at (q := 4 + x1.toNatClampNeg) (by omega) (by omega) hj.2 hp, wvE_o (Or.inl (by omega))]
  rfl
theorem ax_flip {F h : Nat} {x1 x2 : Int32} {σ : Mem} (b : (σ h 0).toInt ≤ 6) : pc (f_X0_flip F h x1 x2 σ) (fun r s => wok (0 ≤ x1.toInt ∧ x1.toInt < (σ h 0).toInt ∧ 0 ≤ x2.toInt ∧ x2.toInt ≤ 7) r σ s h (aWall (wvX h σ) x1 x2)) := by
  rw [f_X0_flip_e]
  simp only [j_X0_flip_15_e]
  refine pc_be (ax_isPane b) ?_
  by_cases c0 : 0 ≤ x1.toInt ∧ x1.toInt < (σ h 0).toInt
  rotate_left
  · rw [if_neg c0, if_pos rfl]; exact pc_ret (wok_no (fun q => c0 ⟨q.1, q.2.1⟩))
  rw [if_pos c0, if_neg (by decide)]
  refine pc_be ax_isView ?_
  by_cases c1 : 0 ≤ x2.toInt ∧ x2.toInt ≤ 7
  rotate_left
  · rw [if_neg c1, if_pos rfl]; exact pc_ret (wok_no (fun q => c1 ⟨q.2.2.1, q.2.2.2⟩))
  rw [if_pos c1, if_neg (by decide)]
  have hn : x1.toNatClampNeg < 6 := tn_lt c0.1 (by omega)
  refine pc_chk (fun _ => pc_lt (fun s1 h1 => pc_ret (wok_yes ⟨c0.1, c0.2, c1.1, c1.2⟩ (fun p hp => ?_))))
  have hj := wvJI_1 _ hn
  rw [h1, wvX_at (q := 12 + x1.toNatClampNeg) (by omega) (by omega) hj.2 hp, wvE_o (Or.inl (by omega))]
  unfold aWall
  refine upd_cg rfl ?_
  unfold wvX
  rw [wvE_o (Or.inl (by omega)), ← hj.1, ← hj.2]
end
section
theorem tn_int {x : Int32} {k : Nat} (h : x.toInt = (k : Int)) : x.toNatClampNeg = k := by rw [ti_nat, h]; rfl
theorem ti_nx {x : Int32} {k : Nat} (h : x.toInt = (k : Int)) (hk : k < 100000) : (x + 1).toInt = ((k + 1 : Nat) : Int) := by
  rw [ti_add (by rw [h, tz_1]; omega) (by rw [h, tz_1]; omega), h, tz_1]; rfl
/-! what the class's lookers pull, see and bring, from a vector -/
theorem aPull_b {V : Nat → Int32} (h : wvV V) {l : Nat} (hl : (l : Int) < (V 1).toInt) {t : Int32} : 0 ≤ (aPull V l t).toInt ∧ (aPull V l t).toInt ≤ 10 := by
  have hk := (h.2.2.2.2.2.1 l hl).2
  have hd := ti_div3 hk
  have hi : aInv t = 1 ∨ aInv t = 2 := by
    unfold aInv
    by_cases c : t < 6
    · rw [if_pos c]; exact Or.inl rfl
    · rw [if_neg c]
      by_cases c2 : 17 < t
      · rw [if_pos c2]; exact Or.inl rfl
      · rw [if_neg c2]; exact Or.inr rfl
  have hs : 1 ≤ (V (19 + 2 * l) / 3 + aInv t).toInt ∧ (V (19 + 2 * l) / 3 + aInv t).toInt ≤ 5 := by
    rcases hi with e | e <;> rw [e]
    · rw [ti_add (by rw [tz_1]; omega) (by rw [tz_1]; omega), tz_1]; omega
    · rw [ti_add (by rw [tz_2]; omega) (by rw [tz_2]; omega), tz_2]; omega
  unfold aPull
  by_cases c0 : V (18 + 2 * l) = 0
  · rw [if_pos c0]; decide
  rw [if_neg c0]
  by_cases c1 : V (18 + 2 * l) = 1
  · rw [if_pos c1]; rcases hi with e | e <;> rw [e] <;> decide
  rw [if_neg c1]
  by_cases c2 : V (18 + 2 * l) = 2
  · rw [if_pos c2]
    by_cases d : t = V (19 + 2 * l) + 8
    · rw [if_pos d]; decide
    · rw [if_neg d]; decide
  rw [if_neg c2]
  by_cases c3 : V (18 + 2 * l) = 3
  · rw [if_pos c3]
    by_cases d : t - t / 2 * 2 = 0
    · rw [if_pos d]; decide
    · rw [if_neg d]; decide
  rw [if_neg c3]
  by_cases c4 : V (18 + 2 * l) = 4
  · rw [if_pos c4]; omega
  rw [if_neg c4]
  by_cases c5 : V (18 + 2 * l) = 5
  · rw [if_pos c5]
    by_cases d : t < 20
    · rw [if_pos d, Int32.mul_one]; omega
    · rw [if_neg d, ti_mul (by rw [tz_2]; omega) (by rw [tz_2]; omega), tz_2]; omega
  rw [if_neg c5]; decide
theorem aGain_b {V : Nat → Int32} (h : wvV V) {l v : Nat} (hl : (l : Int) < (V 1).toInt) : ∀ t, t ≤ 24 → 0 ≤ (aGain V l v t).toInt ∧ (aGain V l v t).toInt ≤ 10 * (t : Int) := fun t => by
  induction t with
  | zero => intro _; exact ⟨Int.le_refl 0, Int.le_refl 0⟩
  | succ t ih =>
    intro ht
    have b := ih (by omega)
    have p := aPull_b h hl (t := Int32.ofNat t)
    have key : ∀ y : Int32, 0 ≤ y.toInt ∧ y.toInt ≤ 10 → 0 ≤ (aGain V l v t + y).toInt ∧ (aGain V l v t + y).toInt ≤ 10 * ((t + 1 : Nat) : Int) := fun y hy => by
      rw [ti_add (by omega) (by omega)]; omega
    show 0 ≤ (aGain V l v t + (if (aSees V l t >>> (Int32.ofNat v &&& 31)) &&& (1 : Int32) = 1 then aPull V l (Int32.ofNat t) else 0)).toInt ∧ (aGain V l v t + (if (aSees V l t >>> (Int32.ofNat v &&& 31)) &&& (1 : Int32) = 1 then aPull V l (Int32.ofNat t) else 0)).toInt ≤ 10 * ((t + 1 : Nat) : Int)
    by_cases c : (aSees V l t >>> (Int32.ofNat v &&& 31)) &&& (1 : Int32) = 1
    · rw [if_pos c]; exact key _ p
    · rw [if_neg c]; exact key 0 (by decide)
theorem aBehind_b {V : Nat → Int32} (h : wvV V) {l v : Nat} (hl : (l : Int) < (V 1).toInt) (hv : v < 8) {x : Int32} (hx : 0 ≤ x.toInt ∧ x.toInt ≤ 9999) : 0 ≤ (aBehind V x l v).toInt ∧ (aBehind V x l v).toInt ≤ 99999 := by
  have g := aGain_b h hl (v := v) 24 (by omega)
  have n := vV_n h hl hv
  have m1 : 0 ≤ x.toInt * (aGain V l v 24).toInt := Int.mul_nonneg hx.1 g.1
  have m2 : x.toInt * (aGain V l v 24).toInt ≤ 9999 * 240 := Int.le_trans (Int.mul_le_mul_of_nonneg_right hx.2 g.1) (Int.mul_le_mul_of_nonneg_left (by omega) (by decide))
  have em : (x * aGain V l v 24).toInt = x.toInt * (aGain V l v 24).toInt := ti_mul (by omega) (by omega)
  have es : (V (148 + 8 * l + v) + x * aGain V l v 24).toInt = (V (148 + 8 * l + v)).toInt + x.toInt * (aGain V l v 24).toInt := by rw [ti_add (by rw [em]; omega) (by rw [em]; omega), em]
  unfold aBehind wt_min
  generalize V (148 + 8 * l + v) + x * aGain V l v 24 = y at *
  by_cases c : y < 99999
  · rw [if_pos c]
    have := ti_lt c
    rw [tz_99999] at this
    omega
  · rw [if_neg c]; decide
theorem wvN_N (x : Int32) : wvN (wvN x) = x := by
  by_cases a : x = 9
  · subst a; decide
  by_cases b : x = -9
  · subst b; decide
  have e : wvN x = x := by unfold wvN; rw [if_neg a, if_neg b]
  rw [e, e]
theorem wvN_s {x : Int32} (h : 0 ≤ x.toInt ∧ x.toInt ≤ 5) : wvN x = x := wvN_o h.1 (fun q => by rw [q] at h; exact absurd h.2 (by decide))
theorem wvN_x {v x : Int32} (h : 0 ≤ x.toInt ∧ x.toInt ≤ 5) : wvN v = x ↔ v = x :=
  ⟨fun q => by rw [← wvN_N v, q]; exact wvN_s h, fun q => by rw [q]; exact wvN_s h⟩
theorem wvN_9 {v : Int32} (h : v.toInt = -9 ∨ (0 ≤ v.toInt ∧ v.toInt ≤ 5)) : wvN v = 9 ↔ v.toInt < 0 := by
  rcases h with h | h
  · have e : v = -9 := Int32.toInt_inj.mp (by rw [h]; rfl)
    exact ⟨fun _ => by omega, fun _ => by rw [e]; decide⟩
  · rw [wvN_s h]
    exact ⟨fun q => by rw [q] at h; exact absurd h.2 (by decide), fun q => by omega⟩
/-- the house h holds V (in the cells that count) -/
def vH (h : Nat) (V : Nat → Int32) (σ : Mem) : Prop := wvV V ∧ ∀ p, p < 188 → live V p → wvX h σ p = V p
theorem vH_k {h : Nat} {V : Nat → Int32} {σ s : Mem} (a : vH h V σ) (e : ∀ k, ¬ (h + 18 ≤ k ∧ k ≤ h + 22) → s k = σ k) : vH h V s := ⟨a.1, fun p hp hv => by
  rw [← a.2 p hp hv]
  exact wvX_eq (fun p hp => by have := wvJ_le p hp; rw [e _ (by omega)]) hp⟩
theorem vH_lo {h : Nat} {V : Nat → Int32} {σ : Mem} (a : vH h V σ) {p : Nat} (hp : p < 28) : wvX h σ p = V p := a.2 p (by omega) (live_lo hp)
theorem vH_0 {h : Nat} {V : Nat → Int32} {σ : Mem} (a : vH h V σ) : σ h 0 = V 0 := vH_lo a (p := 0) (by decide)
theorem vH_2 {h : Nat} {V : Nat → Int32} {σ : Mem} (a : vH h V σ) : σ h 2 = V 1 := vH_lo a (p := 1) (by decide)
theorem vH_8 {h : Nat} {V : Nat → Int32} {σ : Mem} (a : vH h V σ) : σ h 8 = V 2 := vH_lo a (p := 2) (by decide)
theorem vH_9 {h : Nat} {V : Nat → Int32} {σ : Mem} (a : vH h V σ) : σ h 9 = V 3 := vH_lo a (p := 3) (by decide)
theorem vH_w {h : Nat} {V : Nat → Int32} {σ : Mem} (a : vH h V σ) {i : Nat} (hi : i < 8) : σ (h + 16) i = V (4 + i) := by
  have e := vH_lo a (p := 4 + i) (by omega)
  have hj := wvJI_16 i hi
  unfold wvX at e
  rw [wvE_o (by omega), ← hj.1, ← hj.2] at e
  exact e
theorem vH_1 {h : Nat} {V : Nat → Int32} {σ : Mem} (a : vH h V σ) {i : Nat} (hi : i < 6) : σ (h + 1) i = V (12 + i) := by
  have e := vH_lo a (p := 12 + i) (by omega)
  have hj := wvJI_1 i hi
  unfold wvX at e
  rw [wvE_o (by omega), ← hj.1, ← hj.2] at e
  exact e
theorem vH_k2 {h : Nat} {V : Nat → Int32} {σ : Mem} (a : vH h V σ) {i : Nat} (hi : i < 5) : σ (h + 2) i = V (18 + 2 * i) := by
  have e := vH_lo a (p := 18 + 2 * i) (by omega)
  have hj := wvJI_2 i hi
  unfold wvX at e
  rw [wvE_o (by omega), ← hj.1, ← hj.2] at e
  exact e
theorem vH_k3 {h : Nat} {V : Nat → Int32} {σ : Mem} (a : vH h V σ) {i : Nat} (hi : i < 5) : σ (h + 3) i = V (19 + 2 * i) := by
  have e := vH_lo a (p := 19 + 2 * i) (by omega)
  have hj := wvJI_3 i hi
  unfold wvX at e
  rw [wvE_o (by omega), ← hj.1, ← hj.2] at e
  exact e
theorem vH_c {h : Nat} {V : Nat → Int32} {σ : Mem} (a : vH h V σ) {l t : Nat} (hl : (l : Int) < (V 1).toInt) (ht : t < 24) : σ (h + 5 + l) t = wvN (V (28 + 24 * l + t)) := by
  have h5 := a.1.2.1.2
  have n1 := ti_nat (V 1)
  have hj := wvJI_5 l (by omega) t ht
  have e := a.2 (28 + 24 * l + t) (by omega) ⟨fun _ _ => by omega, fun _ => by omega⟩
  unfold wvX at e
  rw [wvE_i (by omega), ← hj.1, ← hj.2, show h + (5 + l) = h + 5 + l by omega] at e
  rw [← e, wvN_N]
theorem vH_n {h : Nat} {V : Nat → Int32} {σ : Mem} (a : vH h V σ) {l v : Nat} (hl : (l : Int) < (V 1).toInt) (hv : v < 8) : σ (h + 11 + l) v = V (148 + 8 * l + v) := by
  have h5 := a.1.2.1.2
  have n1 := ti_nat (V 1)
  have hj := wvJI_11 l (by omega) v hv
  have e := a.2 (148 + 8 * l + v) (by omega) ⟨fun _ => by omega, fun _ => by omega⟩
  unfold wvX at e
  rw [wvE_o (by omega), ← hj.1, ← hj.2, show h + (11 + l) = h + 11 + l by omega] at e
  exact e
theorem vH_b {h : Nat} {V : Nat → Int32} {σ : Mem} (a : vH h V σ) {l t : Nat} (hl : (l : Int) < (V 1).toInt) (ht : t < 24) : (V (28 + 24 * l + t)).toInt = -9 ∨ (0 ≤ (V (28 + 24 * l + t)).toInt ∧ (V (28 + 24 * l + t)).toInt ≤ 5) := by
  have h6 := a.1.1.2
  rcases vV_c a.1 hl ht with q | q
  · exact Or.inl q
  · exact Or.inr ⟨q.1, by omega⟩
theorem ab_all : ∀ P, P < 7 → ∀ i, i < P → ((((1 : Int32) <<< (Int32.ofNat P &&& 31)) - 1) >>> (Int32.ofNat i &&& 31)) &&& (1 : Int32) = 1 := by decide +kernel
theorem ax_shownBy_4 {F h : Nat} {x1 : Int32} {σ : Mem} {V : Nat → Int32} (a : vH h V σ) (hx : ∀ i : Nat, (i : Int) < (V 0).toInt → (x1 >>> (Int32.ofNat i &&& 31)) &&& (1 : Int32) = 1) : ∀ (N i : Nat) (x2 x3 : Int32), x3.toInt = (i : Int) → (i : Int) ≤ (V 0).toInt → x2 = aAll V i → pc (lp_X0_shownBy_4 F h x1 N x2 x3 σ) (fun r s => r = aAll V (V 0).toNatClampNeg ∧ s = σ) := by
  have n0 := ti_nat (V 0)
  have h6 := a.1.1.2
  intro N
  induction N with
  | zero => intro i x2 x3 h1 h2 h3; exact pc_none rfl
  | succ N ih =>
    intro i x2 x3 h1 h2 h3
    rw [lp_X0_shownBy_4_s, vH_0 a]
    simp only [j_X0_shownBy_30_e]
    refine pc_ite (fun c => ?_) (fun c => ?_)
    · have d := ti_le c
      exact pc_ret ⟨by rw [h3, show i = (V 0).toNatClampNeg by omega], rfl⟩
    · have d := ti_nle c
      have hb := hx i (by omega)
      rw [← io_eq h1 (by omega)] at hb
      rw [if_pos hb]
      refine pc_chk (fun _ => pc_lt (fun z2 hz => ih (i + 1) _ _ (ti_nx h1 (by omega)) (by omega) ?_))
      rw [tn_int h1, vH_1 a (by omega)] at hz
      rw [hz, h3]
      rfl
theorem ax_allShown {F h : Nat} {σ : Mem} {V : Nat → Int32} (a : vH h V σ) : pc (f_X0_allShown F h σ) (fun r s => r = aAll V (V 0).toNatClampNeg ∧ s = σ) := by
  have n0 := ti_nat (V 0)
  have h6 := a.1.1
  rw [f_X0_allShown_e, f_X0_shownBy_e, vH_0 a]
  refine pc_bnd (ax_shownBy_4 a (fun i hi => ?_) F 0 0 0 rfl h6.1 rfl) (fun r s q => pc_ret q)
  have e : V 0 = Int32.ofNat (V 0).toNatClampNeg := io_eq (by omega) (by omega)
  rw [e]
  exact ab_all _ (by omega) i (by omega)
theorem ax_sight {F h : Nat} {x1 x2 x3 : Int32} {l t : Nat} {σ : Mem} {V : Nat → Int32} (a : vH h V σ) (hl : x1.toInt = (l : Int)) (ht : x2.toInt = (t : Int)) (hl5 : (l : Int) < (V 1).toInt) (ht24 : t < 24) (h3 : x3 = aAll V (V 0).toNatClampNeg) : pc (f_X0_sight F h x1 x2 x3 σ) (fun r s => r = aSees V l t ∧ s = σ) := by
  have h5 := a.1.2.1.2
  have h6 := a.1.1.2
  rw [f_X0_sight_e, tn_int hl, vH_k2 a (i := l) (by omega)]
  unfold aSees
  refine pc_chk (fun _ => pc_ite (fun c => pc_ret ⟨?_, rfl⟩) (fun c => pc_chk (fun _ => pc_lt (fun z3 hz => pc_be (ax_isPane (by rw [vH_0 a]; exact h6)) ?_))))
  · rw [if_pos c]; exact h3
  · rw [if_neg c]
    rw [tn_int ht, vH_c a hl5 ht24] at hz
    have hb := vV_c a.1 hl5 ht24
    rw [vH_0 a]
    generalize V (28 + 24 * l + t) = v at *
    rcases hb with b | b
    · have e : v = -9 := Int32.toInt_inj.mp (by rw [b]; rfl)
      have e9 : z3 = 9 := by rw [hz, e]; decide
      have hn : ¬ (0 ≤ z3.toInt ∧ z3.toInt < (V 0).toInt) := by rw [e9, tz_9]; omega
      have hv : v.toInt < 0 := by omega
      rw [if_neg hn, if_pos rfl, if_pos hv]
      exact pc_ret ⟨rfl, rfl⟩
    · have e9 : z3 = v := by rw [hz]; exact wvN_s ⟨b.1, by omega⟩
      have hp : 0 ≤ z3.toInt ∧ z3.toInt < (V 0).toInt := by rw [e9]; exact b
      have hv : ¬ v.toInt < 0 := by omega
      rw [if_pos hp, if_neg (by decide), if_neg hv]
      refine pc_chk (fun w => pc_ret ⟨?_, rfl⟩)
      rw [e9] at w ⊢
      exact vH_1 a w.2.2
theorem ax_invalids {F : Nat} {x : Int32} {σ : Mem} : f_X0_invalidsPull F x σ = some (aInv x, σ) := by
  rw [f_X0_invalidsPull_e, j_X0_invalidsPull_16_e]
  unfold aInv
  by_cases c : x < 6
  · rw [if_pos c, if_pos c]
  · rw [if_neg c, if_neg c]
    by_cases c2 : 17 < x
    · rw [if_pos c2, if_pos c2]
    · rw [if_neg c2, if_neg c2]
theorem ax_pull {F h : Nat} {x1 x2 : Int32} {l : Nat} {σ : Mem} {V : Nat → Int32} (a : vH h V σ) (hl : x1.toInt = (l : Int)) (hl5 : (l : Int) < (V 1).toInt) : pc (f_X0_pull F h x1 x2 σ) (fun r s => r = aPull V l x2 ∧ s = σ) := by
  have h5 := a.1.2.1.2
  rw [f_X0_pull_e]
  simp only [j_X0_pull_113_e]
  rw [tn_int hl, vH_k2 a (i := l) (by omega), vH_k3 a (i := l) (by omega)]
  unfold aPull
  refine pc_chk (fun _ => pc_lt (fun z2 hz => ?_))
  rw [hz]
  refine pc_ite (fun c => pc_ret ⟨by rw [if_pos c], rfl⟩) (fun c => ?_)
  rw [if_neg c]
  refine pc_ite (fun c => pc_be ax_invalids (pc_ret ⟨by rw [if_pos c], rfl⟩)) (fun c => ?_)
  rw [if_neg c]
  refine pc_ite (fun c => ?_) (fun c => ?_)
  · rw [if_pos c]
    exact pc_ite (fun d => pc_ret ⟨by rw [if_pos d], rfl⟩) (fun d => pc_ret ⟨by rw [if_neg d], rfl⟩)
  rw [if_neg c]
  refine pc_ite (fun c => ?_) (fun c => ?_)
  · rw [if_pos c]
    exact pc_ite (fun d => pc_ret ⟨by rw [if_pos d], rfl⟩) (fun d => pc_ret ⟨by rw [if_neg d], rfl⟩)
  rw [if_neg c]
  refine pc_ite (fun c => pc_be ax_invalids (pc_ret ⟨by rw [if_pos c], rfl⟩)) (fun c => ?_)
  rw [if_neg c]
  refine pc_ite (fun c => pc_be ax_invalids ?_) (fun c => pc_ret ⟨by rw [if_neg c], rfl⟩)
  rw [if_pos c]
  exact pc_ite (fun d => pc_ret ⟨by rw [if_pos d], rfl⟩) (fun d => pc_ret ⟨by rw [if_neg d], rfl⟩)
theorem ax_gain_3 {F h : Nat} {x1 x2 x3 : Int32} {l : Nat} (hl : x1.toInt = (l : Int)) : ∀ (N j : Nat) (x4 : Int32) (σ : Mem), x4.toInt = (j : Int) → j ≤ 8 → pc (lp_X0_gain_3 F h x1 x2 x3 N x4 σ) (fun _ s => (∀ k, ¬ k = h + 18 + l → s k = σ k) ∧ ∀ v, v < 8 → s (h + 18 + l) v = if j ≤ v ∧ (x2 >>> (Int32.ofNat v &&& 31)) &&& (1 : Int32) = 1 then σ (h + 18 + l) v + x3 else σ (h + 18 + l) v) := by
  intro N
  induction N with
  | zero => intro j x4 σ h1 h2; exact pc_none rfl
  | succ N ih =>
    intro j x4 σ h1 h2
    rw [lp_X0_gain_3_s]
    simp only [j_X0_gain_33_e]
    refine pc_ite (fun c => pc_ret ⟨fun _ _ => rfl, fun v hv => ?_⟩) (fun c => ?_)
    · have d := ti_le c
      rw [tz_8] at d
      rw [if_neg (by rintro ⟨w1, w2⟩; omega)]
    have d := ti_nle c
    rw [tz_8] at d
    refine pc_ite (fun cb => pc_chk (fun _ => pc_chk (fun _ => pc_lt (fun s3 h3 => pc_mono (ih (j + 1) _ _ (ti_nx h1 (by omega)) (by omega)) (fun r s q => ⟨fun k hk => ?_, fun v hv => ?_⟩))))) (fun cb => pc_mono (ih (j + 1) _ _ (ti_nx h1 (by omega)) (by omega)) (fun r s q => ⟨q.1, fun v hv => ?_⟩))
    · rw [q.1 k hk, h3, tn_int hl, up2_k hk]
    · rw [q.2 v hv, h3, tn_int hl, tn_int h1]
      rw [io_eq h1 (by omega)] at cb
      by_cases e : v = j
      · subst e
        rw [if_neg (by rintro ⟨w1, w2⟩; omega), if_pos (by exact ⟨Nat.le_refl _, cb⟩), up2_s]
      · rw [up2_i e]
        by_cases e2 : j ≤ v ∧ (x2 >>> (Int32.ofNat v &&& 31)) &&& (1 : Int32) = 1
        · rw [if_pos e2, if_pos (by exact ⟨by omega, e2.2⟩)]
        · rw [if_neg e2, if_neg (by rintro ⟨w1, w2⟩; exact e2 ⟨by omega, w2⟩)]
    · rw [q.2 v hv]
      rw [io_eq h1 (by omega)] at cb
      by_cases e2 : j ≤ v ∧ (x2 >>> (Int32.ofNat v &&& 31)) &&& (1 : Int32) = 1
      · have e : ¬ v = j := fun w => cb (by rw [← w]; exact e2.2)
        rw [if_pos e2, if_pos (by exact ⟨by omega, e2.2⟩)]
      · rw [if_neg e2, if_neg (by rintro ⟨w1, w2⟩; exact e2 ⟨by omega, w2⟩)]
theorem ax_reckon_40 {F h : Nat} {k7 : Int32 → Mem → Option (Unit × Mem)} {Q : Unit → Mem → Prop} {x1 x2 : Int32} {l : Nat} {V : Nat → Int32} (hl : x2.toInt = (l : Int)) (hl5 : (l : Int) < (V 1).toInt) (h1 : x1 = aAll V (V 0).toNatClampNeg) {σ0 : Mem} (hk : ∀ σ, vH h V σ → (∀ k, ¬ k = h + 18 + l → σ k = σ0 k) → (∀ v, v < 8 → σ (h + 18 + l) v = aGain V l v 24) → pc (k7 (x2 + 1) σ) Q) : ∀ (N t : Nat) (x3 : Int32) (σ : Mem), x3.toInt = (t : Int) → t ≤ 24 → vH h V σ → (∀ k, ¬ k = h + 18 + l → σ k = σ0 k) → (∀ v, v < 8 → σ (h + 18 + l) v = aGain V l v t) → pc (lp_X0_reckon_40 F k7 h x1 x2 N x3 σ) Q := by
  intro N
  induction N with
  | zero => intro t x3 σ g1 g2 g3 g4 g5; exact pc_none rfl
  | succ N ih =>
    intro t x3 σ g1 g2 a g4 g5
    rw [lp_X0_reckon_40_s]
    simp only [j_X0_reckon_73_e]
    have h5 := a.1.2.1.2
    refine pc_ite (fun c => ?_) (fun c => ?_)
    · have d := ti_le c
      rw [tz_24] at d
      refine hk σ a g4 (fun v hv => ?_)
      rw [g5 v hv, show t = 24 by omega]
    have d := ti_nle c
    rw [tz_24] at d
    have et := io_eq g1 (by omega)
    have hs : ∀ v, aGain V l v (t + 1) = aGain V l v t + (if (aSees V l t >>> (Int32.ofNat v &&& 31)) &&& (1 : Int32) = 1 then aPull V l (Int32.ofNat t) else 0) := fun v => rfl
    refine pc_bnd (ax_pull a hl hl5) (fun r1 s2 q => ?_)
    obtain ⟨q1, q2⟩ := q
    rw [q2]
    rw [et] at q1
    refine pc_ite (fun c0 => ih (t + 1) _ _ (ti_nx g1 (by omega)) (by omega) a g4 (fun v hv => ?_)) (fun c0 => pc_bnd (ax_sight a hl g1 hl5 (by omega) h1) (fun r3 s4 q3 => ?_))
    · have p0 : aPull V l (Int32.ofNat t) = 0 := by
        have := ti_le c0
        have b := aPull_b a.1 hl5 (t := Int32.ofNat t)
        rw [q1, tz_0] at this
        exact Int32.toInt_inj.mp (by rw [tz_0]; omega)
      rw [hs, p0, g5 v hv, ite_self, Int32.add_zero]
    · obtain ⟨q4, q5⟩ := q3
      rw [q5, f_X0_gain_e]
      refine pc_bnd (ax_gain_3 hl F 0 0 σ rfl (by omega)) (fun r5 s6 q6 => ih (t + 1) _ _ (ti_nx g1 (by omega)) (by omega) (vH_k a (fun k hk => q6.1 k (by omega))) (fun k hk => by rw [q6.1 k hk, g4 k hk]) (fun v hv => ?_))
      rw [q6.2 v hv, hs, q4, q1, g5 v hv]
      by_cases e : (aSees V l t >>> (Int32.ofNat v &&& 31)) &&& (1 : Int32) = 1
      · rw [if_pos e, if_pos (by exact ⟨Nat.zero_le _, e⟩)]
      · rw [if_neg e, if_neg (by rintro ⟨w1, w2⟩; exact e w2), Int32.add_zero]
theorem ax_reckon_17 {F h : Nat} {k7 : Int32 → Mem → Option (Unit × Mem)} {Q : Unit → Mem → Prop} {x1 x2 : Int32} {l : Nat} {V : Nat → Int32} (hl : x2.toInt = (l : Int)) (hl5 : (l : Int) < (V 1).toInt) (h1 : x1 = aAll V (V 0).toNatClampNeg) {σ0 : Mem} (hk : ∀ σ, vH h V σ → (∀ k, ¬ k = h + 18 + l → σ k = σ0 k) → (∀ v, v < 8 → σ (h + 18 + l) v = aGain V l v 24) → pc (k7 (x2 + 1) σ) Q) : ∀ (N j : Nat) (x3 : Int32) (σ : Mem), x3.toInt = (j : Int) → j ≤ 8 → vH h V σ → (∀ k, ¬ k = h + 18 + l → σ k = σ0 k) → (∀ v, v < j → σ (h + 18 + l) v = 0) → pc (lp_X0_reckon_17 F k7 h x1 x2 N x3 σ) Q := by
  intro N
  induction N with
  | zero => intro j x3 σ g1 g2 g3 g4 g5; exact pc_none rfl
  | succ N ih =>
    intro j x3 σ g1 g2 a g4 g5
    have h5 := a.1.2.1.2
    rw [lp_X0_reckon_17_s]
    refine pc_ite (fun c => ?_) (fun c => pc_chk (fun _ => pc_chk (fun _ => pc_lt (fun s9 h9 => ?_))))
    · have d := ti_le c
      rw [tz_8] at d
      exact ax_reckon_40 hl hl5 h1 hk F 0 0 σ rfl (by omega) a g4 (fun v hv => g5 v (by omega))
    · have d := ti_nle c
      rw [tz_8] at d
      rw [tn_int hl, tn_int g1] at h9
      refine ih (j + 1) _ _ (ti_nx g1 (by omega)) (by omega) (vH_k a (fun k hk => by rw [h9, up2_k (by omega)])) (fun k hk => by rw [h9, up2_k hk, g4 k hk]) (fun v hv => ?_)
      rw [h9]
      by_cases e : v = j
      · subst e; rw [up2_s]
      · rw [up2_i e]; exact g5 v (by omega)
theorem ax_reckon_7 {F h : Nat} {x1 : Int32} {V : Nat → Int32} (h1 : x1 = aAll V (V 0).toNatClampNeg) : ∀ (N l : Nat) (x2 : Int32) (σ : Mem), x2.toInt = (l : Int) → (l : Int) ≤ (V 1).toInt → vH h V σ → (∀ m, m < l → ∀ v, v < 8 → σ (h + 18 + m) v = aGain V m v 24) → pc (lp_X0_reckon_7 F h x1 N x2 σ) (fun _ s => (∀ k, ¬ (h + 18 ≤ k ∧ k ≤ h + 22) → s k = σ k) ∧ ∀ m : Nat, (m : Int) < (V 1).toInt → ∀ v, v < 8 → s (h + 18 + m) v = aGain V m v 24) := by
  intro N
  induction N with
  | zero => intro l x2 σ g1 g2 g3 g4; exact pc_none rfl
  | succ N ih =>
    intro l x2 σ g1 g2 a g4
    have h5 := a.1.2.1.2
    rw [lp_X0_reckon_7_s, vH_2 a]
    refine pc_ite (fun c => pc_ret ⟨fun _ _ => rfl, fun m hm v hv => g4 m ?_ v hv⟩) (fun c => ?_)
    · have d := ti_le c
      omega
    · have d := ti_nle c
      refine ax_reckon_17 (σ0 := σ) g1 (by omega) h1 (fun s b e g => ?_) F 0 0 σ rfl (by omega) a (fun _ _ => rfl) (fun v hv => absurd hv (Nat.not_lt_zero v))
      refine pc_mono (ih (l + 1) _ s (ti_nx g1 (by omega)) (by omega) b (fun m hm v hv => ?_)) (fun r z q => ⟨fun k hk => by rw [q.1 k hk, e k (by omega)], q.2⟩)
      by_cases em : m = l
      · subst em; exact g v hv
      · rw [e _ (by omega)]; exact g4 m (by omega) v hv
/-- what a day brings, laid beside the house -/
def vG (h : Nat) (V : Nat → Int32) (s : Mem) : Prop := ∀ m : Nat, (m : Int) < (V 1).toInt → ∀ v, v < 8 → s (h + 18 + m) v = aGain V m v 24
theorem ax_reckon {F h : Nat} {σ : Mem} {V : Nat → Int32} (a : vH h V σ) : pc (f_X0_reckon F h σ) (fun _ s => (∀ k, ¬ (h + 18 ≤ k ∧ k ≤ h + 22) → s k = σ k) ∧ vG h V s) := by
  rw [f_X0_reckon_e]
  refine pc_bnd (ax_allShown a) (fun r s q => ?_)
  obtain ⟨q1, q2⟩ := q
  rw [q2]
  exact ax_reckon_7 q1 F 0 0 σ rfl a.1.2.1.1 a (fun m hm => absurd hm (Nat.not_lt_zero m))
theorem qx_behind {F h : Nat} {x1 x2 x3 : Int32} {l v : Nat} {σ : Mem} {V : Nat → Int32} (a : vH h V σ) (g : vG h V σ) (hl : x1.toInt = (l : Int)) (hl5 : (l : Int) < (V 1).toInt) (hv : x2.toInt = (v : Int)) (hv8 : v < 8) : pc (f_X0_behind F h x1 x2 x3 σ) (fun r s => r = aBehind V x3 l v ∧ s = σ) := by
  rw [f_X0_behind_e]
  refine pc_chk (fun _ => pc_chk (fun _ => pc_ret ⟨?_, rfl⟩))
  rw [tn_int hl, tn_int hv, vH_n a hl5 hv8, g l hl5 v hv8]
  rfl
end
section
/-- a row of hours filled -/
theorem ax_post_48 {F h : Nat} {x1 x3 x4 : Int32} {l b : Nat} (hl : x1.toInt = (l : Int)) (hl5 : l < 5) (hb : x3.toInt = (b : Int)) (hb24 : b < 24) : ∀ (N k : Nat) (x5 : Int32) (σ : Mem), x5.toInt = (k : Int) → k ≤ b + 1 → pc (lp_X0_post_48 F h x1 x3 x4 N x5 σ) (fun r s => r = 1 ∧ ∀ p, p < 188 → wvX h s p = aStand (wvX h σ) l k b x4 p) := by
  intro N
  induction N with
  | zero => intro k x5 σ h1 h2; exact pc_none rfl
  | succ N ih =>
    intro k x5 σ h1 h2
    rw [lp_X0_post_48_s]
    refine pc_ite (fun c => ?_) (fun c => ?_)
    · have d := ti_lt c
      refine pc_ret ⟨rfl, fun p hp => ?_⟩
      unfold aStand
      rw [if_neg (by omega)]
    · have d := ti_nlt c
      refine pc_chk (fun _ => pc_chk (fun _ => pc_lt (fun s3 h3' => ?_)))
      refine pc_mono (ih (k + 1) _ s3 (ti_nx h1 (by omega)) (by omega)) (fun r s q => ⟨q.1, fun p hp => ?_⟩)
      rw [q.2 p hp]
      have hj := wvJI_5 l hl5 k (by omega)
      have e : ∀ p, p < 188 → wvX h s3 p = upd (wvX h σ) (28 + 24 * l + k) (wvN x4) p := fun p hp => by
        rw [h3', wvX_at (q := 28 + 24 * l + k) (by omega) (by rw [tn_int hl]; omega) (by rw [tn_int h1]; exact hj.2) hp, wvE_i (by omega)]
      unfold aStand
      by_cases e1 : p = 28 + 24 * l + k
      · rw [if_neg (by omega), if_pos (by omega), e p hp, e1, wv_us]
      · by_cases e2 : 28 + 24 * l + k ≤ p ∧ p ≤ 28 + 24 * l + b
        · rw [if_pos (by omega), if_pos e2]
        · rw [if_neg (by omega), if_neg e2, e p hp, wv_un e1]
def cPost (P L : Int) (x1 x2 x3 x4 : Int32) : Prop := (0 ≤ x1.toInt ∧ x1.toInt < L) ∧ (0 ≤ x2.toInt ∧ x2.toInt ≤ 23) ∧ (0 ≤ x3.toInt ∧ x3.toInt ≤ 23) ∧ x2.toInt ≤ x3.toInt ∧ (x4.toInt = 9 ∨ (0 ≤ x4.toInt ∧ x4.toInt < P))
theorem ax_post {F h : Nat} {x1 x2 x3 x4 : Int32} {σ : Mem} (b : (σ h 0).toInt ≤ 6) (b2 : (σ h 2).toInt ≤ 5) : pc (f_X0_post F h x1 x2 x3 x4 σ) (fun r s => wok (cPost (σ h 0).toInt (σ h 2).toInt x1 x2 x3 x4) r σ s h (aStand (wvX h σ) x1.toNatClampNeg x2.toNatClampNeg x3.toNatClampNeg x4)) := by
  rw [f_X0_post_e]
  simp only [j_X0_post_43_e, j_X0_post_45_e]
  refine pc_be (ax_isLooker b2) ?_
  by_cases c0 : 0 ≤ x1.toInt ∧ x1.toInt < (σ h 2).toInt
  rotate_left
  · rw [if_neg c0, if_pos rfl]; exact pc_ret (wok_no (fun q => c0 q.1))
  rw [if_pos c0, if_neg (by decide)]
  refine pc_be ax_isHour ?_
  by_cases c1 : 0 ≤ x2.toInt ∧ x2.toInt ≤ 23
  rotate_left
  · rw [if_neg c1, if_pos rfl]; exact pc_ret (wok_no (fun q => c1 q.2.1))
  rw [if_pos c1, if_neg (by decide)]
  refine pc_be ax_isHour ?_
  by_cases c2 : 0 ≤ x3.toInt ∧ x3.toInt ≤ 23
  rotate_left
  · rw [if_neg c2, if_pos rfl]; exact pc_ret (wok_no (fun q => c2 q.2.2.1))
  rw [if_pos c2, if_neg (by decide)]
  refine pc_ite (fun c3 => pc_ret (wok_no (fun q => ?_))) (fun c3 => ?_)
  · have := ti_lt c3; have := q.2.2.2.1; omega
  have d3 := ti_nlt c3
  have l1 : x1.toInt = (x1.toNatClampNeg : Int) := by rw [ti_nat]; omega
  have l2 : x2.toInt = (x2.toNatClampNeg : Int) := by rw [ti_nat]; omega
  have l3 : x3.toInt = (x3.toNatClampNeg : Int) := by rw [ti_nat]; omega
  have go : (x4.toInt = 9 ∨ (0 ≤ x4.toInt ∧ x4.toInt < (σ h 0).toInt)) → pc (lp_X0_post_48 F h x1 x3 x4 F x2 σ) (fun r z => wok (cPost (σ h 0).toInt (σ h 2).toInt x1 x2 x3 x4) r σ z h (aStand (wvX h σ) x1.toNatClampNeg x2.toNatClampNeg x3.toNatClampNeg x4)) := fun c4 =>
    pc_mono (ax_post_48 l1 (by omega) l3 (by omega) F x2.toNatClampNeg x2 σ l2 (by omega)) (fun r z q => by
      rw [q.1]
      exact wok_yes ⟨c0, c1, c2, d3, c4⟩ q.2)
  refine pc_ite (fun c4 => ?_) (fun c4 => ?_)
  · exact go (Or.inl (ti_eq c4))
  have d4 := ti_ne c4
  refine pc_be (ax_isPane b) ?_
  by_cases c5 : 0 ≤ x4.toInt ∧ x4.toInt < (σ h 0).toInt
  rotate_left
  · rw [if_neg c5, if_pos rfl]
    exact pc_ret (wok_no (fun q => by have := q.2.2.2.2; rw [tz_9] at d4; omega))
  rw [if_pos c5, if_neg (by decide)]
  exact go (Or.inr c5)
theorem ax_addLooker_86 {F h : Nat} {n : Nat} (hn : n < 5) {y : Int32} (hy : y.toInt = (n : Int)) : ∀ (N k : Nat) (x3 : Int32) (σ : Mem), x3.toInt = (k : Int) → k ≤ 8 → σ h 2 = y → pc (lp_X0_addLooker_86 F h N x3 σ) (fun r s => r = 1 ∧ ∀ p, p < 188 → wvX h s p = if p = 1 then y + 1 else if 148 + 8 * n + k ≤ p ∧ p < 156 + 8 * n then 0 else wvX h σ p) := by
  intro N
  induction N with
  | zero => intro k x3 σ h1 h2 h4; exact pc_none rfl
  | succ N ih =>
    intro k x3 σ h1 h2 h4
    rw [lp_X0_addLooker_86_s]
    refine pc_ite (fun c => ?_) (fun c => ?_)
    · have d := ti_le c
      rw [tz_8] at d
      refine pc_lt (fun s1 hs => pc_ret ⟨rfl, fun p hp => ?_⟩)
      rw [hs, wvX_at (k := h) (i := 2) (q := 1) (by decide) rfl rfl hp, wvE_o (Or.inl (by decide)), h4]
      by_cases e : p = 1
      · subst e; rw [wv_us, if_pos rfl]
      · rw [wv_un e, if_neg e, if_neg (by omega)]
    · have d := ti_nle c
      rw [tz_8] at d
      rw [h4]
      refine pc_chk (fun _ => pc_chk (fun _ => pc_lt (fun s4 hs => ?_)))
      have hne : ¬ h = h + 11 + y.toNatClampNeg := by omega
      refine pc_mono (ih (k + 1) _ s4 (ti_nx h1 (by omega)) (by omega) (by rw [hs, up2_k hne, h4])) (fun r s q => ⟨q.1, fun p hp => ?_⟩)
      rw [q.2 p hp]
      have hj := wvJI_11 n hn k (by omega)
      have e : wvX h s4 p = upd (wvX h σ) (148 + 8 * n + k) 0 p := by
        rw [hs, wvX_at (q := 148 + 8 * n + k) (by omega) (by rw [tn_int hy]; omega) (by rw [tn_int h1]; exact hj.2) hp, wvE_o (Or.inr (by omega))]
      by_cases e0 : p = 1
      · rw [if_pos e0, if_pos e0]
      rw [if_neg e0, if_neg e0]
      by_cases e1 : p = 148 + 8 * n + k
      · rw [if_neg (by omega), if_pos (by omega), e, e1, wv_us]
      · by_cases e2 : 148 + 8 * n + k ≤ p ∧ p < 156 + 8 * n
        · rw [if_pos (by omega), if_pos e2]
        · rw [if_neg (by omega), if_neg e2, e, wv_un e1]
theorem ax_addLooker_59 {F h : Nat} {n : Nat} (hn : n < 5) {y : Int32} (hy : y.toInt = (n : Int)) : ∀ (N k : Nat) (x3 : Int32) (σ : Mem), x3.toInt = (k : Int) → k ≤ 24 → σ h 2 = y → pc (lp_X0_addLooker_59 F h N x3 σ) (fun r s => r = 1 ∧ ∀ p, p < 188 → wvX h s p = if p = 1 then y + 1 else if 28 + 24 * n + k ≤ p ∧ p < 52 + 24 * n then -9 else if 148 + 8 * n ≤ p ∧ p < 156 + 8 * n then 0 else wvX h σ p) := by
  intro N
  induction N with
  | zero => intro k x3 σ h1 h2 h4; exact pc_none rfl
  | succ N ih =>
    intro k x3 σ h1 h2 h4
    rw [lp_X0_addLooker_59_s]
    refine pc_ite (fun c => ?_) (fun c => ?_)
    · have d := ti_le c
      rw [tz_24] at d
      refine pc_mono (ax_addLooker_86 hn hy F 0 0 σ rfl (by omega) h4) (fun r s q => ⟨q.1, fun p hp => ?_⟩)
      rw [q.2 p hp]
      by_cases e : p = 1
      · rw [if_pos e, if_pos e]
      · rw [if_neg e, if_neg e, if_neg (show ¬ (28 + 24 * n + k ≤ p ∧ p < 52 + 24 * n) by omega)]
        rfl
    · have d := ti_nle c
      rw [tz_24] at d
      rw [h4]
      refine pc_chk (fun _ => pc_chk (fun _ => pc_lt (fun s4 hs => ?_)))
      have hne : ¬ h = h + 5 + y.toNatClampNeg := by omega
      refine pc_mono (ih (k + 1) _ s4 (ti_nx h1 (by omega)) (by omega) (by rw [hs, up2_k hne, h4])) (fun r s q => ⟨q.1, fun p hp => ?_⟩)
      rw [q.2 p hp]
      have hj := wvJI_5 n hn k (by omega)
      have e : wvX h s4 p = upd (wvX h σ) (28 + 24 * n + k) (-9) p := by
        rw [hs, wvX_at (q := 28 + 24 * n + k) (by omega) (by rw [tn_int hy]; omega) (by rw [tn_int h1]; exact hj.2) hp, wvE_i (by omega)]
        rfl
      by_cases e0 : p = 1
      · rw [if_pos e0, if_pos e0]
      rw [if_neg e0, if_neg e0]
      by_cases e1 : p = 28 + 24 * n + k
      · rw [if_neg (by omega), if_pos (show 28 + 24 * n + k ≤ p ∧ p < 52 + 24 * n by omega), if_neg (by omega), e, e1, wv_us]
      · by_cases e2 : 28 + 24 * n + k ≤ p ∧ p < 52 + 24 * n
        · rw [if_pos (show 28 + 24 * n + (k + 1) ≤ p ∧ p < 52 + 24 * n by omega), if_pos e2]
        · rw [if_neg (show ¬ (28 + 24 * n + (k + 1) ≤ p ∧ p < 52 + 24 * n) by omega), if_neg e2, e, wv_un e1]
theorem ax_addLooker {F h : Nat} {x1 x2 : Int32} {σ : Mem} (hh : wt_isH h) (b : 0 ≤ (σ h 2).toInt ∧ (σ h 2).toInt ≤ 5) : pc (f_X0_addLooker F h x1 x2 σ) (fun r s => wok ((0 ≤ x1.toInt ∧ x1.toInt ≤ 5) ∧ (0 ≤ x2.toInt ∧ x2.toInt ≤ 9) ∧ (σ h 2).toInt < 5) r σ s h (aLooker (wvX h σ) x1 x2)) := by
  have hc := wt_Hcs hh
  rw [f_X0_addLooker_e]
  simp only [j_X0_addLooker_35_e]
  refine pc_ite (fun c1 => pc_ret (wok_no (fun q => ?_))) (fun c1 => ?_)
  · ((try simp only [Int32.lt_iff_toInt_lt, Int32.le_iff_toInt_le, ← Int32.toInt_inj, tz_m2000, tz_m1000, tz_m9, tz_m6, tz_m4, tz_m3, tz_m2, tz_m1, tz_0, tz_1, tz_2, tz_3, tz_4, tz_5, tz_6, tz_7, tz_8, tz_9, tz_10, tz_11, tz_12, tz_20, tz_23, tz_24, tz_31, tz_48, tz_57, tz_59, tz_60, tz_95, tz_96, tz_98, tz_99, tz_100, tz_108, tz_112, tz_115, tz_117, tz_118, tz_119, tz_120, tz_188, tz_255, tz_999, tz_1000, tz_9999, tz_99999] at *) <;> omega)
  refine pc_ite (fun c2 => pc_ret (wok_no (fun q => ?_))) (fun c2 => ?_)
  · ((try simp only [Int32.lt_iff_toInt_lt, Int32.le_iff_toInt_le, ← Int32.toInt_inj, tz_m2000, tz_m1000, tz_m9, tz_m6, tz_m4, tz_m3, tz_m2, tz_m1, tz_0, tz_1, tz_2, tz_3, tz_4, tz_5, tz_6, tz_7, tz_8, tz_9, tz_10, tz_11, tz_12, tz_20, tz_23, tz_24, tz_31, tz_48, tz_57, tz_59, tz_60, tz_95, tz_96, tz_98, tz_99, tz_100, tz_108, tz_112, tz_115, tz_117, tz_118, tz_119, tz_120, tz_188, tz_255, tz_999, tz_1000, tz_9999, tz_99999] at *) <;> omega)
  refine pc_ite (fun c3 => pc_ret (wok_no (fun q => ?_))) (fun c3 => ?_)
  · ((try simp only [Int32.lt_iff_toInt_lt, Int32.le_iff_toInt_le, ← Int32.toInt_inj, tz_m2000, tz_m1000, tz_m9, tz_m6, tz_m4, tz_m3, tz_m2, tz_m1, tz_0, tz_1, tz_2, tz_3, tz_4, tz_5, tz_6, tz_7, tz_8, tz_9, tz_10, tz_11, tz_12, tz_20, tz_23, tz_24, tz_31, tz_48, tz_57, tz_59, tz_60, tz_95, tz_96, tz_98, tz_99, tz_100, tz_108, tz_112, tz_115, tz_117, tz_118, tz_119, tz_120, tz_188, tz_255, tz_999, tz_1000, tz_9999, tz_99999] at *) <;> omega)
  refine pc_ite (fun c4 => pc_ret (wok_no (fun q => ?_))) (fun c4 => ?_)
  · ((try simp only [Int32.lt_iff_toInt_lt, Int32.le_iff_toInt_le, ← Int32.toInt_inj, tz_m2000, tz_m1000, tz_m9, tz_m6, tz_m4, tz_m3, tz_m2, tz_m1, tz_0, tz_1, tz_2, tz_3, tz_4, tz_5, tz_6, tz_7, tz_8, tz_9, tz_10, tz_11, tz_12, tz_20, tz_23, tz_24, tz_31, tz_48, tz_57, tz_59, tz_60, tz_95, tz_96, tz_98, tz_99, tz_100, tz_108, tz_112, tz_115, tz_117, tz_118, tz_119, tz_120, tz_188, tz_255, tz_999, tz_1000, tz_9999, tz_99999] at *) <;> omega)
  refine pc_ite (fun c5 => pc_ret (wok_no (fun q => ?_))) (fun c5 => ?_)
  · ((try simp only [Int32.lt_iff_toInt_lt, Int32.le_iff_toInt_le, ← Int32.toInt_inj, tz_m2000, tz_m1000, tz_m9, tz_m6, tz_m4, tz_m3, tz_m2, tz_m1, tz_0, tz_1, tz_2, tz_3, tz_4, tz_5, tz_6, tz_7, tz_8, tz_9, tz_10, tz_11, tz_12, tz_20, tz_23, tz_24, tz_31, tz_48, tz_57, tz_59, tz_60, tz_95, tz_96, tz_98, tz_99, tz_100, tz_108, tz_112, tz_115, tz_117, tz_118, tz_119, tz_120, tz_188, tz_255, tz_999, tz_1000, tz_9999, tz_99999] at *) <;> omega)
  refine pc_ite (fun c6 => ?_) (fun c6 => pc_ret (wok_no (fun q => ?_)))
  rotate_left
  · ((try simp only [Int32.lt_iff_toInt_lt, Int32.le_iff_toInt_le, ← Int32.toInt_inj, tz_m2000, tz_m1000, tz_m9, tz_m6, tz_m4, tz_m3, tz_m2, tz_m1, tz_0, tz_1, tz_2, tz_3, tz_4, tz_5, tz_6, tz_7, tz_8, tz_9, tz_10, tz_11, tz_12, tz_20, tz_23, tz_24, tz_31, tz_48, tz_57, tz_59, tz_60, tz_95, tz_96, tz_98, tz_99, tz_100, tz_108, tz_112, tz_115, tz_117, tz_118, tz_119, tz_120, tz_188, tz_255, tz_999, tz_1000, tz_9999, tz_99999] at *) <;> omega)
  have d6 := ti_lt c6
  rw [tz_5] at d6
  have hn : (σ h 2).toNatClampNeg < 5 := tn_lt b.1 d6
  have hy : (σ h 2).toInt = ((σ h 2).toNatClampNeg : Int) := by rw [ti_nat]; omega
  refine pc_chk (fun _ => pc_lt (fun s9 h9 => ?_))
  have e9 : s9 h 2 = σ h 2 := by rw [h9, up2_k (by omega)]
  rw [e9]
  refine pc_chk (fun _ => pc_lt (fun s11 h11 => ?_))
  have e11 : s11 h 2 = σ h 2 := by rw [h11, up2_k (by omega), e9]
  refine pc_mono (ax_addLooker_59 hn hy F 0 0 s11 rfl (by omega) e11) (fun r s q => ?_)
  rw [q.1]
  refine wok_yes ⟨⟨?_, ?_⟩, ⟨?_, ?_⟩, d6⟩ (fun p hp => ?_)
  · ((try simp only [Int32.lt_iff_toInt_lt, Int32.le_iff_toInt_le, ← Int32.toInt_inj, tz_m2000, tz_m1000, tz_m9, tz_m6, tz_m4, tz_m3, tz_m2, tz_m1, tz_0, tz_1, tz_2, tz_3, tz_4, tz_5, tz_6, tz_7, tz_8, tz_9, tz_10, tz_11, tz_12, tz_20, tz_23, tz_24, tz_31, tz_48, tz_57, tz_59, tz_60, tz_95, tz_96, tz_98, tz_99, tz_100, tz_108, tz_112, tz_115, tz_117, tz_118, tz_119, tz_120, tz_188, tz_255, tz_999, tz_1000, tz_9999, tz_99999] at *) <;> omega)
  · ((try simp only [Int32.lt_iff_toInt_lt, Int32.le_iff_toInt_le, ← Int32.toInt_inj, tz_m2000, tz_m1000, tz_m9, tz_m6, tz_m4, tz_m3, tz_m2, tz_m1, tz_0, tz_1, tz_2, tz_3, tz_4, tz_5, tz_6, tz_7, tz_8, tz_9, tz_10, tz_11, tz_12, tz_20, tz_23, tz_24, tz_31, tz_48, tz_57, tz_59, tz_60, tz_95, tz_96, tz_98, tz_99, tz_100, tz_108, tz_112, tz_115, tz_117, tz_118, tz_119, tz_120, tz_188, tz_255, tz_999, tz_1000, tz_9999, tz_99999] at *) <;> omega)
  · ((try simp only [Int32.lt_iff_toInt_lt, Int32.le_iff_toInt_le, ← Int32.toInt_inj, tz_m2000, tz_m1000, tz_m9, tz_m6, tz_m4, tz_m3, tz_m2, tz_m1, tz_0, tz_1, tz_2, tz_3, tz_4, tz_5, tz_6, tz_7, tz_8, tz_9, tz_10, tz_11, tz_12, tz_20, tz_23, tz_24, tz_31, tz_48, tz_57, tz_59, tz_60, tz_95, tz_96, tz_98, tz_99, tz_100, tz_108, tz_112, tz_115, tz_117, tz_118, tz_119, tz_120, tz_188, tz_255, tz_999, tz_1000, tz_9999, tz_99999] at *) <;> omega)
  · ((try simp only [Int32.lt_iff_toInt_lt, Int32.le_iff_toInt_le, ← Int32.toInt_inj, tz_m2000, tz_m1000, tz_m9, tz_m6, tz_m4, tz_m3, tz_m2, tz_m1, tz_0, tz_1, tz_2, tz_3, tz_4, tz_5, tz_6, tz_7, tz_8, tz_9, tz_10, tz_11, tz_12, tz_20, tz_23, tz_24, tz_31, tz_48, tz_57, tz_59, tz_60, tz_95, tz_96, tz_98, tz_99, tz_100, tz_108, tz_112, tz_115, tz_117, tz_118, tz_119, tz_120, tz_188, tz_255, tz_999, tz_1000, tz_9999, tz_99999] at *) <;> omega)
  rw [q.2 p hp]
  have hj2 := wvJI_2 _ hn
  have hj3 := wvJI_3 _ hn
  have e : wvX h s11 p = upd (upd (wvX h σ) (18 + 2 * (σ h 2).toNatClampNeg) x1) (19 + 2 * (σ h 2).toNatClampNeg) x2 p := by
    rw [h11, wvX_at (q := 19 + 2 * (σ h 2).toNatClampNeg) (by omega) (by omega) hj3.2 hp, wvE_o (Or.inl (by omega))]
    refine upd_cg ?_ rfl
    rw [h9, wvX_at (q := 18 + 2 * (σ h 2).toNatClampNeg) (by omega) (by omega) hj2.2 hp, wvE_o (Or.inl (by omega))]
  unfold aLooker
  show _ = if p = 1 then σ h 2 + 1 else if p = 18 + 2 * (σ h 2).toNatClampNeg then x1 else if p = 19 + 2 * (σ h 2).toNatClampNeg then x2 else if 28 + 24 * (σ h 2).toNatClampNeg ≤ p ∧ p < 52 + 24 * (σ h 2).toNatClampNeg then -9 else if 148 + 8 * (σ h 2).toNatClampNeg ≤ p ∧ p < 156 + 8 * (σ h 2).toNatClampNeg then 0 else wvX h σ p
  by_cases e0 : p = 1
  · rw [if_pos e0, if_pos e0]
  rw [if_neg e0, if_neg e0, e]
  by_cases e1 : p = 18 + 2 * (σ h 2).toNatClampNeg
  · rw [if_pos e1, if_neg (by omega), if_neg (by omega), wv_un (by omega), e1, wv_us]
  rw [if_neg e1]
  by_cases e2 : p = 19 + 2 * (σ h 2).toNatClampNeg
  · rw [if_pos e2, if_neg (by omega), if_neg (by omega), e2, wv_us]
  rw [if_neg e2, wv_un e2, wv_un e1]
  rfl
/-- one house taken over into another -/
theorem ax_takeFrom_92 {F h g : Nat} (hg : g + 23 ≤ h ∨ h + 23 ≤ g) {τ : Mem} : ∀ (N k : Nat) (x2 : Int32) (σ : Mem), x2.toInt = (k : Int) → k ≤ 5 → (∀ q, g ≤ q → q < g + 23 → σ q = τ q) → (∀ p, p < 188 → (p < 28 ∨ (28 ≤ p ∧ p < 28 + 24 * k) ∨ (148 ≤ p ∧ p < 148 + 8 * k)) → wvX h σ p = wvX g τ p) → pc (lp_X0_takeFrom_92 F h g N x2 σ) (fun _ s => ∀ p, p < 188 → wvX h s p = wvX g τ p) := by
  intro N
  induction N with
  | zero => intro k x2 σ h1 h2 h4 h5; exact pc_none rfl
  | succ N ih =>
    intro k x2 σ h1 h2 h4 h5
    rw [lp_X0_takeFrom_92_s]
    refine pc_ite (fun c => ?_) (fun c => ?_)
    · have d := ti_le c
      rw [tz_5] at d
      exact pc_ret (fun p hp => h5 p hp (by omega))
    · have d := ti_nle c
      rw [tz_5] at d
      refine pc_chk (fun _ => pc_lt (fun s2 hs2 => pc_lt (fun s3 hs3 => ?_)))
      rw [tn_int h1] at hs2 hs3
      refine ih (k + 1) _ s3 (ti_nx h1 (by omega)) (by omega) (fun q a b => ?_) (fun p hp hcs => ?_)
      · rw [hs3, upA_k (by omega), hs2, upA_k (by omega)]; exact h4 q a b
      · by_cases e1 : 28 + 24 * k ≤ p ∧ p < 28 + 24 * (k + 1)
        · have hj := wvJI_5 k (by omega) (p - (28 + 24 * k)) (by omega)
          rw [show 28 + 24 * k + (p - (28 + 24 * k)) = p by omega] at hj
          unfold wvX
          rw [← hj.1, ← hj.2, hs3, upA_k (by omega), hs2, show h + (5 + k) = h + 5 + k by omega, upA_s, sb_cpy0 (by omega), h4 _ (by omega) (by omega), show g + (5 + k) = g + 5 + k by omega]
        · by_cases e2 : 148 + 8 * k ≤ p ∧ p < 148 + 8 * (k + 1)
          · have hj := wvJI_11 k (by omega) (p - (148 + 8 * k)) (by omega)
            rw [show 148 + 8 * k + (p - (148 + 8 * k)) = p by omega] at hj
            unfold wvX
            rw [← hj.1, ← hj.2, hs3, show h + (11 + k) = h + 11 + k by omega, upA_s, sb_cpy0 (by omega), hs2, upA_k (by omega), h4 _ (by omega) (by omega), show g + (11 + k) = g + 11 + k by omega]
          · rw [← h5 p hp (by omega)]
            have n1 : ¬ wvJ p = 5 + k := fun q => e1 (by have := wvJ_5' k (by omega) p hp q; omega)
            have n2 : ¬ wvJ p = 11 + k := fun q => e2 (by have := wvJ_11' k (by omega) p hp q; omega)
            unfold wvX
            rw [hs3, upA_k (by omega), hs2, upA_k (by omega)]
theorem ax_takeFrom {F h g : Nat} (hg : g + 23 ≤ h ∨ h + 23 ≤ g) {σ : Mem} : pc (f_X0_takeFrom F h g σ) (fun _ s => ∀ p, p < 188 → wvX h s p = wvX g σ p) := by
  rw [f_X0_takeFrom_e]
  refine pc_lt (fun s4 h4 => pc_lt (fun s5 h5 => pc_lt (fun s6 h6 => pc_lt (fun s7 h7 => pc_lt (fun s8 h8 => pc_lt (fun s9 h9 => pc_lt (fun s10 h10 => pc_lt (fun s11 h11 => ?_))))))))
  have o4 : ∀ q, ¬ q = h → s4 q = σ q := fun q n => by rw [h4, up2_k n]
  have o5 : ∀ q, ¬ q = h → s5 q = σ q := fun q n => by rw [h5, up2_k n, o4 q n]
  have o6 : ∀ q, ¬ q = h → s6 q = σ q := fun q n => by rw [h6, up2_k n, o5 q n]
  have o7 : ∀ q, ¬ q = h → s7 q = σ q := fun q n => by rw [h7, up2_k n, o6 q n]
  have f7 : s7 h 0 = σ g 0 ∧ s7 h 2 = σ g 2 ∧ s7 h 8 = σ g 8 ∧ s7 h 9 = σ g 9 := by
    refine ⟨?_, ?_, ?_, ?_⟩
    · rw [h7, up2_i (by decide), h6, up2_i (by decide), h5, up2_i (by decide), h4, up2_s]
    · rw [h7, up2_i (by decide), h6, up2_i (by decide), h5, up2_s, o4 g (by omega)]
    · rw [h7, up2_i (by decide), h6, up2_s, o5 g (by omega)]
    · rw [h7, up2_s, o6 g (by omega)]
  have o11 : ∀ q, ¬ q = h → ¬ q = h + 1 → ¬ q = h + 2 → ¬ q = h + 3 → ¬ q = h + 16 → s11 q = σ q := fun q n0 n1 n2 n3 n4 => by
    rw [h11, upA_k n4, h10, upA_k n3, h9, upA_k n2, h8, upA_k n1, o7 q n0]
  have f11 : s11 h = s7 h := by rw [h11, upA_k (by omega), h10, upA_k (by omega), h9, upA_k (by omega), h8, upA_k (by omega)]
  have f1 : ∀ i, i < 6 → s11 (h + 1) i = σ (g + 1) i := fun i hi => by
    rw [h11, upA_k (by omega), h10, upA_k (by omega), h9, upA_k (by omega), h8, upA_s, sb_cpy0 hi, o7 _ (by omega)]
  have f2 : ∀ i, i < 5 → s11 (h + 2) i = σ (g + 2) i := fun i hi => by
    rw [h11, upA_k (by omega), h10, upA_k (by omega), h9, upA_s, sb_cpy0 hi, h8, upA_k (by omega), o7 _ (by omega)]
  have f3 : ∀ i, i < 5 → s11 (h + 3) i = σ (g + 3) i := fun i hi => by
    rw [h11, upA_k (by omega), h10, upA_s, sb_cpy0 hi, h9, upA_k (by omega), h8, upA_k (by omega), o7 _ (by omega)]
  have f16 : ∀ i, i < 8 → s11 (h + 16) i = σ (g + 16) i := fun i hi => by
    rw [h11, upA_s, sb_cpy0 hi, h10, upA_k (by omega), h9, upA_k (by omega), h8, upA_k (by omega), o7 _ (by omega)]
  refine ax_takeFrom_92 (τ := σ) hg F 0 0 s11 rfl (by omega) (fun q a b => o11 q (by omega) (by omega) (by omega) (by omega) (by omega)) (fun p hp hcs => ?_)
  have hp28 : p < 28 := by omega
  unfold wvX
  congr 1
  have hj := wvJ_cs p hp28
  rcases hj with ⟨a, b⟩ | ⟨a, b⟩ | ⟨a, b⟩ | ⟨a, b⟩ | ⟨a, b⟩
  · rw [a]
    show s11 h (wvI p) = σ g (wvI p)
    rw [f11]
    rcases b with e | e | e | e <;> rw [e]
    · exact f7.1
    · exact f7.2.1
    · exact f7.2.2.1
    · exact f7.2.2.2
  · rw [a]; exact f16 _ b
  · rw [a]; exact f1 _ b
  · rw [a]; exact f2 _ b
  · rw [a]; exact f3 _ b
/-- the counts below the n-th are those of the day's end -/
def pI (h n : Nat) (V : Nat → Int32) (x : Int32) (s0 σ : Mem) : Prop := (∀ k, ¬ (h + 11 ≤ k ∧ k ≤ h + 15) → σ k = s0 k) ∧ ∀ m v, m < 5 → v < 8 → σ (h + 11 + m) v = if 8 * m + v < n then aBehind V x m v else s0 (h + 11 + m) v
theorem ax_pass_41 {F h : Nat} {k31 : Int32 → Mem → Option (Int32 × Mem)} {x1 x2 : Int32} {l : Nat} {V : Nat → Int32} {s0 : Mem} {Q : Int32 → Mem → Prop} (a : vH h V s0) (g : vG h V s0) (hl : x2.toInt = (l : Int)) (hl5 : (l : Int) < (V 1).toInt) (hk : ∀ σ, pI h (8 * (l + 1)) V x1 s0 σ → pc (k31 (x2 + 1) σ) Q) : ∀ (N j : Nat) (x3 : Int32) (σ : Mem), x3.toInt = (j : Int) → j ≤ 8 → pI h (8 * l + j) V x1 s0 σ → pc (lp_X0_pass_41 F k31 h x1 x2 N x3 σ) Q := by
  intro N
  induction N with
  | zero => intro j x3 σ h1 h2 h3; exact pc_none rfl
  | succ N ih =>
    intro j x3 σ h1 h2 h3
    have h5 := a.1.2.1.2
    rw [lp_X0_pass_41_s]
    refine pc_ite (fun c => hk _ ?_) (fun c => pc_chk (fun v => ?_))
    · have d := ti_le c
      rw [tz_8] at d
      rw [show 8 * (l + 1) = 8 * l + j by omega]
      exact h3
    have d := ti_nle c
    rw [tz_8] at d
    refine pc_bnd (P := fun r s => r = aBehind V x1 l j ∧ s = σ) ?_ (fun r s e => ?_)
    · rw [f_X0_behind_e]
      refine pc_chk (fun _ => pc_chk (fun _ => pc_ret ⟨?_, rfl⟩))
      rw [tn_int hl, tn_int h1, h3.2 l j (by omega) (by omega), if_neg (by omega), h3.1 (h + 18 + l) (by omega), vH_n a hl5 (by omega), g l hl5 j (by omega)]
      rfl
    · refine pc_chk (fun v2 => pc_lt (fun s5 h5' => ih (j + 1) _ _ (ti_nx h1 (by omega)) (by omega) ?_))
      rw [tn_int hl, tn_int h1, e.2, e.1] at h5'
      refine ⟨fun k hk' => by rw [h5', up2_k (by omega)]; exact h3.1 k hk', fun m w hm hw => ?_⟩
      rw [h5', wm_key]
      by_cases ee : m = l ∧ w = j
      · obtain ⟨rfl, rfl⟩ := ee
        rw [if_pos ⟨rfl, rfl⟩, if_pos (by omega)]
      · rw [if_neg (by rintro ⟨w1, w2⟩; exact ee ⟨by omega, w2⟩), h3.2 m w hm hw]
        by_cases e3 : 8 * m + w < 8 * l + j
        · rw [if_pos e3, if_pos (by omega)]
        · rw [if_neg e3, if_neg (by intro q; exact ee ⟨by omega, by omega⟩)]
theorem ax_pass_31 {F h : Nat} {x1 : Int32} {V : Nat → Int32} {s0 : Mem} (a : vH h V s0) (g : vG h V s0) : ∀ (N l : Nat) (x2 : Int32) (σ : Mem), x2.toInt = (l : Int) → (l : Int) ≤ (V 1).toInt → pI h (8 * l) V x1 s0 σ → pc (lp_X0_pass_31 F h x1 N x2 σ) (fun r s => r = 1 ∧ ∃ z, pI h (8 * (V 1).toNatClampNeg) V x1 s0 z ∧ s = up2 z h 9 (V 3 + x1)) := by
  intro N
  induction N with
  | zero => intro l x2 σ h1 h2 h3; exact pc_none rfl
  | succ N ih =>
    intro l x2 σ h1 h2 h3
    have n1 := ti_nat (V 1)
    have eh : σ h = s0 h := h3.1 h (by omega)
    rw [lp_X0_pass_31_s, eh, vH_2 a]
    refine pc_ite (fun c => pc_lt (fun s6 h6 => pc_ret ⟨rfl, σ, ?_, ?_⟩)) (fun c => ?_)
    · have d := ti_le c
      rw [show (V 1).toNatClampNeg = l by omega]
      exact h3
    · rw [h6, vH_9 a]
    · have d := ti_nle c
      exact ax_pass_41 a g h1 (by omega) (fun s q => ih (l + 1) _ s (ti_nx h1 (by have := a.1.2.1.2; omega)) (by omega) q) F 0 0 σ rfl (by omega) h3
theorem wvJ_hi : ∀ p, p < 188 → ¬ p < 148 → wvJ p = 11 + (p - 148) / 8 ∧ wvI p = (p - 148) % 8 := by decide +kernel
theorem pI_day {h : Nat} {V : Nat → Int32} {x : Int32} {σ s0 z : Mem} (eV : ∀ p, p < 188 → wvX h σ p = V p) (e0 : ∀ k, ¬ (h + 18 ≤ k ∧ k ≤ h + 22) → s0 k = σ k) (q : pI h (8 * (V 1).toNatClampNeg) V x s0 z) {p : Nat} (hp : p < 188) : wvX h (up2 z h 9 (V 3 + x)) p = aDay V x p := by
  rw [wvX_at (k := h) (i := 9) (q := 3) (by decide) rfl rfl hp]
  unfold aDay
  by_cases e3 : p = 3
  · subst e3; rw [wv_us, if_pos rfl]; rfl
  rw [wv_un e3, if_neg e3]
  by_cases c : p < 148
  · rw [if_neg (by omega), ← eV p hp]
    unfold wvX
    have hj : wvJ p = 0 ∨ (1 ≤ wvJ p ∧ wvJ p ≤ 9) ∨ wvJ p = 16 := by
      by_cases c4 : p < 4
      · left; unfold wvJ; rw [if_pos c4]
      · right; exact wvJ_lo p c (by omega)
    rw [q.1 _ (by omega), e0 _ (by omega)]
  · obtain ⟨j1, j2⟩ := wvJ_hi p hp c
    have hz := q.2 ((p - 148) / 8) ((p - 148) % 8) (by omega) (Nat.mod_lt _ (by decide))
    unfold wvX
    rw [wvE_o (by omega), j1, j2, show h + (11 + (p - 148) / 8) = h + 11 + (p - 148) / 8 by omega, hz]
    by_cases d : (p - 148) / 8 < (V 1).toNatClampNeg
    · rw [if_pos (by omega), if_pos ⟨by omega, hp, d⟩]
    · rw [if_neg (by omega), if_neg (by rintro ⟨w1, w2, w3⟩; exact d w3), e0 _ (by omega), ← eV p hp]
      unfold wvX
      rw [wvE_o (by omega), j1, j2, show h + (11 + (p - 148) / 8) = h + 11 + (p - 148) / 8 by omega]
theorem ax_pass {F h : Nat} (hF : 1000 ≤ F) {x : Int32} {σ : Mem} (hh : wt_isH h) (hv : wvV (wvX h σ)) : pc (f_X0_pass F h x σ) (fun r s => ((1 ≤ x.toInt ∧ x.toInt ≤ 99 ∧ (σ h 9 + x).toInt ≤ 9999) → r = 1 ∧ ∀ p, p < 188 → wvX h s p = aDay (wvX h σ) x p) ∧ (¬ (1 ≤ x.toInt ∧ x.toInt ≤ 99 ∧ (σ h 9 + x).toInt ≤ 9999) → r = 0 ∧ s = σ)) := by
  have a : vH h (wvX h σ) σ := ⟨hv, fun _ _ _ => rfl⟩
  rw [f_X0_pass_e]
  simp only [j_X0_pass_23_e]
  refine pc_ite (fun c1 => pc_ret ⟨fun q => ?_, fun _ => ⟨rfl, rfl⟩⟩) (fun c1 => ?_)
  · exfalso; ((try simp only [Int32.lt_iff_toInt_lt, Int32.le_iff_toInt_le, ← Int32.toInt_inj, tz_m2000, tz_m1000, tz_m9, tz_m6, tz_m4, tz_m3, tz_m2, tz_m1, tz_0, tz_1, tz_2, tz_3, tz_4, tz_5, tz_6, tz_7, tz_8, tz_9, tz_10, tz_11, tz_12, tz_20, tz_23, tz_24, tz_31, tz_48, tz_57, tz_59, tz_60, tz_95, tz_96, tz_98, tz_99, tz_100, tz_108, tz_112, tz_115, tz_117, tz_118, tz_119, tz_120, tz_188, tz_255, tz_999, tz_1000, tz_9999, tz_99999] at *) <;> omega)
  refine pc_ite (fun c2 => pc_ret ⟨fun q => ?_, fun _ => ⟨rfl, rfl⟩⟩) (fun c2 => ?_)
  · exfalso; ((try simp only [Int32.lt_iff_toInt_lt, Int32.le_iff_toInt_le, ← Int32.toInt_inj, tz_m2000, tz_m1000, tz_m9, tz_m6, tz_m4, tz_m3, tz_m2, tz_m1, tz_0, tz_1, tz_2, tz_3, tz_4, tz_5, tz_6, tz_7, tz_8, tz_9, tz_10, tz_11, tz_12, tz_20, tz_23, tz_24, tz_31, tz_48, tz_57, tz_59, tz_60, tz_95, tz_96, tz_98, tz_99, tz_100, tz_108, tz_112, tz_115, tz_117, tz_118, tz_119, tz_120, tz_188, tz_255, tz_999, tz_1000, tz_9999, tz_99999] at *) <;> omega)
  refine pc_ite (fun c3 => ?_) (fun c3 => pc_ret ⟨fun q => ?_, fun _ => ⟨rfl, rfl⟩⟩)
  rotate_left
  · exfalso; ((try simp only [Int32.lt_iff_toInt_lt, Int32.le_iff_toInt_le, ← Int32.toInt_inj, tz_m2000, tz_m1000, tz_m9, tz_m6, tz_m4, tz_m3, tz_m2, tz_m1, tz_0, tz_1, tz_2, tz_3, tz_4, tz_5, tz_6, tz_7, tz_8, tz_9, tz_10, tz_11, tz_12, tz_20, tz_23, tz_24, tz_31, tz_48, tz_57, tz_59, tz_60, tz_95, tz_96, tz_98, tz_99, tz_100, tz_108, tz_112, tz_115, tz_117, tz_118, tz_119, tz_120, tz_188, tz_255, tz_999, tz_1000, tz_9999, tz_99999] at *) <;> omega)
  refine pc_bnd (ax_reckon a) (fun _ s8 f8 => ?_)
  have a8 : vH h (wvX h σ) s8 := vH_k a f8.1
  refine pc_mono (ax_pass_31 a8 f8.2 F 0 0 s8 rfl a.1.2.1.1 ⟨fun _ _ => rfl, fun m v hm hv' => by rw [if_neg (by omega)]⟩) (fun r s q => ⟨fun _ => ⟨q.1, fun p hp => ?_⟩, fun n => ?_⟩)
  · obtain ⟨-, z, q1, q2⟩ := q
    rw [q2]
    exact pI_day (fun _ _ => rfl) f8.1 q1 hp
  exfalso
  apply n
  refine ⟨?_, ?_, ?_⟩
  · clear q n f8 a8 a; ((try simp only [Int32.lt_iff_toInt_lt, Int32.le_iff_toInt_le, ← Int32.toInt_inj, tz_m2000, tz_m1000, tz_m9, tz_m6, tz_m4, tz_m3, tz_m2, tz_m1, tz_0, tz_1, tz_2, tz_3, tz_4, tz_5, tz_6, tz_7, tz_8, tz_9, tz_10, tz_11, tz_12, tz_20, tz_23, tz_24, tz_31, tz_48, tz_57, tz_59, tz_60, tz_95, tz_96, tz_98, tz_99, tz_100, tz_108, tz_112, tz_115, tz_117, tz_118, tz_119, tz_120, tz_188, tz_255, tz_999, tz_1000, tz_9999, tz_99999] at *) <;> omega)
  · clear q n f8 a8 a; ((try simp only [Int32.lt_iff_toInt_lt, Int32.le_iff_toInt_le, ← Int32.toInt_inj, tz_m2000, tz_m1000, tz_m9, tz_m6, tz_m4, tz_m3, tz_m2, tz_m1, tz_0, tz_1, tz_2, tz_3, tz_4, tz_5, tz_6, tz_7, tz_8, tz_9, tz_10, tz_11, tz_12, tz_20, tz_23, tz_24, tz_31, tz_48, tz_57, tz_59, tz_60, tz_95, tz_96, tz_98, tz_99, tz_100, tz_108, tz_112, tz_115, tz_117, tz_118, tz_119, tz_120, tz_188, tz_255, tz_999, tz_1000, tz_9999, tz_99999] at *) <;> omega)
  · clear q n f8 a8 a; ((try simp only [Int32.lt_iff_toInt_lt, Int32.le_iff_toInt_le, ← Int32.toInt_inj, tz_m2000, tz_m1000, tz_m9, tz_m6, tz_m4, tz_m3, tz_m2, tz_m1, tz_0, tz_1, tz_2, tz_3, tz_4, tz_5, tz_6, tz_7, tz_8, tz_9, tz_10, tz_11, tz_12, tz_20, tz_23, tz_24, tz_31, tz_48, tz_57, tz_59, tz_60, tz_95, tz_96, tz_98, tz_99, tz_100, tz_108, tz_112, tz_115, tz_117, tz_118, tz_119, tz_120, tz_188, tz_255, tz_999, tz_1000, tz_9999, tz_99999] at *) <;> omega)
end
section
/-! steps of the class: a ring of 8 -/
theorem ax_mod8 {x : Int32} (h0 : 0 ≤ x.toInt) : (x - x / (8 : Int32) * (8 : Int32)).toInt = x.toInt % 8 := by
  rw [ti_rem, tz_8, Int.tmod_eq_emod_of_nonneg h0]
/-- where a step goes, and the ring's two numbers then -/
def wsSlot (σ : Mem) : Nat := ((σ 70 4).toNatClampNeg + (σ 70 5).toNatClampNeg) % 8
def wsRing (σ s : Mem) : Prop :=
  ((σ 70 5).toInt < 8 → (s 70 4).toInt = (σ 70 4).toInt ∧ (s 70 5).toInt = (σ 70 5).toInt + 1) ∧ ((σ 70 5).toInt = 8 → (s 70 4).toInt = ((σ 70 4).toInt + 1) % 8 ∧ (s 70 5).toInt = 8)
theorem ax_nextSlot {F : Nat} {σ : Mem} (b4 : 0 ≤ (σ 70 4).toInt ∧ (σ 70 4).toInt ≤ 7) (b5 : 0 ≤ (σ 70 5).toInt ∧ (σ 70 5).toInt ≤ 8) : pc (f_X2_nextSlot F σ) (fun r s => r.toInt = (wsSlot σ : Int) ∧ wsRing σ s ∧ ∀ k, k ≠ 70 → s k = σ k) := by
  rw [f_X2_nextSlot_e]
  simp only [j_X2_nextSlot_48_e]
  refine pc_lt (fun z1 h1 => ?_)
  have ea : ((σ 70 4) + (σ 70 5)).toInt = (σ 70 4).toInt + (σ 70 5).toInt := ti_add (by omega) (by omega)
  have ez : z1.toInt = (wsSlot σ : Int) := by
    rw [h1, ax_mod8 (by omega), ea]
    unfold wsSlot
    rw [ti_nat, ti_nat]
    omega
  refine pc_ite (fun c => ?_) (fun c => ?_)
  · have d := ti_le c
    rw [tz_8] at d
    refine pc_lt (fun s2 h2 => pc_ret ⟨ez, ⟨fun q => by omega, fun q => ⟨?_, ?_⟩⟩, fun k hk => by rw [h2, up2_k hk]⟩)
    · have e1 : ((σ 70 4) + (1 : Int32)).toInt = (σ 70 4).toInt + 1 := by rw [ti_add (by rw [tz_1]; omega) (by rw [tz_1]; omega), tz_1]
      rw [h2, up2_s, ax_mod8 (by omega), e1]
    · rw [h2, up2_i (by decide), q]
  · have d := ti_nle c
    rw [tz_8] at d
    refine pc_lt (fun s3 h3 => pc_ret ⟨ez, ⟨fun q => ⟨?_, ?_⟩, fun q => by omega⟩, fun k hk => by rw [h3, up2_k hk]⟩)
    · rw [h3, up2_i (by decide)]
    · rw [h3, up2_s, ti_add (by rw [tz_1]; omega) (by rw [tz_1]; omega), tz_1]
theorem ax_keep {F : Nat} {x1 x2 x3 : Int32} {σ : Mem} (b4 : 0 ≤ (σ 70 4).toInt ∧ (σ 70 4).toInt ≤ 7) (b5 : 0 ≤ (σ 70 5).toInt ∧ (σ 70 5).toInt ≤ 8) : pc (f_X2_keep F x1 x2 x3 σ) (fun _ s => wsRing σ s ∧ s 71 = upd (σ 71) (wsSlot σ) x1 ∧ s 72 = upd (σ 72) (wsSlot σ) x2 ∧ s 73 = upd (σ 73) (wsSlot σ) x3 ∧ ∀ k, k ≠ 70 → k ≠ 71 → k ≠ 72 → k ≠ 73 → s k = σ k) := by
  rw [f_X2_keep_e]
  refine pc_bnd (ax_nextSlot b4 b5) (fun r s2 q => ?_)
  obtain ⟨er, hR, ho⟩ := q
  refine pc_chk (fun _ => pc_lt (fun s4 h4 => pc_lt (fun s5 h5 => pc_lt (fun s6 h6 => pc_ret ?_))))
  rw [tn_int er] at h4 h5 h6
  have e70 : s6 70 = s2 70 := by rw [h6, up2_k (by decide), h5, up2_k (by decide), h4, up2_k (by decide)]
  refine ⟨by unfold wsRing; rw [e70]; exact hR, ?_, ?_, ?_, fun k n0 n1 n2 n3 => ?_⟩
  · rw [h6, up2_k (by decide), h5, up2_k (by decide), h4]
    unfold up2
    rw [if_pos rfl, ho _ (by decide)]
  · rw [h6, up2_k (by decide), h5]
    unfold up2
    rw [if_pos rfl, h4, up2_k (by decide), ho _ (by decide)]
  · rw [h6]
    unfold up2
    rw [if_pos rfl, h5, up2_k (by decide), h4, up2_k (by decide), ho _ (by decide)]
  · rw [h6, up2_k n3, h5, up2_k n2, h4, up2_k n1, ho _ n0]
theorem ax_keepRoster_22 {F a : Nat} {x3 : Int32} {q : Nat} (hq : x3.toInt = (q : Int)) (ha : a ≠ 75 + q) {f : Nat → Int32} : ∀ (N k : Nat) (x4 : Int32) (σ : Mem), x4.toInt = (k : Int) → k ≤ 24 → σ a = f → pc (lp_X2_keepRoster_22 F a x3 N x4 σ) (fun _ s => (∀ j, j ≠ 75 + q → s j = σ j) ∧ (∀ t, k ≤ t → t < 24 → s (75 + q) t = f t) ∧ (∀ t, t < k → s (75 + q) t = σ (75 + q) t)) := by
  intro N
  induction N with
  | zero => intro k x4 σ h1 h2 h3; exact pc_none rfl
  | succ N ih =>
    intro k x4 σ h1 h2 h3
    rw [lp_X2_keepRoster_22_s]
    have ex : (24 : Int32) ≤ x4 → k = 24 := fun c => by have d := ti_le c; rw [tz_24] at d; omega
    refine pc_ite (fun c => pc_ret ⟨fun _ _ => rfl, fun t a b => by have := ex c; omega, fun _ _ => rfl⟩) (fun c => ?_)
    refine pc_ite (fun c => pc_ret ⟨fun _ _ => rfl, fun t a b => by have := ex c; omega, fun _ _ => rfl⟩) (fun c => ?_)
    have d := ti_nle c
    rw [tz_24] at d
    refine pc_chk (fun _ => pc_chk (fun _ => pc_lt (fun s3 h => ?_)))
    rw [tn_int hq, tn_int h1] at h
    refine pc_mono (ih (k + 1) _ s3 (ti_nx h1 (by omega)) (by omega) (by rw [h, up2_k ha, h3])) (fun r s w => ?_)
    obtain ⟨w1, w2, w3⟩ := w
    refine ⟨fun j hj => by rw [w1 j hj, h, up2_k hj], fun t a b => ?_, fun t a => ?_⟩
    · by_cases e : t = k
      · subst e; rw [w3 _ (by omega), h, up2_s, h3]
      · exact w2 t (by omega) b
    · rw [w3 t (by omega), h, up2_i (by omega)]
theorem ax_keepRoster {F a : Nat} {x1 : Int32} {σ : Mem} (ha : a < 70) (b4 : 0 ≤ (σ 70 4).toInt ∧ (σ 70 4).toInt ≤ 7) (b5 : 0 ≤ (σ 70 5).toInt ∧ (σ 70 5).toInt ≤ 8) : pc (f_X2_keepRoster F x1 a σ) (fun _ s => wsRing σ s ∧ s 71 = upd (σ 71) (wsSlot σ) 0 ∧ s 72 = upd (σ 72) (wsSlot σ) x1 ∧ (∀ t, t < 24 → s (75 + wsSlot σ) t = σ a t) ∧ ∀ k, k ≠ 70 → k ≠ 71 → k ≠ 72 → k ≠ 75 + wsSlot σ → s k = σ k) := by
  rw [f_X2_keepRoster_e]
  refine pc_bnd (ax_nextSlot b4 b5) (fun r s2 q => ?_)
  obtain ⟨er, hR, ho⟩ := q
  refine pc_chk (fun _ => pc_lt (fun s4 h4 => pc_lt (fun s5 h5 => ?_)))
  rw [tn_int er] at h4 h5
  have e5 : ∀ k, k ≠ 70 → k ≠ 71 → k ≠ 72 → s5 k = σ k := fun k n0 n1 n2 => by rw [h5, up2_k n2, h4, up2_k n1, ho _ n0]
  refine pc_mono (ax_keepRoster_22 (a := a) (f := σ a) er (by omega) F 0 0 s5 rfl (by omega) (e5 a (by omega) (by omega) (by omega))) (fun _ s w => ?_)
  obtain ⟨w1, w2, -⟩ := w
  refine ⟨?_, ?_, ?_, fun t ht => w2 t (by omega) ht, fun k n0 n1 n2 n3 => by rw [w1 k n3, e5 k n0 n1 n2]⟩
  · unfold wsRing
    rw [w1 70 (by omega), h5, up2_k (by decide), h4, up2_k (by decide)]
    exact hR
  · rw [w1 71 (by omega), h5, up2_k (by decide), h4]
    unfold up2
    rw [if_pos rfl, ho _ (by decide)]
  · rw [w1 72 (by omega), h5]
    unfold up2
    rw [if_pos rfl, h4, up2_k (by decide), ho _ (by decide)]
end
