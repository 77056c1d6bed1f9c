/-! literals by their numbers -/
theorem tz_m2000 : (-2000 : Int32).toInt = -2000 := rfl
theorem tz_m1000 : (-1000 : Int32).toInt = -1000 := rfl
theorem tz_m9 : (-9 : Int32).toInt = -9 := rfl
theorem tz_m6 : (-6 : Int32).toInt = -6 := rfl
theorem tz_m4 : (-4 : Int32).toInt = -4 := rfl
theorem tz_m3 : (-3 : Int32).toInt = -3 := rfl
theorem tz_m2 : (-2 : Int32).toInt = -2 := rfl
theorem tz_m1 : (-1 : Int32).toInt = -1 := rfl
theorem tz_0 : (0 : Int32).toInt = 0 := rfl
theorem tz_1 : (1 : Int32).toInt = 1 := rfl
theorem tz_2 : (2 : Int32).toInt = 2 := rfl
theorem tz_3 : (3 : Int32).toInt = 3 := rfl
theorem tz_4 : (4 : Int32).toInt = 4 := rfl
theorem tz_5 : (5 : Int32).toInt = 5 := rfl
theorem tz_6 : (6 : Int32).toInt = 6 := rfl
theorem tz_7 : (7 : Int32).toInt = 7 := rfl
theorem tz_8 : (8 : Int32).toInt = 8 := rfl
theorem tz_9 : (9 : Int32).toInt = 9 := rfl
theorem tz_10 : (10 : Int32).toInt = 10 := rfl
theorem tz_11 : (11 : Int32).toInt = 11 := rfl
theorem tz_12 : (12 : Int32).toInt = 12 := rfl
theorem tz_20 : (20 : Int32).toInt = 20 := rfl
theorem tz_23 : (23 : Int32).toInt = 23 := rfl
theorem tz_24 : (24 : Int32).toInt = 24 := rfl
theorem tz_31 : (31 : Int32).toInt = 31 := rfl
theorem tz_48 : (48 : Int32).toInt = 48 := rfl
theorem tz_57 : (57 : Int32).toInt = 57 := rfl
theorem tz_59 : (59 : Int32).toInt = 59 := rfl
theorem tz_60 : (60 : Int32).toInt = 60 := rfl
theorem tz_95 : (95 : Int32).toInt = 95 := rfl
theorem tz_96 : (96 : Int32).toInt = 96 := rfl
theorem tz_98 : (98 : Int32).toInt = 98 := rfl
theorem tz_99 : (99 : Int32).toInt = 99 := rfl
theorem tz_100 : (100 : Int32).toInt = 100 := rfl
theorem tz_108 : (108 : Int32).toInt = 108 := rfl
theorem tz_112 : (112 : Int32).toInt = 112 := rfl
theorem tz_115 : (115 : Int32).toInt = 115 := rfl
theorem tz_117 : (117 : Int32).toInt = 117 := rfl
theorem tz_118 : (118 : Int32).toInt = 118 := rfl
theorem tz_119 : (119 : Int32).toInt = 119 := rfl
theorem tz_120 : (120 : Int32).toInt = 120 := rfl
theorem tz_188 : (188 : Int32).toInt = 188 := rfl
theorem tz_255 : (255 : Int32).toInt = 255 := rfl
theorem tz_999 : (999 : Int32).toInt = 999 := rfl
theorem tz_1000 : (1000 : Int32).toInt = 1000 := rfl
theorem tz_9999 : (9999 : Int32).toInt = 9999 := rfl
theorem tz_99999 : (99999 : Int32).toInt = 99999 := rfl
theorem wv_us {f : Nat → Int32} {k : Nat} {x : Int32} : upd f k x k = x := if_pos rfl
theorem wv_un {f : Nat → Int32} {k j : Nat} {x : Int32} (h : ¬ j = k) : upd f k x j = f j := if_neg h
/-! a house as a vector of 188 numbers: panes, lookers, law, day, 8 worths, 6 panes' views, 5 kinds and figures, 5 * 24 hours (-9 none), 5 * 8 counts -/
def wvJ (p : Nat) : Nat := if p < 4 then 0 else if p < 12 then 16 else if p < 18 then 1 else if p < 28 then (if p % 2 = 0 then 2 else 3) else if p < 148 then 5 + (p - 28) / 24 else 11 + (p - 148) / 8
def wvI (p : Nat) : Nat := if p = 0 then 0 else if p = 1 then 2 else if p = 2 then 8 else if p = 3 then 9 else if p < 12 then p - 4 else if p < 18 then p - 12 else if p < 28 then (p - 18) / 2 else if p < 148 then (p - 28) % 24 else (p - 148) % 8
def wvPl (j i : Nat) : Nat := if j = 0 then (if i = 0 then 0 else if i = 2 then 1 else if i = 8 then 2 else 3) else if j = 16 then 4 + i else if j = 1 then 12 + i else if j = 2 then 18 + 2 * i else if j = 3 then 19 + 2 * i else if j < 11 then 28 + 24 * (j - 5) + i else 148 + 8 * (j - 11) + i
theorem wvPl_ok : ∀ p, p < 188 → wvPl (wvJ p) (wvI p) = p := by decide +kernel
theorem wvJ_le : ∀ p, p < 188 → wvJ p ≤ 16 := by decide +kernel
theorem wvJ_0 : ∀ p, p < 188 → wvJ p = 0 → wvI p = 0 ∨ wvI p = 2 ∨ wvI p = 8 ∨ wvI p = 9 := by decide +kernel
theorem wvJI_16 : ∀ v, v < 8 → 16 = wvJ (4 + v) ∧ v = wvI (4 + v) := by decide +kernel
theorem wvJI_1 : ∀ v, v < 6 → 1 = wvJ (12 + v) ∧ v = wvI (12 + v) := by decide +kernel
theorem wvJI_2 : ∀ v, v < 5 → 2 = wvJ (18 + 2 * v) ∧ v = wvI (18 + 2 * v) := by decide +kernel
theorem wvJI_3 : ∀ v, v < 5 → 3 = wvJ (19 + 2 * v) ∧ v = wvI (19 + 2 * v) := by decide +kernel
theorem wvJI_5 : ∀ l, l < 5 → ∀ t, t < 24 → 5 + l = wvJ (28 + 24 * l + t) ∧ t = wvI (28 + 24 * l + t) := by decide +kernel
theorem wvJI_11 : ∀ l, l < 5 → ∀ v, v < 8 → 11 + l = wvJ (148 + 8 * l + v) ∧ v = wvI (148 + 8 * l + v) := by decide +kernel
theorem wvJ_5' : ∀ k, k < 5 → ∀ p, p < 188 → wvJ p = 5 + k → 28 + 24 * k ≤ p ∧ p < 52 + 24 * k := by decide +kernel
theorem wvJ_11' : ∀ k, k < 5 → ∀ p, p < 188 → wvJ p = 11 + k → 148 + 8 * k ≤ p ∧ p < 156 + 8 * k := by decide +kernel
theorem wtJ_no107 : ∀ p, p < 148 → wtJ p ≠ 107 := by decide +kernel
theorem wvJ_lo : ∀ p, p < 148 → 4 ≤ p → (1 ≤ wvJ p ∧ wvJ p ≤ 9) ∨ wvJ p = 16 := by decide +kernel
theorem wvJ_cs : ∀ p, p < 28 → (wvJ p = 0 ∧ (wvI p = 0 ∨ wvI p = 2 ∨ wvI p = 8 ∨ wvI p = 9)) ∨ (wvJ p = 16 ∧ wvI p < 8) ∨ (wvJ p = 1 ∧ wvI p < 6) ∨ (wvJ p = 2 ∧ wvI p < 5) ∨ (wvJ p = 3 ∧ wvI p < 5) := by decide +kernel
def wvN (x : Int32) : Int32 := if x = 9 then -9 else if x = -9 then 9 else x
theorem wvN_o {x : Int32} (h : 0 ≤ x.toInt) (h9 : ¬ x = 9) : wvN x = x := by
  unfold wvN
  rw [if_neg h9, if_neg (fun q => by rw [q] at h; exact absurd h (by decide))]
def wvE (p : Nat) (x : Int32) : Int32 := if 28 ≤ p ∧ p < 148 then wvN x else x
def wvX (h : Nat) (σ : Mem) (p : Nat) : Int32 := wvE p (σ (h + wvJ p) (wvI p))
def wvM (σ : Mem) (p : Nat) : Int32 := σ (wtJ p) (wtI p)
theorem wvE_o {p : Nat} {x : Int32} (h : p < 28 ∨ 148 ≤ p) : wvE p x = x := if_neg (by omega)
theorem wvE_i {p : Nat} {x : Int32} (h : 28 ≤ p ∧ p < 148) : wvE p x = wvN x := if_pos h
theorem wvX_at {h q k i : Nat} {σ : Mem} {x : Int32} (hq : q < 188) (hk : k = h + wvJ q) (hi : i = wvI q) {p : Nat} (hp : p < 188) : wvX h (up2 σ k i x) p = upd (wvX h σ) q (wvE q x) p := by
  subst hk hi
  by_cases e : p = q
  · subst e; rw [wv_us]; unfold wvX; rw [up2_s]
  · have hne : ¬ (wvJ p = wvJ q ∧ wvI p = wvI q) := fun h => e (by rw [← wvPl_ok p hp, ← wvPl_ok q hq, h.1, h.2])
    rw [wv_un e]
    unfold wvX
    by_cases e2 : wvJ p = wvJ q
    · rw [e2, up2_i (fun h => hne ⟨e2, h⟩)]
    · rw [up2_k (by omega)]
theorem wvX_eq {h : Nat} {σ s : Mem} (e : ∀ p, p < 188 → s (h + wvJ p) (wvI p) = σ (h + wvJ p) (wvI p)) {p : Nat} (hp : p < 188) : wvX h s p = wvX h σ p := by
  unfold wvX
  rw [e p hp]
theorem wvX_k {h k i : Nat} {σ : Mem} {x : Int32} (hk : k < h ∨ h + 16 < k) {p : Nat} (hp : p < 188) : wvX h (up2 σ k i x) p = wvX h σ p := by
  refine wvX_eq (fun p hp => ?_) hp
  have := wvJ_le p hp
  rw [up2_k (by omega)]
theorem wvX_fr {W : Nat → Prop} {h : Nat} {τ s : Mem} (hh : wt_isH h) (hf : fr W τ s) (hW : ∀ c, h ≤ c → c ≤ h + 16 → ¬ W c) {p : Nat} (hp : p < 188) : wvX h s p = wvX h τ p := by
  refine wvX_eq (fun p hp => hf _ _ ?_) hp
  have h1 := wvJ_le p hp
  have h2 := wt_Hcs hh
  rw [wcid_lo (by omega) (by omega)]
  exact hW _ (by omega) (by omega)
theorem wvM_at {q k i : Nat} {σ : Mem} {x : Int32} (hq : q < 188) (hk : k = wtJ q) (hi : i = wtI q) {p : Nat} (hp : p < 188) : wvM (up2 σ k i x) p = upd (wvM σ) q x p := by
  subst hk hi
  by_cases e : p = q
  · subst e; rw [wv_us]; unfold wvM; rw [up2_s]
  · have hne : ¬ (wtJ p = wtJ q ∧ wtI p = wtI q) := fun h => e (by rw [← wtPl_ok p hp, ← wtPl_ok q hq, h.1, h.2])
    rw [wv_un e]
    unfold wvM
    by_cases e2 : wtJ p = wtJ q
    · rw [e2, up2_i (fun h => hne ⟨e2, h⟩)]
    · rw [up2_k e2]
theorem wvM_no {k i : Nat} {σ : Mem} {x : Int32} (hk : ¬ (102 ≤ k ∧ k ≤ 107)) (hi : ¬ (k = 101 ∧ (i = 1 ∨ i = 3 ∨ i = 8 ∨ i = 9))) {p : Nat} (hp : p < 188) : wvM (up2 σ k i x) p = wvM σ p := by
  unfold wvM
  rw [wm_key, if_neg]
  rintro ⟨rfl, rfl⟩
  have h1 := wtJ_101 p hp
  by_cases e : wtJ p = 101
  · have := wtI_fld p hp e
    exact hi ⟨e, this⟩
  · omega
theorem wvM_cid {p : Nat} (hp : p < 188) : (102 ≤ wcid (wtJ p) (wtI p) ∧ wcid (wtJ p) (wtI p) ≤ 107) ∨ wcid (wtJ p) (wtI p) = 1001 ∨ wcid (wtJ p) (wtI p) = 1003 ∨ wcid (wtJ p) (wtI p) = 1008 ∨ wcid (wtJ p) (wtI p) = 1009 := by
  have h2 := wtJ_101 p hp
  by_cases e : wtJ p = 101
  · have h3 := wtI_fld p hp e
    have h5 : wcid (wtJ p) (wtI p) = 1000 + wtI p := by rw [e]; rfl
    omega
  · have h5 : wcid (wtJ p) (wtI p) = wtJ p := wcid_M (by omega)
    omega
theorem wvM_fr {W : Nat → Prop} {τ s : Mem} (hf : fr W τ s) (hW : ∀ c, (102 ≤ c ∧ c ≤ 107) ∨ c = 1001 ∨ c = 1003 ∨ c = 1008 ∨ c = 1009 → ¬ W c) {p : Nat} (hp : p < 188) : wvM s p = wvM τ p := hf _ _ (hW _ (wvM_cid hp))
/-! what the changes do to a vector -/
def aPane (V : Nat → Int32) (x : Int32) : Nat → Int32 := upd (upd V (12 + (V 0).toNatClampNeg) x) 0 (V 0 + 1)
def aLooker (V : Nat → Int32) (k f : Int32) (p : Nat) : Int32 :=
  if p = 1 then V 1 + 1 else if p = 18 + 2 * (V 1).toNatClampNeg then k else if p = 19 + 2 * (V 1).toNatClampNeg then f else if 28 + 24 * (V 1).toNatClampNeg ≤ p ∧ p < 52 + 24 * (V 1).toNatClampNeg then -9 else if 148 + 8 * (V 1).toNatClampNeg ≤ p ∧ p < 156 + 8 * (V 1).toNatClampNeg then 0 else V p
def aStand (V : Nat → Int32) (l a b : Nat) (x : Int32) (p : Nat) : Int32 := if 28 + 24 * l + a ≤ p ∧ p ≤ 28 + 24 * l + b then wvN x else V p
def aWall (V : Nat → Int32) (x v : Int32) : Nat → Int32 := upd V (12 + x.toNatClampNeg) (V (12 + x.toNatClampNeg) ^^^ ((1 : Int32) <<< (v &&& 31)))
def aWorth (V : Nat → Int32) (v x : Int32) : Nat → Int32 := upd V (4 + v.toNatClampNeg) x
def aLaw (V : Nat → Int32) (x : Int32) : Nat → Int32 := upd V 2 x
/-- the bits of all panes' views -/
def aAll (V : Nat → Int32) : Nat → Int32
  | 0 => 0
  | n + 1 => aAll V n ||| V (12 + n)
def aInv (t : Int32) : Int32 := if t < 6 then 1 else if 17 < t then 1 else 2
/-- what looker l pulls in hour t -/
def aPull (V : Nat → Int32) (l : Nat) (t : Int32) : Int32 :=
  if V (18 + 2 * l) = 0 then 1 else if V (18 + 2 * l) = 1 then aInv t else if V (18 + 2 * l) = 2 then (if t = V (19 + 2 * l) + 8 then 5 else 0) else if V (18 + 2 * l) = 3 then (if t - t / 2 * 2 = 0 then 1 else 0) else if V (18 + 2 * l) = 4 then V (19 + 2 * l) / 3 + aInv t else if V (18 + 2 * l) = 5 then (V (19 + 2 * l) / 3 + aInv t) * (if t < 20 then 1 else 2) else 0
/-- what it sees then -/
def aSees (V : Nat → Int32) (l t : Nat) : Int32 := if V (18 + 2 * l) = 2 then aAll V (V 0).toNatClampNeg else if (V (28 + 24 * l + t)).toInt < 0 then 0 else V (12 + (V (28 + 24 * l + t)).toNatClampNeg)
/-- what it brings of view v in the hours below t -/
def aGain (V : Nat → Int32) (l v : Nat) : Nat → Int32
  | 0 => 0
  | t + 1 => aGain V l v t + (if (aSees V l t >>> (Int32.ofNat v &&& 31)) &&& (1 : Int32) = 1 then aPull V l (Int32.ofNat t) else 0)
def aBehind (V : Nat → Int32) (x : Int32) (l v : Nat) : Int32 := wt_min 99999 (V (148 + 8 * l + v) + x * aGain V l v 24)
def aDay (V : Nat → Int32) (x : Int32) (p : Nat) : Int32 := if p = 3 then V 3 + x else if 148 ≤ p ∧ p < 188 ∧ (p - 148) / 8 < (V 1).toNatClampNeg then aBehind V x ((p - 148) / 8) ((p - 148) % 8) else V p
/-- the cells that count: of lookers there are -/
def live (V : Nat → Int32) (p : Nat) : Prop := (28 ≤ p → p < 148 → (p - 28) / 24 < (V 1).toNatClampNeg) ∧ (148 ≤ p → (p - 148) / 8 < (V 1).toNatClampNeg)
def weq (lim : Nat) (A B : Nat → Int32) : Prop := ∀ p, p < lim → live A p → B p = A p
theorem live_lo {V : Nat → Int32} {p : Nat} (h : p < 28) : live V p := ⟨fun h1 => by omega, fun h1 => by omega⟩
theorem weq_lo {lim : Nat} {A B : Nat → Int32} (h : weq lim A B) (hl : 28 ≤ lim) {p : Nat} (hp : p < 28) : B p = A p := h p (by omega) (live_lo hp)
theorem weq_rf {lim : Nat} {A : Nat → Int32} : weq lim A A := fun _ _ _ => rfl
theorem weq_cg {lim : Nat} {A B A' B' : Nat → Int32} (h : weq lim A B) (hl : 28 ≤ lim) (h1 : ∀ p, p < lim → A' p = A p) (h2 : ∀ p, p < lim → B' p = B p) : weq lim A' B' := by
  intro p hp hv
  rw [h1 p hp, h2 p hp]
  refine h p hp ?_
  unfold live at hv ⊢
  rw [h1 1 (by omega)] at hv
  exact hv
/-! the numbers of a vector within their bounds -/
def wvV (V : Nat → Int32) : Prop := (0 ≤ (V 0).toInt ∧ (V 0).toInt ≤ 6) ∧ (0 ≤ (V 1).toInt ∧ (V 1).toInt ≤ 5) ∧ (0 ≤ (V 2).toInt ∧ (V 2).toInt ≤ 2) ∧ (∀ p, 4 ≤ p → p < 12 → 0 ≤ (V p).toInt ∧ (V p).toInt ≤ 9) ∧ (∀ p, 28 ≤ p → p < 148 → live V p → (V p).toInt = -9 ∨ (0 ≤ (V p).toInt ∧ (V p).toInt < (V 0).toInt)) ∧ (∀ l : Nat, (l : Int) < (V 1).toInt → (0 ≤ (V (18 + 2 * l)).toInt ∧ (V (18 + 2 * l)).toInt ≤ 5) ∧ (0 ≤ (V (19 + 2 * l)).toInt ∧ (V (19 + 2 * l)).toInt ≤ 9)) ∧ (∀ p, 148 ≤ p → p < 188 → live V p → 0 ≤ (V p).toInt ∧ (V p).toInt ≤ 99999)
theorem wvV_cg {V V' : Nat → Int32} (h : wvV V) (e : ∀ p, p < 188 → V' p = V p) : wvV V' := by
  obtain ⟨h0, h1, h2, h3, h4, h5, h6⟩ := h
  have lv : ∀ p, live V' p → live V p := fun p c => by
    unfold live at c ⊢
    rw [e 1 (by decide)] at c
    exact c
  refine ⟨by rw [e 0 (by decide)]; exact h0, by rw [e 1 (by decide)]; exact h1, by rw [e 2 (by decide)]; exact h2, fun p a b => by rw [e p (by omega)]; exact h3 p a b, fun p a b c => ?_, fun l hl => ?_, fun p a b c => ?_⟩
  · rw [e p (by omega), e 0 (by decide)]
    exact h4 p a b (lv p c)
  · rw [e 1 (by decide)] at hl
    rw [e (18 + 2 * l) (by omega), e (19 + 2 * l) (by omega)]
    exact h5 l hl
  · rw [e p (by omega)]
    exact h6 p a b (lv p c)
/-- the cell of a looker there is -/
theorem vV_c {V : Nat → Int32} (h : wvV V) {l t : Nat} (hl : (l : Int) < (V 1).toInt) (ht : t < 24) : (V (28 + 24 * l + t)).toInt = -9 ∨ (0 ≤ (V (28 + 24 * l + t)).toInt ∧ (V (28 + 24 * l + t)).toInt < (V 0).toInt) := by
  have h5 := h.2.1.2
  have n1 := ti_nat (V 1)
  exact h.2.2.2.2.1 (28 + 24 * l + t) (by omega) (by omega) ⟨fun _ _ => by omega, fun _ => by omega⟩
theorem vV_n {V : Nat → Int32} (h : wvV V) {l v : Nat} (hl : (l : Int) < (V 1).toInt) (hv : v < 8) : 0 ≤ (V (148 + 8 * l + v)).toInt ∧ (V (148 + 8 * l + v)).toInt ≤ 99999 := by
  have h5 := h.2.1.2
  have n1 := ti_nat (V 1)
  exact h.2.2.2.2.2.2 (148 + 8 * l + v) (by omega) (by omega) ⟨fun _ => by omega, fun _ => by omega⟩
theorem io_nat : ∀ n, n < 24 → (Int32.ofNat n).toInt = (n : Int) := by decide +kernel
theorem io_eq {x : Int32} {n : Nat} (h : x.toInt = (n : Int)) (hn : n < 24) : x = Int32.ofNat n := Int32.toInt_inj.mp (by rw [h, io_nat n hn])
theorem ti_div3 {z : Int32} (h : 0 ≤ z.toInt ∧ z.toInt ≤ 9) : 0 ≤ (z / 3).toInt ∧ (z / 3).toInt ≤ 3 := by
  have e : z = Int32.ofNat z.toNatClampNeg := io_eq (by rw [ti_nat]; omega) (by rw [ti_nat]; omega)
  have k : ∀ n, n < 10 → 0 ≤ ((Int32.ofNat n) / 3).toInt ∧ ((Int32.ofNat n) / 3).toInt ≤ 3 := by decide +kernel
  rw [e]
  exact k _ (by rw [ti_nat]; omega)
