/-! a snapshot's places: the cell (wtJ p, wtI p) of the model stands at the place p -/
def wtJ (p : Nat) : Nat := if p < 4 then 101 else if p < 12 then 102 else if p < 18 then 103 else if p < 28 then (if p % 2 = 0 then 104 else 105) else if p < 148 then 106 else 107
def wtI (p : Nat) : Nat := if p = 0 then 1 else if p = 1 then 3 else if p = 2 then 8 else if p = 3 then 9 else if p < 12 then p - 4 else if p < 18 then p - 12 else if p < 28 then (p - 18) / 2 else if p < 148 then p - 28 else p - 148
def wtPl (j i : Nat) : Nat := if j = 101 then (if i = 1 then 0 else if i = 3 then 1 else if i = 8 then 2 else 3) else if j = 102 then 4 + i else if j = 103 then 12 + i else if j = 104 then 18 + 2 * i else if j = 105 then 19 + 2 * i else if j = 106 then 28 + i else 148 + i
theorem wtPl_ok : ∀ p, p < 188 → wtPl (wtJ p) (wtI p) = p := by decide +kernel
theorem wtJI_inj {p q : Nat} (hp : p < 188) (hq : q < 188) (h1 : wtJ p = wtJ q) (h2 : wtI p = wtI q) : p = q := by
  rw [← wtPl_ok p hp, ← wtPl_ok q hq, h1, h2]
theorem wtJ_101 : ∀ p, p < 188 → 101 ≤ wtJ p ∧ wtJ p ≤ 107 := by decide +kernel
theorem wtI_fld : ∀ p, p < 188 → wtJ p = 101 → wtI p = 1 ∨ wtI p = 3 ∨ wtI p = 8 ∨ wtI p = 9 := by decide +kernel
theorem wtJI_102 : ∀ v, v < 8 → wtJ (4 + v) = 102 ∧ wtI (4 + v) = v := by decide +kernel
theorem wtJI_103 : ∀ v, v < 6 → wtJ (12 + v) = 103 ∧ wtI (12 + v) = v := by decide +kernel
theorem wtJI_104 : ∀ v, v < 5 → wtJ (18 + 2 * v) = 104 ∧ wtI (18 + 2 * v) = v := by decide +kernel
theorem wtJI_105 : ∀ v, v < 5 → wtJ (18 + 2 * v + 1) = 105 ∧ wtI (18 + 2 * v + 1) = v := by decide +kernel
theorem wtJI_106 : ∀ v, v < 120 → wtJ (28 + v) = 106 ∧ wtI (28 + v) = v := by decide +kernel
theorem wtJI_107 : ∀ v, v < 40 → wtJ (148 + v) = 107 ∧ wtI (148 + v) = v := by decide +kernel
def wtHd (j i : Nat) : Prop := j = 101 ∧ 25 ≤ i ∧ i ≤ 27
/-- q cells are carried: taken (x not 0) into the region k, or given back out of it -/
def wtCar (x : Int32) (k : Nat) (τ : Mem) (q : Nat) (m : Mem) : Prop :=
  (m 101 25).toInt = q ∧ m 101 26 = x ∧ (m 101 27).toNatClampNeg = k ∧
  (¬ x = 0 → (∀ p, p < q → m k p = τ (wtJ p) (wtI p)) ∧ ∀ j i, ¬ wtHd j i → ¬ (j = k ∧ i < q) → m j i = τ j i) ∧
  (x = 0 → (∀ p, p < q → m (wtJ p) (wtI p) = τ k p) ∧ ∀ j i, ¬ wtHd j i → (∀ p, p < q → ¬ (j = wtJ p ∧ i = wtI p)) → m j i = τ j i)
theorem wtHd_no {p : Nat} (hp : p < 188) : ¬ wtHd (wtJ p) (wtI p) := by
  intro h
  have := wtI_fld p hp h.1
  have h2 := h.2
  omega
theorem wt_carry {F : Nat} {x : Int32} {k q : Nat} {τ m : Mem} {j i : Nat} (hk : wiK k) (hq : q < 188) (hj : wtJ q = j) (hi : wtI q = i) (hC : wtCar x k τ q m) : sf (f_X4_carry F (m j i) m) (fun r s => wtCar x k τ (q + 1) (up2 s j i r)) := by
  obtain ⟨c1, c2, c3, c4, c5⟩ := hC
  have hk' := hk
  unfold wiK at hk'
  have hJ := wtJ_101 q hq
  have hno := wtHd_no hq
  subst hj hi
  have e1 : (m 101 25 + 1).toInt = (q : Int) + 1 := by rw [ti_add] <;> rw [c1, show (1 : Int32).toInt = 1 from rfl] <;> omega
  have e2 : (m 101 25 + 1 - 1).toInt = (q : Int) := by rw [ti_sub] <;> rw [e1, show (1 : Int32).toInt = 1 from rfl] <;> omega
  have n1 : Int32.toNatClampNeg (m 101 25) = q := by rw [ti_nat, c1]; rfl
  have n2 : Int32.toNatClampNeg (m 101 25 + 1 - 1) = q := by rw [ti_nat, e2]; rfl
  rw [f_X4_carry_e]
  refine sf_ite (fun hx => ?_) (fun hx => ?_)
  · rw [c2] at hx
    obtain ⟨g1, g2⟩ := c5 hx
    rw [j_X4_carry_17_e]
    refine sf_lt (fun s1 h1 => ?_)
    have k25 : s1 101 25 = m 101 25 + 1 := by rw [h1, up2_s]
    have k27 : s1 101 27 = m 101 27 := by rw [h1, up2_i (by decide)]
    have hs : ∀ a b, ¬ wtHd a b → s1 a b = m a b := by
      intro a b hab
      rw [h1, wm_key, if_neg]
      rintro ⟨rfl, rfl⟩
      exact hab ⟨rfl, by decide, by decide⟩
    refine sf_rk (by rw [k27, c3]; exact hk) ?_
    refine sf_chk (ti_in (by rw [k25, e2]; omega) (by rw [k25, e2]; omega)) ?_
    refine sf_ret ?_
    rw [k27, c3, k25, n2]
    have hv : s1 k q = τ k q := by
      have hh : ¬ wtHd k q := fun h => by have := h.1; omega
      rw [hs k q hh, g2 k q hh (fun p hp hc => by have := wtJ_101 p (by omega); omega)]
    rw [hv]
    have hm : ∀ a b, ¬ (a = wtJ q ∧ b = wtI q) → up2 s1 (wtJ q) (wtI q) (τ k q) a b = s1 a b := fun a b h => by rw [wm_key, if_neg h]
    refine ⟨?_, ?_, ?_, fun h => absurd hx h, fun _ => ⟨fun p hp => ?_, fun a b hab hp => ?_⟩⟩
    · rw [hm 101 25 (fun h => hno ⟨h.1.symm, by omega, by omega⟩), k25, e1]; rfl
    · rw [hm 101 26 (fun h => hno ⟨h.1.symm, by omega, by omega⟩), h1, up2_i (by decide), c2]
    · rw [hm 101 27 (fun h => hno ⟨h.1.symm, by omega, by omega⟩), k27, c3]
    · by_cases e : p = q
      · subst e; rw [up2_s]
      · rw [hm _ _ (fun h => e (wtJI_inj (by omega) hq h.1 h.2)), hs _ _ (wtHd_no (by omega)), g1 p (by omega)]
    · rw [hm a b (hp q (by omega)), hs a b hab, g2 a b hab (fun p h => hp p (by omega))]
  · rw [c2] at hx
    obtain ⟨g1, g2⟩ := c4 hx
    have hval : m (wtJ q) (wtI q) = τ (wtJ q) (wtI q) := g2 _ _ hno (fun h => by omega)
    rw [hval]
    refine sf_rk (by rw [c3]; exact hk) ?_
    refine sf_chk (ti_in (by rw [c1]; omega) (by rw [c1]; omega)) ?_
    refine sf_lt (fun s6 h6 => ?_)
    rw [c3, n1] at h6
    have h6' : ∀ a b, s6 a b = if a = k ∧ b = q then τ (wtJ q) (wtI q) else m a b := fun a b => by rw [h6, wm_key]
    have q25 : s6 101 25 = m 101 25 := by rw [h6', if_neg (by omega)]
    have q26 : s6 101 26 = m 101 26 := by rw [h6', if_neg (by omega)]
    have q27 : s6 101 27 = m 101 27 := by rw [h6', if_neg (by omega)]
    rw [j_X4_carry_17_e]
    refine sf_lt (fun s1 h1 => ?_)
    have k25 : s1 101 25 = m 101 25 + 1 := by rw [h1, up2_s, q25]
    have k27 : s1 101 27 = m 101 27 := by rw [h1, up2_i (by decide), q27]
    have hs : ∀ a b, ¬ wtHd a b → s1 a b = s6 a b := by
      intro a b hab
      rw [h1, wm_key, if_neg]
      rintro ⟨rfl, rfl⟩
      exact hab ⟨rfl, by decide, by decide⟩
    refine sf_rk (by rw [k27, c3]; exact hk) ?_
    refine sf_chk (ti_in (by rw [k25, e2]; omega) (by rw [k25, e2]; omega)) ?_
    refine sf_ret ?_
    rw [k27, c3, k25, n2]
    have hv : s1 k q = τ (wtJ q) (wtI q) := by
      have hh : ¬ wtHd k q := fun h => by have := h.1; omega
      rw [hs k q hh, h6', if_pos ⟨rfl, rfl⟩]
    rw [hv]
    have hm : ∀ a b, up2 s1 (wtJ q) (wtI q) (τ (wtJ q) (wtI q)) a b = s1 a b := by
      intro a b
      rw [wm_key]
      split
      · rename_i e
        rw [e.1, e.2, hs _ _ hno, h6', if_neg (by omega), hval]
      · rfl
    refine ⟨?_, ?_, ?_, fun _ => ⟨fun p hp => ?_, fun a b hab hp => ?_⟩, fun h => absurd h hx⟩
    · rw [hm, k25, e1]; rfl
    · rw [hm, h1, up2_i (by decide), q26, c2]
    · rw [hm, k27, c3]
    · have hh : ¬ wtHd k p := fun h => by have := h.1; omega
      rw [hm, hs k p hh, h6']
      by_cases e : p = q
      · subst e; rw [if_pos ⟨rfl, rfl⟩]
      · rw [if_neg (fun h => e h.2), g1 p (by omega)]
    · rw [hm, hs a b hab, h6', if_neg (fun h => hp ⟨h.1, by omega⟩), g2 a b hab (fun h => hp ⟨h.1, by omega⟩)]
theorem wt_cnext {x : Int32} {v : Nat} (h : x.toInt = (v : Int)) (hv : v < 2000) : (x + 1).toInt = ((v + 1 : Nat) : Int) := by
  rw [ti_add] <;> rw [h, show (1 : Int32).toInt = 1 from rfl] <;> omega
theorem wt_ca_200 {F : Nat} (hF : 1000 ≤ F) {x : Int32} {k : Nat} {τ : Mem} (hk : wiK k) : ∀ (N v : Nat) (x3 : Int32) (m : Mem), x3.toInt = (v : Int) → v ≤ 40 → 40 < v + N → wtCar x k τ (148 + v) m → sf (lp_X4_carryAll_200 F N x3 m) (fun _ s => wtCar x k τ 188 s) := by
  intro N
  induction N with
  | zero => intro v x3 m h1 h2 h3; omega
  | succ N ih =>
    intro v x3 m h1 h2 h3 hC
    have hn : Int32.toNatClampNeg x3 = v := by rw [ti_nat, h1]; rfl
    rw [lp_X4_carryAll_200_s]
    refine sf_ite (fun c => ?_) (fun c => ?_)
    · have c2 : (40 : Int) ≤ x3.toInt := ti_le c
      have e : v = 40 := by omega
      subst e
      exact sf_ret hC
    have c2 : x3.toInt < (40 : Int) := ti_nle c
    refine sf_chk (ti_in (by omega) (by omega)) ?_
    rw [hn]
    refine sf_bnd (wt_carry (j := 107) (i := v) hk (by omega) (wtJI_107 v (by omega)).1 (wtJI_107 v (by omega)).2 hC) (fun r0 s0 hC0 => ?_)
    refine sf_lt (fun t0 ht0 => ?_)
    rw [← ht0] at hC0
    exact ih (v + 1) _ _ (wt_cnext h1 (by omega)) (by omega) (by omega) (by first | exact hC0 | (rw [show 148 + (v + 1) = 148 + v + 1 from by omega]; exact hC0))
theorem wt_ca_170 {F : Nat} (hF : 1000 ≤ F) {x : Int32} {k : Nat} {τ : Mem} (hk : wiK k) : ∀ (N v : Nat) (x3 : Int32) (m : Mem), x3.toInt = (v : Int) → v ≤ 120 → 120 < v + N → wtCar x k τ (28 + v) m → sf (lp_X4_carryAll_170 F N x3 m) (fun _ s => wtCar x k τ 188 s) := by
  intro N
  induction N with
  | zero => intro v x3 m h1 h2 h3; omega
  | succ N ih =>
    intro v x3 m h1 h2 h3 hC
    have hn : Int32.toNatClampNeg x3 = v := by rw [ti_nat, h1]; rfl
    rw [lp_X4_carryAll_170_s]
    refine sf_ite (fun c => ?_) (fun c => ?_)
    · have c2 : (120 : Int) ≤ x3.toInt := ti_le c
      have e : v = 120 := by omega
      subst e
      exact wt_ca_200 hF hk F 0 (0 : Int32) m rfl (by omega) (by omega) hC
    have c2 : x3.toInt < (120 : Int) := ti_nle c
    refine sf_chk (ti_in (by omega) (by omega)) ?_
    rw [hn]
    refine sf_bnd (wt_carry (j := 106) (i := v) hk (by omega) (wtJI_106 v (by omega)).1 (wtJI_106 v (by omega)).2 hC) (fun r0 s0 hC0 => ?_)
    refine sf_lt (fun t0 ht0 => ?_)
    rw [← ht0] at hC0
    exact ih (v + 1) _ _ (wt_cnext h1 (by omega)) (by omega) (by omega) (by first | exact hC0 | (rw [show 28 + (v + 1) = 28 + v + 1 from by omega]; exact hC0))
theorem wt_ca_125 {F : Nat} (hF : 1000 ≤ F) {x : Int32} {k : Nat} {τ : Mem} (hk : wiK k) : ∀ (N v : Nat) (x3 : Int32) (m : Mem), x3.toInt = (v : Int) → v ≤ 5 → 5 < v + N → wtCar x k τ (18 + 2 * v) m → sf (lp_X4_carryAll_125 F N x3 m) (fun _ s => wtCar x k τ 188 s) := by
  intro N
  induction N with
  | zero => intro v x3 m h1 h2 h3; omega
  | succ N ih =>
    intro v x3 m h1 h2 h3 hC
    have hn : Int32.toNatClampNeg x3 = v := by rw [ti_nat, h1]; rfl
    rw [lp_X4_carryAll_125_s]
    refine sf_ite (fun c => ?_) (fun c => ?_)
    · have c2 : (5 : Int) ≤ x3.toInt := ti_le c
      have e : v = 5 := by omega
      subst e
      exact wt_ca_170 hF hk F 0 (0 : Int32) m rfl (by omega) (by omega) hC
    have c2 : x3.toInt < (5 : Int) := ti_nle c
    refine sf_chk (ti_in (by omega) (by omega)) ?_
    rw [hn]
    refine sf_bnd (wt_carry (j := 104) (i := v) hk (by omega) (wtJI_104 v (by omega)).1 (wtJI_104 v (by omega)).2 hC) (fun r0 s0 hC0 => ?_)
    refine sf_lt (fun t0 ht0 => ?_)
    rw [← ht0] at hC0
    refine sf_bnd (wt_carry (j := 105) (i := v) hk (by omega) (wtJI_105 v (by omega)).1 (wtJI_105 v (by omega)).2 hC0) (fun r1 s1 hC1 => ?_)
    refine sf_lt (fun t1 ht1 => ?_)
    rw [← ht1] at hC1
    exact ih (v + 1) _ _ (wt_cnext h1 (by omega)) (by omega) (by omega) (by first | exact hC1 | (rw [show 18 + 2 * (v + 1) = 18 + 2 * v + 1 + 1 from by omega]; exact hC1))
theorem wt_ca_95 {F : Nat} (hF : 1000 ≤ F) {x : Int32} {k : Nat} {τ : Mem} (hk : wiK k) : ∀ (N v : Nat) (x3 : Int32) (m : Mem), x3.toInt = (v : Int) → v ≤ 6 → 6 < v + N → wtCar x k τ (12 + v) m → sf (lp_X4_carryAll_95 F N x3 m) (fun _ s => wtCar x k τ 188 s) := by
  intro N
  induction N with
  | zero => intro v x3 m h1 h2 h3; omega
  | succ N ih =>
    intro v x3 m h1 h2 h3 hC
    have hn : Int32.toNatClampNeg x3 = v := by rw [ti_nat, h1]; rfl
    rw [lp_X4_carryAll_95_s]
    refine sf_ite (fun c => ?_) (fun c => ?_)
    · have c2 : (6 : Int) ≤ x3.toInt := ti_le c
      have e : v = 6 := by omega
      subst e
      exact wt_ca_125 hF hk F 0 (0 : Int32) m rfl (by omega) (by omega) hC
    have c2 : x3.toInt < (6 : Int) := ti_nle c
    refine sf_chk (ti_in (by omega) (by omega)) ?_
    rw [hn]
    refine sf_bnd (wt_carry (j := 103) (i := v) hk (by omega) (wtJI_103 v (by omega)).1 (wtJI_103 v (by omega)).2 hC) (fun r0 s0 hC0 => ?_)
    refine sf_lt (fun t0 ht0 => ?_)
    rw [← ht0] at hC0
    exact ih (v + 1) _ _ (wt_cnext h1 (by omega)) (by omega) (by omega) (by first | exact hC0 | (rw [show 12 + (v + 1) = 12 + v + 1 from by omega]; exact hC0))
theorem wt_ca_65 {F : Nat} (hF : 1000 ≤ F) {x : Int32} {k : Nat} {τ : Mem} (hk : wiK k) : ∀ (N v : Nat) (x3 : Int32) (m : Mem), x3.toInt = (v : Int) → v ≤ 8 → 8 < v + N → wtCar x k τ (4 + v) m → sf (lp_X4_carryAll_65 F N x3 m) (fun _ s => wtCar x k τ 188 s) := by
  intro N
  induction N with
  | zero => intro v x3 m h1 h2 h3; omega
  | succ N ih =>
    intro v x3 m h1 h2 h3 hC
    have hn : Int32.toNatClampNeg x3 = v := by rw [ti_nat, h1]; rfl
    rw [lp_X4_carryAll_65_s]
    refine sf_ite (fun c => ?_) (fun c => ?_)
    · have c2 : (8 : Int) ≤ x3.toInt := ti_le c
      have e : v = 8 := by omega
      subst e
      exact wt_ca_95 hF hk F 0 (0 : Int32) m rfl (by omega) (by omega) hC
    have c2 : x3.toInt < (8 : Int) := ti_nle c
    refine sf_chk (ti_in (by omega) (by omega)) ?_
    rw [hn]
    refine sf_bnd (wt_carry (j := 102) (i := v) hk (by omega) (wtJI_102 v (by omega)).1 (wtJI_102 v (by omega)).2 hC) (fun r0 s0 hC0 => ?_)
    refine sf_lt (fun t0 ht0 => ?_)
    rw [← ht0] at hC0
    exact ih (v + 1) _ _ (wt_cnext h1 (by omega)) (by omega) (by omega) (by first | exact hC0 | (rw [show 4 + (v + 1) = 4 + v + 1 from by omega]; exact hC0))
/-- all that a snapshot holds is carried -/
theorem wt_carryAll {F : Nat} (hF : 1000 ≤ F) {x : Int32} (hx : x = 0 ∨ x = 1) {k : Nat} {τ : Mem} (hk : wiK k) : sf (f_X4_carryAll F k x τ) (fun _ s => wtCar x k τ 188 s) := by
  have hkn : Int32.toNatClampNeg (Int32.ofNat k) = k := by
    unfold wiK at hk
    rcases hk with h | h | h <;> (subst h; rfl)
  rw [f_X4_carryAll_e]
  refine sf_lt (fun s24 h24 => ?_)
  refine sf_bz hx ?_
  refine sf_lt (fun s25 h25 => ?_)
  refine sf_lt (fun s27 h27 => ?_)
  have hu : ∀ a b, ¬ wtHd a b → s27 a b = τ a b := by
    intro a b hab
    rw [h27, wm_key, if_neg (fun h => hab ⟨h.1, by omega, by omega⟩), h25, wm_key, if_neg (fun h => hab ⟨h.1, by omega, by omega⟩), h24, wm_key, if_neg (fun h => hab ⟨h.1, by omega, by omega⟩)]
  have hC0 : wtCar x k τ 0 s27 := by
    refine ⟨by rw [h27, up2_s]; rfl, by rw [h27, up2_i (by decide), h25, up2_s], by rw [h27, up2_i (by decide), h25, up2_i (by decide), h24, up2_s]; exact hkn, fun _ => ⟨fun p hp => by omega, fun a b hab _ => hu a b hab⟩, fun _ => ⟨fun p hp => by omega, fun a b hab _ => hu a b hab⟩⟩
  refine sf_bnd (wt_carry (j := 101) (i := 1) hk (by omega) rfl rfl hC0) (fun r0 t0 hD0 => ?_)
  refine sf_lt (fun u0 hu0 => ?_)
  rw [← hu0] at hD0
  refine sf_bnd (wt_carry (j := 101) (i := 3) hk (by omega) rfl rfl hD0) (fun r1 t1 hD1 => ?_)
  refine sf_lt (fun u1 hu1 => ?_)
  rw [← hu1] at hD1
  refine sf_bnd (wt_carry (j := 101) (i := 8) hk (by omega) rfl rfl hD1) (fun r2 t2 hD2 => ?_)
  refine sf_lt (fun u2 hu2 => ?_)
  rw [← hu2] at hD2
  refine sf_bnd (wt_carry (j := 101) (i := 9) hk (by omega) rfl rfl hD2) (fun r3 t3 hD3 => ?_)
  refine sf_lt (fun u3 hu3 => ?_)
  rw [← hu3] at hD3
  exact wt_ca_65 hF hk F 0 (0 : Int32) _ rfl (by omega) (by omega) hD3
theorem wt_B_of {τ : Mem} (hI : wiM τ) {p : Nat} (hp : p < 188) : wiB p (τ (wtJ p) (wtI p)) := by
  refine ⟨fun h => ?_, fun h => ?_, fun h1 h2 => ?_⟩
  · subst h; exact wx_X4_1 hI
  · subst h; exact wx_X4_3 hI
  · have h3 := wtJI_106 (p - 28) (by omega)
    rw [show 28 + (p - 28) = p from by omega] at h3
    rw [h3.1]; exact wx_106 hI _
theorem wt_Cl_of {p : Nat} {x : Int32} (hp : p < 188) (hB : wiB p x) : wiC (wtJ p) (wtI p) x := by
  by_cases h0 : p = 0
  · subst h0
    have hb := hB.1 rfl
    exact wm_101 ⟨fun _ => hb, fun h => absurd h (by decide), fun h => absurd h (by decide), fun h => absurd h (by decide), fun h => absurd h (by decide), fun h => absurd h (by decide), fun h => absurd h (by decide)⟩
  by_cases h1 : p = 1
  · subst h1
    have hb := hB.2.1 rfl
    exact wm_101 ⟨fun h => absurd h (by decide), fun _ => hb, fun h => absurd h (by decide), fun h => absurd h (by decide), fun h => absurd h (by decide), fun h => absurd h (by decide), fun h => absurd h (by decide)⟩
  by_cases h2 : p < 4
  · have hJ : wtJ p = 101 := by unfold wtJ; rw [if_pos h2]
    have hI2 : wtI p = 8 ∨ wtI p = 9 := by
      rcases (show p = 2 ∨ p = 3 by omega) with h | h <;> subst h <;> decide
    rw [hJ]
    exact wm_101 ⟨fun h => by omega, fun h => by omega, fun h => by omega, fun h => by omega, fun h => by omega, fun h => by omega, fun h => by omega⟩
  by_cases h3 : 28 ≤ p ∧ p < 148
  · have h4 := wtJI_106 (p - 28) (by omega)
    rw [show 28 + (p - 28) = p from by omega] at h4
    rw [h4.1]
    exact wm_106 (hB.2.2 h3.1 h3.2)
  have h5 : wtJ p ≠ 101 ∧ wtJ p ≠ 106 ∧ wtJ p ≤ 107 := by
    unfold wtJ
    split
    · omega
    split
    · omega
    split
    · omega
    split
    · split <;> omega
    split
    · omega
    · omega
  exact wm_free h5.1 h5.2.1 (by omega) (by omega)
theorem wt_Car_wiM {x : Int32} {k : Nat} {τ s : Mem} (hk : wiK k) (hI : wiM τ) (hC : wtCar x k τ 188 s) : wiM s := by
  obtain ⟨c1, c2, c3, c4, c5⟩ := hC
  intro j i hj
  by_cases hh : wtHd j i
  · rw [hh.1]
    have h2 := hh.2
    exact wm_101 ⟨fun h => by omega, fun h => by omega, fun h => by omega, fun h => by omega, fun h => by omega, fun h => by omega, fun h => by omega⟩
  by_cases hx : x = 0
  · obtain ⟨g1, g2⟩ := c5 hx
    by_cases he : ∃ p, p < 188 ∧ j = wtJ p ∧ i = wtI p
    · obtain ⟨p, hp, rfl, rfl⟩ := he
      rw [g1 p hp]
      exact wt_Cl_of hp (wx_kept hI hk p)
    · rw [g2 j i hh (fun p hp h => he ⟨p, hp, h⟩)]
      exact hI j i hj
  · obtain ⟨g1, g2⟩ := c4 hx
    by_cases he : j = k ∧ i < 188
    · obtain ⟨rfl, hi⟩ := he
      rw [g1 i hi]
      exact wm_kept hk (wt_B_of hI hi)
    · rw [g2 j i hh he]
      exact hI j i hj
/-- what is neither of a snapshot nor of the carrying stays -/
theorem wt_Car_rest {x : Int32} {k : Nat} {τ s : Mem} (hC : wtCar x k τ 188 s) {j i : Nat} (h1 : ¬ wtHd j i) (h2 : j ≠ k) (h3 : ∀ p, p < 188 → ¬ (j = wtJ p ∧ i = wtI p)) : s j i = τ j i := by
  obtain ⟨c1, c2, c3, c4, c5⟩ := hC
  by_cases hx : x = 0
  · exact (c5 hx).2 j i h1 (fun p hp => h3 p hp)
  · exact (c4 hx).2 j i h1 (fun h => h2 h.1)
theorem wt_Car_reg {x : Int32} {k : Nat} {τ s : Mem} (hC : wtCar x k τ 188 s) {j : Nat} (h2 : j ≠ k) (h3 : j < 101 ∨ 107 < j) : s j = τ j := by
  funext i
  exact wt_Car_rest hC (fun h => by have := h.1; omega) h2 (fun p hp h => by have := wtJ_101 p hp; omega)
theorem wt_Car_fld {x : Int32} {k : Nat} {τ s : Mem} (hk : wiK k) (hC : wtCar x k τ 188 s) {i : Nat} (h3 : i ≠ 1 ∧ i ≠ 3 ∧ i ≠ 8 ∧ i ≠ 9) (h4 : i < 25 ∨ 27 < i) : s 101 i = τ 101 i := by
  unfold wiK at hk
  exact wt_Car_rest hC (fun h => by have := h.2; omega) (by omega) (fun p hp h => by have := wtI_fld p hp h.1.symm; omega)
/-- taken: the house itself stays -/
theorem wt_Car_took {x : Int32} {k : Nat} {τ s : Mem} (hk : wiK k) (hx : ¬ x = 0) (hC : wtCar x k τ 188 s) {j i : Nat} (h1 : ¬ wtHd j i) (h2 : j ≠ k) : s j i = τ j i := (hC.2.2.2.1 hx).2 j i h1 (fun h => h2 h.1)
/-! keepTurn, back: what is kept of a turn -/
def wtKeep (τ s : Mem) (t d : Nat) : Prop := (s 101 30).toInt = (t : Int) + 1 ∧ (∀ j i, j ≠ 117 → j ≠ 118 → ¬ wtHd j i → ¬ (j = 101 ∧ i = 30) → s j i = τ j i) ∧ (∀ i, i < 188 * t → s 117 i = τ 117 (i + 188 * d)) ∧ (∀ p, p < 188 → s 117 (188 * t + p) = τ (wtJ p) (wtI p)) ∧ (∀ i, 188 * (t + 1) ≤ i → s 117 i = τ 117 i) ∧ wiM s
theorem wt_kt_63 {F t : Nat} {m0 : Mem} (ht : t ≤ 7) (h30 : (m0 101 30).toInt = t) : ∀ (N v : Nat) (x1 : Int32) (m : Mem), x1.toInt = (v : Int) → v ≤ 188 → 188 < v + N → wiM m → (∀ j i, ¬ (j = 117 ∧ 188 * t ≤ i ∧ i < 188 * t + v) → m j i = m0 j i) → (∀ p, p < v → m 117 (188 * t + p) = m0 118 p) → sf (lp_X4_keepTurn_63 F N x1 m) (fun _ s => (s 101 30).toInt = (t : Int) + 1 ∧ wiM s ∧ (∀ j i, ¬ (j = 101 ∧ i = 30) → ¬ (j = 117 ∧ 188 * t ≤ i ∧ i < 188 * t + 188) → s j i = m0 j i) ∧ ∀ p, p < 188 → s 117 (188 * t + p) = m0 118 p) := by
  intro N
  induction N with
  | zero => intro v x1 m h1 h2 h3; omega
  | succ N ih =>
    intro v x1 m h1 h2 h3 hI g1 g2
    have hn : Int32.toNatClampNeg x1 = v := by rw [ti_nat, h1]; rfl
    have m30 : m 101 30 = m0 101 30 := g1 101 30 (by omega)
    rw [lp_X4_keepTurn_63_s]
    refine sf_ite (fun c => ?_) (fun c => ?_)
    · have c2 : (188 : Int) ≤ x1.toInt := ti_le c
      have e : v = 188 := by omega
      subst e
      refine sf_lt (fun s1 e1 => ?_)
      have e2 : (m 101 30 + 1).toInt = (t : Int) + 1 := by rw [ti_add] <;> rw [m30, h30, show (1 : Int32).toInt = 1 from rfl] <;> omega
      refine sf_ret ⟨?_, ?_, ?_, ?_⟩
      · rw [e1, up2_s]; exact e2
      · rw [e1]; exact wx_put_X4_30 hI (by omega) (by omega)
      · intro j i h4 h5
        rw [e1, wm_key, if_neg h4]; exact g1 j i h5
      · intro p hp
        rw [e1, up2_k (by decide)]; exact g2 p hp
    have c2 : x1.toInt < (188 : Int) := ti_nle c
    have k1 : ((188 : Int32) * m 101 30).toInt = 188 * (t : Int) := by rw [ti_mul] <;> rw [m30, h30, show (188 : Int32).toInt = 188 from rfl] <;> omega
    have k2 : ((188 : Int32) * m 101 30 + x1).toInt = 188 * (t : Int) + v := by rw [ti_add] <;> rw [k1, h1] <;> omega
    have k3 : Int32.toNatClampNeg ((188 : Int32) * m 101 30 + x1) = 188 * t + v := by rw [ti_nat, k2]; omega
    refine sf_chk (ti_in (by omega) (by omega)) ?_
    refine sf_chk (ti_in (by omega) (by omega)) ?_
    refine sf_lt (fun s4 e4 => ?_)
    rw [k3, hn] at e4
    have m118 : m 118 v = m0 118 v := g1 118 v (by omega)
    refine ih (v + 1) _ _ (wt_cnext h1 (by omega)) (by omega) (by omega) ?_ ?_ ?_
    · rw [e4]
      refine wm_up hI (wm_117 ?_)
      rw [show (188 * t + v) % 188 = v from by omega]
      exact wx_kept hI (Or.inr (Or.inr rfl)) v
    · intro j i h
      rw [e4, wm_key, if_neg (fun q => h ⟨q.1, by omega, by omega⟩)]
      exact g1 j i (fun q => h ⟨q.1, by omega, by omega⟩)
    · intro p hp
      rw [e4, wm_key]
      by_cases e : p = v
      · rw [if_pos ⟨rfl, by omega⟩, m118, e]
      · rw [if_neg (by omega)]; exact g2 p (by omega)
theorem wt_kt_52 {F t d : Nat} (hF : 1000 ≤ F) {τ m : Mem} (ht : t ≤ 7) (h30 : (m 101 30).toInt = t) (hI : wiM m) (g1 : ∀ j i, ¬ (j = 101 ∧ i = 30) → j ≠ 117 → m j i = τ j i) (g2 : ∀ i, i < 188 * t → m 117 i = τ 117 (i + 188 * d)) (g3 : ∀ i, 188 * (t + 1) ≤ i → m 117 i = τ 117 i) : sf (j_X4_keepTurn_52 F m) (fun _ s => wtKeep τ s t d) := by
  rw [j_X4_keepTurn_52_e]
  refine sf_bnd (wt_carryAll (k := 118) hF (Or.inr rfl) (Or.inr (Or.inr rfl))) (fun _ m0 hC => ?_)
  have hI0 := wt_Car_wiM (Or.inr (Or.inr rfl)) hI hC
  have h0 : (m0 101 30).toInt = t := by rw [wt_Car_fld (Or.inr (Or.inr rfl)) hC (by omega) (by omega)]; exact h30
  refine sf_mono (wt_kt_63 ht h0 F 0 (0 : Int32) m0 rfl (by omega) (by omega) hI0 (fun _ _ _ => rfl) (fun p hp => by omega)) (fun _ s hs => ?_)
  obtain ⟨s1, s2, s3, s4⟩ := hs
  have h117 : m0 117 = m 117 := wt_Car_reg hC (by decide) (by omega)
  refine ⟨s1, ?_, ?_, ?_, ?_, s2⟩
  · intro j i h1 h2 h3 h4
    rw [s3 j i h4 (fun q => h1 q.1), wt_Car_took (Or.inr (Or.inr rfl)) (by decide) hC h3 h2, g1 j i h4 h1]
  · intro i hi
    rw [s3 117 i (by omega) (by omega), h117]; exact g2 i hi
  · intro p hp
    rw [s4 p hp, (hC.2.2.2.1 (by decide)).1 p hp]
    refine g1 _ _ (fun q => ?_) (by have := wtJ_101 p hp; omega)
    have := wtI_fld p hp q.1
    omega
  · intro i hi
    rw [s3 117 i (by omega) (by omega), h117]; exact g3 i hi
theorem wt_kt_13 {F : Nat} (hF : 1000 ≤ F) {τ : Mem} (h30 : (τ 101 30).toInt = 8) : ∀ (N v : Nat) (x1 : Int32) (m : Mem), x1.toInt = (v : Int) → 188 ≤ v → v ≤ 1504 → 1504 < v + N → wiM m → (∀ j i, ¬ (j = 117 ∧ i + 188 < v) → m j i = τ j i) → (∀ i, i + 188 < v → m 117 i = τ 117 (i + 188)) → sf (lp_X4_keepTurn_13 F N x1 m) (fun _ s => wtKeep τ s 7 1) := by
  intro N
  induction N with
  | zero => intro v x1 m h1 h2 h3; omega
  | succ N ih =>
    intro v x1 m h1 h2 h3 h4 hI g1 g2
    have hn : Int32.toNatClampNeg x1 = v := by rw [ti_nat, h1]; rfl
    have m30 : m 101 30 = τ 101 30 := g1 101 30 (by omega)
    rw [lp_X4_keepTurn_13_s]
    refine sf_ite (fun c => ?_) (fun c => ?_)
    · have c2 : (1504 : Int) ≤ x1.toInt := ti_le c
      have e : v = 1504 := by omega
      subst e
      refine sf_lt (fun s7 e7 => ?_)
      have e2 : (m 101 30 - 1).toInt = 7 := by rw [ti_sub] <;> rw [m30, h30, show (1 : Int32).toInt = 1 from rfl] <;> omega
      refine wt_kt_52 hF (by omega) (t := 7) ?_ ?_ ?_ ?_ ?_
      · rw [e7, up2_s, e2]; rfl
      · rw [e7]; exact wx_put_X4_30 hI (by omega) (by omega)
      · intro j i a b
        rw [e7, wm_key, if_neg a]; exact g1 j i (fun q => b q.1)
      · intro i hi
        rw [e7, up2_k (by decide)]; exact g2 i (by omega)
      · intro i hi
        rw [e7, up2_k (by decide)]; exact g1 117 i (by omega)
    have c2 : x1.toInt < (1504 : Int) := ti_nle c
    have k2 : (x1 - (188 : Int32)).toInt = (v : Int) - 188 := by rw [ti_sub] <;> rw [h1, show (188 : Int32).toInt = 188 from rfl] <;> omega
    have k3 : Int32.toNatClampNeg (x1 - (188 : Int32)) = v - 188 := by rw [ti_nat, k2]; omega
    refine sf_chk (ti_in (by omega) (by omega)) ?_
    refine sf_chk (ti_in (by omega) (by omega)) ?_
    refine sf_lt (fun s4 e4 => ?_)
    rw [k3, hn] at e4
    have m117 : m 117 v = τ 117 v := g1 117 v (by omega)
    refine ih (v + 1) _ _ (wt_cnext h1 (by omega)) (by omega) (by omega) (by omega) ?_ ?_ ?_
    · rw [e4]
      refine wm_up hI (wm_117 ?_)
      rw [show (v - 188) % 188 = v % 188 from by omega]
      exact wx_117 hI v
    · intro j i h
      rw [e4, wm_key, if_neg (fun q => h ⟨q.1, by omega⟩)]
      exact g1 j i (fun q => h ⟨q.1, by omega⟩)
    · intro i hi
      rw [e4, wm_key]
      by_cases e : i = v - 188
      · rw [if_pos ⟨rfl, e⟩, m117]
        congr 1; omega
      · rw [if_neg (fun q => e q.2)]; exact g2 i (by omega)
theorem wt_keepTurn {F : Nat} (hF : 2000 ≤ F) {τ : Mem} (hI : wiM τ) : sf (f_X4_keepTurn F τ) (fun _ s => if (τ 101 30).toInt = 8 then wtKeep τ s 7 1 else wtKeep τ s (τ 101 30).toInt.toNat 0) := by
  have hb := wx_X4_30 hI
  rw [f_X4_keepTurn_e]
  refine sf_ite (fun c => ?_) (fun c => ?_)
  · have c2 : (τ 101 30).toInt = 8 := ti_eq c
    refine sf_mono (wt_kt_13 (by omega) c2 F 188 (188 : Int32) τ rfl (by omega) (by omega) (by omega) hI (fun _ _ _ => rfl) (fun i hi => by omega)) (fun _ s h => ?_)
    rw [if_pos c2]; exact h
  · have c2 : ¬ (τ 101 30).toInt = 8 := ti_ne c
    refine sf_mono (wt_kt_52 (τ := τ) (d := 0) (t := (τ 101 30).toInt.toNat) (by omega) (by omega) (by omega) hI (fun _ _ _ _ => rfl) (fun i _ => rfl) (fun i _ => rfl)) (fun _ s h => ?_)
    rw [if_neg c2]; exact h
/-- what back gives: t turns are left, the house is as the turn t kept it -/
def wtBack (τ s : Mem) (t : Nat) : Prop := (s 101 30).toInt = (t : Int) ∧ (∀ p, p < 188 → s (wtJ p) (wtI p) = τ 117 (188 * t + p)) ∧ (∀ j i, j ≠ 118 → ¬ wtHd j i → ¬ (j = 101 ∧ i = 30) → (∀ p, p < 188 → ¬ (j = wtJ p ∧ i = wtI p)) → s j i = τ j i) ∧ wiM s
theorem wt_bk_31 {F t : Nat} (hF : 1000 ≤ F) {τ m0 : Mem} (ht : t ≤ 7) (h30 : (m0 101 30).toInt = t) (g0 : ∀ j i, ¬ (j = 101 ∧ i = 30) → m0 j i = τ j i) : ∀ (N v : Nat) (x1 : Int32) (m : Mem), x1.toInt = (v : Int) → v ≤ 188 → 188 < v + N → wiM m → (∀ j i, j ≠ 118 → m j i = m0 j i) → (∀ p, p < v → m 118 p = τ 117 (188 * t + p)) → sf (lp_X4_back_31 F N x1 m) (fun r s => r.toInt = t ∧ wtBack τ s t) := by
  intro N
  induction N with
  | zero => intro v x1 m h1 h2 h3; omega
  | succ N ih =>
    intro v x1 m h1 h2 h3 hI g1 g2
    have hn : Int32.toNatClampNeg x1 = v := by rw [ti_nat, h1]; rfl
    have m30 : m 101 30 = m0 101 30 := g1 101 30 (by decide)
    rw [lp_X4_back_31_s]
    refine sf_ite (fun c => ?_) (fun c => ?_)
    · have c2 : (188 : Int) ≤ x1.toInt := ti_le c
      have e : v = 188 := by omega
      subst e
      refine sf_bnd (wt_carryAll (k := 118) hF (Or.inl rfl) (Or.inr (Or.inr rfl))) (fun _ s hC => ?_)
      have hI0 := wt_Car_wiM (Or.inr (Or.inr rfl)) hI hC
      have h0 : s 101 30 = m0 101 30 := by rw [wt_Car_fld (Or.inr (Or.inr rfl)) hC (by omega) (by omega)]; exact m30
      obtain ⟨k1, k2⟩ := hC.2.2.2.2 rfl
      refine sf_ret ⟨by rw [h0]; exact h30, by rw [h0]; exact h30, ?_, ?_, hI0⟩
      · intro p hp
        rw [k1 p hp, g2 p hp]
      · intro j i h4 h5 h6 h7
        rw [k2 j i h5 h7, g1 j i h4, g0 j i h6]
    have c2 : x1.toInt < (188 : Int) := ti_nle c
    have k1 : ((188 : Int32) * m 101 30).toInt = 188 * (t : Int) := by rw [ti_mul] <;> rw [m30, h30, show (188 : Int32).toInt = 188 from rfl] <;> omega
    have k2 : ((188 : Int32) * m 101 30 + x1).toInt = 188 * (t : Int) + v := by rw [ti_add] <;> rw [k1, h1] <;> omega
    have k3 : Int32.toNatClampNeg ((188 : Int32) * m 101 30 + x1) = 188 * t + v := by rw [ti_nat, k2]; omega
    refine sf_chk (ti_in (by omega) (by omega)) ?_
    refine sf_chk (ti_in (by omega) (by omega)) ?_
    refine sf_lt (fun s5 e5 => ?_)
    rw [k3, hn] at e5
    have m117 : m 117 (188 * t + v) = τ 117 (188 * t + v) := by rw [g1 117 _ (by decide), g0 117 _ (by omega)]
    refine ih (v + 1) _ _ (wt_cnext h1 (by omega)) (by omega) (by omega) ?_ ?_ ?_
    · rw [e5]
      refine wm_up hI (wm_kept (Or.inr (Or.inr rfl)) ?_)
      have hb := wx_117 hI (188 * t + v)
      rw [show (188 * t + v) % 188 = v from by omega] at hb
      exact hb
    · intro j i h
      rw [e5, up2_k h]; exact g1 j i h
    · intro p hp
      rw [e5, wm_key]
      by_cases e : p = v
      · rw [if_pos ⟨rfl, e⟩, m117, e]
      · rw [if_neg (fun q => e q.2)]; exact g2 p (by omega)
/-! onesOf, divisor, drawBelow -/
theorem wt_ones_lt {x : Int32} (h : ¬ x = 0) : (x &&& (x - 1)).toBitVec.toNat < x.toBitVec.toNat := by
  have h0 : x.toBitVec.toNat ≠ 0 := fun q => h (Int32.toBitVec_inj.mp (BitVec.eq_of_toNat_eq q))
  rw [show (x &&& (x - 1)).toBitVec = x.toBitVec &&& (x - 1).toBitVec from rfl, BitVec.toNat_and]
  have h1 : (x - 1).toBitVec.toNat = x.toBitVec.toNat - 1 := by
    rw [show (x - 1).toBitVec = x.toBitVec - 1#32 from rfl, BitVec.toNat_sub]
    have h2 := x.toBitVec.isLt
    rw [show (1#32).toNat = 1 from rfl]
    omega
  rw [h1]
  have := @Nat.and_le_right x.toBitVec.toNat (x.toBitVec.toNat - 1)
  omega
theorem wt_ones {F : Nat} {σ : Mem} : ∀ (N : Nat) (x1 x2 : Int32), x2.toBitVec.toNat < N → ∃ r, lp_X4_onesOf_4 F N x1 x2 σ = some (r, σ) := by
  intro N
  induction N with
  | zero => intro x1 x2 h; omega
  | succ N ih =>
    intro x1 x2 h
    rw [lp_X4_onesOf_4_s]
    by_cases c : x2 = 0
    · rw [if_pos c]; exact ⟨_, rfl⟩
    · rw [if_neg c]
      have := wt_ones_lt c
      exact ih (x1 + 1) _ (by omega)
theorem lg_eq0 {a b : Int64} (h : lg_cmp a b = 0) : a = b := by
  unfold lg_cmp at h
  split at h
  · exact absurd h (by decide)
  · split at h
    · assumption
    · exact absurd h (by decide)
theorem lg_ne0 {a b : Int64} (h : ¬ lg_cmp a b = 0) : ¬ a = b := by
  intro e
  subst e
  apply h
  unfold lg_cmp
  rw [if_neg (fun h => absurd (Int64.lt_iff_toInt_lt.mp h) (Int.lt_irrefl _)), if_pos rfl]
theorem lg_rem (a b : Int64) : (a - a / b * b).toInt = a.toInt.tmod b.toInt := by
  have h1 := Int64.toInt_lt (a % b)
  have h2 := Int64.le_toInt (a % b)
  rw [Int64.toInt_mod] at h1 h2
  have h3 : (a - a / b * b).toInt = Int.bmod (a.toInt - a.toInt.tdiv b.toInt * b.toInt) (2 ^ 64) := by
    rw [Int64.toInt_sub, Int64.toInt_mul, Int64.toInt_div]
    rw [Int.bmod_mul_bmod, Int.sub_bmod_bmod]
  rw [h3, Int.mul_comm, ← Int.tmod_def]
  rw [Int.bmod_eq_of_le] <;> omega
theorem wt_div {F : Nat} {σ : Mem} : ∀ (N : Nat) (a b : Int64), b.toInt.natAbs < N → ¬ a = 0 → ∃ r, lp_X4_divisor_6 F N a b σ = some (r, σ) ∧ ¬ r = 0 := by
  intro N
  induction N with
  | zero => intro a b h; omega
  | succ N ih =>
    intro a b h ha
    rw [lp_X4_divisor_6_s]
    by_cases c : lg_cmp b 0 = 0
    · rw [if_pos c]; exact ⟨_, rfl, ha⟩
    · rw [if_neg c]
      have hb : ¬ b = 0 := lg_ne0 c
      unfold wt_nzl
      rw [if_neg hb]
      refine ih b _ ?_ hb
      rw [lg_rem]
      have hb2 : b.toInt ≠ 0 := fun q => hb (Int64.toInt_inj.mp q)
      have h2 := Int.natAbs_tmod a.toInt b.toInt
      rw [h2]
      have h3 := Nat.mod_lt a.toInt.natAbs (show 0 < b.toInt.natAbs by omega)
      omega
theorem wt_and31 (x : Int32) : 0 ≤ (x &&& (2147483647 : Int32)).toInt := by
  have h : (x &&& (2147483647 : Int32)).toBitVec.toNat ≤ 2147483647 := by
    rw [show (x &&& (2147483647 : Int32)).toBitVec = x.toBitVec &&& 2147483647#32 from rfl, BitVec.toNat_and]
    exact Nat.and_le_right
  show 0 ≤ (x &&& (2147483647 : Int32)).toBitVec.toInt
  rw [BitVec.toInt_eq_toNat_of_lt (by omega)]
  omega
