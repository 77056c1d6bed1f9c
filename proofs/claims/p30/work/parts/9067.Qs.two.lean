/-! two who choose -/
theorem aG_a {V : Nat → Int32} {a b h : Nat} (hab : ¬ a = b) (h24 : h < 24) {x x' y : Int32} : aStand (aStand (aStand V a h h x) b h h y) a h h x' = aStand (aStand V a h h x') b h h y := funext (fun p => by
  by_cases c : 28 + 24 * a + h ≤ p ∧ p ≤ 28 + 24 * a + h
  · rw [aStand_i c, aStand_o (l := b) (show ¬ (28 + 24 * b + h ≤ p ∧ p ≤ 28 + 24 * b + h) by omega), aStand_i c]
  · rw [aStand_o c]
    by_cases d : 28 + 24 * b + h ≤ p ∧ p ≤ 28 + 24 * b + h
    · rw [aStand_i d, aStand_i d]
    · rw [aStand_o d, aStand_o d, aStand_o c, aStand_o c])
def aFp (V : Nat → Int32) (x n : Int32) (a b h p q : Nat) : Int32 := aWealth (aStand (aStand V a h h (Int32.ofNat p)) b h h (Int32.ofNat q)) x n 8
def aBC (f g : Nat → Nat → Int32) (p q : Nat) : Nat → Bool
  | 0 => true
  | k + 1 => aBC f g p q k && decide (¬ f p q < f k q ∧ g p k ≤ g p q)
theorem aBC_t {f g : Nat → Nat → Int32} {p q k : Nat} (e : ¬ f p q < f k q ∧ g p k ≤ g p q) : aBC f g p q (k + 1) = aBC f g p q k := by
  show (aBC f g p q k && decide (¬ f p q < f k q ∧ g p k ≤ g p q)) = _
  rw [decide_eq_true e, Bool.and_true]
theorem aBC_f {f g : Nat → Nat → Int32} {p q k : Nat} (e : ¬ (¬ f p q < f k q ∧ g p k ≤ g p q)) : aBC f g p q (k + 1) = false := by
  show (aBC f g p q k && decide (¬ f p q < f k q ∧ g p k ≤ g p q)) = _
  rw [decide_eq_false e, Bool.and_false]
theorem aBC_dn {f g : Nat → Nat → Int32} {p q i : Nat} (e : aBC f g p q i = false) : ∀ k, aBC f g p q (i + k) = false := fun k => by
  induction k with
  | zero => exact e
  | succ k ih =>
    show (aBC f g p q (i + k) && decide (¬ f p q < f (i + k) q ∧ g p (i + k) ≤ g p q)) = false
    rw [ih, Bool.false_and]
def aOk (f g : Nat → Nat → Int32) (P j : Nat) : Bool := decide (j / 6 < P ∧ j % 6 < P) && aBC f g (j / 6) (j % 6) P
def aTw (f g : Nat → Nat → Int32) (P : Nat) : Nat → Nat → Int32
  | 0, _ => -9
  | k + 1, j => if aOk f g P j = true then (10 : Int32) * Int32.ofNat (j / 6) + Int32.ofNat (j % 6) else aTw f g P k (j + 1)
theorem aTw_t {f g : Nat → Nat → Int32} {P k j : Nat} (e : aOk f g P j = true) : aTw f g P (k + 1) j = (10 : Int32) * Int32.ofNat (j / 6) + Int32.ofNat (j % 6) := if_pos e
theorem aTw_f {f g : Nat → Nat → Int32} {P k j : Nat} (e : aOk f g P j = false) : aTw f g P (k + 1) j = aTw f g P k (j + 1) := if_neg (by rw [e]; decide)
theorem aTw_sk {f g : Nat → Nat → Int32} {P : Nat} : ∀ (m k j : Nat), (∀ i, i < m → aOk f g P (j + i) = false) → aTw f g P (k + m) j = aTw f g P k (j + m) := fun m => by
  induction m with
  | zero => intro k j _; rfl
  | succ m ih =>
    intro k j h
    have e0 := h 0 (by omega)
    rw [Nat.add_zero] at e0
    rw [show k + (m + 1) = (k + m) + 1 by omega, aTw_f e0, ih k (j + 1) (fun i hi => by rw [show j + 1 + i = j + (i + 1) by omega]; exact h (i + 1) (by omega)), show j + 1 + m = j + (m + 1) by omega]
theorem aOk_n {f g : Nat → Nat → Int32} {P j : Nat} (h : ¬ (j / 6 < P ∧ j % 6 < P)) : aOk f g P j = false := by
  unfold aOk
  rw [decide_eq_false h, Bool.false_and]
theorem aOk_y {f g : Nat → Nat → Int32} {P p q : Nat} (hp : p < P) (hq : q < P) (hP : P ≤ 6) : aOk f g P (6 * p + q) = aBC f g p q P := by
  have e1 : (6 * p + q) / 6 = p := by omega
  have e2 : (6 * p + q) % 6 = q := by omega
  unfold aOk
  rw [e1, e2, decide_eq_true ⟨hp, hq⟩, Bool.true_and]
def anTwo (V : Nat → Int32) (x1 x2 x3 x4 : Int32) : Int32 := cF (cF (cF (cB ((0 ≤ x1.toInt ∧ x1.toInt < (V 1).toInt) ∧ (0 ≤ x2.toInt ∧ x2.toInt < (V 1).toInt) ∧ ¬ x1 = x2)) (cB (0 ≤ x3.toInt ∧ x3.toInt ≤ 23))) (cN x4 0 999)) (aTw (aFp V x1 x4 x1.toNatClampNeg x2.toNatClampNeg x3.toNatClampNeg) (aFp V x2 x4 x1.toNatClampNeg x2.toNatClampNeg x3.toNatClampNeg) (V 0).toNatClampNeg 36 0)
/-- the rows of what each would have, as far as they are filled -/
def pY (f g : Nat → Nat → Int32) (P p q : Nat) (s : Mem) : Prop := ∀ p' q', p' < 6 → q' < P → (p' < p ∨ (p' = p ∧ q' < q)) → s (88 + p') q' = f p' q' ∧ s (95 + p') q' = g p' q'
theorem qx_fill {F : Nat} (hF : 1000 ≤ F) {x1 x2 x3 x4 : Int32} {a b h : Nat} {σ : Mem} {V : Nat → Int32} (v : vH 1 V σ) (ha : x1.toInt = (a : Int)) (hb : x2.toInt = (b : Int)) (hh : x3.toInt = (h : Int)) (hab : ¬ a = b) (ha5 : (a : Int) < (V 1).toInt) (hb5 : (b : Int) < (V 1).toInt) (h24 : h < 24) : pc (f_X3_fillPays F x1 x2 x3 x4 σ) (fun _ s => pY (aFp V x1 x4 a b h) (aFp V x2 x4 a b h) (V 0).toNatClampNeg (V 0).toNatClampNeg 0 s ∧ s 1 = σ 1) := by
  have h5 := v.1.2.1.2
  have h6 := v.1.1
  have m0 := ti_nat (V 0)
  have tna := tn_int ha
  have tnb := tn_int hb
  have tnh := tn_int hh
  have inner : ∀ (k14 : Int32 → Mem → Option (Unit × Mem)) (Q : Unit → Mem → Prop) (p : Nat) (x5 : Int32), x5.toInt = (p : Int) → (p : Int) < (V 0).toInt → (∀ s y, vH 24 (aStand (aStand V a h h (Int32.ofNat p)) b h h y) s → s 1 = σ 1 → pY (aFp V x1 x4 a b h) (aFp V x2 x4 a b h) (V 0).toNatClampNeg (p + 1) 0 s → pc (k14 (x5 + 1) s) Q) → ∀ (N q : Nat) (x6 y : Int32) (s : Mem), x6.toInt = (q : Int) → q ≤ (V 0).toNatClampNeg → vH 24 (aStand (aStand V a h h (Int32.ofNat p)) b h h y) s → s 1 = σ 1 → pY (aFp V x1 x4 a b h) (aFp V x2 x4 a b h) (V 0).toNatClampNeg p q s → pc (lp_X3_fillPays_42 F k14 x1 x2 x3 x4 x5 N x6 s) Q := by
    intro k14 Q p x5 hp hp6 hk N
    induction N with
    | zero => intro q x6 y s h1 h2 w o py; exact pc_none rfl
    | succ N ih =>
      intro q x6 y s h1 h2 w o py
      rw [lp_X3_fillPays_42_s, o, vH_0 v]
      refine pc_ite (fun c => ?_) (fun c => ?_)
      · have d := ti_le c
        refine hk s y w o (fun p' q' a1 a2 a3 => py p' q' a1 a2 ?_)
        omega
      have d := ti_nle c
      have e6 := io_eq h1 (by omega)
      refine pc_bnd (qx_post24 hF w ⟨by rw [aStand_0 (by decide), aStand_0 (by decide)]; omega, by omega, by omega, Int.le_refl _, Or.inr (by rw [aStand_0 (by decide), aStand_0 (by decide)]; omega)⟩) (fun _ s2 q2 => ?_)
      rw [tnb, tnh, aStand_tw, e6] at q2
      refine pc_bnd (qx_reckH q2.1) (fun _ s4 q4 => pc_chk (fun _ => pc_bnd (qx_wealth q4.1) (fun r6 s7 q7 => pc_chk (fun _ => pc_lt (fun s9 g9 => ?_)))))
      rw [q7.2, q7.1, tn_int hp, tn_int h1] at g9
      have a9 : vH 24 (aStand (aStand V a h h (Int32.ofNat p)) b h h (Int32.ofNat q)) s9 ∧ vG 24 (aStand (aStand V a h h (Int32.ofNat p)) b h h (Int32.ofNat q)) s9 := ⟨vH_e q4.1.1 (fun k k1 k2 => by rw [g9, up2_k (by omega)]), vG_e (by rw [aStand_0 (by decide), aStand_0 (by decide)]; exact h5) q4.1.2 (fun k k1 k2 => by rw [g9, up2_k (by omega)])⟩
      refine pc_bnd (qx_wealth a9) (fun r10 s11 q11 => pc_lt (fun s12 g12 => ?_))
      rw [q11.2, q11.1, tn_int hp, tn_int h1] at g12
      have o4 : ∀ k, ¬ (24 ≤ k ∧ k ≤ 46) → s4 k = s k := fun k hk => by rw [o24_rk q4.2 k hk]; exact q2.2 k hk
      refine ih (q + 1) _ (Int32.ofNat q) _ (ti_nx h1 (by omega)) (by omega) (vH_e a9.1 (fun k k1 k2 => by rw [g12, up2_k (by omega)])) (by rw [g12, up2_k (by omega), g9, up2_k (by omega), o4 1 (by decide)]; exact o) (fun p' q' b1 b2 b3 => ?_)
      by_cases z : p' = p ∧ q' = q
      · obtain ⟨z1, z2⟩ := z
        subst z1
        subst z2
        refine ⟨?_, ?_⟩
        · rw [g12, up2_k (by omega), g9, up2_s]; rfl
        · rw [g12, up2_s]; rfl
      · have old := py p' q' b1 b2 (by omega)
        refine ⟨?_, ?_⟩
        · rw [g12, up2_k (by omega), g9]
          by_cases z1 : p' = p
          · subst z1; rw [up2_i (by omega), o4 _ (by omega)]; exact old.1
          · rw [up2_k (by omega), o4 _ (by omega)]; exact old.1
        · rw [g12]
          by_cases z1 : p' = p
          · subst z1; rw [up2_i (by omega), g9, up2_k (by omega), o4 _ (by omega)]; exact old.2
          · rw [up2_k (by omega), g9, up2_k (by omega), o4 _ (by omega)]; exact old.2
  have outer : ∀ (N p : Nat) (x5 x y : Int32) (s : Mem), x5.toInt = (p : Int) → p ≤ (V 0).toNatClampNeg → vH 24 (aStand (aStand V a h h x) b h h y) s → s 1 = σ 1 → pY (aFp V x1 x4 a b h) (aFp V x2 x4 a b h) (V 0).toNatClampNeg p 0 s → pc (lp_X3_fillPays_14 F x1 x2 x3 x4 N x5 s) (fun _ s => pY (aFp V x1 x4 a b h) (aFp V x2 x4 a b h) (V 0).toNatClampNeg (V 0).toNatClampNeg 0 s ∧ s 1 = σ 1) := by
    intro N
    induction N with
    | zero => intro p x5 x y s h1 h2 w o py; exact pc_none rfl
    | succ N ih =>
      intro p x5 x y s h1 h2 w o py
      rw [lp_X3_fillPays_14_s, o, vH_0 v]
      refine pc_ite (fun c => ?_) (fun c => ?_)
      · have d := ti_le c
        rw [show p = (V 0).toNatClampNeg by omega] at py
        exact pc_ret ⟨py, o⟩
      have d := ti_nle c
      have e5 := io_eq h1 (by omega)
      refine pc_bnd (qx_post24 hF w ⟨by rw [aStand_0 (by decide), aStand_0 (by decide)]; omega, by omega, by omega, Int.le_refl _, Or.inr (by rw [aStand_0 (by decide), aStand_0 (by decide)]; omega)⟩) (fun _ s2 q2 => ?_)
      rw [tna, tnh, aG_a hab h24, e5] at q2
      exact inner _ _ p x5 h1 (by omega) (fun s' y' w' o' py' => ih (p + 1) _ (Int32.ofNat p) y' s' (ti_nx h1 (by omega)) (by omega) w' o' py') F 0 0 y s2 rfl (by omega) q2.1 (by rw [q2.2 1 (by decide)]; exact o) (fun p' q' b1 b2 b3 => by rw [q2.2 _ (by omega), q2.2 _ (by omega)]; exact py p' q' b1 b2 b3)
  rw [f_X3_fillPays_e]
  refine pc_bnd (qx_take hF v) (fun _ s q => ?_)
  refine outer F 0 0 (wvN (V (28 + 24 * a + h))) (wvN (V (28 + 24 * b + h))) s rfl (by omega) ?_ (q.2 1 (by decide)) (fun p' q' _ _ c => absurd c (by omega))
  rw [aStand_sf (wvN_N _), aStand_sf (wvN_N _)]
  exact q.1
theorem qx_both {F : Nat} {x1 x2 : Int32} {p q P : Nat} {s : Mem} {f g : Nat → Nat → Int32} (h1 : x1.toInt = (p : Int)) (h2 : x2.toInt = (q : Int)) (hp : p < P) (hq : q < P) (hP : P ≤ 6) (hs : (s 1 0).toInt = (P : Int)) (py : pY f g P P 0 s) : pc (f_X3_bothContent F x1 x2 s) (fun r z => r = b01 (aBC f g p q P) ∧ z = s) := by
  have key : ∀ (N k : Nat) (x3 : Int32), x3.toInt = (k : Int) → k ≤ P → aBC f g p q k = true → pc (lp_X3_bothContent_2 F x1 x2 N x3 s) (fun r z => r = b01 (aBC f g p q P) ∧ z = s) := by
    intro N
    induction N with
    | zero => intro k x3 h3 h4 h5; exact pc_none rfl
    | succ N ih =>
      intro k x3 h3 h4 h5
      rw [lp_X3_bothContent_2_s]
      simp only [j_X3_bothContent_51_e]
      refine pc_ite (fun c => ?_) (fun c => pc_chk (fun _ => pc_chk (fun _ => pc_chk (fun _ => ?_))))
      · have d := ti_le c
        rw [show k = P by omega] at h5
        exact pc_ret ⟨by rw [h5]; rfl, rfl⟩
      have d := ti_nle c
      rw [tn_int h1, tn_int h2, tn_int h3, (py p q (by omega) hq (Or.inl hp)).1, (py k q (by omega) hq (Or.inl (by omega))).1, (py p k (by omega) (by omega) (Or.inl hp)).2, (py p q (by omega) hq (Or.inl hp)).2]
      have no : ¬ (¬ f p q < f k q ∧ g p k ≤ g p q) → (0 : Int32) = b01 (aBC f g p q P) := fun w => by
        have u := aBC_dn (aBC_f w) (P - (k + 1))
        rw [show k + 1 + (P - (k + 1)) = P by omega] at u
        rw [u]; rfl
      refine pc_ite (fun c1 => pc_ret ⟨no (fun w => w.1 c1), rfl⟩) (fun c1 => pc_ite (fun c2 => ih (k + 1) _ (ti_nx h3 (by omega)) (by omega) (by rw [aBC_t ⟨c1, c2⟩]; exact h5)) (fun c2 => pc_ret ⟨no (fun w => c2 w.2), rfl⟩))
  rw [f_X3_bothContent_e]
  exact key F 0 0 rfl (by omega) rfl
theorem qx_two {F : Nat} (hF : 1000 ≤ F) {x1 x2 x3 x4 : Int32} {σ : Mem} {V : Nat → Int32} (h : vH 1 V σ) : pc (f_X3_two F x1 x2 x3 x4 σ) (fun r _ => r = anTwo V x1 x2 x3 x4) := by
  have h6 := h.1.1
  have m0 := ti_nat (V 0)
  rw [f_X3_two_e]
  refine pc_be (qx_noPair (vX_H h)) (pc_be ax_noHour (pc_be ax_firstOf (pc_be ax_outside (pc_be ax_firstOf ?_))))
  unfold anTwo
  refine cq_end (fun e => ?_)
  obtain ⟨c1, c2, c3⟩ := cB_0 (cF_0 (cF_0 e).1).1
  have d3 := cB_0 (cF_0 (cF_0 e).1).2
  have n1 := ti_nat x1
  have n2 := ti_nat x2
  have n3 := ti_nat x3
  have hab : ¬ x1.toNatClampNeg = x2.toNatClampNeg := fun q => c3 (Int32.toInt_inj.mp (by omega))
  refine pc_bnd (qx_fill hF h (a := x1.toNatClampNeg) (b := x2.toNatClampNeg) (h := x3.toNatClampNeg) (by omega) (by omega) (by omega) hab (by omega) (by omega) (by omega)) (fun _ s q => ?_)
  have hs : (s 1 0).toInt = ((V 0).toNatClampNeg : Int) := by rw [q.2, vH_0 h]; omega
  have py := q.1
  generalize aFp V x1 x4 x1.toNatClampNeg x2.toNatClampNeg x3.toNatClampNeg = f at py ⊢
  generalize aFp V x2 x4 x1.toNatClampNeg x2.toNatClampNeg x3.toNatClampNeg = g at py ⊢
  have hP : (V 0).toNatClampNeg ≤ 6 := by omega
  generalize (V 0).toNatClampNeg = P at py hs hP ⊢
  have inner : ∀ (k51 : Int32 → Mem → Option (Int32 × Mem)) (p : Nat) (x6 : Int32), x6.toInt = (p : Int) → p < P → pc (k51 (x6 + 1) s) (fun r _ => r = aTw f g P (36 - (6 * p + 6)) (6 * p + 6)) → ∀ (N q : Nat) (x7 : Int32), x7.toInt = (q : Int) → q ≤ P → pc (lp_X3_two_66 F k51 x6 N x7 s) (fun r _ => r = aTw f g P (36 - (6 * p + q)) (6 * p + q)) := by
    intro k51 p x6 hp hpP hk N
    induction N with
    | zero => intro q x7 h1 h2; exact pc_none rfl
    | succ N ih =>
      intro q x7 h1 h2
      rw [lp_X3_two_66_s]
      refine pc_ite (fun c => ?_) (fun c => ?_)
      · have d := ti_le c
        have w := aTw_sk (f := f) (g := g) (P := P) (6 - q) (36 - (6 * p + 6)) (6 * p + q) (fun i hi => aOk_n (by omega))
        rw [show 36 - (6 * p + 6) + (6 - q) = 36 - (6 * p + q) by omega, show 6 * p + q + (6 - q) = 6 * p + 6 by omega] at w
        rw [w]
        exact hk
      have d := ti_nle c
      refine pc_bnd (qx_both hp h1 hpP (by omega) hP hs py) (fun r z u => ?_)
      rw [u.2, u.1]
      have ek : 36 - (6 * p + q) = (36 - (6 * p + (q + 1))) + 1 := by omega
      cases hb : aBC f g p q P with
      | false =>
        refine pc_ite (fun _ => ?_) (fun w => absurd rfl w)
        rw [ek, aTw_f (by rw [aOk_y hpP (by omega) hP]; exact hb)]
        exact ih (q + 1) _ (ti_nx h1 (by omega)) (by omega)
      | true =>
        refine pc_ite (fun w => absurd w (by decide)) (fun _ => pc_ret ?_)
        rw [ek, aTw_t (by rw [aOk_y hpP (by omega) hP]; exact hb), show (6 * p + q) / 6 = p by omega, show (6 * p + q) % 6 = q by omega, io_eq hp (by omega), io_eq h1 (by omega)]
  have outer : ∀ (N p : Nat) (x6 : Int32), x6.toInt = (p : Int) → p ≤ P → pc (lp_X3_two_51 F N x6 s) (fun r _ => r = aTw f g P (36 - 6 * p) (6 * p)) := by
    intro N
    induction N with
    | zero => intro p x6 h1 h2; exact pc_none rfl
    | succ N ih =>
      intro p x6 h1 h2
      rw [lp_X3_two_51_s]
      refine pc_ite (fun c => ?_) (fun c => ?_)
      · have d := ti_le c
        have w := aTw_sk (f := f) (g := g) (P := P) (36 - 6 * p) 0 (6 * p) (fun i hi => aOk_n (by omega))
        rw [Nat.zero_add] at w
        rw [w]
        exact pc_ret rfl
      have d := ti_nle c
      exact inner _ p x6 h1 (by omega) (ih (p + 1) _ (ti_nx h1 (by omega)) (by omega)) F 0 0 rfl (by omega)
  exact outer F 0 0 rfl (by omega)
/-- the reference -/
def mY (f g : Nat → Nat → Int32) (P p q : Nat) (s : Mem) : Prop := ∀ p' q', p' < P → q' < P → (p' < p ∨ (p' = p ∧ q' < q)) → s 119 (6 * p' + q') = f p' q' ∧ s 120 (6 * p' + q') = g p' q'
theorem tn_6 {x y : Int32} {l k : Nat} (hx : x.toInt = (l : Int)) (hy : y.toInt = (k : Int)) (hl : l < 6) (hk : k < 6) : (((6 : Int32) * x) + y).toNatClampNeg = 6 * l + k := by
  have t6 : (6 : Int32).toInt = 6 := rfl
  have e1 : ((6 : Int32) * x).toInt = 6 * (l : Int) := by rw [ti_mul (by rw [t6, hx]; omega) (by rw [t6, hx]; omega), t6, hx]
  have e2 : (((6 : Int32) * x) + y).toInt = 6 * (l : Int) + (k : Int) := by rw [ti_add (by rw [e1, hy]; omega) (by rw [e1, hy]; omega), e1, hy]
  rw [ti_nat, e2]
  omega
theorem io_36 : ∀ j, j < 36 → (Int32.ofNat j).toInt = (j : Int) ∧ (Int32.ofNat j / 6) = Int32.ofNat (j / 6) ∧ (Int32.ofNat j - Int32.ofNat j / 6 * 6) = Int32.ofNat (j % 6) := by decide +kernel
theorem qm_resting {F : Nat} {x1 : Int32} {j P : Nat} {s : Mem} {f g : Nat → Nat → Int32} (h1 : x1 = Int32.ofNat j) (hj : j < 36) (hP : P ≤ 6) (hs : (s 101 1).toInt = (P : Int)) (my : mY f g P P 0 s) : pc (f_X4_areResting F x1 s) (fun r z => r = b01 (aOk f g P j) ∧ z = s) := by
  obtain ⟨i1, i2, i3⟩ := io_36 j hj
  have p6 : j / 6 < 6 := by omega
  have q6 : j % 6 < 6 := by omega
  have ej : 6 * (j / 6) + j % 6 = j := by omega
  have ep := io_nat (j / 6) (by omega)
  have eq := io_nat (j % 6) (by omega)
  have dead : ∀ (N : Nat) (x3 : Int32) (x2 : Int32), aOk f g P j = false → pc (lp_X4_areResting_36 F x1 x2 x3 N 0 0 s) (fun r z => r = b01 (aOk f g P j) ∧ z = s) := fun N x3 x2 e => by
    cases N with
    | zero => exact pc_none rfl
    | succ N =>
      rw [lp_X4_areResting_36_s]
      simp only [j_X4_areResting_105_e]
      exact pc_ite (fun _ => pc_bz (fun _ => pc_ret ⟨by rw [e]; rfl, rfl⟩)) (fun _ => pc_ite (fun _ => pc_bz (fun _ => pc_ret ⟨by rw [e]; rfl, rfl⟩)) (fun n => absurd trivial n))
  rw [f_X4_areResting_e]
  refine pc_lt (fun z4 g4 => ?_)
  simp only [j_X4_areResting_30_e, j_X4_areResting_31_e]
  rw [h1, i3] at g4
  rw [g4]
  rw [h1, i2]
  rw [← h1]
  refine pc_ite (fun c => dead F _ _ (aOk_n (by have d := ti_le c; omega))) (fun c => pc_ite (fun c2 => dead F _ _ (aOk_n (by have d := ti_le c2; omega))) (fun c2 => ?_))
  have d := ti_nle c
  have d2 := ti_nle c2
  have pP : j / 6 < P := by omega
  have qP : j % 6 < P := by omega
  have eo : aOk f g P j = aBC f g (j / 6) (j % 6) P := by
    unfold aOk
    rw [decide_eq_true ⟨pP, qP⟩, Bool.true_and]
  have key : ∀ (N k : Nat) (x4 x5 : Int32), x5.toInt = (k : Int) → k ≤ P → x4 = b01 (aBC f g (j / 6) (j % 6) k) → pc (lp_X4_areResting_36 F x1 (Int32.ofNat (j / 6)) (Int32.ofNat (j % 6)) N x4 x5 s) (fun r z => r = b01 (aOk f g P j) ∧ z = s) := by
    intro N
    induction N with
    | zero => intro k x4 x5 h3 h4 h5; exact pc_none rfl
    | succ N ih =>
      intro k x4 x5 h3 h4 h5
      rw [lp_X4_areResting_36_s]
      simp only [j_X4_areResting_105_e, j_X4_areResting_96_e, j_X4_areResting_97_e]
      refine pc_ite (fun c => ?_) (fun c => ?_)
      · have d := ti_le c
        rw [show k = P by omega] at h5
        exact pc_bz (fun _ => pc_ret ⟨by rw [eo]; exact h5, rfl⟩)
      have d := ti_nle c
      cases hb : aBC f g (j / 6) (j % 6) k with
      | false =>
        rw [hb] at h5
        refine pc_ite (fun c0 => pc_bz (fun _ => pc_ret ⟨?_, rfl⟩)) (fun n => absurd (h5.trans rfl) n)
        have u := aBC_dn hb (P - k)
        rw [show k + (P - k) = P by omega] at u
        rw [eo, u]; exact h5
      | true =>
        rw [hb] at h5
        refine pc_ite (fun c0 => absurd (h5.symm.trans c0) (by decide)) (fun _ => pc_chk (fun _ => pc_chk (fun _ => ?_)))
        have ix : x1.toNatClampNeg = 6 * (j / 6) + j % 6 := by rw [h1, ti_nat, i1]; omega
        rw [ix, tn_6 h3 eq (by omega) (by omega), tn_6 ep h3 (by omega) (by omega), (my _ _ pP qP (Or.inl pP)).1, (my k _ (by omega) qP (Or.inl (by omega))).1, (my _ _ pP qP (Or.inl pP)).2, (my _ k pP (by omega) (Or.inl pP)).2]
        have n5 := ti_nx h3 (by omega)
        have no : ¬ (¬ f (j / 6) (j % 6) < f k (j % 6) ∧ g (j / 6) k ≤ g (j / 6) (j % 6)) → pc (lp_X4_areResting_36 F x1 (Int32.ofNat (j / 6)) (Int32.ofNat (j % 6)) N 0 (x5 + 1) s) (fun r z => r = b01 (aOk f g P j) ∧ z = s) := fun w => ih (k + 1) _ _ n5 (by omega) (by rw [aBC_f w]; rfl)
        refine pc_ite (fun c1 => no (fun w => w.1 c1)) (fun c1 => pc_chk (fun _ => pc_ite (fun c2 => no (fun w => by have := ti_lt c2; have := ti_le w.2; omega)) (fun c2 => ih (k + 1) _ _ n5 (by omega) ?_)))
        rw [aBC_t ⟨c1, Int32.le_iff_toInt_le.mpr (ti_nlt c2)⟩, hb]; rfl
  exact key F 0 1 0 rfl (by omega) rfl
theorem qm_two {F : Nat} (hF : 1000 ≤ F) {x1 x2 x3 x4 : Int32} {s : Mem} {V : Nat → Int32} (v : vM V s) : pc (f_X4_two F x1 x2 x3 x4 s) (fun r _ => r = anTwo V x1 x2 x3 x4) := by
  have h5 := v.1.2.1.2
  have h6 := v.1.1
  have m0 := ti_nat (V 0)
  rw [f_X4_two_e]
  refine pc_lt (fun s5 g5 => ?_)
  have v' : vM V s5 := vM_up v g5
  clear g5
  simp only [j_X4_two_33_e]
  refine pc_be (qm_areTwo v') ?_
  unfold anTwo
  by_cases c : ((0 ≤ x1.toInt ∧ x1.toInt < (V 1).toInt) ∧ (0 ≤ x2.toInt ∧ x2.toInt < (V 1).toInt) ∧ ¬ x1 = x2)
  · rw [if_pos c, if_neg (by decide), cB_t c, cF_z]
    refine pc_be mx_isHour ?_
    by_cases c2 : 0 ≤ x3.toInt ∧ x3.toInt ≤ 23
    · rw [if_pos c2, if_neg (by decide), cB_t c2, cF_z]
      refine pc_be mx_wrongN ?_
      simp only [j_X4_two_34_e]
      refine mq_end sg_cN (fun e => pc_chk (fun _ => pc_lt (fun z19 _ => pc_chk (fun _ => pc_lt (fun z21 _ => ?_)))))
      have d2 := cN_0 e
      rw [tz_0, tz_999'] at d2
      have hx : 0 ≤ x4.toInt ∧ x4.toInt ≤ 9999 := ⟨d2.1, by omega⟩
      obtain ⟨d1, d3, d4⟩ := c
      have n1 := ti_nat x1
      have n2 := ti_nat x2
      have n3 := ti_nat x3
      have hab : ¬ x1.toNatClampNeg = x2.toNatClampNeg := fun q => d4 (Int32.toInt_inj.mp (by omega))
      have ha : x1.toInt = (x1.toNatClampNeg : Int) := by omega
      have hb : x2.toInt = (x2.toNatClampNeg : Int) := by omega
      have hh : x3.toInt = (x3.toNatClampNeg : Int) := by omega
      have a5 : x1.toNatClampNeg < 5 := by omega
      have b5 : x2.toNatClampNeg < 5 := by omega
      have h24 : x3.toNatClampNeg < 24 := by omega
      have ea := tn_24 ha hh a5 h24
      have eb := tn_24 hb hh b5 h24
      generalize x1.toNatClampNeg = a at ha hab a5 ea ⊢
      generalize x2.toNatClampNeg = b at hb hab b5 eb ⊢
      generalize x3.toNatClampNeg = h at hh h24 ea eb ⊢
      have search : ∀ (z : Mem), (z 101 1).toInt = ((V 0).toNatClampNeg : Int) → mY (aFp V x1 x4 a b h) (aFp V x2 x4 a b h) (V 0).toNatClampNeg (V 0).toNatClampNeg 0 z → ∀ (N k j : Nat) (x8 : Int32), x8 = Int32.ofNat j → j + k = 36 → pc (lp_X4_two_205 F N x8 z) (fun r _ => r = aTw (aFp V x1 x4 a b h) (aFp V x2 x4 a b h) (V 0).toNatClampNeg k j) := by
        intro z hz my N
        induction N with
        | zero => intro k j x8 h1 h2; exact pc_none rfl
        | succ N ih =>
          intro k j x8 h1 h2
          rw [lp_X4_two_205_s]
          have t36 : (36 : Int32).toInt = 36 := rfl
          refine pc_ite (fun c => ?_) (fun c => ?_)
          · have d := ti_le c
            rw [t36, h1] at d
            have k0 : k = 0 := by
              by_cases w : j < 36
              · have := (io_36 j w).1; omega
              · omega
            rw [k0]
            exact pc_ret rfl
          have d := ti_nle c
          rw [t36, h1] at d
          have hj : j < 36 := by
            by_cases w : j < 36
            · exact w
            · have e36 : j = 36 := by omega
              subst e36
              exact absurd d (by decide)
          obtain ⟨k', rfl⟩ : ∃ k', k = k' + 1 := ⟨k - 1, by omega⟩
          obtain ⟨i1, i2, i3⟩ := io_36 j hj
          refine pc_bnd (qm_resting h1 hj (by omega) hz my) (fun r y q => ?_)
          rw [q.2, q.1]
          cases hb : aOk (aFp V x1 x4 a b h) (aFp V x2 x4 a b h) (V 0).toNatClampNeg j with
          | false =>
            refine pc_ite (fun _ => ?_) (fun w => absurd rfl w)
            rw [aTw_f hb]
            exact ih k' (j + 1) _ (by rw [h1]; exact (Int32.ofNat_add j 1).symm) (by omega)
          | true =>
            refine pc_ite (fun w => absurd w (by decide)) (fun _ => pc_ret ?_)
            rw [aTw_t hb, h1, i3, i2]
      have inner : ∀ (k77 : Int32 → Mem → Option (Int32 × Mem)) (Q : Int32 → Mem → Prop) (p : Nat) (x6 x7 x8 : Int32), x8.toInt = (p : Int) → (p : Int) < (V 0).toInt → (∀ s y x, vM (aStand (aStand V a h h x) b h h y) s → mY (aFp V x1 x4 a b h) (aFp V x2 x4 a b h) (V 0).toNatClampNeg (p + 1) 0 s → pc (k77 (x8 + 1) s) Q) → ∀ (N q : Nat) (x9 x y : Int32) (s : Mem), x9.toInt = (q : Int) → q ≤ (V 0).toNatClampNeg → vM (aStand (aStand V a h h x) b h h y) s → mY (aFp V x1 x4 a b h) (aFp V x2 x4 a b h) (V 0).toNatClampNeg p q s → pc (lp_X4_two_89 F k77 x1 x2 x3 x4 x6 x7 x8 N x9 s) Q := by
        intro k77 Q p x6 x7 x8 hp hp6 hk N
        induction N with
        | zero => intro q x9 x y s h1 h2 w my; exact pc_none rfl
        | succ N ih =>
          intro q x9 x y s h1 h2 w my
          rw [lp_X4_two_89_s, vM_P w, aStand_0 (by decide), aStand_0 (by decide)]
          refine pc_ite (fun c => ?_) (fun c => pc_chk (fun _ => pc_lt (fun s2 g2 => pc_chk (fun _ => pc_lt (fun s4 g4 => ?_)))))
          · have d := ti_le c
            refine hk s y x w (fun p' q' a1 a2 a3 => my p' q' a1 a2 ?_)
            omega
          have d := ti_nle c
          have e8 := io_eq hp (by omega)
          have e9 := io_eq h1 (by omega)
          have w2 : vM (aStand (aStand V a h h (Int32.ofNat p)) b h h y) s2 := by
            have u := vM_up106 (x := x8) (y := x8) w a5 h24 (by rw [aStand_0 (by decide), aStand_0 (by decide)]; omega) (wvN_s (by omega))
            rw [aG_a hab h24, e8] at u
            rw [g2, ea, e8]; exact u
          have w4 : vM (aStand (aStand V a h h (Int32.ofNat p)) b h h (Int32.ofNat q)) s4 := by
            have u := vM_up106 (x := x9) (y := x9) w2 b5 h24 (by rw [aStand_0 (by decide), aStand_0 (by decide)]; omega) (wvN_s (by omega))
            rw [aStand_tw, e9] at u
            rw [g4, eb, e9]; exact u
          have k4 : ∀ k, ¬ k = 106 → s4 k = s k := fun k n => by rw [g4, up2_k n, g2, up2_k n]
          clear g2 g4
          refine pc_bnd (pc_and (qm_anew hx w4) (pc_pf (fr_X4_worthAnew hF))) (fun r5 s6 q6 => pc_chk (fun _ => pc_lt (fun s8 g8 => ?_)))
          obtain ⟨q6, f6⟩ := q6
          rw [tn_6 hp h1 (by omega) (by omega), q6.1] at g8
          have w8 : mRdy (aStand (aStand V a h h (Int32.ofNat p)) b h h (Int32.ofNat q)) s8 := ⟨⟨q6.2.1.1, fun p hp => by rw [g8, wvM_no (by omega) (by omega) hp]; exact q6.2.1.2 p hp⟩, fun m hm v hv => by rw [g8, up2_k (by decide)]; exact q6.2.2 m hm v hv⟩
          refine pc_bnd (pc_and (qm_worthIn hx w8) (pc_pf (fr_X4_worthIn hF))) (fun r9 s10 q10 => pc_lt (fun s11 g11 => ?_))
          obtain ⟨q10, f10⟩ := q10
          rw [tn_6 hp h1 (by omega) (by omega), q10.1] at g11
          have k6 : ∀ k i, (k = 119 ∨ k = 120) → s6 k i = s k i := fun k i hk => by
            rw [f6 k i (by rw [wcid_M (by omega)]; show ¬ _; unfold wf_48; omega), k4 k (by omega)]
          have k10 : ∀ k i, (k = 119 ∨ k = 120) → s10 k i = s8 k i := fun k i hk => f10 k i (by rw [wcid_M (by omega)]; show ¬ _; unfold wf_47; omega)
          refine ih (q + 1) _ (Int32.ofNat p) (Int32.ofNat q) _ (ti_nx h1 (by omega)) (by omega) ⟨q10.2.1.1, fun p hp => by rw [g11, wvM_no (by omega) (by omega) hp]; exact q10.2.1.2 p hp⟩ (fun p' q' b1 b2 b3 => ?_)
          by_cases z : p' = p ∧ q' = q
          · obtain ⟨z1, z2⟩ := z
            subst z1
            subst z2
            refine ⟨?_, ?_⟩
            · rw [g11, up2_k (by decide), k10 _ _ (Or.inl rfl), g8, up2_s]; rfl
            · rw [g11, up2_s]; rfl
          · have old := my p' q' b1 b2 (by omega)
            refine ⟨?_, ?_⟩
            · rw [g11, up2_k (by decide), k10 _ _ (Or.inl rfl), g8, up2_i (by omega), k6 _ _ (Or.inl rfl)]; exact old.1
            · rw [g11, up2_i (by omega), k10 _ _ (Or.inr rfl), g8, up2_k (by decide), k6 _ _ (Or.inr rfl)]; exact old.2
      have outer : ∀ (N p : Nat) (x6 x7 x8 x y : Int32) (s : Mem), x8.toInt = (p : Int) → p ≤ (V 0).toNatClampNeg → vM (aStand (aStand V a h h x) b h h y) s → mY (aFp V x1 x4 a b h) (aFp V x2 x4 a b h) (V 0).toNatClampNeg p 0 s → pc (lp_X4_two_77 F x1 x2 x3 x4 x6 x7 N x8 s) (fun r _ => r = aTw (aFp V x1 x4 a b h) (aFp V x2 x4 a b h) (V 0).toNatClampNeg 36 0) := by
        intro N
        induction N with
        | zero => intro p x6 x7 x8 x y s h1 h2 w my; exact pc_none rfl
        | succ N ih =>
          intro p x6 x7 x8 x y s h1 h2 w my
          rw [lp_X4_two_77_s, vM_P w, aStand_0 (by decide), aStand_0 (by decide)]
          refine pc_ite (fun c => pc_chk (fun _ => pc_lt (fun s15 g15 => pc_chk (fun _ => pc_lt (fun s17 g17 => ?_))))) (fun c => ?_)
          · have d := ti_le c
            rw [show p = (V 0).toNatClampNeg by omega] at my
            refine search s17 ?_ ?_ F 36 0 0 rfl (by omega)
            · rw [g17, up2_k (by decide), g15, up2_k (by decide), vM_P w, aStand_0 (by decide), aStand_0 (by decide)]; omega
            · intro p' q' b1 b2 b3
              rw [g17, up2_k (by decide), up2_k (by decide), g15, up2_k (by decide), up2_k (by decide)]
              exact my p' q' b1 b2 b3
          have d := ti_nle c
          exact inner _ _ p x6 x7 x8 h1 (by omega) (fun s' y' x' w' my' => ih (p + 1) _ _ _ x' y' s' (ti_nx h1 (by omega)) (by omega) w' my') F 0 0 x y s rfl (by omega) w my
      refine outer F 0 _ _ 0 (wvN (V (28 + 24 * a + h))) (wvN (V (28 + 24 * b + h))) s5 rfl (by omega) ?_ (fun p' q' _ _ c => absurd c (by omega))
      rw [aStand_sf (wvN_N _), aStand_sf (wvN_N _)]
      exact v'
    · rw [if_neg c2, if_pos rfl, cB_f c2, cF_n (a := -1) (by decide)]
      simp only [j_X4_two_34_e]
      rw [if_neg (by decide)]
      exact mq_ref (cF_n (by decide))
  · rw [if_neg c, if_pos rfl, cB_f c, cF_n (a := -1) (by decide), cF_n (a := -1) (by decide)]
    simp only [j_X4_two_34_e]
    rw [if_neg (by decide)]
    exact mq_ref (cF_n (by decide))
