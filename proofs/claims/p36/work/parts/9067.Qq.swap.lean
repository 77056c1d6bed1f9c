/-! swap -/
def aSw (V : Nat → Int32) (a b : Nat) (p : Nat) : Int32 := if 28 + 24 * a ≤ p ∧ p < 52 + 24 * a then V (28 + 24 * b + (p - (28 + 24 * a))) else if 28 + 24 * b ≤ p ∧ p < 52 + 24 * b then V (28 + 24 * a + (p - (28 + 24 * b))) else V p
theorem aSw_a {V : Nat → Int32} {a b t : Nat} (ht : t < 24) : aSw V a b (28 + 24 * a + t) = V (28 + 24 * b + t) := by
  unfold aSw
  rw [if_pos (by omega), show 28 + 24 * a + t - (28 + 24 * a) = t by omega]
theorem aSw_b {V : Nat → Int32} {a b t : Nat} (hab : ¬ a = b) (ht : t < 24) : aSw V a b (28 + 24 * b + t) = V (28 + 24 * a + t) := by
  unfold aSw
  rw [if_neg (by omega), if_pos (by omega), show 28 + 24 * b + t - (28 + 24 * b) = t by omega]
theorem aSw_o {V : Nat → Int32} {a b p : Nat} (h1 : ¬ (28 + 24 * a ≤ p ∧ p < 52 + 24 * a)) (h2 : ¬ (28 + 24 * b ≤ p ∧ p < 52 + 24 * b)) : aSw V a b p = V p := by
  unfold aSw
  rw [if_neg h1, if_neg h2]
theorem aSw_cs {P : Nat → Prop} {a b : Nat} (pa : ∀ t, t < 24 → P (28 + 24 * a + t)) (pb : ∀ t, t < 24 → P (28 + 24 * b + t)) (po : ∀ p, ¬ (28 + 24 * a ≤ p ∧ p < 52 + 24 * a) → ¬ (28 + 24 * b ≤ p ∧ p < 52 + 24 * b) → P p) (p : Nat) : P p := by
  by_cases c1 : 28 + 24 * a ≤ p ∧ p < 52 + 24 * a
  · have w := pa (p - (28 + 24 * a)) (by omega)
    rw [show 28 + 24 * a + (p - (28 + 24 * a)) = p by omega] at w
    exact w
  by_cases c2 : 28 + 24 * b ≤ p ∧ p < 52 + 24 * b
  · have w := pb (p - (28 + 24 * b)) (by omega)
    rw [show 28 + 24 * b + (p - (28 + 24 * b)) = p by omega] at w
    exact w
  exact po p c1 c2
theorem aSw_bk {V : Nat → Int32} {a b : Nat} (hab : ¬ a = b) : aSw (aSw V a b) a b = V := funext (aSw_cs (a := a) (b := b) (fun t ht => by rw [aSw_a ht, aSw_b hab ht]) (fun t ht => by rw [aSw_b hab ht, aSw_a ht]) (fun p h1 h2 => by rw [aSw_o h1 h2, aSw_o h1 h2]))
theorem aSw_lo {V : Nat → Int32} {a b p : Nat} (h : p < 28) : aSw V a b p = V p := aSw_o (by omega) (by omega)
theorem wvV_aSw {V : Nat → Int32} (h : wvV V) {a b : Nat} (hab : ¬ a = b) (ha : (a : Int) < (V 1).toInt) (hb : (b : Int) < (V 1).toInt) : wvV (aSw V a b) := by
  have ca : ∀ t, t < 24 → (V (28 + 24 * a + t)).toInt = -9 ∨ (0 ≤ (V (28 + 24 * a + t)).toInt ∧ (V (28 + 24 * a + t)).toInt < (V 0).toInt) := fun t ht => vV_c h ha ht
  have cb : ∀ t, t < 24 → (V (28 + 24 * b + t)).toInt = -9 ∨ (0 ≤ (V (28 + 24 * b + t)).toInt ∧ (V (28 + 24 * b + t)).toInt < (V 0).toInt) := fun t ht => vV_c h hb ht
  obtain ⟨h0, h1, h2, h3, h4, h5, h6⟩ := h
  have lv : ∀ p, live (aSw V a b) p → live V p := fun p c => live_1 (aSw_lo (by decide)) c
  refine ⟨by rw [aSw_lo (by decide)]; exact h0, by rw [aSw_lo (by decide)]; exact h1, by rw [aSw_lo (by decide)]; exact h2, fun p x y => by rw [aSw_lo (by omega)]; exact h3 p x y, ?_, fun m hm => ?_, fun p x y c => by rw [aSw_o (by omega) (by omega)]; exact h6 p x y (lv p c)⟩
  · rw [aSw_lo (p := 0) (by decide)]
    refine aSw_cs (P := fun p => 28 ≤ p → p < 148 → live (aSw V a b) p → (aSw V a b p).toInt = -9 ∨ (0 ≤ (aSw V a b p).toInt ∧ (aSw V a b p).toInt < (V 0).toInt)) (a := a) (b := b) (fun t ht _ _ _ => by rw [aSw_a ht]; exact cb t ht) (fun t ht _ _ _ => by rw [aSw_b hab ht]; exact ca t ht) (fun p q1 q2 x y c => by rw [aSw_o q1 q2]; exact h4 p x y (lv p c))
  · rw [aSw_lo (p := 1) (by decide)] at hm
    have := h1.2
    rw [aSw_lo (p := 18 + 2 * m) (by omega), aSw_lo (p := 19 + 2 * m) (by omega)]
    exact h5 m hm
theorem wtJ_106i : ∀ p, p < 188 → wtJ p = 106 → p = 28 + wtI p := by decide +kernel
/-- the class's trade -/
theorem qx_trade24 {F : Nat} (hF : 1000 ≤ F) {x1 x2 : Int32} {a b : Nat} {σ : Mem} {V : Nat → Int32} (h : vH 24 V σ) (ha : x1.toInt = (a : Int)) (hb : x2.toInt = (b : Int)) (hab : ¬ a = b) (ha5 : (a : Int) < (V 1).toInt) (hb5 : (b : Int) < (V 1).toInt) : pc (f_X0_tradeRosters F 24 x1 x2 σ) (fun _ s => vH 24 (aSw V a b) s ∧ o24 σ s) := by
  have h5 := h.1.2.1.2
  have key : ∀ (N k : Nat) (x3 : Int32) (m : Mem), x3.toInt = (k : Int) → k ≤ 24 → (∀ q, ¬ q = 24 + 5 + a → ¬ q = 24 + 5 + b → m q = σ q) → (∀ t, t < 24 → m (24 + 5 + a) t = if t < k then σ (24 + 5 + b) t else σ (24 + 5 + a) t) → (∀ t, t < 24 → m (24 + 5 + b) t = if t < k then σ (24 + 5 + a) t else σ (24 + 5 + b) t) → pc (lp_X0_tradeRosters_19 F 24 x1 x2 N x3 m) (fun _ s => (∀ q, ¬ q = 24 + 5 + a → ¬ q = 24 + 5 + b → s q = σ q) ∧ (∀ t, t < 24 → s (24 + 5 + a) t = σ (24 + 5 + b) t) ∧ ∀ t, t < 24 → s (24 + 5 + b) t = σ (24 + 5 + a) t) := by
    intro N
    induction N with
    | zero => intro k x3 m h1 h2 e ea eb; exact pc_none rfl
    | succ N ih =>
      intro k x3 m h1 h2 e ea eb
      rw [lp_X0_tradeRosters_19_s]
      refine pc_ite (fun c => ?_) (fun c => pc_chk (fun _ => pc_chk (fun _ => pc_lt (fun z3 g3 => pc_chk (fun _ => pc_lt (fun s5 g5 => pc_lt (fun s6 g6 => ?_)))))))
      · have d := ti_le c
        rw [tz_24] at d
        exact pc_ret ⟨e, fun t ht => by rw [ea t ht, if_pos (by omega)], fun t ht => by rw [eb t ht, if_pos (by omega)]⟩
      have d := ti_nle c
      rw [tz_24] at d
      rw [tn_int ha, tn_int h1, ea k (by omega), if_neg (by omega)] at g3
      rw [tn_int ha, tn_int hb, tn_int h1, eb k (by omega), if_neg (by omega)] at g5
      rw [tn_int hb, tn_int h1] at g6
      refine ih (k + 1) _ _ (ti_nx h1 (by omega)) (by omega) (fun q n1 n2 => by rw [g6, up2_k n2, g5, up2_k n1]; exact e q n1 n2) (fun t ht => ?_) (fun t ht => ?_)
      · rw [g6, up2_k (by omega), g5]
        by_cases c1 : t = k
        · subst c1; rw [up2_s, if_pos (by omega)]
        · rw [up2_i c1, ea t ht]
          by_cases c2 : t < k
          · rw [if_pos c2, if_pos (by omega)]
          · rw [if_neg c2, if_neg (by omega)]
      · rw [g6]
        by_cases c1 : t = k
        · subst c1; rw [up2_s, if_pos (by omega), g3]
        · rw [up2_i c1, g5, up2_k (by omega), eb t ht]
          by_cases c2 : t < k
          · rw [if_pos c2, if_pos (by omega)]
          · rw [if_neg c2, if_neg (by omega)]
  have fin : pc (lp_X0_tradeRosters_19 F 24 x1 x2 F 0 σ) (fun _ s => vH 24 (aSw V a b) s ∧ o24 σ s) := by
    refine pc_mono (key F 0 0 σ rfl (by omega) (fun _ _ _ => rfl) (fun t _ => (if_neg (by omega)).symm) (fun t _ => (if_neg (by omega)).symm)) (fun _ s q => ⟨⟨wvV_aSw h.1 hab ha5 hb5, ?_⟩, fun k hk => q.1 k (by omega) (by omega)⟩)
    refine aSw_cs (P := fun p => p < 188 → live (aSw V a b) p → wvX 24 s p = aSw V a b p) (a := a) (b := b) (fun t ht hp _ => ?_) (fun t ht hp _ => ?_) (fun p n1 n2 hp hl => ?_)
    · have hj := wvJI_5 a (by omega) t ht
      rw [aSw_a ht]
      unfold wvX
      rw [wvE_i (by omega), ← hj.1, ← hj.2, ← Nat.add_assoc, q.2.1 t ht, vH_c h hb5 ht, wvN_N]
    · have hj := wvJI_5 b (by omega) t ht
      rw [aSw_b hab ht]
      unfold wvX
      rw [wvE_i (by omega), ← hj.1, ← hj.2, ← Nat.add_assoc, q.2.2 t ht, vH_c h ha5 ht, wvN_N]
    · rw [aSw_o n1 n2]
      have e : wvX 24 s p = wvX 24 σ p := by
        unfold wvX
        rw [q.1 _ (fun w => ?_) (fun w => ?_)]
        · have := wvJ_5' a (by omega) p hp (by omega); omega
        · have := wvJ_5' b (by omega) p hp (by omega); omega
      rw [e]
      exact h.2 p hp (live_1 (aSw_lo (by decide)) hl)
  rw [f_X0_tradeRosters_e]
  refine pc_be (ax_isLooker (by rw [vH_2 h]; exact h5)) ?_
  rw [vH_2 h, if_pos (show 0 ≤ x1.toInt ∧ x1.toInt < (V 1).toInt from ⟨by omega, by omega⟩), if_neg (by decide)]
  refine pc_be (ax_isLooker (by rw [vH_2 h]; exact h5)) ?_
  rw [vH_2 h, if_pos (show 0 ≤ x2.toInt ∧ x2.toInt < (V 1).toInt from ⟨by omega, by omega⟩), if_neg (by decide)]
  exact fin
/-- the worth of two, of a house as it is -/
def aWW (V : Nat → Int32) (n : Int32) (a b : Nat) : Int32 := aWealth V (Int32.ofNat a) n 8 + aWealth V (Int32.ofNat b) n 8
def aS1 (V : Nat → Int32) (n : Int32) (a b : Nat) (bm : Int32 × Int32) : Int32 × Int32 := if aWW (aSw V a b) n a b ≤ aWW V n a b then bm else if aWW (aSw V a b) n a b ≤ bm.2 then bm else ((10 : Int32) * Int32.ofNat a + Int32.ofNat b, aWW (aSw V a b) n a b)
theorem aS1_0 {V : Nat → Int32} {n : Int32} {a b : Nat} {bm : Int32 × Int32} (c : aWW (aSw V a b) n a b ≤ aWW V n a b) : aS1 V n a b bm = bm := if_pos c
theorem aS1_t {V : Nat → Int32} {n : Int32} {a b : Nat} {bm : Int32 × Int32} (c : ¬ aWW (aSw V a b) n a b ≤ aWW V n a b) (d : aWW (aSw V a b) n a b ≤ bm.2) : aS1 V n a b bm = bm := (if_neg c).trans (if_pos d)
theorem aS1_f {V : Nat → Int32} {n : Int32} {a b : Nat} {bm : Int32 × Int32} (c : ¬ aWW (aSw V a b) n a b ≤ aWW V n a b) (d : ¬ aWW (aSw V a b) n a b ≤ bm.2) : aS1 V n a b bm = ((10 : Int32) * Int32.ofNat a + Int32.ofNat b, aWW (aSw V a b) n a b) := (if_neg c).trans (if_neg d)
def aS2 (V : Nat → Int32) (n : Int32) (a : Nat) : Nat → Nat → Int32 × Int32 → Int32 × Int32
  | 0, _, bm => bm
  | k + 1, b, bm => aS2 V n a k (b + 1) (aS1 V n a b bm)
def aS3 (V : Nat → Int32) (n : Int32) : Nat → Nat → Int32 × Int32 → Int32 × Int32
  | 0, _, bm => bm
  | k + 1, a, bm => aS3 V n k (a + 1) (aS2 V n a k (a + 1) bm)
def anSwap (V : Nat → Int32) (x1 : Int32) : Int32 := cF (cN x1 0 999) (aS3 V x1 (V 1).toNatClampNeg 0 (-9, -1)).1
theorem qx_wealthSwapped {F : Nat} (hF : 1000 ≤ F) {x1 x2 x3 : Int32} {a b : Nat} {σ : Mem} {V : Nat → Int32} (h : vH 24 V σ) (ha : x1.toInt = (a : Int)) (hb : x2.toInt = (b : Int)) (hab : ¬ a = b) (ha5 : (a : Int) < (V 1).toInt) (hb5 : (b : Int) < (V 1).toInt) : pc (f_X3_wealthSwapped F x1 x2 x3 σ) (fun r s => r = aWW (aSw V a b) x3 a b ∧ vH 24 V s ∧ o24 σ s) := by
  have h5 := h.1.2.1.2
  rw [f_X3_wealthSwapped_e]
  refine pc_bnd (qx_trade24 hF h ha hb hab ha5 hb5) (fun _ s2 q2 => pc_bnd (qx_reckH q2.1) (fun _ s4 q4 => pc_bnd (qx_wealth q4.1) (fun r s6 q6 => ?_)))
  rw [q6.2, q6.1]
  refine pc_bnd (qx_wealth q4.1) (fun r7 s8 q8 => ?_)
  rw [q8.2, q8.1]
  refine pc_bnd (qx_trade24 hF q4.1.1 ha hb hab (by rw [aSw_lo (by decide)]; exact ha5) (by rw [aSw_lo (by decide)]; exact hb5)) (fun _ s10 q10 => pc_ret ⟨?_, ?_, o24_tr q2.2 (o24_tr (o24_rk q4.2) q10.2)⟩)
  · rw [io_eq ha (by omega), io_eq hb (by omega)]; rfl
  · have w := q10.1
    rw [aSw_bk hab] at w
    exact w
theorem qx_swap {F : Nat} (hF : 1000 ≤ F) {x1 : Int32} {σ : Mem} {V : Nat → Int32} (h : vH 1 V σ) : pc (f_X3_swap F x1 σ) (fun r _ => r = anSwap V x1) := by
  have h5 := h.1.2.1
  have m1 := ti_nat (V 1)
  rw [f_X3_swap_e]
  refine pc_be ax_outside ?_
  unfold anSwap
  refine cq_end (fun e => pc_bnd (qx_reckon h) (fun _ s16 q16 => pc_bnd (qx_take hF q16.1) (fun _ s18 q18 => ?_)))
  have h18 := vH_o q16.1 q18.2
  have g18 : vG 1 V s18 := vG_e h5.2 q16.2 (fun k _ _ => q18.2 k (by omega))
  have inner : ∀ (k46 : Int32 → Int32 → Int32 → Mem → Option (Int32 × Mem)) (Q : Int32 → Mem → Prop) (a : Nat) (x5 : Int32), x5.toInt = (a : Int) → (a : Int) < (V 1).toInt → ∀ (N k b : Nat) (bm : Int32 × Int32) (x3 x4 x6 : Int32) (s : Mem), (∀ s, vH 24 V s → o24 s18 s → pc (k46 (aS2 V x1 a k b bm).1 (aS2 V x1 a k b bm).2 (x5 + 1) s) Q) → x6.toInt = (b : Int) → a < b → b + k = (V 1).toNatClampNeg → (x3, x4) = bm → vH 24 V s → o24 s18 s → pc (lp_X3_swap_64 F k46 x1 x5 N x3 x4 x6 s) Q := by
    intro k46 Q a x5 ha ha5 N
    induction N with
    | zero => intro k b bm x3 x4 x6 s hk h1 hab h2 h3 v o; exact pc_none rfl
    | succ N ih =>
      intro k b bm x3 x4 x6 s hk h1 hab h2 h3 v o
      have e3 : x3 = bm.1 := congrArg Prod.fst h3
      have e4 : x4 = bm.2 := congrArg Prod.snd h3
      rw [lp_X3_swap_64_s, o 1 (by decide), vH_2 h18]
      simp only [j_X3_swap_137_e]
      refine pc_ite (fun c => ?_) (fun c => ?_)
      · have d := ti_le c
        have k0 : k = 0 := by omega
        subst k0
        rw [e3, e4]
        exact hk s v o
      have d := ti_nle c
      obtain ⟨k', rfl⟩ : ∃ k', k = k' + 1 := ⟨k - 1, by omega⟩
      refine pc_bnd (qx_wealthSwapped hF v ha h1 (by omega) ha5 (by omega)) (fun r s2 q2 => ?_)
      have o2 := o24_tr o q2.2.2
      have r2 : vH 1 V s2 ∧ vG 1 V s2 := ⟨vH_o h18 o2, vG_e h5.2 g18 (fun j _ _ => o2 j (by omega))⟩
      refine pc_bnd (qx_wealth r2) (fun r3 s4 q4 => ?_)
      rw [q4.2, q4.1]
      refine pc_bnd (qx_wealth r2) (fun r5 s6 q6 => ?_)
      rw [q6.2, q6.1, q2.1]
      have ew : aWealth V x5 x1 8 + aWealth V x6 x1 8 = aWW V x1 a b := by rw [io_eq ha (by omega), io_eq h1 (by omega)]; rfl
      rw [ew]
      have n6 := ti_nx h1 (by omega)
      have stay : aS1 V x1 a b bm = bm → pc (lp_X3_swap_64 F k46 x1 x5 N x3 x4 (x6 + 1) s2) Q := fun w => by
        refine ih k' (b + 1) bm x3 x4 _ s2 (fun z az oz => ?_) n6 (by omega) (by omega) h3 q2.2.1 o2
        have u := hk z az oz
        have eu : aS2 V x1 a (k' + 1) b bm = aS2 V x1 a k' (b + 1) bm := by
          show aS2 V x1 a k' (b + 1) (aS1 V x1 a b bm) = _
          rw [w]
        rw [eu] at u
        exact u
      refine pc_ite (fun c1 => stay (aS1_0 c1)) (fun c1 => pc_ite (fun c2 => stay (aS1_t c1 (by rw [← e4]; exact c2))) (fun c2 => pc_lt (fun z7 g7 => ?_)))
      refine ih k' (b + 1) (aS1 V x1 a b bm) _ _ _ s2 (fun z az oz => hk z az oz) n6 (by omega) (by omega) ?_ q2.2.1 o2
      rw [aS1_f c1 (by rw [← e4]; exact c2), g7, io_eq ha (by omega), io_eq h1 (by omega)]
  have outer : ∀ (N k a : Nat) (bm : Int32 × Int32) (x3 x4 x5 : Int32) (s : Mem), x5.toInt = (a : Int) → a + k = (V 1).toNatClampNeg → (x3, x4) = bm → vH 24 V s → o24 s18 s → pc (lp_X3_swap_46 F x1 N x3 x4 x5 s) (fun r _ => r = (aS3 V x1 k a bm).1) := by
    intro N
    induction N with
    | zero => intro k a bm x3 x4 x5 s h1 h2 h3 v o; exact pc_none rfl
    | succ N ih =>
      intro k a bm x3 x4 x5 s h1 h2 h3 v o
      rw [lp_X3_swap_46_s, o 1 (by decide), vH_2 h18]
      refine pc_ite (fun c => ?_) (fun c => ?_)
      · have d := ti_le c
        have k0 : k = 0 := by omega
        subst k0
        exact pc_ret (congrArg Prod.fst h3)
      have d := ti_nle c
      obtain ⟨k', rfl⟩ : ∃ k', k = k' + 1 := ⟨k - 1, by omega⟩
      exact inner _ _ a x5 h1 (by omega) F k' (a + 1) bm x3 x4 _ s (fun z az oz => ih k' (a + 1) (aS2 V x1 a k' (a + 1) bm) _ _ _ z (ti_nx h1 (by omega)) (by omega) rfl az oz) (ti_nx h1 (by omega)) (by omega) (by omega) h3 v o
  exact outer F _ 0 (-9, -1) _ _ 0 s18 rfl (by omega) rfl q18.1 o24_rf
theorem vM_sw {V : Nat → Int32} {σ s : Mem} {a b : Nat} (h : vM V σ) (hab : ¬ a = b) (ha : (a : Int) < (V 1).toInt) (hb : (b : Int) < (V 1).toInt) (q : swp a b 24 (σ 106) (s 106)) (o : ∀ k, k ≠ 106 → s k = σ k) : vM (aSw V a b) s := by
  have h5 := h.1.2.1.2
  refine ⟨wvV_aSw h.1 hab ha hb, ?_⟩
  refine aSw_cs (P := fun p => p < 188 → wvM s p = aSw V a b p) (a := a) (b := b) (fun t ht hp => ?_) (fun t ht hp => ?_) (fun p n1 n2 hp => ?_)
  · have hj := wtJI_106 (24 * a + t) (by omega)
    rw [aSw_a ht]
    unfold wvM
    rw [show 28 + 24 * a + t = 28 + (24 * a + t) by omega, hj.1, hj.2, q _ (by omega), if_pos (by omega), show 24 * b + (24 * a + t - 24 * a) = 24 * b + t by omega, vM_106 h (by omega), show 28 + (24 * b + t) = 28 + 24 * b + t by omega]
  · have hj := wtJI_106 (24 * b + t) (by omega)
    rw [aSw_b hab ht]
    unfold wvM
    rw [show 28 + 24 * b + t = 28 + (24 * b + t) by omega, hj.1, hj.2, q _ (by omega), if_neg (by omega), if_pos (by omega), show 24 * a + (24 * b + t - 24 * b) = 24 * a + t by omega, vM_106 h (by omega), show 28 + (24 * a + t) = 28 + 24 * a + t by omega]
  · rw [aSw_o n1 n2, ← h.2 p hp]
    unfold wvM
    by_cases c : wtJ p = 106
    · have hi := wtI_106 p hp c
      rw [c, q _ hi]
      have e28 : p = 28 + wtI p := wtJ_106i p hp c
      rw [if_neg (by omega), if_neg (by omega)]
    · rw [o _ c]
theorem qm_swap {F : Nat} {x1 : Int32} {s : Mem} {V : Nat → Int32} (h : vM V s) : pc (f_X4_swap F x1 s) (fun r _ => r = anSwap V x1) := by
  have h5 := h.1.2.1
  have m1 := ti_nat (V 1)
  rw [f_X4_swap_e]
  refine pc_lt (fun s6 g6 => ?_)
  have h' : vM V s6 := vM_up h g6
  clear g6
  refine pc_be mx_wrongN ?_
  unfold anSwap
  rw [wt_bnd_eq mx_wrongN]
  refine mq_end sg_cN (fun e => ?_)
  have d2 := cN_0 e
  rw [tz_0, tz_999'] at d2
  have hx : 0 ≤ x1.toInt ∧ x1.toInt ≤ 9999 := ⟨d2.1, by omega⟩
  have inner : ∀ (k37 : Int32 → Int32 → Int32 → Mem → Option (Int32 × Mem)) (Q : Int32 → Mem → Prop) (a : Nat) (x4 : Int32), x4.toInt = (a : Int) → (a : Int) < (V 1).toInt → ∀ (N k b : Nat) (bm : Int32 × Int32) (x2 x3 x5 : Int32) (s : Mem), (∀ s, vM V s → pc (k37 (aS2 V x1 a k b bm).1 (aS2 V x1 a k b bm).2 (x4 + 1) s) Q) → x5.toInt = (b : Int) → a < b → b + k = (V 1).toNatClampNeg → (x2, x3) = bm → vM V s → pc (lp_X4_swap_52 F k37 x1 x4 N x2 x3 x5 s) Q := by
    intro k37 Q a x4 ha ha5 N
    induction N with
    | zero => intro k b bm x2 x3 x5 s hk h1 hab h2 h3 v; exact pc_none rfl
    | succ N ih =>
      intro k b bm x2 x3 x5 s hk h1 hab h2 h3 v
      have e2 : x2 = bm.1 := congrArg Prod.fst h3
      have e3 : x3 = bm.2 := congrArg Prod.snd h3
      rw [lp_X4_swap_52_s, vM_L v]
      simp only [j_X4_swap_128_e, j_X4_swap_129_e, j_X4_swap_148_e, j_X4_swap_160_e, ↓reduceIte, (eq_false (by decide) : ((1 : Int32) = 0) = False)]
      refine pc_ite (fun c => ?_) (fun c => ?_)
      · have d := ti_le c
        have k0 : k = 0 := by omega
        subst k0
        rw [e2, e3]
        exact hk s v
      have d := ti_nle c
      obtain ⟨k', rfl⟩ : ∃ k', k = k' + 1 := ⟨k - 1, by omega⟩
      refine pc_bnd (qm_anew hx v) (fun r1 s2 q2 => pc_bnd (qm_worthIn hx q2.2) (fun r3 s4 q4 => ?_))
      refine pc_bnd (mx_swapRosters ha h1 (by omega) (by omega) (by omega)) (fun _ s6 q6 => ?_)
      have v6 := vM_sw q4.2.1 (by omega) ha5 (show (b : Int) < (V 1).toInt by omega) q6.1 q6.2
      refine pc_bnd (qm_anew hx v6) (fun r7 s8 q8 => pc_bnd (qm_worthIn hx q8.2) (fun r9 s10 q10 => ?_))
      refine pc_bnd (mx_swapRosters ha h1 (by omega) (by omega) (by omega)) (fun _ s12 q12 => ?_)
      have v12 := vM_sw q10.2.1 (by omega) (by rw [aSw_lo (by decide)]; exact ha5) (show (b : Int) < (aSw V a b 1).toInt by rw [aSw_lo (by decide)]; omega) q12.1 q12.2
      rw [aSw_bk (by omega)] at v12
      have ew : r1 + r3 = aWW V x1 a b := by rw [q2.1, q4.1, io_eq ha (by omega), io_eq h1 (by omega)]; rfl
      have ew2 : r7 + r9 = aWW (aSw V a b) x1 a b := by rw [q8.1, q10.1, io_eq ha (by omega), io_eq h1 (by omega)]; rfl
      rw [ew, ew2]
      have n5 := ti_nx h1 (by omega)
      have stay : aS1 V x1 a b bm = bm → pc (lp_X4_swap_52 F k37 x1 x4 N x2 x3 (x5 + 1) s12) Q := fun w => by
        refine ih k' (b + 1) bm x2 x3 _ s12 (fun z az => ?_) n5 (by omega) (by omega) h3 v12
        have u := hk z az
        have eu : aS2 V x1 a (k' + 1) b bm = aS2 V x1 a k' (b + 1) bm := by
          show aS2 V x1 a k' (b + 1) (aS1 V x1 a b bm) = _
          rw [w]
        rw [eu] at u
        exact u
      refine pc_ite (fun c1 => stay (aS1_0 c1)) (fun c1 => pc_ite (fun c2 => stay (aS1_t c1 (by rw [← e3]; exact c2))) (fun c2 => ?_))
      refine ih k' (b + 1) (aS1 V x1 a b bm) _ _ _ s12 (fun z az => hk z az) n5 (by omega) (by omega) ?_ v12
      rw [aS1_f c1 (by rw [← e3]; exact c2), io_eq ha (by omega), io_eq h1 (by omega)]
  have outer : ∀ (N k a : Nat) (bm : Int32 × Int32) (x2 x3 x4 : Int32) (s : Mem), x4.toInt = (a : Int) → a + k = (V 1).toNatClampNeg → (x2, x3) = bm → vM V s → pc (lp_X4_swap_37 F x1 N x2 x3 x4 s) (fun r _ => r = (aS3 V x1 k a bm).1) := by
    intro N
    induction N with
    | zero => intro k a bm x2 x3 x4 s h1 h2 h3 v; exact pc_none rfl
    | succ N ih =>
      intro k a bm x2 x3 x4 s h1 h2 h3 v
      rw [lp_X4_swap_37_s, vM_L v]
      refine pc_ite (fun c => ?_) (fun c => ?_)
      · have d := ti_le c
        have k0 : k = 0 := by omega
        subst k0
        exact pc_ret (congrArg Prod.fst h3)
      have d := ti_nle c
      obtain ⟨k', rfl⟩ : ∃ k', k = k' + 1 := ⟨k - 1, by omega⟩
      exact inner _ _ a x4 h1 (by omega) F k' (a + 1) bm x2 x3 _ s (fun z az => ih k' (a + 1) (aS2 V x1 a k' (a + 1) bm) _ _ _ z (ti_nx h1 (by omega)) (by omega) rfl az) (ti_nx h1 (by omega)) (by omega) (by omega) h3 v
  exact outer F _ 0 (-9, -1) _ _ 0 s6 rfl (by omega) rfl h'
