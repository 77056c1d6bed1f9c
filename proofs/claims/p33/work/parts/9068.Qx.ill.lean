/-! ill -/
def aBi (V : Nat → Int32) (n : Int32) (l v : Nat) (w : Int32) (m : Nat) : Int32 := if m = l then aBehind V w l v else aBehind V n m v
def aIo (V : Nat → Int32) (who n : Int32) (l v : Nat) (k : Nat) : Bool := decide (gHold (V 2) (V 1) (aBi V n l v (Int32.ofNat k)) = who)
def iPw (t : Nat) : Nat → Int64
  | 0 => 1
  | k + 1 => iPw t k * Int32.toInt64 (Int32.ofNat t - 1)
def iTp (t : Nat) : Nat → Int64
  | 0 => 1
  | k + 1 => iTp t k * Int32.toInt64 (Int32.ofNat t)
def iW (n t : Nat) : Nat → Int64
  | 0 => 1
  | k + 1 => iW n t k * Int32.toInt64 (Int32.ofNat n - Int32.ofNat k) / Int32.toInt64 (Int32.ofNat k + 1) * Int32.toInt64 (Int32.ofNat t - 1)
def iBin : Nat → Nat → Nat
  | _, 0 => 1
  | 0, _ + 1 => 0
  | n + 1, k + 1 => iBin n k + iBin n (k + 1)
def iU (n : Nat) (f : Nat → Int64) : Nat → Int64
  | 0 => 0
  | j + 1 => iU n f j + Int64.ofNat (iBin n j) * f j
def iS (f : Nat → Int64) : Nat → Int64
  | 0 => 0
  | w + 1 => iS f w + f (pc8 w)
def iG (n t : Nat) (own : Nat → Bool) : Nat → Int64
  | 0 => 0
  | j + 1 => iG n t own j + (if own j = true then iW n t j else 0)
theorem iW_ok : ∀ n, n < 9 → ∀ t, t < 21 → ∀ k, k < n + 1 → iW n t k = Int64.ofNat (iBin n k) * iPw t k := by decide +kernel
theorem iW_b : ∀ n, n < 9 → ∀ t, t < 21 → 2 ≤ t → ∀ k, k < n + 1 → 0 ≤ (iW n t k).toInt ∧ (iW n t k).toInt ≤ 100000000000 := by decide +kernel
theorem iTp_b : ∀ t, t < 21 → 2 ≤ t → ∀ n, n < 9 → 0 < (iTp t n).toInt := by decide +kernel
theorem pc8_up : ∀ n, n < 8 → ∀ u, u < 2 ^ n → pc8 (2 ^ n + u) = pc8 u + 1 := by decide +kernel
theorem iBin_0 : ∀ n, iBin n 0 = 1 := fun n => by cases n <;> rfl
theorem iBin_t : ∀ n, n < 9 → iBin n (n + 1) = 0 := by decide +kernel
theorem iU_p {n : Nat} {f : Nat → Int64} : ∀ j, iU (n + 1) f (j + 1) = iU n f (j + 1) + iU n (fun k => f (k + 1)) j := fun j => by
  induction j with
  | zero =>
    show (0 : Int64) + Int64.ofNat (iBin (n + 1) 0) * f 0 = 0 + Int64.ofNat (iBin n 0) * f 0 + 0
    rw [iBin_0, iBin_0, Int64.add_zero]
  | succ j ih =>
    show iU (n + 1) f (j + 1) + Int64.ofNat (iBin n j + iBin n (j + 1)) * f (j + 1) = (iU n f (j + 1) + Int64.ofNat (iBin n (j + 1)) * f (j + 1)) + (iU n (fun k => f (k + 1)) j + Int64.ofNat (iBin n j) * f (j + 1))
    rw [ih, Int64.ofNat_add, Int64.add_mul]
    ac_rfl
theorem iS_up {f : Nat → Int64} {a : Nat} : ∀ b, (∀ u, u < b → pc8 (a + u) = pc8 u + 1) → iS f (a + b) = iS f a + iS (fun k => f (k + 1)) b := fun b => by
  induction b with
  | zero => intro _; exact (Int64.add_zero _).symm
  | succ b ih =>
    intro h
    show iS f (a + b) + f (pc8 (a + b)) = iS f a + (iS (fun k => f (k + 1)) b + f (pc8 b + 1))
    rw [ih (fun u hu => h u (by omega)), h b (by omega), Int64.add_assoc]
theorem iS_U : ∀ n, n < 9 → ∀ f : Nat → Int64, iS f (2 ^ n) = iU n f (n + 1) := fun n => by
  induction n with
  | zero =>
    intro _ f
    show (0 : Int64) + f (pc8 0) = 0 + Int64.ofNat 1 * f 0
    rw [show Int64.ofNat 1 = 1 from rfl, Int64.one_mul]
    rfl
  | succ n ih =>
    intro hn f
    have e2 : 2 ^ (n + 1) = 2 ^ n + 2 ^ n := by rw [Nat.pow_succ]; omega
    rw [e2, iS_up (2 ^ n) (fun u hu => pc8_up n (by omega) u hu), ih (by omega), ih (by omega), iU_p]
    have t : iU n f (n + 1 + 1) = iU n f (n + 1) := by
      show iU n f (n + 1) + Int64.ofNat (iBin n (n + 1)) * f (n + 1) = _
      rw [iBin_t n (by omega), show Int64.ofNat 0 = 0 from rfl, Int64.zero_mul, Int64.add_zero]
    rw [t]
theorem iG_U {n t : Nat} (hn : n < 9) (ht : t < 21) {own : Nat → Bool} : ∀ j, j ≤ n + 1 → iG n t own j = iU n (fun k => if own k = true then iPw t k else 0) j := fun j => by
  induction j with
  | zero => intro _; rfl
  | succ j ih =>
    intro hj
    show iG n t own j + (if own j = true then iW n t j else 0) = iU n (fun k => if own k = true then iPw t k else 0) j + Int64.ofNat (iBin n j) * (if own j = true then iPw t j else 0)
    rw [ih (by omega)]
    cases own j with
    | false => rw [if_neg (by decide), if_neg (by decide), Int64.mul_zero]
    | true => rw [if_pos rfl, if_pos rfl, iW_ok n hn t ht j (by omega)]
theorem iG_b {n t : Nat} (hn : n < 9) (ht : t < 21) (ht2 : 2 ≤ t) {own : Nat → Bool} : ∀ j : Nat, j ≤ n + 1 → 0 ≤ (iG n t own j).toInt ∧ (iG n t own j).toInt ≤ 100000000000 * (j : Int) := fun j => by
  induction j with
  | zero => intro _; exact ⟨Int.le_refl 0, Int.le_refl 0⟩
  | succ j ih =>
    intro hj
    have b := ih (by omega)
    have w := iW_b n hn t ht ht2 j (by omega)
    show 0 ≤ (iG n t own j + (if own j = true then iW n t j else 0)).toInt ∧ (iG n t own j + (if own j = true then iW n t j else 0)).toInt ≤ 100000000000 * ((j + 1 : Nat) : Int)
    cases own j with
    | false => rw [if_neg (by decide), Int64.add_zero]; omega
    | true =>
      rw [if_pos rfl, Int64.toInt_add, w_bm (by omega) (by omega)]
      omega
def cIL (n t : Int32) : Int32 := if n < 0 ∨ ¬ 2 ≤ t then -4 else if 8 < n ∨ ¬ t ≤ 20 then -6 else 0
def anIll (V : Nat → Int32) (x1 x2 x3 x4 x5 : Int32) : Int64 := cFL (cF (cF (cF (cB (0 ≤ x1.toInt ∧ x1.toInt < (V 1).toInt)) (cB (0 ≤ x2.toInt ∧ x2.toInt ≤ 7))) (cIL x3 x4)) (cO x5 2)) (aFrac (iG x3.toNatClampNeg x4.toNatClampNeg (aIo V x1 x3 x1.toNatClampNeg x2.toNatClampNeg) (x3.toNatClampNeg + 1)) (iTp x4.toNatClampNeg x3.toNatClampNeg) x5)
theorem cIL_0 {n t : Int32} (h : cIL n t = 0) : (0 ≤ n.toInt ∧ n.toInt ≤ 8) ∧ 2 ≤ t.toInt ∧ t.toInt ≤ 20 := by
  unfold cIL at h
  by_cases c : n < 0 ∨ ¬ 2 ≤ t
  · rw [if_pos c] at h; exact absurd h (by decide)
  rw [if_neg c] at h
  by_cases d : 8 < n ∨ ¬ t ≤ 20
  · rw [if_pos d] at h; exact absurd h (by decide)
  have a1 := ti_nlt (fun q => c (Or.inl q))
  have a2 := ti_le (Classical.byContradiction (fun q => c (Or.inr q)))
  have a3 := ti_nlt (fun q => d (Or.inl q))
  have a4 := ti_le (Classical.byContradiction (fun q => d (Or.inr q)))
  rw [tz_0] at a1
  rw [tz_2] at a2
  rw [tz_8] at a3
  rw [tz_20] at a4
  exact ⟨⟨a1, a3⟩, a2, a4⟩
theorem wvV_cn {V : Nat → Int32} (h : wvV V) {q : Nat} {c : Int32} (hq : 148 ≤ q) (hc : 0 ≤ c.toInt ∧ c.toInt ≤ 99999) : wvV (upd V q c) := by
  obtain ⟨h0, h1, h2, h3, h4, h5, h6⟩ := h
  have e : ∀ p, p < 148 → upd V q c p = V p := fun p hp => wv_un (by omega)
  have lv : ∀ p, live (upd V q c) p → live V p := fun p g => live_1 (e 1 (by omega)) g
  refine ⟨by rw [e 0 (by omega)]; exact h0, by rw [e 1 (by omega)]; exact h1, by rw [e 2 (by omega)]; exact h2, fun p a b => by rw [e p (by omega)]; exact h3 p a b, fun p a b g => by rw [e p b, e 0 (by omega)]; exact h4 p a b (lv p g), fun m hm => ?_, fun p a b g => ?_⟩
  · rw [e 1 (by omega)] at hm
    have := h1.2
    rw [e (18 + 2 * m) (by omega), e (19 + 2 * m) (by omega)]
    exact h5 m hm
  · by_cases z : p = q
    · rw [z, wv_us]; exact hc
    · rw [wv_un z]; exact h6 p a b (lv p g)
theorem vH_cn {V : Nat → Int32} {s : Mem} {l v : Nat} {c d : Int32} (a : vH 24 (upd V (148 + 8 * l + v) c) s) (hV : wvV V) (hl : l < 5) (hv : v < 8) (hd : 0 ≤ d.toInt ∧ d.toInt ≤ 99999) : vH 24 (upd V (148 + 8 * l + v) d) (up2 s (24 + 11 + l) v d) := ⟨wvV_cn hV (by omega) hd, fun p hp hlv => by
  have hj := wvJI_11 l hl v hv
  rw [wvX_at (h := 24) (q := 148 + 8 * l + v) (by omega) (by rw [← hj.1]; omega) hj.2 hp, wvE_o (Or.inr (by omega))]
  by_cases z : p = 148 + 8 * l + v
  · rw [z, wv_us, wv_us]
  · rw [wv_un z, wv_un z]
    have w := a.2 p hp (live_1 (by rw [wv_un (by omega), wv_un (by omega)]) hlv)
    rw [wv_un z] at w
    exact w⟩
theorem wt_min_l {x : Int32} (h : x.toInt ≤ 99999) : wt_min 99999 x = x := by
  unfold wt_min
  by_cases c : x < 99999
  · rw [if_pos c]
  · rw [if_neg c]
    have d := ti_nlt c
    rw [tz_99999] at d
    exact Int32.toInt_inj.mp (by rw [tz_99999]; omega)
/-- the mind of the class while it is asked -/
def iI (V : Nat → Int32) (l v : Nat) (s : Mem) : Prop := (vH 1 V s ∧ vG 1 V s) ∧ (∃ c : Int32, vH 24 (upd V (148 + 8 * l + v) c) s) ∧ ∀ m : Nat, (m : Int) < (V 1).toInt → ¬ m = l → s (24 + 18 + m) v = aGain V m v 24
theorem qx_ownsWell {F : Nat} {x1 x2 x3 x4 : Int32} {l v : Nat} {σ : Mem} {V : Nat → Int32} (h : iI V l v σ) (hl : x1.toInt = (l : Int)) (hl5 : (l : Int) < (V 1).toInt) (hv : x2.toInt = (v : Int)) (hv8 : v < 8) (h4 : 0 ≤ x4.toInt ∧ x4.toInt ≤ 9999) : pc (f_X3_ownsWell F x1 x2 x3 x4 σ) (fun r s => r = b01 (decide (gHold (V 2) (V 1) (aBi V x3 l v x4) = x1)) ∧ iI V l v s) := by
  obtain ⟨⟨a, g⟩, ⟨c, b⟩, gm⟩ := h
  have h5 := a.1.2.1.2
  rw [f_X3_ownsWell_e]
  refine pc_chk (fun _ => pc_bnd (qx_behind a g hl hl5 hv hv8) (fun r2 s3 q => pc_chk (fun _ => pc_lt (fun s5 g5 => pc_lt (fun s6 g6 => ?_)))))
  rw [q.2, q.1, tn_int hl, tn_int hv] at g5
  rw [tn_int hl, tn_int hv] at g6
  have bb := aBehind_b a.1 hl5 hv8 h4
  have b5 : vH 24 (upd V (148 + 8 * l + v) (aBehind V x4 l v)) s6 := by
    have w := vH_cn b a.1 (show l < 5 by omega) hv8 bb
    rw [← g5] at w
    exact vH_e w (fun k k1 k2 => by rw [g6, up2_k (by omega)])
  have a6 : vH 1 V s6 := vH_e a (fun k k1 k2 => by rw [g6, up2_k (by omega), g5, up2_k (by omega)])
  have g1 : vG 1 V s6 := vG_e h5 g (fun k k1 k2 => by rw [g6, up2_k (by omega), g5, up2_k (by omega)])
  have gm6 : ∀ m : Nat, (m : Int) < (V 1).toInt → ¬ m = l → s6 (24 + 18 + m) v = aGain V m v 24 := fun m hm n => by
    rw [g6, up2_k (by omega), g5, up2_k (by omega)]
    exact gm m hm n
  have e1 : upd V (148 + 8 * l + v) (aBehind V x4 l v) 1 = V 1 := wv_un (by omega)
  have e2 : upd V (148 + 8 * l + v) (aBehind V x4 l v) 2 = V 2 := wv_un (by omega)
  have own := gx_holder (F := F) (x1 := x2) (x2 := x3) (B := aBi V x3 l v x4) b5 (fun m x hm hm5 => by
    rw [e1] at hm5
    rw [f_X0_behind_e]
    refine pc_chk (fun _ => pc_chk (fun _ => pc_ret ⟨?_, rfl⟩))
    rw [tn_int hm, tn_int hv, vH_n b5 (by rw [e1]; exact hm5) hv8]
    unfold aBi
    by_cases z : m = l
    · subst z
      rw [if_pos rfl, wv_us, g6, up2_s, Int32.mul_zero, Int32.add_zero]
      exact wt_min_l bb.2
    · rw [if_neg z, wv_un (by omega), gm6 m hm5 z]
      rfl)
  rw [e1, e2] at own
  refine pc_bnd own (fun r7 s8 q8 => ?_)
  rw [q8.2, q8.1]
  have I6 : iI V l v s6 := ⟨⟨a6, g1⟩, ⟨_, b5⟩, gm6⟩
  refine pc_ite (fun w => pc_ret ⟨by rw [decide_eq_true w]; rfl, I6⟩) (fun w => pc_ret ⟨by rw [decide_eq_false w]; rfl, I6⟩)
theorem qx_ill {F : Nat} (hF : 1000 ≤ F) {x1 x2 x3 x4 x5 : Int32} {σ : Mem} {V : Nat → Int32} (h : vH 1 V σ) : pc (f_X3_ill F x1 x2 x3 x4 x5 σ) (fun r _ => r = anIll V x1 x2 x3 x4 x5) := by
  have h5 := h.1.2.1
  rw [f_X3_ill_e]
  refine pc_be (ax_noLooker (by rw [vH_2 h]; exact h5.2)) (pc_be ax_noView (pc_be ax_firstOf ?_))
  rw [vH_2 h]
  simp only [j_X3_ill_29_e, j_X3_ill_33_e, j_X3_ill_51_e]
  have J : ∀ t : Int32, t = cF (cF (cB (0 ≤ x1.toInt ∧ x1.toInt < (V 1).toInt)) (cB (0 ≤ x2.toInt ∧ x2.toInt ≤ 7))) (cIL x3 x4) → pc (j_X3_ill_55 F x1 x2 x3 x4 x5 t σ) (fun r _ => r = anIll V x1 x2 x3 x4 x5) := fun t ht => by
    rw [j_X3_ill_55_e]
    refine pc_be ax_notBelow (pc_be ax_firstOf ?_)
    unfold anIll
    rw [← ht]
    refine cqL_end (fun e => ?_)
    have e' := (cF_0 e).1
    rw [ht] at e'
    have d1 := cB_0 (cF_0 (cF_0 e').1).1
    have d2 := cB_0 (cF_0 (cF_0 e').1).2
    have d3 := cIL_0 (cF_0 e').2
    have d5 := x01 (cF_0 e).2
    clear e e' ht
    have n1 := ti_nat x1
    have n2 := ti_nat x2
    have n3 := ti_nat x3
    have n4 := ti_nat x4
    have e3 := io_eq (x := x3) (n := x3.toNatClampNeg) (by omega) (by omega)
    have e4 := io_eq (x := x4) (n := x4.toNatClampNeg) (by omega) (by omega)
    refine pc_bnd (qx_reckon h) (fun _ s11 q11 => pc_bnd (qx_take hF q11.1) (fun _ s13 q13 => pc_bnd (qx_reckH q13.1) (fun _ s15 q15 => ?_)))
    have o15 : o24 s11 s15 := o24_tr q13.2 (o24_rk q15.2)
    have I15 : iI V x1.toNatClampNeg x2.toNatClampNeg s15 := ⟨⟨vH_o q11.1 o15, vG_e h5.2 q11.2 (fun k k1 k2 => o15 k (by omega))⟩, ⟨V (148 + 8 * x1.toNatClampNeg + x2.toNatClampNeg), by rw [upd_id]; exact q15.1.1⟩, fun m hm _ => q15.1.2 m hm _ (by omega)⟩
    have key : ∀ (N k : Nat) (y7 y9 y11 : Int64) (x13 : Int32) (s : Mem), x13.toInt = (k : Int) → k ≤ x3.toNatClampNeg + 1 → y7 = iG x3.toNatClampNeg x4.toNatClampNeg (aIo V x1 x3 x1.toNatClampNeg x2.toNatClampNeg) k → (y9 = if k ≤ x3.toNatClampNeg then iTp x4.toNatClampNeg k else iTp x4.toNatClampNeg x3.toNatClampNeg) → y11 = iW x3.toNatClampNeg x4.toNatClampNeg k → iI V x1.toNatClampNeg x2.toNatClampNeg s → pc (lp_X3_ill_117 F x1 x2 x3 x4 x5 N y7 y9 y11 x13 s) (fun r _ => r = aFrac (iG x3.toNatClampNeg x4.toNatClampNeg (aIo V x1 x3 x1.toNatClampNeg x2.toNatClampNeg) (x3.toNatClampNeg + 1)) (iTp x4.toNatClampNeg x3.toNatClampNeg) x5) := by
      intro N
      induction N with
      | zero => intro k y7 y9 y11 x13 s h1 h2 h7 h9 h11 I; exact pc_none rfl
      | succ N ih =>
        intro k y7 y9 y11 x13 s h1 h2 h7 h9 h11 I
        rw [lp_X3_ill_117_s]
        simp only [j_X3_ill_142_e, j_X3_ill_181_e]
        refine pc_ite (fun c => ?_) (fun c => ?_)
        · have d := ti_lt c
          have ek : k = x3.toNatClampNeg + 1 := by omega
          rw [ek] at h7
          rw [if_neg (by omega)] at h9
          have b := iG_b (n := x3.toNatClampNeg) (t := x4.toNatClampNeg) (by omega) (by omega) (by omega) (own := aIo V x1 x3 x1.toNatClampNeg x2.toNatClampNeg) (x3.toNatClampNeg + 1) (by omega)
          have tb := iTp_b x4.toNatClampNeg (by omega) (by omega) x3.toNatClampNeg (by omega)
          rw [h7, h9]
          exact pc_bnd (cx_frac b.1 (fun _ => tb) d5) (fun r s q => pc_ret q.1)
        have d := ti_nlt c
        have e13 := io_eq h1 (by omega)
        have n13 := ti_nx h1 (by omega)
        rw [if_pos (by omega)] at h9
        refine pc_bnd (qx_ownsWell I (by omega) (by omega) (by omega) (by omega) ⟨by omega, by omega⟩) (fun r4 s5 q => ?_)
        rw [q.1]
        have hw : ∀ y7' z1, y7' = iG x3.toNatClampNeg x4.toNatClampNeg (aIo V x1 x3 x1.toNatClampNeg x2.toNatClampNeg) (k + 1) → z1 = ((y11 * (Int32.toInt64 (x3 - x13))) / (Int32.toInt64 (x13 + 1))) * (Int32.toInt64 (x4 - 1)) → pc (if x3 ≤ x13 then lp_X3_ill_117 F x1 x2 x3 x4 x5 N y7' y9 z1 (x13 + 1) s5 else lp_X3_ill_117 F x1 x2 x3 x4 x5 N y7' (y9 * (Int32.toInt64 x4)) z1 (x13 + 1) s5) (fun r _ => r = aFrac (iG x3.toNatClampNeg x4.toNatClampNeg (aIo V x1 x3 x1.toNatClampNeg x2.toNatClampNeg) (x3.toNatClampNeg + 1)) (iTp x4.toNatClampNeg x3.toNatClampNeg) x5) := fun y7' z1 h7' hz => by
          have h11' : z1 = iW x3.toNatClampNeg x4.toNatClampNeg (k + 1) := by
            rw [hz, h11, e13]
            show _ = iW x3.toNatClampNeg x4.toNatClampNeg k * Int32.toInt64 (Int32.ofNat x3.toNatClampNeg - Int32.ofNat k) / Int32.toInt64 (Int32.ofNat k + 1) * Int32.toInt64 (Int32.ofNat x4.toNatClampNeg - 1)
            rw [← e3, ← e4]
          refine pc_ite (fun c => ?_) (fun c => ?_)
          · have dc := ti_le c
            exact ih (k + 1) _ _ _ _ s5 n13 (by omega) h7' (by rw [if_neg (by omega), h9, show k = x3.toNatClampNeg by omega]) h11' q.2
          · have dc := ti_nle c
            refine ih (k + 1) _ _ _ _ s5 n13 (by omega) h7' ?_ h11' q.2
            rw [if_pos (by omega), h9]
            show iTp x4.toNatClampNeg k * Int32.toInt64 x4 = iTp x4.toNatClampNeg k * Int32.toInt64 (Int32.ofNat x4.toNatClampNeg)
            rw [← e4]
        have ho : decide (gHold (V 2) (V 1) (aBi V x3 x1.toNatClampNeg x2.toNatClampNeg x13) = x1) = aIo V x1 x3 x1.toNatClampNeg x2.toNatClampNeg k := by
          unfold aIo
          rw [← e13]
        rw [ho]
        have gs : iG x3.toNatClampNeg x4.toNatClampNeg (aIo V x1 x3 x1.toNatClampNeg x2.toNatClampNeg) (k + 1) = iG x3.toNatClampNeg x4.toNatClampNeg (aIo V x1 x3 x1.toNatClampNeg x2.toNatClampNeg) k + (if aIo V x1 x3 x1.toNatClampNeg x2.toNatClampNeg k = true then iW x3.toNatClampNeg x4.toNatClampNeg k else 0) := rfl
        cases hb : aIo V x1 x3 x1.toNatClampNeg x2.toNatClampNeg k with
        | false =>
          rw [hb, if_neg (by decide), Int64.add_zero] at gs
          exact pc_ite (fun _ => pc_nzl (fun _ => pc_lt (fun z1 hz => hw _ z1 (by rw [gs]; exact h7) hz))) (fun w => absurd rfl w)
        | true =>
          rw [hb, if_pos rfl] at gs
          exact pc_ite (fun w => absurd w (by decide)) (fun _ => pc_nzl (fun _ => pc_lt (fun z1 hz => hw _ z1 (by rw [gs, h7, h11]) hz)))
    exact key F 0 0 1 1 0 s15 rfl (by omega) rfl (by rw [if_pos (by omega)]; rfl) rfl I15
  by_cases c0 : cF (cB (0 ≤ x1.toInt ∧ x1.toInt < (V 1).toInt)) (cB (0 ≤ x2.toInt ∧ x2.toInt ≤ 7)) = 0
  · rw [c0]
    rw [c0, cF_z] at J
    refine pc_ite (fun _ => pc_ite (fun c1 => ?_) (fun c1 => pc_ite (fun c2 => ?_) (fun c2 => ?_))) (fun n => absurd rfl n)
    · exact pc_ite (fun w => absurd w (by decide)) (fun _ => J _ (if_pos (Or.inl c1)).symm)
    · have l : cIL x3 x4 = if 8 < x3 ∨ ¬ x4 ≤ 20 then -6 else 0 := if_neg (fun w => w.elim c1 (fun q => q c2))
      refine pc_ite (fun _ => pc_ite (fun c3 => J _ ?_) (fun c3 => pc_ite (fun c4 => J _ ?_) (fun c4 => J _ ?_))) (fun n => absurd rfl n)
      · rw [l, if_pos (Or.inl c3)]
      · rw [l, if_neg (fun w => w.elim c3 (fun q => q c4))]
      · rw [l, if_pos (Or.inr c4)]
    · exact pc_ite (fun w => absurd w (by decide)) (fun _ => J _ (if_pos (Or.inr c2)).symm)
  · rw [cF_n c0] at J
    exact pc_ite (fun w => absurd w c0) (fun _ => pc_ite (fun w => absurd w c0) (fun _ => J _ rfl))
/-- the reference: what lies in 110 after a look -/
theorem qm_looked {F : Nat} {x1 x2 : Int32} (hx : 0 ≤ x2.toInt ∧ x2.toInt ≤ 9999) {v : Nat} (hv : x1.toInt = (v : Int)) (hv8 : v < 8) {s : Mem} {V : Nat → Int32} (h : vM V s) (b : vB V s) : pc (f_X4_ownerIn F x1 x2 s) (fun _ z => (∀ m : Nat, (m : Int) < (V 1).toInt → z 110 m = aBehind V x2 m v) ∧ ∀ k, ¬ k = 110 → z k = s k) := by
  have h5 := h.1.2.1
  have key : ∀ (N l : Nat) (x3 : Int32) (σ : Mem), x3.toInt = (l : Int) → (l : Int) ≤ (V 1).toInt → (∀ k, ¬ k = 110 → σ k = s k) → (∀ m : Nat, m < l → σ 110 m = aBehind V x2 m v) → pc (lp_X4_ownerIn_2 F x1 x2 N x3 σ) (fun _ z => (∀ m : Nat, (m : Int) < (V 1).toInt → z 110 m = aBehind V x2 m v) ∧ ∀ k, ¬ k = 110 → z k = s k) := by
    intro N
    induction N with
    | zero => intro l x3 σ h1 h2 h3 h4; exact pc_none rfl
    | succ N ih =>
      intro l x3 σ h1 h2 h3 h4
      rw [lp_X4_ownerIn_2_s, h3 101 (by decide), vM_L h]
      refine pc_ite (fun c => ?_) (fun c => pc_chk (fun _ => pc_be mx_held (pc_chk (fun _ => pc_lt (fun s7 h7 => ?_)))))
      · have d := ti_le c
        have hM : vM V σ := vM_109 h (fun k _ q => h3 k q)
        rw [f_X4_ownerLooked_e]
        refine pc_bnd (qm_ownerLooked_13 hx hv8 hM (fun m hm => h4 m (by omega)) F 0 _ _ _ _ _ rfl h5.1 rfl rfl rfl (if_pos (show (aTop V x2 v 0).2.2.2 = 0 from rfl)).symm) (fun r z q => pc_ret ⟨fun m hm => by rw [q.2]; exact h4 m (by omega), fun k hk => by rw [q.2]; exact h3 k hk⟩)
      · have d := ti_nle c
        rw [tn_8 h1 hv (by omega) hv8, tn_int h1, h3 107 (by decide), h3 109 (by decide), vM_107 h (by omega), b l (by omega) v hv8] at h7
        have hA : aBehind V x2 l v = wt_min 99999 (V (148 + (8 * l + v)) + x2 * aGain V l v 24) := by
          unfold aBehind
          rw [show 148 + 8 * l + v = 148 + (8 * l + v) by omega]
        rw [← hA] at h7
        refine ih (l + 1) _ _ (ti_nx h1 (by omega)) (by omega) (fun k hk => by rw [h7, up2_k hk, h3 k hk]) (fun m hm => ?_)
        rw [h7]
        by_cases e : m = l
        · subst e; rw [up2_s]
        · rw [up2_i e]; exact h4 m (by omega)
  rw [f_X4_ownerIn_e]
  exact key F 0 0 s rfl h5.1 (fun _ _ => rfl) (fun m hm => absurd hm (Nat.not_lt_zero m))
def iBc (w : Nat) : Nat → Nat
  | 0 => 0
  | k + 1 => iBc w k + w / 2 ^ k % 2
theorem iBc_8 : ∀ n, n < 9 → ∀ w, w < 2 ^ n → iBc w n = pc8 w := by decide +kernel
theorem iBit : ∀ w, w < 256 → ∀ k, k < 8 → (((Int32.ofNat w >>> (Int32.ofNat k &&& 31)) &&& (1 : Int32) = 1) ↔ w / 2 ^ k % 2 = 1) := by decide +kernel
theorem i2n : ∀ n, n < 9 → ((1 : Int32) <<< (Int32.ofNat n &&& 31)).toInt = ((2 ^ n : Nat) : Int) ∧ 2 ^ n ≤ 256 := by decide +kernel
theorem io_256 : ∀ w, w < 257 → (Int32.ofNat w).toInt = (w : Int) := by decide +kernel
theorem pc8_b : ∀ w, w < 256 → pc8 w ≤ 8 := by decide +kernel
theorem qm_ill {F : Nat} {x1 x2 x3 x4 x5 : Int32} {s : Mem} {V : Nat → Int32} (h : vM V s) : pc (f_X4_ill F x1 x2 x3 x4 x5 s) (fun r _ => r = anIll V x1 x2 x3 x4 x5) := by
  have h5 := h.1.2.1
  rw [f_X4_ill_e]
  refine pc_lt (fun s6 g6 => ?_)
  have h' : vM V s6 := vM_up h g6
  clear g6
  simp only [j_X4_ill_23_e, j_X4_ill_39_e, j_X4_ill_59_e]
  have J : ∀ t : Int32, t = cF (cF (cB (0 ≤ x1.toInt ∧ x1.toInt < (V 1).toInt)) (cB (0 ≤ x2.toInt ∧ x2.toInt ≤ 7))) (cIL x3 x4) → pc (j_X4_ill_63 F x1 x2 x3 x4 x5 t s6) (fun r _ => r = anIll V x1 x2 x3 x4 x5) := fun t ht => by
    rw [j_X4_ill_63_e]
    refine pc_be mx_wrongBit ?_
    unfold anIll
    rw [← ht]
    have st : sg (cF t (cO x5 2)) := sg_cF (by rw [ht]; exact sg_cF (sg_cF sg_cB sg_cB) (by
      unfold cIL
      by_cases c : x3 < 0 ∨ ¬ 2 ≤ x4
      · rw [if_pos c]; exact Or.inr (by decide)
      · rw [if_neg c]
        by_cases d : 8 < x3 ∨ ¬ x4 ≤ 20
        · rw [if_pos d]; exact Or.inr (by decide)
        · rw [if_neg d]; exact Or.inl rfl)) sg_cO
    by_cases e : cF t (cO x5 2) = 0
    rotate_left
    · rw [if_neg (fun c => by
        have d := ti_le c
        rw [tz_0] at d
        rcases st with q | q
        · exact e q
        · omega)]
      exact mqL_ref (cFL_n e)
    rw [e, if_pos (by decide), cFL_z]
    have e' := (cF_0 e).1
    rw [ht] at e'
    have d1 := cB_0 (cF_0 (cF_0 e').1).1
    have d2 := cB_0 (cF_0 (cF_0 e').1).2
    have d3 := cIL_0 (cF_0 e').2
    clear e e' ht st
    have n1 := ti_nat x1
    have n2 := ti_nat x2
    have n3 := ti_nat x3
    have n4 := ti_nat x4
    have hl : x1.toInt = (x1.toNatClampNeg : Int) := by omega
    have hl5 : (x1.toNatClampNeg : Int) < (V 1).toInt := by omega
    have hv : x2.toInt = (x2.toNatClampNeg : Int) := by omega
    have hv8 : x2.toNatClampNeg < 8 := by omega
    have hx : 0 ≤ x3.toInt ∧ x3.toInt ≤ 9999 := ⟨by omega, by omega⟩
    have hn : x3.toNatClampNeg < 9 := by omega
    have e3 := io_eq (x := x3) (n := x3.toNatClampNeg) (by omega) (by omega)
    have e4 := io_eq (x := x4) (n := x4.toNatClampNeg) (by omega) (by omega)
    have p2 := i2n x3.toNatClampNeg hn
    rw [← e3] at p2
    have good : iS (fun k => if aIo V x1 x3 x1.toNatClampNeg x2.toNatClampNeg k = true then iPw x4.toNatClampNeg k else 0) (2 ^ x3.toNatClampNeg) = iG x3.toNatClampNeg x4.toNatClampNeg (aIo V x1 x3 x1.toNatClampNeg x2.toNatClampNeg) (x3.toNatClampNeg + 1) := by
      rw [iG_U hn (by omega) _ (Nat.le_refl _), iS_U _ hn]
    have b := iG_b (n := x3.toNatClampNeg) (t := x4.toNatClampNeg) (by omega) (by omega) (by omega) (own := aIo V x1 x3 x1.toNatClampNeg x2.toNatClampNeg) (x3.toNatClampNeg + 1) (by omega)
    have tb := iTp_b x4.toNatClampNeg (by omega) (by omega) x3.toNatClampNeg hn
    refine pc_bnd (qm_lay h') (fun _ s20 q20 => ?_)
    have inner : ∀ (k126 : Int64 → Int32 → Mem → Option (Int64 × Mem)) (Q : Int64 → Mem → Prop) (w : Nat) (y7 y9 : Int64) (x11 : Int32), x11 = Int32.ofNat w → w < 2 ^ x3.toNatClampNeg → (∀ z, mRdy V z → pc (k126 (y7 + (if aIo V x1 x3 x1.toNatClampNeg x2.toNatClampNeg (pc8 w) = true then iPw x4.toNatClampNeg (pc8 w) else 0)) (x11 + 1) z) Q) → ∀ (N k : Nat) (y12 : Int64) (x14 : Int32) (z : Mem), mRdy V z → x14.toInt = (k : Int) → k ≤ x3.toNatClampNeg → y12 = iPw x4.toNatClampNeg (iBc w k) → pc (lp_X4_ill_140 F k126 x1 x2 x3 x4 x5 y7 y9 x11 N y12 x14 z) Q := by
      intro k126 Q w y7 y9 x11 hw hw2 hk N
      induction N with
      | zero => intro k y12 x14 z a h1 h2 h12; exact pc_none rfl
      | succ N ih =>
        intro k y12 x14 z a h1 h2 h12
        rw [lp_X4_ill_140_s]
        simp only [j_X4_ill_167_e, j_X4_ill_237_e]
        refine pc_ite (fun c => ?_) (fun c => ?_)
        · have d := ti_le c
          have ek : k = x3.toNatClampNeg := by omega
          rw [ek, iBc_8 _ hn w hw2] at h12
          refine pc_bnd (qm_looked hx hv hv8 a.1 a.2) (fun _ s2 q2 => pc_chk (fun _ => ?_))
          have a2 : mRdy V s2 := ⟨vM_109 a.1 (fun j _ j2 => q2.2 j j2), fun m hm j hj => by rw [q2.2 109 (by decide)]; exact a.2 m hm j hj⟩
          have o4 : pc (f_X4_onesOf F x11 s2) (fun r z => r = Int32.ofNat (pc8 w) ∧ z = s2) := by
            rw [f_X4_onesOf_e]
            exact pc_mono (qm_onesK F w 0 x11 (by omega) hw) (fun r z q => ⟨by rw [q.1, Int32.zero_add], q.2⟩)
          refine pc_bnd o4 (fun r4 s5 q4 => ?_)
          rw [q4.2, q4.1]
          refine pc_be mx_held (pc_chk (fun _ => pc_lt (fun s9 g9 => ?_)))
          rw [tn_8 hl hv (by omega) hv8, tn_int hl, vM_107 a2.1 (by omega), a2.2 _ hl5 _ hv8, show 148 + (8 * x1.toNatClampNeg + x2.toNatClampNeg) = 148 + 8 * x1.toNatClampNeg + x2.toNatClampNeg by omega] at g9
          have g9' : s9 = up2 s2 110 x1.toNatClampNeg (aBehind V (Int32.ofNat (pc8 w)) x1.toNatClampNeg x2.toNatClampNeg) := g9
          have v9 : vM V s9 := vM_109 a2.1 (fun j _ j2 => by rw [g9', up2_k j2])
          have pb := pc8_b w (by omega)
          have pi := io_nat (pc8 w) (by omega)
          have hB : ∀ m : Nat, (m : Int) < (V 1).toInt → 0 ≤ (aBi V x3 x1.toNatClampNeg x2.toNatClampNeg (Int32.ofNat (pc8 w)) m).toInt ∧ (aBi V x3 x1.toNatClampNeg x2.toNatClampNeg (Int32.ofNat (pc8 w)) m).toInt ≤ 99999 := fun m hm => by
            unfold aBi
            by_cases zz : m = x1.toNatClampNeg
            · rw [if_pos zz]; exact aBehind_b h.1 hl5 hv8 ⟨by omega, by omega⟩
            · rw [if_neg zz]; exact aBehind_b h.1 hm hv8 hx
          have own := gm_ownerLooked_13 (F := F) hB v9 (fun m hm => by
            rw [g9']
            unfold aBi
            by_cases zz : m = x1.toNatClampNeg
            · rw [if_pos zz, zz, up2_s]
            · rw [if_neg zz, up2_i zz]; exact q2.1 m hm) F 0 _ _ _ _ 0 rfl h5.1 rfl rfl rfl (if_pos (show (gTop (aBi V x3 x1.toNatClampNeg x2.toNatClampNeg (Int32.ofNat (pc8 w))) 0).2.2.2 = 0 from rfl)).symm
          rw [f_X4_ownerLooked_e]
          refine pc_bnd own (fun r10 s11 q11 => ?_)
          rw [q11.2, q11.1]
          have r9 : mRdy V s9 := ⟨v9, fun m hm j hj => by rw [g9', up2_k (by decide)]; exact a2.2 m hm j hj⟩
          have u := hk s9 r9
          refine pc_ite (fun co => ?_) (fun co => ?_)
          · rw [show aIo V x1 x3 x1.toNatClampNeg x2.toNatClampNeg (pc8 w) = true from decide_eq_true co, if_pos rfl, ← h12] at u
            exact u
          · rw [show aIo V x1 x3 x1.toNatClampNeg x2.toNatClampNeg (pc8 w) = false from decide_eq_false co, if_neg (by decide)] at u
            exact u
        · have d := ti_nle c
          have e14 := io_eq h1 (by omega)
          have n14 := ti_nx h1 (by omega)
          have bt := iBit w (by omega) k (by omega)
          rw [← hw, ← e14] at bt
          have bs : iBc w (k + 1) = iBc w k + w / 2 ^ k % 2 := rfl
          rw [f_X4_hasBit_e]
          by_cases q : (x11 >>> (x14 &&& 31)) &&& (1 : Int32) = 1
          · rw [if_pos q]
            refine pc_be rfl ?_
            rw [if_neg (by decide)]
            refine ih (k + 1) _ _ z a n14 (by omega) ?_
            rw [bs, bt.mp q, h12]
            show iPw x4.toNatClampNeg (iBc w k) * Int32.toInt64 (x4 - 1) = iPw x4.toNatClampNeg (iBc w k) * Int32.toInt64 (Int32.ofNat x4.toNatClampNeg - 1)
            rw [← e4]
          · rw [if_neg q]
            refine pc_be rfl ?_
            rw [if_pos rfl]
            refine ih (k + 1) _ _ z a n14 (by omega) ?_
            have : w / 2 ^ k % 2 = 0 := by
              have := Nat.mod_lt (w / 2 ^ k) (show 0 < 2 by decide)
              by_cases u : w / 2 ^ k % 2 = 1
              · exact absurd (bt.mpr u) q
              · omega
            rw [bs, this, h12, Int64.mul_one]
            rfl
    have key : ∀ (y9 : Int64), y9 = iTp x4.toNatClampNeg x3.toNatClampNeg → ∀ (N w : Nat) (y7 : Int64) (x11 : Int32) (z : Mem), mRdy V z → x11 = Int32.ofNat w → w ≤ 2 ^ x3.toNatClampNeg → y7 = iS (fun k => if aIo V x1 x3 x1.toNatClampNeg x2.toNatClampNeg k = true then iPw x4.toNatClampNeg k else 0) w → pc (lp_X4_ill_126 F x1 x2 x3 x4 x5 y9 N y7 x11 z) (fun r _ => r = aFrac (iG x3.toNatClampNeg x4.toNatClampNeg (aIo V x1 x3 x1.toNatClampNeg x2.toNatClampNeg) (x3.toNatClampNeg + 1)) (iTp x4.toNatClampNeg x3.toNatClampNeg) x5) := by
      intro y9 h9 N
      induction N with
      | zero => intro w y7 x11 z a h1 h2 h7; exact pc_none rfl
      | succ N ih =>
        intro w y7 x11 z a h1 h2 h7
        rw [lp_X4_ill_126_s]
        have wi := io_256 w (by omega)
        rw [← h1] at wi
        refine pc_ite (fun c => ?_) (fun c => ?_)
        · have d := ti_le c
          rw [show w = 2 ^ x3.toNatClampNeg by omega, good] at h7
          rw [h7, h9]
          exact pc_bnd (mx_part b.1 (fun _ => tb)) (fun r s q => pc_ret q.1)
        · have d := ti_nle c
          refine inner _ _ w y7 y9 x11 h1 (by omega) (fun y ay => ?_) F 0 1 0 z a rfl (by omega) rfl
          exact ih (w + 1) _ _ y ay (by rw [h1]; exact (Int32.ofNat_add w 1).symm) (by omega) (by rw [h7]; rfl)
    have pow : ∀ (N k : Nat) (y9 : Int64) (x11 : Int32), x11.toInt = (k : Int) → k ≤ x3.toNatClampNeg → y9 = iTp x4.toNatClampNeg k → pc (lp_X4_ill_103 F x1 x2 x3 x4 x5 0 N y9 x11 s20) (fun r _ => r = aFrac (iG x3.toNatClampNeg x4.toNatClampNeg (aIo V x1 x3 x1.toNatClampNeg x2.toNatClampNeg) (x3.toNatClampNeg + 1)) (iTp x4.toNatClampNeg x3.toNatClampNeg) x5) := by
      intro N
      induction N with
      | zero => intro k y9 x11 h1 h2 h9; exact pc_none rfl
      | succ N ih =>
        intro k y9 x11 h1 h2 h9
        rw [lp_X4_ill_103_s]
        refine pc_ite (fun c => ?_) (fun c => pc_lt (fun z16 g16 => ?_))
        · have d := ti_le c
          exact key y9 (by rw [h9, show k = x3.toNatClampNeg by omega]) F 0 0 0 s20 q20 rfl (Nat.zero_le _) rfl
        · have d := ti_nle c
          refine ih (k + 1) _ _ (ti_nx h1 (by omega)) (by omega) ?_
          rw [g16, h9]
          show iTp x4.toNatClampNeg k * Int32.toInt64 x4 = iTp x4.toNatClampNeg k * Int32.toInt64 (Int32.ofNat x4.toNatClampNeg)
          rw [← e4]
    exact pow F 0 1 0 rfl (by omega) rfl
  refine pc_be (mx_isLooker (by rw [vM_L h']; exact h5.1)) ?_
  rw [vM_L h']
  by_cases c : 0 ≤ x1.toInt ∧ x1.toInt < (V 1).toInt
  · rw [if_pos c, if_neg (by decide)]
    refine pc_be mx_isView ?_
    by_cases c2 : 0 ≤ x2.toInt ∧ x2.toInt ≤ 7
    · rw [if_pos c2, if_neg (by decide)]
      rw [cB_t c, cB_t c2, cF_z, cF_z] at J
      refine pc_ite (fun c3 => J _ (if_pos (Or.inl c3)).symm) (fun c3 => pc_ite (fun c4 => ?_) (fun c4 => J _ (if_pos (Or.inr c4)).symm))
      have l : cIL x3 x4 = if 8 < x3 ∨ ¬ x4 ≤ 20 then -6 else 0 := if_neg (fun w => w.elim c3 (fun q => q c4))
      refine pc_ite (fun c5 => J _ ?_) (fun c5 => pc_ite (fun c6 => J _ ?_) (fun c6 => J _ ?_))
      · rw [l, if_pos (Or.inl c5)]
      · rw [l, if_neg (fun w => w.elim c5 (fun q => q c6))]
      · rw [l, if_pos (Or.inr c6)]
    · rw [if_neg c2, if_pos rfl]
      exact J _ (by rw [cB_t c, cB_f c2, cF_z, cF_n (a := -1) (by decide)])
  · rw [if_neg c, if_pos rfl]
    exact J _ (by rw [cB_f c, cF_n (a := -1) (by decide), cF_n (a := -1) (by decide)])
