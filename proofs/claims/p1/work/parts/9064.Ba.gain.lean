theorem tn_int {x : Int32} {k : Nat} (h : x.toInt = (k : Int)) : x.toNatClampNeg = k := by rw [ti_nat, h]; rfl
theorem ti_nx {x : Int32} {k : Nat} (h : x.toInt = (k : Int)) (hk : k < 100000) : (x + 1).toInt = ((k + 1 : Nat) : Int) := by
  rw [ti_add (by rw [h, tz_1]; omega) (by rw [h, tz_1]; omega), h, tz_1]; rfl
/-! what the class's lookers pull, see and bring, from a vector -/
theorem aPull_b {V : Nat → Int32} (h : wvV V) {l : Nat} (hl : (l : Int) < (V 1).toInt) {t : Int32} : 0 ≤ (aPull V l t).toInt ∧ (aPull V l t).toInt ≤ 10 := by
  have hk := (h.2.2.2.2.2.1 l hl).2
  have hd := ti_div3 hk
  have hi : aInv t = 1 ∨ aInv t = 2 := by
    unfold aInv
    by_cases c : t < 6
    · rw [if_pos c]; exact Or.inl rfl
    · rw [if_neg c]
      by_cases c2 : 17 < t
      · rw [if_pos c2]; exact Or.inl rfl
      · rw [if_neg c2]; exact Or.inr rfl
  have hs : 1 ≤ (V (19 + 2 * l) / 3 + aInv t).toInt ∧ (V (19 + 2 * l) / 3 + aInv t).toInt ≤ 5 := by
    rcases hi with e | e <;> rw [e]
    · rw [ti_add (by rw [tz_1]; omega) (by rw [tz_1]; omega), tz_1]; omega
    · rw [ti_add (by rw [tz_2]; omega) (by rw [tz_2]; omega), tz_2]; omega
  unfold aPull
  by_cases c0 : V (18 + 2 * l) = 0
  · rw [if_pos c0]; decide
  rw [if_neg c0]
  by_cases c1 : V (18 + 2 * l) = 1
  · rw [if_pos c1]; rcases hi with e | e <;> rw [e] <;> decide
  rw [if_neg c1]
  by_cases c2 : V (18 + 2 * l) = 2
  · rw [if_pos c2]
    by_cases d : t = V (19 + 2 * l) + 8
    · rw [if_pos d]; decide
    · rw [if_neg d]; decide
  rw [if_neg c2]
  by_cases c3 : V (18 + 2 * l) = 3
  · rw [if_pos c3]
    by_cases d : t - t / 2 * 2 = 0
    · rw [if_pos d]; decide
    · rw [if_neg d]; decide
  rw [if_neg c3]
  by_cases c4 : V (18 + 2 * l) = 4
  · rw [if_pos c4]; omega
  rw [if_neg c4]
  by_cases c5 : V (18 + 2 * l) = 5
  · rw [if_pos c5]
    by_cases d : t < 20
    · rw [if_pos d, Int32.mul_one]; omega
    · rw [if_neg d, ti_mul (by rw [tz_2]; omega) (by rw [tz_2]; omega), tz_2]; omega
  rw [if_neg c5]; decide
theorem aGain_b {V : Nat → Int32} (h : wvV V) {l v : Nat} (hl : (l : Int) < (V 1).toInt) : ∀ t, t ≤ 24 → 0 ≤ (aGain V l v t).toInt ∧ (aGain V l v t).toInt ≤ 10 * (t : Int) := fun t => by
  induction t with
  | zero => intro _; exact ⟨Int.le_refl 0, Int.le_refl 0⟩
  | succ t ih =>
    intro ht
    have b := ih (by omega)
    have p := aPull_b h hl (t := Int32.ofNat t)
    have key : ∀ y : Int32, 0 ≤ y.toInt ∧ y.toInt ≤ 10 → 0 ≤ (aGain V l v t + y).toInt ∧ (aGain V l v t + y).toInt ≤ 10 * ((t + 1 : Nat) : Int) := fun y hy => by
      rw [ti_add (by omega) (by omega)]; omega
    show 0 ≤ (aGain V l v t + (if (aSees V l t >>> (Int32.ofNat v &&& 31)) &&& (1 : Int32) = 1 then aPull V l (Int32.ofNat t) else 0)).toInt ∧ (aGain V l v t + (if (aSees V l t >>> (Int32.ofNat v &&& 31)) &&& (1 : Int32) = 1 then aPull V l (Int32.ofNat t) else 0)).toInt ≤ 10 * ((t + 1 : Nat) : Int)
    by_cases c : (aSees V l t >>> (Int32.ofNat v &&& 31)) &&& (1 : Int32) = 1
    · rw [if_pos c]; exact key _ p
    · rw [if_neg c]; exact key 0 (by decide)
theorem aBehind_b {V : Nat → Int32} (h : wvV V) {l v : Nat} (hl : (l : Int) < (V 1).toInt) (hv : v < 8) {x : Int32} (hx : 0 ≤ x.toInt ∧ x.toInt ≤ 9999) : 0 ≤ (aBehind V x l v).toInt ∧ (aBehind V x l v).toInt ≤ 99999 := by
  have g := aGain_b h hl (v := v) 24 (by omega)
  have n := vV_n h hl hv
  have m1 : 0 ≤ x.toInt * (aGain V l v 24).toInt := Int.mul_nonneg hx.1 g.1
  have m2 : x.toInt * (aGain V l v 24).toInt ≤ 9999 * 240 := Int.le_trans (Int.mul_le_mul_of_nonneg_right hx.2 g.1) (Int.mul_le_mul_of_nonneg_left (by omega) (by decide))
  have em : (x * aGain V l v 24).toInt = x.toInt * (aGain V l v 24).toInt := ti_mul (by omega) (by omega)
  have es : (V (148 + 8 * l + v) + x * aGain V l v 24).toInt = (V (148 + 8 * l + v)).toInt + x.toInt * (aGain V l v 24).toInt := by rw [ti_add (by rw [em]; omega) (by rw [em]; omega), em]
  unfold aBehind wt_min
  generalize V (148 + 8 * l + v) + x * aGain V l v 24 = y at *
  by_cases c : y < 99999
  · rw [if_pos c]
    have := ti_lt c
    rw [tz_99999] at this
    omega
  · rw [if_neg c]; decide
theorem wvN_N (x : Int32) : wvN (wvN x) = x := by
  by_cases a : x = 9
  · subst a; decide
  by_cases b : x = -9
  · subst b; decide
  have e : wvN x = x := by unfold wvN; rw [if_neg a, if_neg b]
  rw [e, e]
theorem wvN_s {x : Int32} (h : 0 ≤ x.toInt ∧ x.toInt ≤ 5) : wvN x = x := wvN_o h.1 (fun q => by rw [q] at h; exact absurd h.2 (by decide))
theorem wvN_x {v x : Int32} (h : 0 ≤ x.toInt ∧ x.toInt ≤ 5) : wvN v = x ↔ v = x :=
  ⟨fun q => by rw [← wvN_N v, q]; exact wvN_s h, fun q => by rw [q]; exact wvN_s h⟩
theorem wvN_9 {v : Int32} (h : v.toInt = -9 ∨ (0 ≤ v.toInt ∧ v.toInt ≤ 5)) : wvN v = 9 ↔ v.toInt < 0 := by
  rcases h with h | h
  · have e : v = -9 := Int32.toInt_inj.mp (by rw [h]; rfl)
    exact ⟨fun _ => by omega, fun _ => by rw [e]; decide⟩
  · rw [wvN_s h]
    exact ⟨fun q => by rw [q] at h; exact absurd h.2 (by decide), fun q => by omega⟩
/-- the house h holds V (in the cells that count) -/
def vH (h : Nat) (V : Nat → Int32) (σ : Mem) : Prop := wvV V ∧ ∀ p, p < 188 → live V p → wvX h σ p = V p
theorem vH_k {h : Nat} {V : Nat → Int32} {σ s : Mem} (a : vH h V σ) (e : ∀ k, ¬ (h + 18 ≤ k ∧ k ≤ h + 22) → s k = σ k) : vH h V s := ⟨a.1, fun p hp hv => by
  rw [← a.2 p hp hv]
  exact wvX_eq (fun p hp => by have := wvJ_le p hp; rw [e _ (by omega)]) hp⟩
theorem vH_lo {h : Nat} {V : Nat → Int32} {σ : Mem} (a : vH h V σ) {p : Nat} (hp : p < 28) : wvX h σ p = V p := a.2 p (by omega) (live_lo hp)
theorem vH_0 {h : Nat} {V : Nat → Int32} {σ : Mem} (a : vH h V σ) : σ h 0 = V 0 := vH_lo a (p := 0) (by decide)
theorem vH_2 {h : Nat} {V : Nat → Int32} {σ : Mem} (a : vH h V σ) : σ h 2 = V 1 := vH_lo a (p := 1) (by decide)
theorem vH_8 {h : Nat} {V : Nat → Int32} {σ : Mem} (a : vH h V σ) : σ h 8 = V 2 := vH_lo a (p := 2) (by decide)
theorem vH_9 {h : Nat} {V : Nat → Int32} {σ : Mem} (a : vH h V σ) : σ h 9 = V 3 := vH_lo a (p := 3) (by decide)
theorem vH_w {h : Nat} {V : Nat → Int32} {σ : Mem} (a : vH h V σ) {i : Nat} (hi : i < 8) : σ (h + 16) i = V (4 + i) := by
  have e := vH_lo a (p := 4 + i) (by omega)
  have hj := wvJI_16 i hi
  unfold wvX at e
  rw [wvE_o (by omega), ← hj.1, ← hj.2] at e
  exact e
theorem vH_1 {h : Nat} {V : Nat → Int32} {σ : Mem} (a : vH h V σ) {i : Nat} (hi : i < 6) : σ (h + 1) i = V (12 + i) := by
  have e := vH_lo a (p := 12 + i) (by omega)
  have hj := wvJI_1 i hi
  unfold wvX at e
  rw [wvE_o (by omega), ← hj.1, ← hj.2] at e
  exact e
theorem vH_k2 {h : Nat} {V : Nat → Int32} {σ : Mem} (a : vH h V σ) {i : Nat} (hi : i < 5) : σ (h + 2) i = V (18 + 2 * i) := by
  have e := vH_lo a (p := 18 + 2 * i) (by omega)
  have hj := wvJI_2 i hi
  unfold wvX at e
  rw [wvE_o (by omega), ← hj.1, ← hj.2] at e
  exact e
theorem vH_k3 {h : Nat} {V : Nat → Int32} {σ : Mem} (a : vH h V σ) {i : Nat} (hi : i < 5) : σ (h + 3) i = V (19 + 2 * i) := by
  have e := vH_lo a (p := 19 + 2 * i) (by omega)
  have hj := wvJI_3 i hi
  unfold wvX at e
  rw [wvE_o (by omega), ← hj.1, ← hj.2] at e
  exact e
theorem vH_c {h : Nat} {V : Nat → Int32} {σ : Mem} (a : vH h V σ) {l t : Nat} (hl : (l : Int) < (V 1).toInt) (ht : t < 24) : σ (h + 5 + l) t = wvN (V (28 + 24 * l + t)) := by
  have h5 := a.1.2.1.2
  have n1 := ti_nat (V 1)
  have hj := wvJI_5 l (by omega) t ht
  have e := a.2 (28 + 24 * l + t) (by omega) ⟨fun _ _ => by omega, fun _ => by omega⟩
  unfold wvX at e
  rw [wvE_i (by omega), ← hj.1, ← hj.2, show h + (5 + l) = h + 5 + l by omega] at e
  rw [← e, wvN_N]
theorem vH_n {h : Nat} {V : Nat → Int32} {σ : Mem} (a : vH h V σ) {l v : Nat} (hl : (l : Int) < (V 1).toInt) (hv : v < 8) : σ (h + 11 + l) v = V (148 + 8 * l + v) := by
  have h5 := a.1.2.1.2
  have n1 := ti_nat (V 1)
  have hj := wvJI_11 l (by omega) v hv
  have e := a.2 (148 + 8 * l + v) (by omega) ⟨fun _ => by omega, fun _ => by omega⟩
  unfold wvX at e
  rw [wvE_o (by omega), ← hj.1, ← hj.2, show h + (11 + l) = h + 11 + l by omega] at e
  exact e
theorem vH_b {h : Nat} {V : Nat → Int32} {σ : Mem} (a : vH h V σ) {l t : Nat} (hl : (l : Int) < (V 1).toInt) (ht : t < 24) : (V (28 + 24 * l + t)).toInt = -9 ∨ (0 ≤ (V (28 + 24 * l + t)).toInt ∧ (V (28 + 24 * l + t)).toInt ≤ 5) := by
  have h6 := a.1.1.2
  rcases vV_c a.1 hl ht with q | q
  · exact Or.inl q
  · exact Or.inr ⟨q.1, by omega⟩
theorem ab_all : ∀ P, P < 7 → ∀ i, i < P → ((((1 : Int32) <<< (Int32.ofNat P &&& 31)) - 1) >>> (Int32.ofNat i &&& 31)) &&& (1 : Int32) = 1 := by decide +kernel
theorem ax_shownBy_4 {F h : Nat} {x1 : Int32} {σ : Mem} {V : Nat → Int32} (a : vH h V σ) (hx : ∀ i : Nat, (i : Int) < (V 0).toInt → (x1 >>> (Int32.ofNat i &&& 31)) &&& (1 : Int32) = 1) : ∀ (N i : Nat) (x2 x3 : Int32), x3.toInt = (i : Int) → (i : Int) ≤ (V 0).toInt → x2 = aAll V i → pc (lp_X0_shownBy_4 F h x1 N x2 x3 σ) (fun r s => r = aAll V (V 0).toNatClampNeg ∧ s = σ) := by
  have n0 := ti_nat (V 0)
  have h6 := a.1.1.2
  intro N
  induction N with
  | zero => intro i x2 x3 h1 h2 h3; exact pc_none rfl
  | succ N ih =>
    intro i x2 x3 h1 h2 h3
    rw [lp_X0_shownBy_4_s, vH_0 a]
    simp only [j_X0_shownBy_30_e]
    refine pc_ite (fun c => ?_) (fun c => ?_)
    · have d := ti_le c
      exact pc_ret ⟨by rw [h3, show i = (V 0).toNatClampNeg by omega], rfl⟩
    · have d := ti_nle c
      have hb := hx i (by omega)
      rw [← io_eq h1 (by omega)] at hb
      rw [if_pos hb]
      refine pc_chk (fun _ => pc_lt (fun z2 hz => ih (i + 1) _ _ (ti_nx h1 (by omega)) (by omega) ?_))
      rw [tn_int h1, vH_1 a (by omega)] at hz
      rw [hz, h3]
      rfl
theorem ax_allShown {F h : Nat} {σ : Mem} {V : Nat → Int32} (a : vH h V σ) : pc (f_X0_allShown F h σ) (fun r s => r = aAll V (V 0).toNatClampNeg ∧ s = σ) := by
  have n0 := ti_nat (V 0)
  have h6 := a.1.1
  rw [f_X0_allShown_e, f_X0_shownBy_e, vH_0 a]
  refine pc_bnd (ax_shownBy_4 a (fun i hi => ?_) F 0 0 0 rfl h6.1 rfl) (fun r s q => pc_ret q)
  have e : V 0 = Int32.ofNat (V 0).toNatClampNeg := io_eq (by omega) (by omega)
  rw [e]
  exact ab_all _ (by omega) i (by omega)
theorem ax_sight {F h : Nat} {x1 x2 x3 : Int32} {l t : Nat} {σ : Mem} {V : Nat → Int32} (a : vH h V σ) (hl : x1.toInt = (l : Int)) (ht : x2.toInt = (t : Int)) (hl5 : (l : Int) < (V 1).toInt) (ht24 : t < 24) (h3 : x3 = aAll V (V 0).toNatClampNeg) : pc (f_X0_sight F h x1 x2 x3 σ) (fun r s => r = aSees V l t ∧ s = σ) := by
  have h5 := a.1.2.1.2
  have h6 := a.1.1.2
  rw [f_X0_sight_e, tn_int hl, vH_k2 a (i := l) (by omega)]
  unfold aSees
  refine pc_chk (fun _ => pc_ite (fun c => pc_ret ⟨?_, rfl⟩) (fun c => pc_chk (fun _ => pc_lt (fun z3 hz => pc_be (ax_isPane (by rw [vH_0 a]; exact h6)) ?_))))
  · rw [if_pos c]; exact h3
  · rw [if_neg c]
    rw [tn_int ht, vH_c a hl5 ht24] at hz
    have hb := vV_c a.1 hl5 ht24
    rw [vH_0 a]
    generalize V (28 + 24 * l + t) = v at *
    rcases hb with b | b
    · have e : v = -9 := Int32.toInt_inj.mp (by rw [b]; rfl)
      have e9 : z3 = 9 := by rw [hz, e]; decide
      have hn : ¬ (0 ≤ z3.toInt ∧ z3.toInt < (V 0).toInt) := by rw [e9, tz_9]; omega
      have hv : v.toInt < 0 := by omega
      rw [if_neg hn, if_pos rfl, if_pos hv]
      exact pc_ret ⟨rfl, rfl⟩
    · have e9 : z3 = v := by rw [hz]; exact wvN_s ⟨b.1, by omega⟩
      have hp : 0 ≤ z3.toInt ∧ z3.toInt < (V 0).toInt := by rw [e9]; exact b
      have hv : ¬ v.toInt < 0 := by omega
      rw [if_pos hp, if_neg (by decide), if_neg hv]
      refine pc_chk (fun w => pc_ret ⟨?_, rfl⟩)
      rw [e9] at w ⊢
      exact vH_1 a w.2.2
theorem ax_invalids {F : Nat} {x : Int32} {σ : Mem} : f_X0_invalidsPull F x σ = some (aInv x, σ) := by
  rw [f_X0_invalidsPull_e, j_X0_invalidsPull_16_e]
  unfold aInv
  by_cases c : x < 6
  · rw [if_pos c, if_pos c]
  · rw [if_neg c, if_neg c]
    by_cases c2 : 17 < x
    · rw [if_pos c2, if_pos c2]
    · rw [if_neg c2, if_neg c2]
theorem ax_pull {F h : Nat} {x1 x2 : Int32} {l : Nat} {σ : Mem} {V : Nat → Int32} (a : vH h V σ) (hl : x1.toInt = (l : Int)) (hl5 : (l : Int) < (V 1).toInt) : pc (f_X0_pull F h x1 x2 σ) (fun r s => r = aPull V l x2 ∧ s = σ) := by
  have h5 := a.1.2.1.2
  rw [f_X0_pull_e]
  simp only [j_X0_pull_113_e]
  rw [tn_int hl, vH_k2 a (i := l) (by omega), vH_k3 a (i := l) (by omega)]
  unfold aPull
  refine pc_chk (fun _ => pc_lt (fun z2 hz => ?_))
  rw [hz]
  refine pc_ite (fun c => pc_ret ⟨by rw [if_pos c], rfl⟩) (fun c => ?_)
  rw [if_neg c]
  refine pc_ite (fun c => pc_be ax_invalids (pc_ret ⟨by rw [if_pos c], rfl⟩)) (fun c => ?_)
  rw [if_neg c]
  refine pc_ite (fun c => ?_) (fun c => ?_)
  · rw [if_pos c]
    exact pc_ite (fun d => pc_ret ⟨by rw [if_pos d], rfl⟩) (fun d => pc_ret ⟨by rw [if_neg d], rfl⟩)
  rw [if_neg c]
  refine pc_ite (fun c => ?_) (fun c => ?_)
  · rw [if_pos c]
    exact pc_ite (fun d => pc_ret ⟨by rw [if_pos d], rfl⟩) (fun d => pc_ret ⟨by rw [if_neg d], rfl⟩)
  rw [if_neg c]
  refine pc_ite (fun c => pc_be ax_invalids (pc_ret ⟨by rw [if_pos c], rfl⟩)) (fun c => ?_)
  rw [if_neg c]
  refine pc_ite (fun c => pc_be ax_invalids ?_) (fun c => pc_ret ⟨by rw [if_neg c], rfl⟩)
  rw [if_pos c]
  exact pc_ite (fun d => pc_ret ⟨by rw [if_pos d], rfl⟩) (fun d => pc_ret ⟨by rw [if_neg d], rfl⟩)
theorem ax_gain_3 {F h : Nat} {x1 x2 x3 : Int32} {l : Nat} (hl : x1.toInt = (l : Int)) : ∀ (N j : Nat) (x4 : Int32) (σ : Mem), x4.toInt = (j : Int) → j ≤ 8 → pc (lp_X0_gain_3 F h x1 x2 x3 N x4 σ) (fun _ s => (∀ k, ¬ k = h + 18 + l → s k = σ k) ∧ ∀ v, v < 8 → s (h + 18 + l) v = if j ≤ v ∧ (x2 >>> (Int32.ofNat v &&& 31)) &&& (1 : Int32) = 1 then σ (h + 18 + l) v + x3 else σ (h + 18 + l) v) := by
  intro N
  induction N with
  | zero => intro j x4 σ h1 h2; exact pc_none rfl
  | succ N ih =>
    intro j x4 σ h1 h2
    rw [lp_X0_gain_3_s]
    simp only [j_X0_gain_33_e]
    refine pc_ite (fun c => pc_ret ⟨fun _ _ => rfl, fun v hv => ?_⟩) (fun c => ?_)
    · have d := ti_le c
      rw [tz_8] at d
      rw [if_neg (by rintro ⟨w1, w2⟩; omega)]
    have d := ti_nle c
    rw [tz_8] at d
    refine pc_ite (fun cb => pc_chk (fun _ => pc_chk (fun _ => pc_lt (fun s3 h3 => pc_mono (ih (j + 1) _ _ (ti_nx h1 (by omega)) (by omega)) (fun r s q => ⟨fun k hk => ?_, fun v hv => ?_⟩))))) (fun cb => pc_mono (ih (j + 1) _ _ (ti_nx h1 (by omega)) (by omega)) (fun r s q => ⟨q.1, fun v hv => ?_⟩))
    · rw [q.1 k hk, h3, tn_int hl, up2_k hk]
    · rw [q.2 v hv, h3, tn_int hl, tn_int h1]
      rw [io_eq h1 (by omega)] at cb
      by_cases e : v = j
      · subst e
        rw [if_neg (by rintro ⟨w1, w2⟩; omega), if_pos (by exact ⟨Nat.le_refl _, cb⟩), up2_s]
      · rw [up2_i e]
        by_cases e2 : j ≤ v ∧ (x2 >>> (Int32.ofNat v &&& 31)) &&& (1 : Int32) = 1
        · rw [if_pos e2, if_pos (by exact ⟨by omega, e2.2⟩)]
        · rw [if_neg e2, if_neg (by rintro ⟨w1, w2⟩; exact e2 ⟨by omega, w2⟩)]
    · rw [q.2 v hv]
      rw [io_eq h1 (by omega)] at cb
      by_cases e2 : j ≤ v ∧ (x2 >>> (Int32.ofNat v &&& 31)) &&& (1 : Int32) = 1
      · have e : ¬ v = j := fun w => cb (by rw [← w]; exact e2.2)
        rw [if_pos e2, if_pos (by exact ⟨by omega, e2.2⟩)]
      · rw [if_neg e2, if_neg (by rintro ⟨w1, w2⟩; exact e2 ⟨by omega, w2⟩)]
theorem ax_reckon_40 {F h : Nat} {k7 : Int32 → Mem → Option (Unit × Mem)} {Q : Unit → Mem → Prop} {x1 x2 : Int32} {l : Nat} {V : Nat → Int32} (hl : x2.toInt = (l : Int)) (hl5 : (l : Int) < (V 1).toInt) (h1 : x1 = aAll V (V 0).toNatClampNeg) {σ0 : Mem} (hk : ∀ σ, vH h V σ → (∀ k, ¬ k = h + 18 + l → σ k = σ0 k) → (∀ v, v < 8 → σ (h + 18 + l) v = aGain V l v 24) → pc (k7 (x2 + 1) σ) Q) : ∀ (N t : Nat) (x3 : Int32) (σ : Mem), x3.toInt = (t : Int) → t ≤ 24 → vH h V σ → (∀ k, ¬ k = h + 18 + l → σ k = σ0 k) → (∀ v, v < 8 → σ (h + 18 + l) v = aGain V l v t) → pc (lp_X0_reckon_40 F k7 h x1 x2 N x3 σ) Q := by
  intro N
  induction N with
  | zero => intro t x3 σ g1 g2 g3 g4 g5; exact pc_none rfl
  | succ N ih =>
    intro t x3 σ g1 g2 a g4 g5
    rw [lp_X0_reckon_40_s]
    simp only [j_X0_reckon_73_e]
    have h5 := a.1.2.1.2
    refine pc_ite (fun c => ?_) (fun c => ?_)
    · have d := ti_le c
      rw [tz_24] at d
      refine hk σ a g4 (fun v hv => ?_)
      rw [g5 v hv, show t = 24 by omega]
    have d := ti_nle c
    rw [tz_24] at d
    have et := io_eq g1 (by omega)
    have hs : ∀ v, aGain V l v (t + 1) = aGain V l v t + (if (aSees V l t >>> (Int32.ofNat v &&& 31)) &&& (1 : Int32) = 1 then aPull V l (Int32.ofNat t) else 0) := fun v => rfl
    refine pc_bnd (ax_pull a hl hl5) (fun r1 s2 q => ?_)
    obtain ⟨q1, q2⟩ := q
    rw [q2]
    rw [et] at q1
    refine pc_ite (fun c0 => ih (t + 1) _ _ (ti_nx g1 (by omega)) (by omega) a g4 (fun v hv => ?_)) (fun c0 => pc_bnd (ax_sight a hl g1 hl5 (by omega) h1) (fun r3 s4 q3 => ?_))
    · have p0 : aPull V l (Int32.ofNat t) = 0 := by
        have := ti_le c0
        have b := aPull_b a.1 hl5 (t := Int32.ofNat t)
        rw [q1, tz_0] at this
        exact Int32.toInt_inj.mp (by rw [tz_0]; omega)
      rw [hs, p0, g5 v hv, ite_self, Int32.add_zero]
    · obtain ⟨q4, q5⟩ := q3
      rw [q5, f_X0_gain_e]
      refine pc_bnd (ax_gain_3 hl F 0 0 σ rfl (by omega)) (fun r5 s6 q6 => ih (t + 1) _ _ (ti_nx g1 (by omega)) (by omega) (vH_k a (fun k hk => q6.1 k (by omega))) (fun k hk => by rw [q6.1 k hk, g4 k hk]) (fun v hv => ?_))
      rw [q6.2 v hv, hs, q4, q1, g5 v hv]
      by_cases e : (aSees V l t >>> (Int32.ofNat v &&& 31)) &&& (1 : Int32) = 1
      · rw [if_pos e, if_pos (by exact ⟨Nat.zero_le _, e⟩)]
      · rw [if_neg e, if_neg (by rintro ⟨w1, w2⟩; exact e w2), Int32.add_zero]
theorem ax_reckon_17 {F h : Nat} {k7 : Int32 → Mem → Option (Unit × Mem)} {Q : Unit → Mem → Prop} {x1 x2 : Int32} {l : Nat} {V : Nat → Int32} (hl : x2.toInt = (l : Int)) (hl5 : (l : Int) < (V 1).toInt) (h1 : x1 = aAll V (V 0).toNatClampNeg) {σ0 : Mem} (hk : ∀ σ, vH h V σ → (∀ k, ¬ k = h + 18 + l → σ k = σ0 k) → (∀ v, v < 8 → σ (h + 18 + l) v = aGain V l v 24) → pc (k7 (x2 + 1) σ) Q) : ∀ (N j : Nat) (x3 : Int32) (σ : Mem), x3.toInt = (j : Int) → j ≤ 8 → vH h V σ → (∀ k, ¬ k = h + 18 + l → σ k = σ0 k) → (∀ v, v < j → σ (h + 18 + l) v = 0) → pc (lp_X0_reckon_17 F k7 h x1 x2 N x3 σ) Q := by
  intro N
  induction N with
  | zero => intro j x3 σ g1 g2 g3 g4 g5; exact pc_none rfl
  | succ N ih =>
    intro j x3 σ g1 g2 a g4 g5
    have h5 := a.1.2.1.2
    rw [lp_X0_reckon_17_s]
    refine pc_ite (fun c => ?_) (fun c => pc_chk (fun _ => pc_chk (fun _ => pc_lt (fun s9 h9 => ?_))))
    · have d := ti_le c
      rw [tz_8] at d
      exact ax_reckon_40 hl hl5 h1 hk F 0 0 σ rfl (by omega) a g4 (fun v hv => g5 v (by omega))
    · have d := ti_nle c
      rw [tz_8] at d
      rw [tn_int hl, tn_int g1] at h9
      refine ih (j + 1) _ _ (ti_nx g1 (by omega)) (by omega) (vH_k a (fun k hk => by rw [h9, up2_k (by omega)])) (fun k hk => by rw [h9, up2_k hk, g4 k hk]) (fun v hv => ?_)
      rw [h9]
      by_cases e : v = j
      · subst e; rw [up2_s]
      · rw [up2_i e]; exact g5 v (by omega)
theorem ax_reckon_7 {F h : Nat} {x1 : Int32} {V : Nat → Int32} (h1 : x1 = aAll V (V 0).toNatClampNeg) : ∀ (N l : Nat) (x2 : Int32) (σ : Mem), x2.toInt = (l : Int) → (l : Int) ≤ (V 1).toInt → vH h V σ → (∀ m, m < l → ∀ v, v < 8 → σ (h + 18 + m) v = aGain V m v 24) → pc (lp_X0_reckon_7 F h x1 N x2 σ) (fun _ s => (∀ k, ¬ (h + 18 ≤ k ∧ k ≤ h + 22) → s k = σ k) ∧ ∀ m : Nat, (m : Int) < (V 1).toInt → ∀ v, v < 8 → s (h + 18 + m) v = aGain V m v 24) := by
  intro N
  induction N with
  | zero => intro l x2 σ g1 g2 g3 g4; exact pc_none rfl
  | succ N ih =>
    intro l x2 σ g1 g2 a g4
    have h5 := a.1.2.1.2
    rw [lp_X0_reckon_7_s, vH_2 a]
    refine pc_ite (fun c => pc_ret ⟨fun _ _ => rfl, fun m hm v hv => g4 m ?_ v hv⟩) (fun c => ?_)
    · have d := ti_le c
      omega
    · have d := ti_nle c
      refine ax_reckon_17 (σ0 := σ) g1 (by omega) h1 (fun s b e g => ?_) F 0 0 σ rfl (by omega) a (fun _ _ => rfl) (fun v hv => absurd hv (Nat.not_lt_zero v))
      refine pc_mono (ih (l + 1) _ s (ti_nx g1 (by omega)) (by omega) b (fun m hm v hv => ?_)) (fun r z q => ⟨fun k hk => by rw [q.1 k hk, e k (by omega)], q.2⟩)
      by_cases em : m = l
      · subst em; exact g v hv
      · rw [e _ (by omega)]; exact g4 m (by omega) v hv
/-- what a day brings, laid beside the house -/
def vG (h : Nat) (V : Nat → Int32) (s : Mem) : Prop := ∀ m : Nat, (m : Int) < (V 1).toInt → ∀ v, v < 8 → s (h + 18 + m) v = aGain V m v 24
theorem ax_reckon {F h : Nat} {σ : Mem} {V : Nat → Int32} (a : vH h V σ) : pc (f_X0_reckon F h σ) (fun _ s => (∀ k, ¬ (h + 18 ≤ k ∧ k ≤ h + 22) → s k = σ k) ∧ vG h V s) := by
  rw [f_X0_reckon_e]
  refine pc_bnd (ax_allShown a) (fun r s q => ?_)
  obtain ⟨q1, q2⟩ := q
  rw [q2]
  exact ax_reckon_7 q1 F 0 0 σ rfl a.1.2.1.1 a (fun m hm => absurd hm (Nat.not_lt_zero m))
theorem qx_behind {F h : Nat} {x1 x2 x3 : Int32} {l v : Nat} {σ : Mem} {V : Nat → Int32} (a : vH h V σ) (g : vG h V σ) (hl : x1.toInt = (l : Int)) (hl5 : (l : Int) < (V 1).toInt) (hv : x2.toInt = (v : Int)) (hv8 : v < 8) : pc (f_X0_behind F h x1 x2 x3 σ) (fun r s => r = aBehind V x3 l v ∧ s = σ) := by
  rw [f_X0_behind_e]
  refine pc_chk (fun _ => pc_chk (fun _ => pc_ret ⟨?_, rfl⟩))
  rw [tn_int hl, tn_int hv, vH_n a hl5 hv8, g l hl5 v hv8]
  rfl
