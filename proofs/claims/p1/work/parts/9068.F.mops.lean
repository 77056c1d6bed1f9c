/-! the reference's changes of its house -/
theorem mx_in {F : Nat} {y0 y2 y4 : Int64} {σ : Mem} : f_X4_in F y0 y2 y4 σ = some (if y2.toInt ≤ y0.toInt ∧ y0.toInt ≤ y4.toInt then 1 else 0, σ) := by
  rw [f_X4_in_e]
  simp only [j_X4_in_17_e]
  by_cases c1 : lg_cmp y0 y2 < 0
  · have d := lg_ltl c1
    rw [if_pos c1, if_neg (by omega)]
  · have d := lg_ltln c1
    rw [if_neg c1]
    by_cases c2 : 0 < lg_cmp y0 y4
    · have e := lg_ltr c2
      rw [if_pos c2, if_neg (by omega)]
    · have e := lg_ltrn c2
      rw [if_neg c2, if_pos ⟨d, e⟩]
theorem mx_in32 {F : Nat} {x : Int32} {a b : Int64} {lo hi : Int} {σ : Mem} (h1 : a.toInt = lo) (h2 : b.toInt = hi) : f_X4_in F (Int32.toInt64 x) a b σ = some (if lo ≤ x.toInt ∧ x.toInt ≤ hi then 1 else 0, σ) := by
  rw [mx_in, Int32.toInt_toInt64, h1, h2]
theorem wt_bz01 {β : Type} {c : Prop} [Decidable c] {K : Option (β × Mem)} : wt_bz (if c then (1 : Int32) else 0) K = K := by
  unfold wt_bz
  by_cases h : c
  · rw [if_pos h, if_pos (Or.inr rfl)]
  · rw [if_neg h, if_pos (Or.inl rfl)]
theorem wt_bnd_eq {α β : Type} {o : Option (α × Mem)} {a : α} {s : Mem} {K : α → Mem → Option β} (h : o = some (a, s)) : wt_bnd o K = K a s := by rw [h]; rfl
theorem ite_cg {c d : Prop} [Decidable c] [Decidable d] (h : c ↔ d) : (if c then (1 : Int32) else 0) = if d then 1 else 0 := by
  by_cases q : c
  · rw [if_pos q, if_pos (h.mp q)]
  · rw [if_neg q, if_neg (fun r => q (h.mpr r))]
theorem ti_pred {x : Int32} (h : 0 ≤ x.toInt) : (x - (1 : Int32)).toInt = x.toInt - 1 := by
  have := ti_hi x
  rw [ti_sub (by rw [tz_1]; omega) (by rw [tz_1]; omega), tz_1]
theorem ti64_pred {x : Int32} (h : 0 ≤ x.toInt) : (Int32.toInt64 (x - (1 : Int32))).toInt = x.toInt - 1 := by rw [Int32.toInt_toInt64, ti_pred h]
theorem mx_isLooker {F : Nat} {x : Int32} {σ : Mem} (b : 0 ≤ (σ 101 3).toInt) : f_X4_isLooker F x σ = some (if 0 ≤ x.toInt ∧ x.toInt < (σ 101 3).toInt then 1 else 0, σ) := by
  rw [f_X4_isLooker_e, wt_bnd_eq (mx_in32 (lo := 0) rfl (ti64_pred b)), wt_bz01, ite_cg (d := 0 ≤ x.toInt ∧ x.toInt < (σ 101 3).toInt) (by omega)]
theorem mx_isPane {F : Nat} {x : Int32} {σ : Mem} (b : 0 ≤ (σ 101 1).toInt) : f_X4_isPane F x σ = some (if 0 ≤ x.toInt ∧ x.toInt < (σ 101 1).toInt then 1 else 0, σ) := by
  rw [f_X4_isPane_e, wt_bnd_eq (mx_in32 (lo := 0) rfl (ti64_pred b)), wt_bz01, ite_cg (d := 0 ≤ x.toInt ∧ x.toInt < (σ 101 1).toInt) (by omega)]
theorem mx_isView {F : Nat} {x : Int32} {σ : Mem} : f_X4_isView F x σ = some (if 0 ≤ x.toInt ∧ x.toInt ≤ 7 then 1 else 0, σ) := by
  rw [f_X4_isView_e, wt_bnd_eq (mx_in32 (lo := 0) (hi := 7) rfl rfl), wt_bz01]
theorem mx_isHour {F : Nat} {x : Int32} {σ : Mem} : f_X4_isHour F x σ = some (if 0 ≤ x.toInt ∧ x.toInt ≤ 23 then 1 else 0, σ) := by
  rw [f_X4_isHour_e, wt_bnd_eq (mx_in32 (lo := 0) (hi := 23) rfl rfl), wt_bz01]
theorem mx_wrongNumber {F : Nat} {x a b : Int32} {σ : Mem} : f_X4_wrongNumber F x a b σ = some (if a.toInt ≤ x.toInt then (if x.toInt ≤ b.toInt then 0 else -6) else -4, σ) := by
  rw [f_X4_wrongNumber_e]
  by_cases c1 : a ≤ x
  · rw [if_pos c1, if_pos (ti_le c1)]
    by_cases c2 : x ≤ b
    · rw [if_pos c2, if_pos (ti_le c2)]
    · rw [if_neg c2, if_neg (Int.not_le.mpr (ti_nle c2))]
  · rw [if_neg c1, if_neg (Int.not_le.mpr (ti_nle c1))]
theorem mx_refuse {F : Nat} {x : Int32} {σ : Mem} : pc (f_X4_refuse F x σ) (fun r s => r = x ∧ ∀ k, k ≠ 108 → s k = σ k) := by
  rw [f_X4_refuse_e]
  exact pc_chk (fun _ => pc_lt (fun s2 h2 => pc_ret ⟨rfl, fun k hk => by rw [h2, up2_k hk]⟩))
/-- indices of rows laid in one row -/
theorem tn_24 {x y : Int32} {l k : Nat} (hx : x.toInt = (l : Int)) (hy : y.toInt = (k : Int)) (hl : l < 5) (hk : k < 24) : (((24 : Int32) * x) + y).toNatClampNeg = 24 * l + k := by
  have e1 : ((24 : Int32) * x).toInt = 24 * (l : Int) := by rw [ti_mul (by rw [tz_24, hx]; omega) (by rw [tz_24, hx]; omega), tz_24, hx]
  have e2 : (((24 : Int32) * x) + y).toInt = 24 * (l : Int) + (k : Int) := by rw [ti_add (by rw [e1, hy]; omega) (by rw [e1, hy]; omega), e1, hy]
  rw [ti_nat, e2]
  omega
theorem tn_8 {x y : Int32} {l k : Nat} (hx : x.toInt = (l : Int)) (hy : y.toInt = (k : Int)) (hl : l < 5) (hk : k < 8) : (((8 : Int32) * x) + y).toNatClampNeg = 8 * l + k := by
  have e1 : ((8 : Int32) * x).toInt = 8 * (l : Int) := by rw [ti_mul (by rw [tz_8, hx]; omega) (by rw [tz_8, hx]; omega), tz_8, hx]
  have e2 : (((8 : Int32) * x) + y).toInt = 8 * (l : Int) + (k : Int) := by rw [ti_add (by rw [e1, hy]; omega) (by rw [e1, hy]; omega), e1, hy]
  rw [ti_nat, e2]
  omega
theorem mx_stand_3 {F : Nat} {x1 x3 x4 : Int32} {l b : Nat} (hx4 : x4.toInt = 9 ∨ 0 ≤ x4.toInt) (hl : x1.toInt = (l : Int)) (hl5 : l < 5) (hb : x3.toInt = (b : Int)) (hb24 : b < 24) : ∀ (N k : Nat) (x5 : Int32) (σ : Mem), x5.toInt = (k : Int) → k ≤ b + 1 → pc (lp_X4_stand_3 F x1 x3 x4 N x5 σ) (fun _ s => (∀ p, p < 188 → wvM s p = aStand (wvM σ) l k b x4 p) ∧ (∀ j, j ≠ 106 → s j = σ j) ∧ ∀ i, ¬ (24 * l + k ≤ i ∧ i ≤ 24 * l + b) → s 106 i = σ 106 i) := by
  intro N
  induction N with
  | zero => intro k x5 σ h1 h2; exact pc_none rfl
  | succ N ih =>
    intro k x5 σ h1 h2
    rw [lp_X4_stand_3_s]
    simp only [j_X4_stand_34_e]
    refine pc_ite (fun c => ?_) (fun c => ?_)
    · have d := ti_lt c
      refine pc_ret ⟨fun p hp => ?_, fun _ _ => rfl, fun _ _ => rfl⟩
      unfold aStand
      rw [if_neg (by omega)]
    have d := ti_nlt c
    have ei := tn_24 hl h1 hl5 (by omega)
    have go : ∀ v : Int32, v = wvN x4 → pc (wt_chk ((24 : Int32) * x1 + x5) 120 (wt_lt (up2 σ 106 (Int32.toNatClampNeg ((24 : Int32) * x1 + x5)) v) fun s2 => lp_X4_stand_3 F x1 x3 x4 N (x5 + (1 : Int32)) s2)) (fun _ s => (∀ p, p < 188 → wvM s p = aStand (wvM σ) l k b x4 p) ∧ (∀ j, j ≠ 106 → s j = σ j) ∧ ∀ i, ¬ (24 * l + k ≤ i ∧ i ≤ 24 * l + b) → s 106 i = σ 106 i) := fun v hv => by
      refine pc_chk (fun _ => pc_lt (fun s2 h2' => ?_))
      rw [ei, hv] at h2'
      refine pc_mono (ih (k + 1) _ s2 (ti_nx h1 (by omega)) (by omega)) (fun r s q => ⟨fun p hp => ?_, fun j hj => by rw [q.2.1 j hj, h2', up2_k hj], fun i hi => by rw [q.2.2 i (by omega), h2', up2_i (by omega)]⟩)
      rw [q.1 p hp]
      have hj := wtJI_106 (24 * l + k) (by omega)
      have e : ∀ p, p < 188 → wvM s2 p = upd (wvM σ) (28 + 24 * l + k) (wvN x4) p := fun p hp => by
        rw [h2', wvM_at (q := 28 + (24 * l + k)) (by omega) hj.1.symm hj.2.symm hp, show 28 + (24 * l + k) = 28 + 24 * l + k by omega]
      unfold aStand
      by_cases e1 : p = 28 + 24 * l + k
      · rw [if_neg (by omega), if_pos (by omega), e p hp, e1, wv_us]
      · by_cases e2 : 28 + 24 * l + k ≤ p ∧ p ≤ 28 + 24 * l + b
        · rw [if_pos (by omega), if_pos e2]
        · rw [if_neg (by omega), if_neg e2, e p hp, wv_un e1]
    refine pc_ite (fun c9 => ?_) (fun c9 => ?_)
    · exact go _ (by unfold wvN; rw [if_pos c9])
    · refine go _ (wvN_o ?_ c9).symm
      rcases hx4 with q | q
      · exact absurd (Int32.toInt_inj.mp (by rw [q]; rfl)) c9
      · exact q
theorem mx_stand {F : Nat} {x1 x2 x3 x4 : Int32} {l a b : Nat} {σ : Mem} (hx4 : x4.toInt = 9 ∨ 0 ≤ x4.toInt) (hl : x1.toInt = (l : Int)) (hl5 : l < 5) (ha : x2.toInt = (a : Int)) (hb : x3.toInt = (b : Int)) (hab : a ≤ b + 1) (hb24 : b < 24) : pc (f_X4_stand F x1 x2 x3 x4 σ) (fun _ s => (∀ p, p < 188 → wvM s p = aStand (wvM σ) l a b x4 p) ∧ (∀ j, j ≠ 106 → s j = σ j) ∧ ∀ i, ¬ (24 * l + a ≤ i ∧ i ≤ 24 * l + b) → s 106 i = σ 106 i) := by
  rw [f_X4_stand_e]
  exact mx_stand_3 hx4 hl hl5 hb hb24 F a x2 σ ha hab
theorem mx_lookerComes_52 {F : Nat} {n : Nat} (hn : n < 5) {y : Int32} (hy : y.toInt = (n : Int)) : ∀ (N k : Nat) (x3 : Int32) (σ : Mem), x3.toInt = (k : Int) → k ≤ 8 → σ 101 3 = y → pc (lp_X4_lookerComes_52 F N x3 σ) (fun _ s => ∀ p, p < 188 → wvM s p = if p = 1 then y + 1 else if 148 + 8 * n + k ≤ p ∧ p < 156 + 8 * n then 0 else wvM σ p) := by
  intro N
  induction N with
  | zero => intro k x3 σ h1 h2 h4; exact pc_none rfl
  | succ N ih =>
    intro k x3 σ h1 h2 h4
    rw [lp_X4_lookerComes_52_s]
    refine pc_ite (fun c => ?_) (fun c => ?_)
    · have d := ti_le c
      rw [tz_8] at d
      refine pc_lt (fun s1 hs => pc_ret (fun p hp => ?_))
      rw [hs, wvM_at (k := 101) (i := 3) (q := 1) (by decide) rfl rfl hp, h4]
      by_cases e : p = 1
      · subst e; rw [wv_us, if_pos rfl]
      · rw [wv_un e, if_neg e, if_neg (by omega)]
    · have d := ti_nle c
      rw [tz_8] at d
      rw [h4]
      have ei := tn_8 hy h1 hn (by omega)
      refine pc_chk (fun _ => pc_lt (fun s4 hs => ?_))
      rw [ei] at hs
      refine pc_mono (ih (k + 1) _ s4 (ti_nx h1 (by omega)) (by omega) (by rw [hs, up2_k (by decide), h4])) (fun r s q => fun p hp => ?_)
      rw [q p hp]
      have hj := wtJI_107 (8 * n + k) (by omega)
      have e : wvM s4 p = upd (wvM σ) (148 + 8 * n + k) 0 p := by
        rw [hs, wvM_at (q := 148 + (8 * n + k)) (by omega) hj.1.symm hj.2.symm hp, show 148 + (8 * n + k) = 148 + 8 * n + k by omega]
      by_cases e0 : p = 1
      · rw [if_pos e0, if_pos e0]
      rw [if_neg e0, if_neg e0]
      by_cases e1 : p = 148 + 8 * n + k
      · rw [if_neg (by omega), if_pos (by omega), e, e1, wv_us]
      · by_cases e2 : 148 + 8 * n + k ≤ p ∧ p < 156 + 8 * n
        · rw [if_pos (by omega), if_pos e2]
        · rw [if_neg (by omega), if_neg e2, e, wv_un e1]
theorem mx_lookerComes_22 {F : Nat} {n : Nat} (hn : n < 5) {y : Int32} (hy : y.toInt = (n : Int)) : ∀ (N k : Nat) (x3 : Int32) (σ : Mem), x3.toInt = (k : Int) → k ≤ 24 → σ 101 3 = y → pc (lp_X4_lookerComes_22 F N x3 σ) (fun _ s => ∀ p, p < 188 → wvM s p = if p = 1 then y + 1 else if 28 + 24 * n + k ≤ p ∧ p < 52 + 24 * n then -9 else if 148 + 8 * n ≤ p ∧ p < 156 + 8 * n then 0 else wvM σ p) := by
  intro N
  induction N with
  | zero => intro k x3 σ h1 h2 h4; exact pc_none rfl
  | succ N ih =>
    intro k x3 σ h1 h2 h4
    rw [lp_X4_lookerComes_22_s]
    refine pc_ite (fun c => ?_) (fun c => ?_)
    · have d := ti_le c
      rw [tz_24] at d
      refine pc_mono (mx_lookerComes_52 hn hy F 0 0 σ rfl (by omega) h4) (fun r s q => fun p hp => ?_)
      rw [q p hp]
      by_cases e : p = 1
      · rw [if_pos e, if_pos e]
      · rw [if_neg e, if_neg e, if_neg (show ¬ (28 + 24 * n + k ≤ p ∧ p < 52 + 24 * n) by omega)]
        rfl
    · have d := ti_nle c
      rw [tz_24] at d
      rw [h4]
      have ei := tn_24 hy h1 hn (by omega)
      refine pc_chk (fun _ => pc_lt (fun s4 hs => ?_))
      rw [ei] at hs
      refine pc_mono (ih (k + 1) _ s4 (ti_nx h1 (by omega)) (by omega) (by rw [hs, up2_k (by decide), h4])) (fun r s q => fun p hp => ?_)
      rw [q p hp]
      have hj := wtJI_106 (24 * n + k) (by omega)
      have e : wvM s4 p = upd (wvM σ) (28 + 24 * n + k) (-9) p := by
        rw [hs, wvM_at (q := 28 + (24 * n + k)) (by omega) hj.1.symm hj.2.symm hp, show 28 + (24 * n + k) = 28 + 24 * n + k by omega]
      by_cases e0 : p = 1
      · rw [if_pos e0, if_pos e0]
      rw [if_neg e0, if_neg e0]
      by_cases e1 : p = 28 + 24 * n + k
      · rw [if_neg (by omega), if_pos (show 28 + 24 * n + k ≤ p ∧ p < 52 + 24 * n by omega), if_neg (by omega), e, e1, wv_us]
      · by_cases e2 : 28 + 24 * n + k ≤ p ∧ p < 52 + 24 * n
        · rw [if_pos (show 28 + 24 * n + (k + 1) ≤ p ∧ p < 52 + 24 * n by omega), if_pos e2]
        · rw [if_neg (show ¬ (28 + 24 * n + (k + 1) ≤ p ∧ p < 52 + 24 * n) by omega), if_neg e2, e, wv_un e1]
theorem mx_lookerComes {F : Nat} {x1 x2 : Int32} {σ : Mem} (b : 0 ≤ (σ 101 3).toInt ∧ (σ 101 3).toInt < 5) : pc (f_X4_lookerComes F x1 x2 σ) (fun _ s => ∀ p, p < 188 → wvM s p = aLooker (wvM σ) x1 x2 p) := by
  rw [f_X4_lookerComes_e]
  have hn : (σ 101 3).toNatClampNeg < 5 := tn_lt b.1 b.2
  have hy : (σ 101 3).toInt = ((σ 101 3).toNatClampNeg : Int) := by rw [ti_nat]; omega
  refine pc_chk (fun _ => pc_lt (fun s9 h9 => ?_))
  have e9 : s9 101 3 = σ 101 3 := by rw [h9, up2_k (by decide)]
  rw [e9]
  refine pc_chk (fun _ => pc_lt (fun s11 h11 => ?_))
  have e11 : s11 101 3 = σ 101 3 := by rw [h11, up2_k (by decide), e9]
  refine pc_mono (mx_lookerComes_22 hn hy F 0 0 s11 rfl (by omega) e11) (fun r s q => fun p hp => ?_)
  rw [q p hp]
  have hj2 := wtJI_104 _ hn
  have hj3 := wtJI_105 _ hn
  have e : wvM s11 p = upd (upd (wvM σ) (18 + 2 * (σ 101 3).toNatClampNeg) x1) (19 + 2 * (σ 101 3).toNatClampNeg) x2 p := by
    rw [h11, wvM_at (q := 18 + 2 * (σ 101 3).toNatClampNeg + 1) (by omega) hj3.1.symm hj3.2.symm hp, show 18 + 2 * (σ 101 3).toNatClampNeg + 1 = 19 + 2 * (σ 101 3).toNatClampNeg by omega]
    refine upd_cg ?_ rfl
    rw [h9, wvM_at (q := 18 + 2 * (σ 101 3).toNatClampNeg) (by omega) hj2.1.symm hj2.2.symm hp]
  unfold aLooker
  show _ = if p = 1 then σ 101 3 + 1 else if p = 18 + 2 * (σ 101 3).toNatClampNeg then x1 else if p = 19 + 2 * (σ 101 3).toNatClampNeg then x2 else if 28 + 24 * (σ 101 3).toNatClampNeg ≤ p ∧ p < 52 + 24 * (σ 101 3).toNatClampNeg then -9 else if 148 + 8 * (σ 101 3).toNatClampNeg ≤ p ∧ p < 156 + 8 * (σ 101 3).toNatClampNeg then 0 else wvM σ p
  by_cases e0 : p = 1
  · rw [if_pos e0, if_pos e0]
  rw [if_neg e0, if_neg e0, e]
  by_cases e1 : p = 18 + 2 * (σ 101 3).toNatClampNeg
  · rw [if_pos e1, if_neg (by omega), if_neg (by omega), wv_un (by omega), e1, wv_us]
  rw [if_neg e1]
  by_cases e2 : p = 19 + 2 * (σ 101 3).toNatClampNeg
  · rw [if_pos e2, if_neg (by omega), if_neg (by omega), e2, wv_us]
  rw [if_neg e2, wv_un e2, wv_un e1]
  rfl
