section
theorem wcid_or (k i : Nat) : wcid k i = k ∨ 1000 ≤ wcid k i := by
  unfold wcid
  split
  · right; omega
  split
  · right; omega
  split
  · right; omega
  split
  · right; omega
  left; rfl
theorem fr_reg {W : Nat → Prop} {τ s : Mem} {j : Nat} (hf : fr W τ s) (h1 : ¬ W j) (h2 : ∀ c, 1000 ≤ c → ¬ W c) : s j = τ j := by
  funext i
  refine hf j i ?_
  rcases wcid_or j i with e | e
  · rw [e]; exact h1
  · exact h2 _ e
theorem ax_undo_75o {F : Nat} (hF : 1000 ≤ F) {x2 x3 : Int32} : ∀ (N : Nat) (x4 : Int32) (σ : Mem), pc (lp_X2_undoLatest_75 F 1 x2 x3 N x4 σ) (fun _ s => ∀ j, ¬ (6 ≤ j ∧ j ≤ 10) → s j = σ j) := by
  intro N
  induction N with
  | zero => intro x4 σ; exact pc_none rfl
  | succ N ih =>
    intro x4 σ
    rw [lp_X2_undoLatest_75_s]
    refine pc_ite (fun c => pc_ret (fun _ _ => rfl)) (fun c => pc_chk (fun _ => pc_chk (fun _ => ?_)))
    refine pc_bnd (pc_pf (fr_X0_post hF wt_h1)) (fun r s4 w => pc_mono (ih _ s4) (fun _ s z j hj => ?_))
    rw [z j hj]
    exact fr_reg w (by unfold wf_4; omega) (fun c hc => by unfold wf_4; omega)
theorem ax_undo_75 {F : Nat} (hF : 1000 ≤ F) {q l : Nat} {x2 x3 : Int32} (hq : x2.toInt = (q : Int)) (hl : x3.toInt = (l : Int)) {P L : Int} {f : Nat → Int32} (hL : (l : Int) < L) (hL5 : L ≤ 5) (hP : P ≤ 6) (hf : ∀ t, t < 24 → (f t).toInt = 9 ∨ (0 ≤ (f t).toInt ∧ (f t).toInt < P)) : ∀ (N k : Nat) (x4 : Int32) (σ : Mem), x4.toInt = (k : Int) → k ≤ 24 → σ (75 + q) = f → (σ 1 0).toInt = P → (σ 1 2).toInt = L → pc (lp_X2_undoLatest_75 F 1 x2 x3 N x4 σ) (fun _ s => (∀ p, p < 188 → wvX 1 s p = if 28 + 24 * l + k ≤ p ∧ p < 52 + 24 * l then wvN (f (p - (28 + 24 * l))) else wvX 1 σ p) ∧ ∀ j, ¬ (6 ≤ j ∧ j ≤ 10) → s j = σ j) := by
  intro N
  induction N with
  | zero => intro k x4 σ h1 h2 h3 h4 h5; exact pc_none rfl
  | succ N ih =>
    intro k x4 σ h1 h2 h3 h4 h5
    rw [lp_X2_undoLatest_75_s]
    refine pc_ite (fun c => pc_ret ⟨fun p hp => ?_, fun _ _ => rfl⟩) (fun c => ?_)
    · have d := ti_le c
      rw [tz_24] at d
      rw [if_neg (by omega)]
    have d := ti_nle c
    rw [tz_24] at d
    refine pc_chk (fun _ => pc_chk (fun _ => ?_))
    rw [tn_int hq, tn_int h1, h3]
    have hk := hf k (by omega)
    refine pc_bnd (pc_and (ax_post (by omega) (by omega)) (pc_pf (fr_X0_post hF wt_h1))) (fun r s4 w => ?_)
    obtain ⟨w1, w2⟩ := w
    have w3 := (w1.1 ⟨⟨by omega, by omega⟩, ⟨by omega, by omega⟩, ⟨by omega, by omega⟩, by omega, by omega⟩).2
    rw [tn_int hl, tn_int h1] at w3
    have o4 : ∀ j, ¬ (6 ≤ j ∧ j ≤ 10) → s4 j = σ j := fun j hj => fr_reg w2 (by unfold wf_4; omega) (fun c hc => by unfold wf_4; omega)
    refine pc_mono (ih (k + 1) _ s4 (ti_nx h1 (by omega)) (by omega) (by rw [o4 _ (by omega), h3]) (by rw [o4 1 (by omega), h4]) (by rw [o4 1 (by omega), h5])) (fun _ s z => ⟨fun p hp => ?_, fun j hj => by rw [z.2 j hj, o4 j hj]⟩)
    rw [z.1 p hp]
    by_cases e1 : p = 28 + 24 * l + k
    · rw [if_neg (by omega), if_pos (by omega), w3 p hp]
      unfold aStand
      rw [if_pos (by omega), show p - (28 + 24 * l) = k by omega]
    · by_cases e2 : 28 + 24 * l + k ≤ p ∧ p < 52 + 24 * l
      · rw [if_pos (by omega), if_pos e2]
      · rw [if_neg (by omega), if_neg e2, w3 p hp]
        unfold aStand
        rw [if_neg (by omega)]
/-- the slot of the latest step -/
def wsLast (σ : Mem) : Nat := ((σ 70 4).toNatClampNeg + ((σ 70 5).toNatClampNeg - 1)) % 8
def wsUndone (σ s : Mem) (q : Nat) : Prop :=
  (σ 71 q = 0 → ∀ l : Nat, (σ 72 q).toInt = (l : Int) → (l : Int) < (σ 1 2).toInt → (∀ t, t < 24 → (σ (75 + q) t).toInt = 9 ∨ (0 ≤ (σ (75 + q) t).toInt ∧ (σ (75 + q) t).toInt < (σ 1 0).toInt)) → ∀ p, p < 188 → wvX 1 s p = if 28 + 24 * l ≤ p ∧ p < 52 + 24 * l then wvN (σ (75 + q) (p - (28 + 24 * l))) else wvX 1 σ p) ∧
  (σ 71 q = 1 → ∀ i : Nat, (σ 72 q).toInt = (i : Int) → (i : Int) < (σ 1 0).toInt → ∀ p, p < 188 → wvX 1 s p = upd (wvX 1 σ) (12 + i) (σ 73 q) p) ∧
  (σ 71 q = 2 → ∀ i : Nat, (σ 72 q).toInt = (i : Int) → i < 8 → 0 ≤ (σ 73 q).toInt → (σ 73 q).toInt ≤ 9 → ∀ p, p < 188 → wvX 1 s p = upd (wvX 1 σ) (4 + i) (σ 73 q) p) ∧
  (σ 71 q = 3 → 0 ≤ (σ 73 q).toInt → (σ 73 q).toInt ≤ 2 → ∀ p, p < 188 → wvX 1 s p = upd (wvX 1 σ) 2 (σ 73 q) p)
theorem ax_undo {F : Nat} (hF : 1000 ≤ F) {σ : Mem} (b0 : 0 ≤ (σ 1 0).toInt ∧ (σ 1 0).toInt ≤ 6) (b2 : 0 ≤ (σ 1 2).toInt ∧ (σ 1 2).toInt ≤ 5) (b4 : 0 ≤ (σ 70 4).toInt ∧ (σ 70 4).toInt ≤ 7) (b5 : 1 ≤ (σ 70 5).toInt ∧ (σ 70 5).toInt ≤ 8) : pc (f_X2_undoLatest F 1 σ) (fun _ s => (s 70 4 = σ 70 4 ∧ (s 70 5).toInt = (σ 70 5).toInt - 1) ∧ wsUndone σ s (wsLast σ)) := by
  rw [f_X2_undoLatest_e]
  refine pc_ite (fun _ => ?_) (fun c => by exfalso; have := ti_nlt c; rw [tz_0] at this; omega)
  refine pc_lt (fun s5 h5 => pc_lt (fun z6 h6 => ?_))
  have e5 : ∀ k, k ≠ 70 → s5 k = σ k := fun k hk => by rw [h5, up2_k hk]
  have e54 : s5 70 4 = σ 70 4 := by rw [h5, up2_i (by decide)]
  have e55 : (s5 70 5).toInt = (σ 70 5).toInt - 1 := by rw [h5, up2_s, ti_sub (by rw [tz_1]; omega) (by rw [tz_1]; omega), tz_1]
  have ez : z6.toInt = (wsLast σ : Int) := by
    have ea : ((s5 70 4) + (s5 70 5)).toInt = (σ 70 4).toInt + ((σ 70 5).toInt - 1) := by rw [ti_add (by rw [e54, e55]; omega) (by rw [e54, e55]; omega), e54, e55]
    rw [h6, ax_mod8 (by omega), ea]
    unfold wsLast
    rw [ti_nat, ti_nat]
    omega
  generalize hq : wsLast σ = q at ez ⊢
  have hq8 : q < 8 := by rw [← hq]; exact Nat.mod_lt _ (by decide)
  refine pc_chk (fun _ => pc_lt (fun z8 h8 => ?_))
  rw [tn_int ez] at h8
  rw [tn_int ez, e5 71 (by decide), e5 73 (by decide)]
  rw [e5 72 (by decide)] at h8
  have n70 : ∀ s : Mem, s 70 = s5 70 → s 70 4 = σ 70 4 ∧ (s 70 5).toInt = (σ 70 5).toInt - 1 := fun s e => by rw [e]; exact ⟨e54, e55⟩
  have hX : ∀ p, p < 188 → wvX 1 s5 p = wvX 1 σ p := fun p hp => wvX_eq (fun p hp => by have := wvJ_le p hp; rw [e5 _ (by omega)]) hp
  have e1 : s5 1 = σ 1 := e5 1 (by decide)
  refine pc_ite (fun c => ?_) (fun c0 => ?_)
  · intro a s e
    have z := fun (l : Nat) (hl : (σ 72 q).toInt = (l : Int)) (hlt : (l : Int) < (σ 1 2).toInt) hf => ax_undo_75 hF ez (by rw [h8]; exact hl) (P := (σ 1 0).toInt) (L := (σ 1 2).toInt) (f := σ (75 + q)) hlt b2.2 b0.2 hf F 0 0 s5 rfl (by omega) (e5 _ (by omega)) (by rw [e1]) (by rw [e1]) a s e
    have f70 : s 70 = s5 70 := ax_undo_75o hF F 0 s5 a s e 70 (by omega)
    refine ⟨n70 s f70, ⟨fun _ l hl hlt hf p hp => ?_, fun h => ?_, fun h => ?_, fun h => ?_⟩⟩
    · rw [(z l hl hlt hf).1 p hp, hX p hp]
      rfl
    · rw [c] at h; exact absurd h (by decide)
    · rw [c] at h; exact absurd h (by decide)
    · rw [c] at h; exact absurd h (by decide)
  refine pc_ite (fun c => ?_) (fun c1 => ?_)
  · refine pc_be (ax_isPane (by rw [e1]; omega)) ?_
    rw [e1, h8]
    have nn : ∀ s : Mem, (∀ i : Nat, (σ 72 q).toInt = (i : Int) → (i : Int) < (σ 1 0).toInt → ∀ p, p < 188 → wvX 1 s p = upd (wvX 1 σ) (12 + i) (σ 73 q) p) → wsUndone σ s q := fun s h => ⟨fun h => absurd h c0, fun _ => h, fun h => by rw [c] at h; exact absurd h (by decide), fun h => by rw [c] at h; exact absurd h (by decide)⟩
    by_cases cp : 0 ≤ (σ 72 q).toInt ∧ (σ 72 q).toInt < (σ 1 0).toInt
    · rw [if_pos cp, if_neg (by decide)]
      refine pc_chk (fun v => pc_lt (fun s13 h13 => pc_ret ⟨n70 _ (by rw [h13, up2_k (by decide)]), nn _ (fun i hi _ p hp => ?_)⟩))
      have hj := wvJI_1 i (by omega)
      rw [h13, wvX_at (q := 12 + i) (by omega) (by omega) (by rw [tn_int hi]; exact hj.2) hp, wvE_o (Or.inl (by omega)), e5 73 (by decide)]
      exact upd_cg (hX p hp) rfl
    · rw [if_neg cp, if_pos rfl]
      exact pc_ret ⟨n70 _ rfl, nn _ (fun i hi hlt => by exfalso; omega)⟩
  refine pc_ite (fun c => ?_) (fun c2 => ?_)
  · refine pc_bnd (pc_and ax_price (pc_pf (fr_X0_price hF wt_h1))) (fun r s w => pc_ret ⟨n70 _ (fr_reg w.2 (by unfold wf_6; omega) (fun c hc => by unfold wf_6; omega)), ?_⟩)
    refine ⟨fun h => absurd h c0, fun h => absurd h c1, fun _ i hi hlt h0 h9 p hp => ?_, fun h => by rw [c] at h; exact absurd h (by decide)⟩
    rw [h8] at w
    rw [(w.1.1 ⟨by omega, by omega, h0, h9⟩).2 p hp]
    unfold aWorth
    rw [tn_int hi]
    exact upd_cg (hX p hp) rfl
  · refine pc_bnd (pc_and ax_rule (pc_pf (fr_X0_rule hF wt_h1))) (fun r s w => pc_ret ⟨n70 _ (fr_reg w.2 (by unfold wf_7; omega) (fun c hc => by unfold wf_7; omega)), ?_⟩)
    refine ⟨fun h => absurd h c0, fun h => absurd h c1, fun h => absurd h c2, fun _ h0 h2 p hp => ?_⟩
    rw [(w.1.1 ⟨h0, h2⟩).2 p hp]
    unfold aLaw
    exact upd_cg (hX p hp) rfl
end
section
/-! the reference's changes of its house -/
theorem mx_in {F : Nat} {y0 y2 y4 : Int64} {σ : Mem} : f_X4_in F y0 y2 y4 σ = some (if y2.toInt ≤ y0.toInt ∧ y0.toInt ≤ y4.toInt then 1 else 0, σ) := by
  rw [f_X4_in_e]
  simp only [j_X4_in_17_e]
  by_cases c1 : lg_cmp y0 y2 < 0
  · have d := lg_ltl c1
    rw [if_pos c1, if_neg (by omega)]
  · have d := lg_ltln c1
    rw [if_neg c1]
    by_cases c2 : 0 < lg_cmp y0 y4
    · have e := lg_ltr c2
      rw [if_pos c2, if_neg (by omega)]
    · have e := lg_ltrn c2
      rw [if_neg c2, if_pos ⟨d, e⟩]
theorem mx_in32 {F : Nat} {x : Int32} {a b : Int64} {lo hi : Int} {σ : Mem} (h1 : a.toInt = lo) (h2 : b.toInt = hi) : f_X4_in F (Int32.toInt64 x) a b σ = some (if lo ≤ x.toInt ∧ x.toInt ≤ hi then 1 else 0, σ) := by
  rw [mx_in, Int32.toInt_toInt64, h1, h2]
theorem wt_bz01 {β : Type} {c : Prop} [Decidable c] {K : Option (β × Mem)} : wt_bz (if c then (1 : Int32) else 0) K = K := by
  unfold wt_bz
  by_cases h : c
  · rw [if_pos h, if_pos (Or.inr rfl)]
  · rw [if_neg h, if_pos (Or.inl rfl)]
theorem wt_bnd_eq {α β : Type} {o : Option (α × Mem)} {a : α} {s : Mem} {K : α → Mem → Option β} (h : o = some (a, s)) : wt_bnd o K = K a s := by rw [h]; rfl
theorem ite_cg {c d : Prop} [Decidable c] [Decidable d] (h : c ↔ d) : (if c then (1 : Int32) else 0) = if d then 1 else 0 := by
  by_cases q : c
  · rw [if_pos q, if_pos (h.mp q)]
  · rw [if_neg q, if_neg (fun r => q (h.mpr r))]
theorem ti_pred {x : Int32} (h : 0 ≤ x.toInt) : (x - (1 : Int32)).toInt = x.toInt - 1 := by
  have := ti_hi x
  rw [ti_sub (by rw [tz_1]; omega) (by rw [tz_1]; omega), tz_1]
theorem ti64_pred {x : Int32} (h : 0 ≤ x.toInt) : (Int32.toInt64 (x - (1 : Int32))).toInt = x.toInt - 1 := by rw [Int32.toInt_toInt64, ti_pred h]
theorem mx_isLooker {F : Nat} {x : Int32} {σ : Mem} (b : 0 ≤ (σ 101 3).toInt) : f_X4_isLooker F x σ = some (if 0 ≤ x.toInt ∧ x.toInt < (σ 101 3).toInt then 1 else 0, σ) := by
  rw [f_X4_isLooker_e, wt_bnd_eq (mx_in32 (lo := 0) rfl (ti64_pred b)), wt_bz01, ite_cg (d := 0 ≤ x.toInt ∧ x.toInt < (σ 101 3).toInt) (by omega)]
theorem mx_isPane {F : Nat} {x : Int32} {σ : Mem} (b : 0 ≤ (σ 101 1).toInt) : f_X4_isPane F x σ = some (if 0 ≤ x.toInt ∧ x.toInt < (σ 101 1).toInt then 1 else 0, σ) := by
  rw [f_X4_isPane_e, wt_bnd_eq (mx_in32 (lo := 0) rfl (ti64_pred b)), wt_bz01, ite_cg (d := 0 ≤ x.toInt ∧ x.toInt < (σ 101 1).toInt) (by omega)]
theorem mx_isView {F : Nat} {x : Int32} {σ : Mem} : f_X4_isView F x σ = some (if 0 ≤ x.toInt ∧ x.toInt ≤ 7 then 1 else 0, σ) := by
  rw [f_X4_isView_e, wt_bnd_eq (mx_in32 (lo := 0) (hi := 7) rfl rfl), wt_bz01]
theorem mx_isHour {F : Nat} {x : Int32} {σ : Mem} : f_X4_isHour F x σ = some (if 0 ≤ x.toInt ∧ x.toInt ≤ 23 then 1 else 0, σ) := by
  rw [f_X4_isHour_e, wt_bnd_eq (mx_in32 (lo := 0) (hi := 23) rfl rfl), wt_bz01]
theorem mx_wrongNumber {F : Nat} {x a b : Int32} {σ : Mem} : f_X4_wrongNumber F x a b σ = some (if a.toInt ≤ x.toInt then (if x.toInt ≤ b.toInt then 0 else -6) else -4, σ) := by
  rw [f_X4_wrongNumber_e]
  by_cases c1 : a ≤ x
  · rw [if_pos c1, if_pos (ti_le c1)]
    by_cases c2 : x ≤ b
    · rw [if_pos c2, if_pos (ti_le c2)]
    · rw [if_neg c2, if_neg (Int.not_le.mpr (ti_nle c2))]
  · rw [if_neg c1, if_neg (Int.not_le.mpr (ti_nle c1))]
theorem mx_refuse {F : Nat} {x : Int32} {σ : Mem} : pc (f_X4_refuse F x σ) (fun r s => r = x ∧ ∀ k, k ≠ 108 → s k = σ k) := by
  rw [f_X4_refuse_e]
  exact pc_chk (fun _ => pc_lt (fun s2 h2 => pc_ret ⟨rfl, fun k hk => by rw [h2, up2_k hk]⟩))
/-- indices of rows laid in one row -/
theorem tn_24 {x y : Int32} {l k : Nat} (hx : x.toInt = (l : Int)) (hy : y.toInt = (k : Int)) (hl : l < 5) (hk : k < 24) : (((24 : Int32) * x) + y).toNatClampNeg = 24 * l + k := by
  have e1 : ((24 : Int32) * x).toInt = 24 * (l : Int) := by rw [ti_mul (by rw [tz_24, hx]; omega) (by rw [tz_24, hx]; omega), tz_24, hx]
  have e2 : (((24 : Int32) * x) + y).toInt = 24 * (l : Int) + (k : Int) := by rw [ti_add (by rw [e1, hy]; omega) (by rw [e1, hy]; omega), e1, hy]
  rw [ti_nat, e2]
  omega
theorem tn_8 {x y : Int32} {l k : Nat} (hx : x.toInt = (l : Int)) (hy : y.toInt = (k : Int)) (hl : l < 5) (hk : k < 8) : (((8 : Int32) * x) + y).toNatClampNeg = 8 * l + k := by
  have e1 : ((8 : Int32) * x).toInt = 8 * (l : Int) := by rw [ti_mul (by rw [tz_8, hx]; omega) (by rw [tz_8, hx]; omega), tz_8, hx]
  have e2 : (((8 : Int32) * x) + y).toInt = 8 * (l : Int) + (k : Int) := by rw [ti_add (by rw [e1, hy]; omega) (by rw [e1, hy]; omega), e1, hy]
  rw [ti_nat, e2]
  omega
theorem mx_stand_3 {F : Nat} {x1 x3 x4 : Int32} {l b : Nat} (hx4 : x4.toInt = 9 ∨ 0 ≤ x4.toInt) (hl : x1.toInt = (l : Int)) (hl5 : l < 5) (hb : x3.toInt = (b : Int)) (hb24 : b < 24) : ∀ (N k : Nat) (x5 : Int32) (σ : Mem), x5.toInt = (k : Int) → k ≤ b + 1 → pc (lp_X4_stand_3 F x1 x3 x4 N x5 σ) (fun _ s => (∀ p, p < 188 → wvM s p = aStand (wvM σ) l k b x4 p) ∧ (∀ j, j ≠ 106 → s j = σ j) ∧ ∀ i, ¬ (24 * l + k ≤ i ∧ i ≤ 24 * l + b) → s 106 i = σ 106 i) := by
  intro N
  induction N with
  | zero => intro k x5 σ h1 h2; exact pc_none rfl
  | succ N ih =>
    intro k x5 σ h1 h2
    rw [lp_X4_stand_3_s]
    simp only [j_X4_stand_34_e]
    refine pc_ite (fun c => ?_) (fun c => ?_)
    · have d := ti_lt c
      refine pc_ret ⟨fun p hp => ?_, fun _ _ => rfl, fun _ _ => rfl⟩
      unfold aStand
      rw [if_neg (by omega)]
    have d := ti_nlt c
    have ei := tn_24 hl h1 hl5 (by omega)
    have go : ∀ v : Int32, v = wvN x4 → pc (wt_chk ((24 : Int32) * x1 + x5) 120 (wt_lt (up2 σ 106 (Int32.toNatClampNeg ((24 : Int32) * x1 + x5)) v) fun s2 => lp_X4_stand_3 F x1 x3 x4 N (x5 + (1 : Int32)) s2)) (fun _ s => (∀ p, p < 188 → wvM s p = aStand (wvM σ) l k b x4 p) ∧ (∀ j, j ≠ 106 → s j = σ j) ∧ ∀ i, ¬ (24 * l + k ≤ i ∧ i ≤ 24 * l + b) → s 106 i = σ 106 i) := fun v hv => by
      refine pc_chk (fun _ => pc_lt (fun s2 h2' => ?_))
      rw [ei, hv] at h2'
      refine pc_mono (ih (k + 1) _ s2 (ti_nx h1 (by omega)) (by omega)) (fun r s q => ⟨fun p hp => ?_, fun j hj => by rw [q.2.1 j hj, h2', up2_k hj], fun i hi => by rw [q.2.2 i (by omega), h2', up2_i (by omega)]⟩)
      rw [q.1 p hp]
      have hj := wtJI_106 (24 * l + k) (by omega)
      have e : ∀ p, p < 188 → wvM s2 p = upd (wvM σ) (28 + 24 * l + k) (wvN x4) p := fun p hp => by
        rw [h2', wvM_at (q := 28 + (24 * l + k)) (by omega) hj.1.symm hj.2.symm hp, show 28 + (24 * l + k) = 28 + 24 * l + k by omega]
      unfold aStand
      by_cases e1 : p = 28 + 24 * l + k
      · rw [if_neg (by omega), if_pos (by omega), e p hp, e1, wv_us]
      · by_cases e2 : 28 + 24 * l + k ≤ p ∧ p ≤ 28 + 24 * l + b
        · rw [if_pos (by omega), if_pos e2]
        · rw [if_neg (by omega), if_neg e2, e p hp, wv_un e1]
    refine pc_ite (fun c9 => ?_) (fun c9 => ?_)
    · exact go _ (by unfold wvN; rw [if_pos c9])
    · refine go _ (wvN_o ?_ c9).symm
      rcases hx4 with q | q
      · exact absurd (Int32.toInt_inj.mp (by rw [q]; rfl)) c9
      · exact q
theorem mx_stand {F : Nat} {x1 x2 x3 x4 : Int32} {l a b : Nat} {σ : Mem} (hx4 : x4.toInt = 9 ∨ 0 ≤ x4.toInt) (hl : x1.toInt = (l : Int)) (hl5 : l < 5) (ha : x2.toInt = (a : Int)) (hb : x3.toInt = (b : Int)) (hab : a ≤ b + 1) (hb24 : b < 24) : pc (f_X4_stand F x1 x2 x3 x4 σ) (fun _ s => (∀ p, p < 188 → wvM s p = aStand (wvM σ) l a b x4 p) ∧ (∀ j, j ≠ 106 → s j = σ j) ∧ ∀ i, ¬ (24 * l + a ≤ i ∧ i ≤ 24 * l + b) → s 106 i = σ 106 i) := by
  rw [f_X4_stand_e]
  exact mx_stand_3 hx4 hl hl5 hb hb24 F a x2 σ ha hab
theorem mx_lookerComes_52 {F : Nat} {n : Nat} (hn : n < 5) {y : Int32} (hy : y.toInt = (n : Int)) : ∀ (N k : Nat) (x3 : Int32) (σ : Mem), x3.toInt = (k : Int) → k ≤ 8 → σ 101 3 = y → pc (lp_X4_lookerComes_52 F N x3 σ) (fun _ s => ∀ p, p < 188 → wvM s p = if p = 1 then y + 1 else if 148 + 8 * n + k ≤ p ∧ p < 156 + 8 * n then 0 else wvM σ p) := by
  intro N
  induction N with
  | zero => intro k x3 σ h1 h2 h4; exact pc_none rfl
  | succ N ih =>
    intro k x3 σ h1 h2 h4
    rw [lp_X4_lookerComes_52_s]
    refine pc_ite (fun c => ?_) (fun c => ?_)
    · have d := ti_le c
      rw [tz_8] at d
      refine pc_lt (fun s1 hs => pc_ret (fun p hp => ?_))
      rw [hs, wvM_at (k := 101) (i := 3) (q := 1) (by decide) rfl rfl hp, h4]
      by_cases e : p = 1
      · subst e; rw [wv_us, if_pos rfl]
      · rw [wv_un e, if_neg e, if_neg (by omega)]
    · have d := ti_nle c
      rw [tz_8] at d
      rw [h4]
      have ei := tn_8 hy h1 hn (by omega)
      refine pc_chk (fun _ => pc_lt (fun s4 hs => ?_))
      rw [ei] at hs
      refine pc_mono (ih (k + 1) _ s4 (ti_nx h1 (by omega)) (by omega) (by rw [hs, up2_k (by decide), h4])) (fun r s q => fun p hp => ?_)
      rw [q p hp]
      have hj := wtJI_107 (8 * n + k) (by omega)
      have e : wvM s4 p = upd (wvM σ) (148 + 8 * n + k) 0 p := by
        rw [hs, wvM_at (q := 148 + (8 * n + k)) (by omega) hj.1.symm hj.2.symm hp, show 148 + (8 * n + k) = 148 + 8 * n + k by omega]
      by_cases e0 : p = 1
      · rw [if_pos e0, if_pos e0]
      rw [if_neg e0, if_neg e0]
      by_cases e1 : p = 148 + 8 * n + k
      · rw [if_neg (by omega), if_pos (by omega), e, e1, wv_us]
      · by_cases e2 : 148 + 8 * n + k ≤ p ∧ p < 156 + 8 * n
        · rw [if_pos (by omega), if_pos e2]
        · rw [if_neg (by omega), if_neg e2, e, wv_un e1]
theorem mx_lookerComes_22 {F : Nat} {n : Nat} (hn : n < 5) {y : Int32} (hy : y.toInt = (n : Int)) : ∀ (N k : Nat) (x3 : Int32) (σ : Mem), x3.toInt = (k : Int) → k ≤ 24 → σ 101 3 = y → pc (lp_X4_lookerComes_22 F N x3 σ) (fun _ s => ∀ p, p < 188 → wvM s p = if p = 1 then y + 1 else if 28 + 24 * n + k ≤ p ∧ p < 52 + 24 * n then -9 else if 148 + 8 * n ≤ p ∧ p < 156 + 8 * n then 0 else wvM σ p) := by
  intro N
  induction N with
  | zero => intro k x3 σ h1 h2 h4; exact pc_none rfl
  | succ N ih =>
    intro k x3 σ h1 h2 h4
    rw [lp_X4_lookerComes_22_s]
    refine pc_ite (fun c => ?_) (fun c => ?_)
    · have d := ti_le c
      rw [tz_24] at d
      refine pc_mono (mx_lookerComes_52 hn hy F 0 0 σ rfl (by omega) h4) (fun r s q => fun p hp => ?_)
      rw [q p hp]
      by_cases e : p = 1
      · rw [if_pos e, if_pos e]
      · rw [if_neg e, if_neg e, if_neg (show ¬ (28 + 24 * n + k ≤ p ∧ p < 52 + 24 * n) by omega)]
        rfl
    · have d := ti_nle c
      rw [tz_24] at d
      rw [h4]
      have ei := tn_24 hy h1 hn (by omega)
      refine pc_chk (fun _ => pc_lt (fun s4 hs => ?_))
      rw [ei] at hs
      refine pc_mono (ih (k + 1) _ s4 (ti_nx h1 (by omega)) (by omega) (by rw [hs, up2_k (by decide), h4])) (fun r s q => fun p hp => ?_)
      rw [q p hp]
      have hj := wtJI_106 (24 * n + k) (by omega)
      have e : wvM s4 p = upd (wvM σ) (28 + 24 * n + k) (-9) p := by
        rw [hs, wvM_at (q := 28 + (24 * n + k)) (by omega) hj.1.symm hj.2.symm hp, show 28 + (24 * n + k) = 28 + 24 * n + k by omega]
      by_cases e0 : p = 1
      · rw [if_pos e0, if_pos e0]
      rw [if_neg e0, if_neg e0]
      by_cases e1 : p = 28 + 24 * n + k
      · rw [if_neg (by omega), if_pos (show 28 + 24 * n + k ≤ p ∧ p < 52 + 24 * n by omega), if_neg (by omega), e, e1, wv_us]
      · by_cases e2 : 28 + 24 * n + k ≤ p ∧ p < 52 + 24 * n
        · rw [if_pos (show 28 + 24 * n + (k + 1) ≤ p ∧ p < 52 + 24 * n by omega), if_pos e2]
        · rw [if_neg (show ¬ (28 + 24 * n + (k + 1) ≤ p ∧ p < 52 + 24 * n) by omega), if_neg e2, e, wv_un e1]
theorem mx_lookerComes {F : Nat} {x1 x2 : Int32} {σ : Mem} (b : 0 ≤ (σ 101 3).toInt ∧ (σ 101 3).toInt < 5) : pc (f_X4_lookerComes F x1 x2 σ) (fun _ s => ∀ p, p < 188 → wvM s p = aLooker (wvM σ) x1 x2 p) := by
  rw [f_X4_lookerComes_e]
  have hn : (σ 101 3).toNatClampNeg < 5 := tn_lt b.1 b.2
  have hy : (σ 101 3).toInt = ((σ 101 3).toNatClampNeg : Int) := by rw [ti_nat]; omega
  refine pc_chk (fun _ => pc_lt (fun s9 h9 => ?_))
  have e9 : s9 101 3 = σ 101 3 := by rw [h9, up2_k (by decide)]
  rw [e9]
  refine pc_chk (fun _ => pc_lt (fun s11 h11 => ?_))
  have e11 : s11 101 3 = σ 101 3 := by rw [h11, up2_k (by decide), e9]
  refine pc_mono (mx_lookerComes_22 hn hy F 0 0 s11 rfl (by omega) e11) (fun r s q => fun p hp => ?_)
  rw [q p hp]
  have hj2 := wtJI_104 _ hn
  have hj3 := wtJI_105 _ hn
  have e : wvM s11 p = upd (upd (wvM σ) (18 + 2 * (σ 101 3).toNatClampNeg) x1) (19 + 2 * (σ 101 3).toNatClampNeg) x2 p := by
    rw [h11, wvM_at (q := 18 + 2 * (σ 101 3).toNatClampNeg + 1) (by omega) hj3.1.symm hj3.2.symm hp, show 18 + 2 * (σ 101 3).toNatClampNeg + 1 = 19 + 2 * (σ 101 3).toNatClampNeg by omega]
    refine upd_cg ?_ rfl
    rw [h9, wvM_at (q := 18 + 2 * (σ 101 3).toNatClampNeg) (by omega) hj2.1.symm hj2.2.symm hp]
  unfold aLooker
  show _ = if p = 1 then σ 101 3 + 1 else if p = 18 + 2 * (σ 101 3).toNatClampNeg then x1 else if p = 19 + 2 * (σ 101 3).toNatClampNeg then x2 else if 28 + 24 * (σ 101 3).toNatClampNeg ≤ p ∧ p < 52 + 24 * (σ 101 3).toNatClampNeg then -9 else if 148 + 8 * (σ 101 3).toNatClampNeg ≤ p ∧ p < 156 + 8 * (σ 101 3).toNatClampNeg then 0 else wvM σ p
  by_cases e0 : p = 1
  · rw [if_pos e0, if_pos e0]
  rw [if_neg e0, if_neg e0, e]
  by_cases e1 : p = 18 + 2 * (σ 101 3).toNatClampNeg
  · rw [if_pos e1, if_neg (by omega), if_neg (by omega), wv_un (by omega), e1, wv_us]
  rw [if_neg e1]
  by_cases e2 : p = 19 + 2 * (σ 101 3).toNatClampNeg
  · rw [if_pos e2, if_neg (by omega), if_neg (by omega), e2, wv_us]
  rw [if_neg e2, wv_un e2, wv_un e1]
  rfl
end
section
/-! the same on the reference's side -/
def vM (V : Nat → Int32) (s : Mem) : Prop := wvV V ∧ ∀ p, p < 188 → wvM s p = V p
theorem vM_106 {V : Nat → Int32} {s : Mem} (h : vM V s) {i : Nat} (hi : i < 120) : s 106 i = V (28 + i) := by
  have e := h.2 (28 + i) (by omega)
  have hj := wtJI_106 i hi
  unfold wvM at e
  rw [hj.1, hj.2] at e
  exact e
theorem vM_103 {V : Nat → Int32} {s : Mem} (h : vM V s) {i : Nat} (hi : i < 6) : s 103 i = V (12 + i) := by
  have e := h.2 (12 + i) (by omega)
  have hj := wtJI_103 i hi
  unfold wvM at e
  rw [hj.1, hj.2] at e
  exact e
theorem vM_102 {V : Nat → Int32} {s : Mem} (h : vM V s) {i : Nat} (hi : i < 8) : s 102 i = V (4 + i) := by
  have e := h.2 (4 + i) (by omega)
  have hj := wtJI_102 i hi
  unfold wvM at e
  rw [hj.1, hj.2] at e
  exact e
theorem vM_104 {V : Nat → Int32} {s : Mem} (h : vM V s) {i : Nat} (hi : i < 5) : s 104 i = V (18 + 2 * i) := by
  have e := h.2 (18 + 2 * i) (by omega)
  have hj := wtJI_104 i hi
  unfold wvM at e
  rw [hj.1, hj.2] at e
  exact e
theorem vM_105 {V : Nat → Int32} {s : Mem} (h : vM V s) {i : Nat} (hi : i < 5) : s 105 i = V (19 + 2 * i) := by
  have e := h.2 (18 + 2 * i + 1) (by omega)
  have hj := wtJI_105 i hi
  unfold wvM at e
  rw [hj.1, hj.2, show 18 + 2 * i + 1 = 19 + 2 * i by omega] at e
  exact e
theorem vM_107 {V : Nat → Int32} {s : Mem} (h : vM V s) {i : Nat} (hi : i < 40) : s 107 i = V (148 + i) := by
  have e := h.2 (148 + i) (by omega)
  have hj := wtJI_107 i hi
  unfold wvM at e
  rw [hj.1, hj.2] at e
  exact e
theorem vM_P {V : Nat → Int32} {s : Mem} (h : vM V s) : s 101 1 = V 0 := h.2 0 (by decide)
theorem vM_L {V : Nat → Int32} {s : Mem} (h : vM V s) : s 101 3 = V 1 := h.2 1 (by decide)
theorem vM_W {V : Nat → Int32} {s : Mem} (h : vM V s) : s 101 8 = V 2 := h.2 2 (by decide)
theorem vM_D {V : Nat → Int32} {s : Mem} (h : vM V s) : s 101 9 = V 3 := h.2 3 (by decide)
theorem vM_109 {V : Nat → Int32} {s z : Mem} (h : vM V s) (e : ∀ k, ¬ k = 109 → ¬ k = 110 → z k = s k) : vM V z := ⟨h.1, fun p hp => by
  rw [← h.2 p hp]
  unfold wvM
  have := wtJ_101 p hp
  have h9 : wtJ p ≤ 107 := by unfold wtJ; (repeat' split) <;> omega
  rw [e _ (by omega) (by omega)]⟩
theorem mx_allShown {F : Nat} {s : Mem} {V : Nat → Int32} (h : vM V s) : pc (f_X4_allShown F s) (fun r z => r = aAll V (V 0).toNatClampNeg ∧ z = s) := by
  have n0 := ti_nat (V 0)
  have h6 := h.1.1
  have key : ∀ (N i : Nat) (x1 x2 : Int32), x2.toInt = (i : Int) → (i : Int) ≤ (V 0).toInt → x1 = aAll V i → pc (lp_X4_allShown_4 F N x1 x2 s) (fun r z => r = aAll V (V 0).toNatClampNeg ∧ z = s) := by
    intro N
    induction N with
    | zero => intro i x1 x2 h1 h2 h3; exact pc_none rfl
    | succ N ih =>
      intro i x1 x2 h1 h2 h3
      rw [lp_X4_allShown_4_s, vM_P h]
      refine pc_ite (fun c => ?_) (fun c => pc_chk (fun _ => pc_lt (fun z2 hz => ih (i + 1) _ _ (ti_nx h1 (by omega)) ?_ ?_)))
      · have d := ti_le c
        exact pc_ret ⟨by rw [h3, show i = (V 0).toNatClampNeg by omega], rfl⟩
      · have d := ti_nle c
        omega
      · have d := ti_nle c
        rw [tn_int h1, vM_103 h (by omega)] at hz
        rw [hz, h3]
        rfl
  rw [f_X4_allShown_e]
  exact key F 0 0 0 rfl h6.1 rfl
theorem mx_seesIn {F : Nat} {x1 x2 : Int32} {l t : Nat} {s : Mem} {V : Nat → Int32} (h : vM V s) (hl : x1.toInt = (l : Int)) (ht : x2.toInt = (t : Int)) (hl5 : (l : Int) < (V 1).toInt) (ht24 : t < 24) : pc (f_X4_seesIn F x1 x2 s) (fun r z => r = aSees V l t ∧ z = s) := by
  have h5 := h.1.2.1.2
  rw [f_X4_seesIn_e, tn_int hl, tn_24 hl ht (by omega) ht24, vM_106 h (by omega), vM_104 h (by omega), show 28 + (24 * l + t) = 28 + 24 * l + t by omega]
  unfold aSees
  refine pc_chk (fun _ => pc_lt (fun z2 hz => pc_chk (fun _ => pc_ite (fun c => pc_bnd (mx_allShown h) (fun r z q => pc_ret ?_)) (fun c => ?_))))
  · rw [if_pos c]; exact q
  · rw [if_neg c]
    rw [hz]
    refine pc_ite (fun c0 => pc_chk (fun w => pc_ret ⟨?_, rfl⟩)) (fun c0 => pc_ret ⟨?_, rfl⟩)
    · have d := ti_le c0
      rw [tz_0] at d
      have hn : ¬ (V (28 + 24 * l + t)).toInt < 0 := by omega
      rw [if_neg hn]
      exact vM_103 h w.2.2
    · have d := ti_nle c0
      rw [tz_0] at d
      rw [if_pos d]
theorem mx_pullOf {F : Nat} {x1 x2 : Int32} {l : Nat} {s : Mem} {V : Nat → Int32} (h : vM V s) (hl : x1.toInt = (l : Int)) (hl5 : (l : Int) < (V 1).toInt) : pc (f_X4_pullOf F x1 x2 s) (fun r z => r = aPull V l x2 ∧ z = s) := by
  have h5 := h.1.2.1.2
  have hk := (h.1.2.2.2.2.2.1 l hl5).1
  have key : ∀ t0, t0 = aInv x2 → pc (j_X4_pullOf_19 F x1 x2 t0 s) (fun r z => r = aPull V l x2 ∧ z = s) := fun t0 h0 => by
    rw [j_X4_pullOf_19_e, tn_int hl, vM_104 h (by omega), vM_105 h (by omega)]
    unfold aPull
    refine pc_chk (fun _ => pc_lt (fun z2 hz => ?_))
    have hz' : z2 = V (19 + 2 * l) / 3 + aInv x2 := by rw [hz, h0, Int32.add_comm]
    refine pc_ite (fun c => pc_ret ⟨?_, rfl⟩) (fun c1 => ?_)
    · rw [c, if_neg (by decide), if_pos rfl]; exact h0
    refine pc_ite (fun c => ?_) (fun c2 => ?_)
    · rw [if_neg (show ¬ V (18 + 2 * l) = 0 by rw [c]; decide), if_neg c1, if_pos c]
      exact pc_ite (fun d => pc_ret ⟨by rw [if_pos d], rfl⟩) (fun d => pc_ret ⟨by rw [if_neg d], rfl⟩)
    refine pc_ite (fun c => ?_) (fun c3 => ?_)
    · rw [if_neg (show ¬ V (18 + 2 * l) = 0 by rw [c]; decide), if_neg c1, if_neg c2, if_pos c]
      exact pc_ite (fun d => pc_ret ⟨by rw [if_pos d], rfl⟩) (fun d => pc_ret ⟨by rw [if_neg d], rfl⟩)
    refine pc_ite (fun c => pc_ret ⟨?_, rfl⟩) (fun c4 => ?_)
    · rw [if_neg (show ¬ V (18 + 2 * l) = 0 by rw [c]; decide), if_neg c1, if_neg c2, if_neg c3, if_pos c]; exact hz'
    refine pc_ite (fun c => ?_) (fun c5 => pc_ret ⟨?_, rfl⟩)
    · rw [if_neg (show ¬ V (18 + 2 * l) = 0 by rw [c]; decide), if_neg c1, if_neg c2, if_neg c3, if_neg c4, if_pos c]
      refine pc_ite (fun d => pc_ret ⟨by rw [if_pos d, Int32.mul_one]; exact hz', rfl⟩) (fun d => pc_ret ⟨by rw [if_neg d, hz', Int32.mul_comm], rfl⟩)
    · have e : V (18 + 2 * l) = 0 := by
        have k1 := ti_ne c1
        have k2 := ti_ne c2
        have k3 := ti_ne c3
        have k4 := ti_ne c4
        have k5 := ti_ne c5
        rw [tz_1] at k1
        rw [tz_2] at k2
        rw [tz_3] at k3
        rw [tz_4] at k4
        rw [tz_5] at k5
        exact Int32.toInt_inj.mp (by rw [tz_0]; omega)
      rw [if_pos e]
  rw [f_X4_pullOf_e]
  refine pc_be (mx_in32 (lo := 6) (hi := 17) rfl rfl) ?_
  by_cases c : 6 ≤ x2.toInt ∧ x2.toInt ≤ 17
  · rw [if_pos c, if_neg (by decide)]
    refine key 2 ?_
    unfold aInv
    rw [if_neg (fun q => by have := ti_lt q; rw [tz_6] at this; omega), if_neg (fun q => by have := ti_lt q; have e : (17 : Int32).toInt = 17 := rfl; rw [e] at this; omega)]
  · rw [if_neg c, if_pos rfl]
    refine key 1 ?_
    unfold aInv
    by_cases d : x2 < 6
    · rw [if_pos d]
    · have d' := ti_nlt d
      rw [tz_6] at d'
      rw [if_neg d, if_pos (Int32.lt_iff_toInt_lt.mpr (by have e : (17 : Int32).toInt = 17 := rfl; rw [e]; omega))]
theorem mx_bringsOf {F : Nat} {x1 x2 : Int32} {l v : Nat} {s : Mem} {V : Nat → Int32} (h : vM V s) (hl : x1.toInt = (l : Int)) (hv : x2.toInt = (v : Int)) (hl5 : (l : Int) < (V 1).toInt) (hv8 : v < 8) : pc (f_X4_bringsOf F x1 x2 s) (fun r z => r = aGain V l v 24 ∧ z = s) := by
  have ev := io_eq hv (by omega)
  have key : ∀ (N t : Nat) (x3 x4 : Int32), x4.toInt = (t : Int) → t ≤ 24 → x3 = aGain V l v t → pc (lp_X4_bringsOf_5 F x1 x2 N x3 x4 s) (fun r z => r = aGain V l v 24 ∧ z = s) := by
    intro N
    induction N with
    | zero => intro t x3 x4 h1 h2 h3; exact pc_none rfl
    | succ N ih =>
      intro t x3 x4 h1 h2 h3
      rw [lp_X4_bringsOf_5_s]
      simp only [j_X4_bringsOf_38_e]
      refine pc_ite (fun c => ?_) (fun c => pc_bnd (mx_seesIn h hl h1 hl5 ?_) (fun r1 s2 q => ?_))
      · have d := ti_le c
        rw [tz_24] at d
        exact pc_ret ⟨by rw [h3, show t = 24 by omega], rfl⟩
      · have d := ti_nle c
        rw [tz_24] at d
        omega
      have d := ti_nle c
      rw [tz_24] at d
      obtain ⟨q1, q2⟩ := q
      rw [q2, q1, f_X4_hasBit_e, ev]
      have hs : aGain V l v (t + 1) = x3 + (if (aSees V l t >>> (Int32.ofNat v &&& 31)) &&& (1 : Int32) = 1 then aPull V l x4 else 0) := by rw [h3, io_eq h1 (by omega)]; rfl
      by_cases cb : (aSees V l t >>> (Int32.ofNat v &&& 31)) &&& (1 : Int32) = 1
      · rw [if_pos cb] at hs ⊢
        refine pc_be rfl ?_
        rw [if_neg (by decide)]
        refine pc_bnd (mx_pullOf h hl hl5) (fun r5 s6 q5 => ?_)
        rw [q5.2, ← ev]
        exact ih (t + 1) _ _ (ti_nx h1 (by omega)) (by omega) (by rw [hs, q5.1])
      · rw [if_neg cb] at hs ⊢
        refine pc_be rfl ?_
        rw [if_pos rfl, ← ev]
        exact ih (t + 1) _ _ (ti_nx h1 (by omega)) (by omega) (by rw [hs])
  rw [f_X4_bringsOf_e]
  exact key F 0 0 0 rfl (by omega) rfl
/-- what a day brings, laid out -/
def vB (V : Nat → Int32) (s : Mem) : Prop := ∀ m : Nat, (m : Int) < (V 1).toInt → ∀ v, v < 8 → s 109 (8 * m + v) = aGain V m v 24
theorem mx_layBrings {F : Nat} {s : Mem} {V : Nat → Int32} (h : vM V s) : pc (f_X4_layBrings F s) (fun _ z => (∀ k, ¬ k = 109 → z k = s k) ∧ vB V z) := by
  have h5 := h.1.2.1
  have key : ∀ (N l : Nat) (x1 : Int32) (σ : Mem), x1.toInt = (l : Int) → (l : Int) ≤ (V 1).toInt → (∀ k, ¬ k = 109 → σ k = s k) → (∀ m, m < l → ∀ v, v < 8 → σ 109 (8 * m + v) = aGain V m v 24) → pc (lp_X4_layBrings_2 F N x1 σ) (fun _ z => (∀ k, ¬ k = 109 → z k = s k) ∧ vB V z) := by
    intro N
    induction N with
    | zero => intro l x1 σ h1 h2 h3 h4; exact pc_none rfl
    | succ N ih =>
      intro l x1 σ h1 h2 h3 h4
      rw [lp_X4_layBrings_2_s, h3 101 (by decide), vM_L h]
      refine pc_ite (fun c => pc_ret ⟨h3, fun m hm => h4 m ?_⟩) (fun c => ?_)
      · have d := ti_le c
        omega
      have d := ti_nle c
      have inner : ∀ (M j : Nat) (x2 : Int32) (σ : Mem), x2.toInt = (j : Int) → j ≤ 8 → (∀ k, ¬ k = 109 → σ k = s k) → (∀ m v, v < 8 → 8 * m + v < 8 * l + j → σ 109 (8 * m + v) = aGain V m v 24) → pc (lp_X4_layBrings_12 F (lp_X4_layBrings_2 F N) x1 M x2 σ) (fun _ z => (∀ k, ¬ k = 109 → z k = s k) ∧ vB V z) := by
        intro M
        induction M with
        | zero => intro j x2 σ g1 g2 g3 g4; exact pc_none rfl
        | succ M ih2 =>
          intro j x2 σ g1 g2 g3 g4
          rw [lp_X4_layBrings_12_s]
          refine pc_ite (fun c => ih (l + 1) _ σ (ti_nx h1 (by omega)) (by omega) g3 (fun m hm v hv => g4 m v hv ?_)) (fun c => ?_)
          · have e := ti_le c
            rw [tz_8] at e
            omega
          have e := ti_nle c
          rw [tz_8] at e
          refine pc_bnd (mx_bringsOf (vM_109 h (fun k a _ => g3 k a)) h1 g1 (by omega) (by omega)) (fun r1 s2 q => pc_chk (fun _ => pc_lt (fun s4 h4' => ih2 (j + 1) _ _ (ti_nx g1 (by omega)) (by omega) (fun k hk => ?_) (fun m v hv hmv => ?_))))
          · rw [h4', up2_k hk, q.2, g3 k hk]
          · rw [h4', q.2, q.1, tn_8 h1 g1 (by omega) (by omega), wm_key]
            by_cases e3 : 8 * m + v = 8 * l + j
            · have em : m = l := by omega
              have evj : v = j := by omega
              subst em evj
              rw [if_pos ⟨rfl, rfl⟩]
            · rw [if_neg (by rintro ⟨w1, w2⟩; exact e3 w2)]
              exact g4 m v hv (by omega)
      exact inner F 0 0 σ rfl (by omega) h3 (fun m v hv hmv => h4 m (by omega) v hv)
  rw [f_X4_layBrings_e]
  exact key F 0 0 s rfl h5.1 (fun _ _ => rfl) (fun m hm => absurd hm (Nat.not_lt_zero m))
theorem mx_held {F : Nat} {x : Int32} {σ : Mem} : f_X4_held F x σ = some (wt_min 99999 x, σ) := by
  rw [f_X4_held_e]
  unfold wt_min
  by_cases c : x < 99999
  · rw [if_pos c, if_pos (Int32.le_iff_toInt_le.mpr (by have := ti_lt c; omega))]
  · rw [if_neg c]
    by_cases d : x ≤ 99999
    · have e : x = 99999 := Int32.toInt_inj.mp (by have := ti_le d; have := ti_nlt c; omega)
      rw [if_pos d, e]
    · rw [if_neg d]
theorem wtJ_hi : ∀ p, p < 188 → ¬ p < 148 → wtJ p = 107 ∧ wtI p = p - 148 := by decide +kernel
theorem mx_goDays {F : Nat} (hF : 1000 ≤ F) {x : Int32} {s : Mem} (hv : wvV (wvM s)) : pc (f_X4_goDays F x s) (fun _ z => ∀ p, p < 188 → wvM z p = aDay (wvM s) x p) := by
  have h : vM (wvM s) s := ⟨hv, fun _ _ => rfl⟩
  have h5 := hv.2.1
  generalize hV : wvM s = V at *
  have n1 := ti_nat (V 1)
  have e8 : ((8 : Int32) * V 1).toInt = 8 * (V 1).toInt := by rw [ti_mul (by rw [tz_8]; omega) (by rw [tz_8]; omega), tz_8]
  rw [f_X4_goDays_e]
  refine pc_bnd (mx_layBrings h) (fun _ s0 q0 => ?_)
  obtain ⟨q1, q2⟩ := q0
  have h0 : vM V s0 := vM_109 h (fun k a _ => q1 k a)
  have key : ∀ (N i : Nat) (x2 : Int32) (σ : Mem), x2.toInt = (i : Int) → (i : Int) ≤ 8 * (V 1).toInt → (∀ k, ¬ k = 107 → σ k = s0 k) → (∀ j, j < 40 → σ 107 j = if j < i then aBehind V x (j / 8) (j % 8) else s0 107 j) → pc (lp_X4_goDays_6 F x N x2 σ) (fun _ z => ∀ p, p < 188 → wvM z p = aDay V x p) := by
    intro N
    induction N with
    | zero => intro i x2 σ g1 g2 g3 g4; exact pc_none rfl
    | succ N ih =>
      intro i x2 σ g1 g2 g3 g4
      rw [lp_X4_goDays_6_s, g3 101 (by decide), vM_L h0]
      refine pc_ite (fun c => pc_lt (fun s6 h6 => pc_ret (fun p hp => ?_))) (fun c => pc_chk (fun w => pc_be mx_held (pc_lt (fun s5 h5' => ?_))))
      · have d := ti_le c
        rw [e8] at d
        rw [h6, vM_D h0, wvM_at (k := 101) (i := 9) (q := 3) (by decide) rfl rfl hp]
        unfold aDay
        by_cases e3 : p = 3
        · subst e3; rw [wv_us, if_pos rfl]
        rw [wv_un e3, if_neg e3]
        by_cases c1 : p < 148
        · rw [if_neg (by omega), ← h0.2 p hp]
          unfold wvM
          rw [g3 _ (wtJ_no107 p c1)]
        · obtain ⟨j1, j2⟩ := wtJ_hi p hp c1
          unfold wvM
          rw [j1, j2, g4 (p - 148) (by omega)]
          by_cases e4 : (p - 148) / 8 < (V 1).toNatClampNeg
          · rw [if_pos (by omega), if_pos ⟨by omega, hp, e4⟩]
          · rw [if_neg (by omega), if_neg (by rintro ⟨w1, w2, w3⟩; exact e4 w3), vM_107 h0 (by omega), show 148 + (p - 148) = p by omega]
      · have d := ti_nle c
        rw [e8] at d
        rw [tn_int g1, g4 i (by omega), if_neg (Nat.lt_irrefl i), g3 109 (by decide), vM_107 h0 (by omega)] at h5'
        have hb := q2 (i / 8) (by omega) (i % 8) (Nat.mod_lt _ (by decide))
        rw [show 8 * (i / 8) + i % 8 = i by omega] at hb
        rw [hb] at h5'
        have hA : aBehind V x (i / 8) (i % 8) = wt_min 99999 (V (148 + i) + x * aGain V (i / 8) (i % 8) 24) := by
          unfold aBehind
          rw [show 148 + 8 * (i / 8) + i % 8 = 148 + i by omega]
        rw [← hA] at h5'
        refine ih (i + 1) _ _ (ti_nx g1 (by omega)) (by omega) (fun k hk => by rw [h5', up2_k hk, g3 k hk]) (fun j hj => ?_)
        rw [h5']
        by_cases e : j = i
        · subst e; rw [up2_s, if_pos (by omega)]
        · rw [up2_i e, g4 j hj]
          by_cases e3 : j < i
          · rw [if_pos e3, if_pos (by omega)]
          · rw [if_neg e3, if_neg (by omega)]
  exact key F 0 0 s0 rfl (by omega) (fun _ _ => rfl) (fun j hj => by rw [if_neg (Nat.not_lt_zero j)])
end
section
/-! the changes keep 'the same house' and the bounds -/
theorem live_1 {A A' : Nat → Int32} (h : A' 1 = A 1) {p : Nat} (hv : live A' p) : live A p := by
  unfold live at hv ⊢
  rw [h] at hv
  exact hv
theorem weq_aPane {lim : Nat} {A B : Nat → Int32} (h : weq lim A B) (hl : 28 ≤ lim) (x : Int32) : weq lim (aPane A x) (aPane B x) := by
  intro p hp hv
  have e0 : B 0 = A 0 := weq_lo h hl (by decide)
  have hv' : live A p := live_1 (by unfold aPane; rw [wv_un (by decide), wv_un (by omega)]) hv
  unfold aPane
  rw [e0]
  exact upd_cg (upd_cg (h p hp hv') rfl) rfl
theorem weq_aWall {lim : Nat} {A B : Nat → Int32} (h : weq lim A B) (hl : 28 ≤ lim) {x v : Int32} (hx : x.toNatClampNeg < 6) : weq lim (aWall A x v) (aWall B x v) := by
  intro p hp hv
  have hv' : live A p := live_1 (by unfold aWall; rw [wv_un (by omega)]) hv
  unfold aWall
  exact upd_cg (h p hp hv') (by rw [weq_lo h hl (by omega)])
theorem weq_aWorth {lim : Nat} {A B : Nat → Int32} (h : weq lim A B) {v x : Int32} : weq lim (aWorth A v x) (aWorth B v x) := by
  intro p hp hv
  have hv' : live A p := live_1 (by unfold aWorth; rw [wv_un (by omega)]) hv
  unfold aWorth
  exact upd_cg (h p hp hv') rfl
theorem weq_aLaw {lim : Nat} {A B : Nat → Int32} (h : weq lim A B) {x : Int32} : weq lim (aLaw A x) (aLaw B x) := by
  intro p hp hv
  have hv' : live A p := live_1 (by unfold aLaw; rw [wv_un (by decide)]) hv
  unfold aLaw
  exact upd_cg (h p hp hv') rfl
theorem aAll_cg {A B : Nat → Int32} : ∀ n, (∀ i, i < n → B (12 + i) = A (12 + i)) → aAll B n = aAll A n := fun n => by
  induction n with
  | zero => intro _; rfl
  | succ n ih => intro h; show aAll B n ||| _ = aAll A n ||| _; rw [ih (fun i hi => h i (by omega)), h n (by omega)]
/-- what a looker brings hangs on the cells of that looker and the panes -/
theorem aGain_cg {A B : Nat → Int32} {l v : Nat} (h6 : (A 0).toInt ≤ 6) (hc : ∀ t, t < 24 → (A (28 + 24 * l + t)).toInt = -9 ∨ (A (28 + 24 * l + t)).toInt < (A 0).toInt) (hl : l < 5) (e : ∀ p, p < 28 → p ≠ 3 → B p = A p) (eC : ∀ t, t < 24 → B (28 + 24 * l + t) = A (28 + 24 * l + t)) : ∀ t, t ≤ 24 → aGain B l v t = aGain A l v t := fun t => by
  induction t with
  | zero => intro _; rfl
  | succ t ih =>
    intro ht
    have n0 := ti_nat (A 0)
    have nc := ti_nat (A (28 + 24 * l + t))
    have h1 : aPull B l (Int32.ofNat t) = aPull A l (Int32.ofNat t) := by
      unfold aPull
      rw [e (18 + 2 * l) (by omega) (by omega), e (19 + 2 * l) (by omega) (by omega)]
    have h2 : aSees B l t = aSees A l t := by
      unfold aSees
      rw [e (18 + 2 * l) (by omega) (by omega), e 0 (by omega) (by omega), eC t (by omega), aAll_cg _ (fun i hi => e _ (by omega) (by omega))]
      have hb := hc t (by omega)
      by_cases c : (A (28 + 24 * l + t)).toInt < 0
      · rw [if_pos c, if_pos c]
      · rw [if_neg c, if_neg c, e (12 + (A (28 + 24 * l + t)).toNatClampNeg) (by omega) (by omega)]
    show aGain B l v t + _ = aGain A l v t + _
    rw [ih (by omega), h1, h2]
theorem live_c {V : Nat → Int32} {l t : Nat} (h : (l : Int) < (V 1).toInt) (ht : t < 24) (h5 : (V 1).toInt ≤ 5) : live V (28 + 24 * l + t) := by
  have n1 := ti_nat (V 1)
  exact ⟨fun _ _ => by omega, fun _ => by omega⟩
theorem weq_aDay {lim : Nat} {A B : Nat → Int32} (hv : wvV A) (h : weq lim A B) (hl : 148 ≤ lim ∧ lim ≤ 188) {x : Int32} : weq lim (aDay A x) (aDay B x) := by
  intro p hp hv'
  have e1 : ∀ p, p < 28 → B p = A p := fun p hp => weq_lo h (by omega) hp
  have n1 := ti_nat (A 1)
  have l1 : live A p := live_1 (A := A) (A' := aDay A x) (by unfold aDay; rw [if_neg (by decide), if_neg (by omega)]) hv'
  unfold aDay
  rw [e1 1 (by omega), e1 3 (by omega)]
  by_cases c3 : p = 3
  · rw [if_pos c3, if_pos c3]
  · rw [if_neg c3, if_neg c3]
    by_cases c : 148 ≤ p ∧ p < 188 ∧ (p - 148) / 8 < (A 1).toNatClampNeg
    · rw [if_pos c, if_pos c]
      unfold aBehind
      have hq : 148 + 8 * ((p - 148) / 8) + (p - 148) % 8 = p := by omega
      rw [hq, h p hp l1]
      have h5 := hv.2.1.2
      rw [aGain_cg hv.1.2 (fun t ht => (vV_c hv (l := (p - 148) / 8) (t := t) (by omega) ht).imp id (fun q => q.2)) (by omega) (fun p hp _ => e1 p hp) (fun t ht => h _ (by omega) (live_c (by omega) ht h5)) 24 (by omega)]
    · rw [if_neg c, if_neg c]
      exact h p hp l1
theorem weq_aStand {lim : Nat} {A B : Nat → Int32} (h : weq lim A B) {l a b : Nat} {x : Int32} : weq lim (aStand A l a b x) (aStand B l a b x) := by
  intro p hp hv
  have hv' : live A p := live_1 (by unfold aStand; rw [if_neg (by omega)]) hv
  unfold aStand
  by_cases e : 28 + 24 * l + a ≤ p ∧ p ≤ 28 + 24 * l + b
  · rw [if_pos e, if_pos e]
  · rw [if_neg e, if_neg e, h p hp hv']
theorem aLooker_1 {A : Nat → Int32} {k f : Int32} : aLooker A k f 1 = A 1 + 1 := if_pos rfl
theorem weq_aLooker {lim : Nat} {A B : Nat → Int32} (h : weq lim A B) (hl : 28 ≤ lim) {k f : Int32} (b : 0 ≤ (A 1).toInt ∧ (A 1).toInt < 5) : weq lim (aLooker A k f) (aLooker B k f) := by
  intro p hp hv
  have e1 : B 1 = A 1 := weq_lo h hl (by decide)
  have hn : (A 1 + 1).toNatClampNeg = (A 1).toNatClampNeg + 1 := by
    rw [ti_nat, ti_nat, ti_add (by rw [tz_1]; omega) (by rw [tz_1]; omega), tz_1]; omega
  unfold live at hv
  rw [aLooker_1, hn] at hv
  unfold aLooker
  rw [e1]
  by_cases c1 : p = 1
  · rw [if_pos c1, if_pos c1]
  rw [if_neg c1, if_neg c1]
  by_cases c2 : p = 18 + 2 * (A 1).toNatClampNeg
  · rw [if_pos c2, if_pos c2]
  rw [if_neg c2, if_neg c2]
  by_cases c3 : p = 19 + 2 * (A 1).toNatClampNeg
  · rw [if_pos c3, if_pos c3]
  rw [if_neg c3, if_neg c3]
  by_cases c4 : 28 + 24 * (A 1).toNatClampNeg ≤ p ∧ p < 52 + 24 * (A 1).toNatClampNeg
  · rw [if_pos c4, if_pos c4]
  rw [if_neg c4, if_neg c4]
  by_cases c5 : 148 + 8 * (A 1).toNatClampNeg ≤ p ∧ p < 156 + 8 * (A 1).toNatClampNeg
  · rw [if_pos c5, if_pos c5]
  rw [if_neg c5, if_neg c5]
  have hA : (A 1).toNatClampNeg < 5 := tn_lt b.1 b.2
  refine h p hp ⟨fun q1 q2 => ?_, fun q1 => ?_⟩
  · have := hv.1 q1 q2; omega
  · have := hv.2 q1; omega
theorem wvV_aPane {V : Nat → Int32} (h : wvV V) {x : Int32} (hx : (V 0).toInt < 6) : wvV (aPane V x) := by
  obtain ⟨h0, h1, h2, h3, h4, h5, h6⟩ := h
  have hn : (V 0).toNatClampNeg < 6 := tn_lt h0.1 hx
  have e0 : (aPane V x 0).toInt = (V 0).toInt + 1 := by
    unfold aPane; rw [wv_us, ti_add (by rw [tz_1]; omega) (by rw [tz_1]; omega), tz_1]
  have eo : ∀ p, p ≠ 0 → ¬ (12 ≤ p ∧ p < 18) → aPane V x p = V p := fun p a b => by unfold aPane; rw [wv_un a, wv_un (by omega)]
  refine ⟨by omega, by rw [eo 1 (by omega) (by omega)]; exact h1, by rw [eo 2 (by omega) (by omega)]; exact h2, fun p a b => by rw [eo p (by omega) (by omega)]; exact h3 p a b, fun p a b c => ?_, fun l hl => ?_, fun p a b c => by rw [eo p (by omega) (by omega)]; exact h6 p a b (live_1 (eo 1 (by omega) (by omega)) c)⟩
  · rw [eo p (by omega) (by omega), e0]
    have := h4 p a b (live_1 (eo 1 (by omega) (by omega)) c)
    omega
  · rw [eo 1 (by omega) (by omega)] at hl
    rw [eo (18 + 2 * l) (by omega) (by omega), eo (19 + 2 * l) (by omega) (by omega)]
    exact h5 l hl
theorem wvV_aWall {V : Nat → Int32} (h : wvV V) {x v : Int32} (hx : x.toNatClampNeg < 6) : wvV (aWall V x v) := by
  obtain ⟨h0, h1, h2, h3, h4, h5, h6⟩ := h
  have eo : ∀ p, ¬ (12 ≤ p ∧ p < 18) → aWall V x v p = V p := fun p b => by unfold aWall; rw [wv_un (by omega)]
  refine ⟨by rw [eo 0 (by omega)]; exact h0, by rw [eo 1 (by omega)]; exact h1, by rw [eo 2 (by omega)]; exact h2, fun p a b => by rw [eo p (by omega)]; exact h3 p a b, fun p a b c => ?_, fun l hl => by rw [eo 1 (by omega)] at hl; rw [eo (18 + 2 * l) (by omega), eo (19 + 2 * l) (by omega)]; exact h5 l hl, fun p a b c => by rw [eo p (by omega)]; exact h6 p a b (live_1 (eo 1 (by omega)) c)⟩
  rw [eo p (by omega), eo 0 (by omega)]
  exact h4 p a b (live_1 (eo 1 (by omega)) c)
theorem wvV_aWorth {V : Nat → Int32} (h : wvV V) {v x : Int32} (hv : v.toNatClampNeg < 8) (hx : 0 ≤ x.toInt ∧ x.toInt ≤ 9) : wvV (aWorth V v x) := by
  obtain ⟨h0, h1, h2, h3, h4, h5, h6⟩ := h
  have eo : ∀ p, ¬ (4 ≤ p ∧ p < 12) → aWorth V v x p = V p := fun p b => by unfold aWorth; rw [wv_un (by omega)]
  refine ⟨by rw [eo 0 (by omega)]; exact h0, by rw [eo 1 (by omega)]; exact h1, by rw [eo 2 (by omega)]; exact h2, fun p a b => ?_, fun p a b c => ?_, fun l hl => by rw [eo 1 (by omega)] at hl; rw [eo (18 + 2 * l) (by omega), eo (19 + 2 * l) (by omega)]; exact h5 l hl, fun p a b c => by rw [eo p (by omega)]; exact h6 p a b (live_1 (eo 1 (by omega)) c)⟩
  · unfold aWorth
    by_cases e : p = 4 + v.toNatClampNeg
    · subst e; rw [wv_us]; exact hx
    · rw [wv_un e]; exact h3 p a b
  · rw [eo p (by omega), eo 0 (by omega)]
    exact h4 p a b (live_1 (eo 1 (by omega)) c)
theorem wvV_aLaw {V : Nat → Int32} (h : wvV V) {x : Int32} (hx : 0 ≤ x.toInt ∧ x.toInt ≤ 2) : wvV (aLaw V x) := by
  obtain ⟨h0, h1, h2, h3, h4, h5, h6⟩ := h
  have eo : ∀ p, ¬ p = 2 → aLaw V x p = V p := fun p b => by unfold aLaw; rw [wv_un b]
  refine ⟨by rw [eo 0 (by omega)]; exact h0, by rw [eo 1 (by omega)]; exact h1, by unfold aLaw; rw [wv_us]; exact hx, fun p a b => by rw [eo p (by omega)]; exact h3 p a b, fun p a b c => ?_, fun l hl => by rw [eo 1 (by omega)] at hl; rw [eo (18 + 2 * l) (by omega), eo (19 + 2 * l) (by omega)]; exact h5 l hl, fun p a b c => by rw [eo p (by omega)]; exact h6 p a b (live_1 (eo 1 (by omega)) c)⟩
  rw [eo p (by omega), eo 0 (by omega)]
  exact h4 p a b (live_1 (eo 1 (by omega)) c)
theorem wvV_aDay {V : Nat → Int32} (h : wvV V) {x : Int32} (hx : 0 ≤ x.toInt ∧ x.toInt ≤ 9999) : wvV (aDay V x) := by
  have hall := h
  obtain ⟨h0, h1, h2, h3, h4, h5, h6⟩ := h
  have n1 := ti_nat (V 1)
  have eo : ∀ p, p < 148 → ¬ p = 3 → aDay V x p = V p := fun p b c => by unfold aDay; rw [if_neg c, if_neg (by omega)]
  refine ⟨by rw [eo 0 (by omega) (by omega)]; exact h0, by rw [eo 1 (by omega) (by omega)]; exact h1, by rw [eo 2 (by omega) (by omega)]; exact h2, fun p a b => by rw [eo p (by omega) (by omega)]; exact h3 p a b, fun p a b c => ?_, fun l hl => ?_, fun p a b c => ?_⟩
  · rw [eo p (by omega) (by omega), eo 0 (by omega) (by omega)]
    exact h4 p a b (live_1 (eo 1 (by omega) (by omega)) c)
  · rw [eo 1 (by omega) (by omega)] at hl
    rw [eo (18 + 2 * l) (by omega) (by omega), eo (19 + 2 * l) (by omega) (by omega)]
    exact h5 l hl
  · have c' := live_1 (eo 1 (by omega) (by omega)) c
    have hl := c'.2 a
    unfold aDay
    rw [if_neg (by omega), if_pos ⟨a, b, hl⟩]
    exact aBehind_b hall (by omega) (Nat.mod_lt _ (by decide)) hx
theorem wvV_aStand {V : Nat → Int32} (h : wvV V) {l a b : Nat} (hlb : l < 5 ∧ b < 24) {x : Int32} (hx : x.toInt = 9 ∨ (0 ≤ x.toInt ∧ x.toInt < (V 0).toInt)) : wvV (aStand V l a b x) := by
  obtain ⟨h0, h1, h2, h3, h4, h5, h6⟩ := h
  have eo : ∀ p, p < 28 → aStand V l a b x p = V p := fun p b => by unfold aStand; rw [if_neg (by omega)]
  refine ⟨by rw [eo 0 (by omega)]; exact h0, by rw [eo 1 (by omega)]; exact h1, by rw [eo 2 (by omega)]; exact h2, fun p a b => by rw [eo p (by omega)]; exact h3 p a b, fun p a' b' c => ?_, fun l' hl => by rw [eo 1 (by omega)] at hl; rw [eo (18 + 2 * l') (by omega), eo (19 + 2 * l') (by omega)]; exact h5 l' hl, fun p a' b' c => by rw [show aStand V l a b x p = V p by unfold aStand; rw [if_neg (by omega)]]; exact h6 p a' b' (live_1 (eo 1 (by omega)) c)⟩
  rw [eo 0 (by omega)]
  unfold aStand
  by_cases e : 28 + 24 * l + a ≤ p ∧ p ≤ 28 + 24 * l + b
  · rw [if_pos e]
    by_cases e9 : x = 9
    · unfold wvN; rw [if_pos e9]; left; rfl
    · rcases hx with q | q
      · exact absurd (Int32.toInt_inj.mp (by rw [q]; rfl)) e9
      · rw [wvN_o q.1 e9]; right; exact q
  · rw [if_neg e]
    exact h4 p a' b' (live_1 (eo 1 (by omega)) c)
theorem wvV_aPost {V : Nat → Int32} (h : wvV V) {x1 x2 x3 x4 : Int32} (hc : cPost (V 0).toInt (V 1).toInt x1 x2 x3 x4) : wvV (aStand V x1.toNatClampNeg x2.toNatClampNeg x3.toNatClampNeg x4) := wvV_aStand h (by have := hc.1; have := hc.2.2.1; have := h.2.1.2; have a := ti_nat x1; have b := ti_nat x3; omega) hc.2.2.2.2
theorem wvV_weq {V B : Nat → Int32} (h : wvV V) (w : weq 188 V B) : wvV B := by
  have e : ∀ p, p < 28 → B p = V p := fun p hp => weq_lo w (by omega) hp
  obtain ⟨h0, h1, h2, h3, h4, h5, h6⟩ := h
  refine ⟨by rw [e 0 (by decide)]; exact h0, by rw [e 1 (by decide)]; exact h1, by rw [e 2 (by decide)]; exact h2, fun p a b => by rw [e p (by omega)]; exact h3 p a b, fun p a b c => ?_, fun l hl => ?_, fun p a b c => ?_⟩
  · have c' := live_1 (e 1 (by decide)) c
    rw [w p (by omega) c', e 0 (by decide)]
    exact h4 p a b c'
  · rw [e 1 (by decide)] at hl
    rw [e (18 + 2 * l) (by omega), e (19 + 2 * l) (by omega)]
    exact h5 l hl
  · have c' := live_1 (e 1 (by decide)) c
    rw [w p (by omega) c']
    exact h6 p a b c'
theorem aDay_cg {A B : Nat → Int32} (hv : wvV A) (e : ∀ q, q < 188 → B q = A q) {x : Int32} {p : Nat} (hp : p < 188) : aDay B x p = aDay A x p := by
  have n1 := ti_nat (A 1)
  unfold aDay
  rw [e 1 (by omega), e 3 (by omega)]
  by_cases c3 : p = 3
  · rw [if_pos c3, if_pos c3]
  · rw [if_neg c3, if_neg c3]
    by_cases c : 148 ≤ p ∧ p < 188 ∧ (p - 148) / 8 < (A 1).toNatClampNeg
    · rw [if_pos c, if_pos c]
      unfold aBehind
      have hq : 148 + 8 * ((p - 148) / 8) + (p - 148) % 8 = p := by omega
      rw [hq, e p hp]
      rw [aGain_cg hv.1.2 (fun t ht => (vV_c hv (l := (p - 148) / 8) (t := t) (by omega) ht).imp id (fun q => q.2)) (by omega) (fun q hq _ => e q (by omega)) (fun t ht => e _ (by omega)) 24 (by omega)]
    · rw [if_neg c, if_neg c]
      exact e p hp
theorem wvV_aLooker {V : Nat → Int32} (h : wvV V) {k f : Int32} (hk : 0 ≤ k.toInt ∧ k.toInt ≤ 5) (hf : 0 ≤ f.toInt ∧ f.toInt ≤ 9) (b : (V 1).toInt < 5) : wvV (aLooker V k f) := by
  obtain ⟨h0, h1, h2, h3, h4, h5, h6⟩ := h
  have hn : (V 1 + 1).toNatClampNeg = (V 1).toNatClampNeg + 1 := by
    rw [ti_nat, ti_nat, ti_add (by rw [tz_1]; omega) (by rw [tz_1]; omega), tz_1]; omega
  have hA : (V 1).toNatClampNeg < 5 := tn_lt h1.1 b
  have eo : ∀ p, p < 18 → p ≠ 1 → aLooker V k f p = V p := fun p a b => by
    unfold aLooker
    rw [if_neg b, if_neg (by omega), if_neg (by omega), if_neg (by omega), if_neg (by omega)]
  refine ⟨by rw [eo 0 (by omega) (by omega)]; exact h0, ?_, by rw [eo 2 (by omega) (by omega)]; exact h2, fun p a b => by rw [eo p (by omega) (by omega)]; exact h3 p a b, fun p a' b' c => ?_, fun l hl => ?_, fun p a' b' c => ?_⟩
  · rw [aLooker_1, ti_add (by rw [tz_1]; omega) (by rw [tz_1]; omega), tz_1]; omega
  rotate_left
  · have n1 := ti_nat (V 1)
    rw [aLooker_1, ti_add (by rw [tz_1]; omega) (by rw [tz_1]; omega), tz_1] at hl
    by_cases e : l = (V 1).toNatClampNeg
    · have e18 : aLooker V k f (18 + 2 * l) = k := by unfold aLooker; rw [if_neg (by omega), if_pos (by rw [e])]
      have e19 : aLooker V k f (19 + 2 * l) = f := by unfold aLooker; rw [if_neg (by omega), if_neg (by omega), if_pos (by rw [e])]
      rw [e18, e19]
      exact ⟨hk, hf⟩
    · have e18 : ∀ p, p < 28 → p ≠ 1 → p ≠ 18 + 2 * (V 1).toNatClampNeg → p ≠ 19 + 2 * (V 1).toNatClampNeg → aLooker V k f p = V p := fun p a b c d => by
        unfold aLooker
        rw [if_neg b, if_neg c, if_neg d, if_neg (by omega), if_neg (by omega)]
      rw [e18 (18 + 2 * l) (by omega) (by omega) (by omega) (by omega), e18 (19 + 2 * l) (by omega) (by omega) (by omega) (by omega)]
      exact h5 l (by omega)
  · unfold live at c
    rw [aLooker_1, hn] at c
    have c2 := c.2 a'
    unfold aLooker
    rw [if_neg (by omega), if_neg (by omega), if_neg (by omega), if_neg (by omega)]
    by_cases e : 148 + 8 * (V 1).toNatClampNeg ≤ p ∧ p < 156 + 8 * (V 1).toNatClampNeg
    · rw [if_pos e]; decide
    · rw [if_neg e]
      exact h6 p a' b' ⟨fun _ _ => by omega, fun _ => by omega⟩
  rw [eo 0 (by omega) (by omega)]
  unfold live at c
  rw [aLooker_1, hn] at c
  unfold aLooker
  rw [if_neg (by omega), if_neg (by omega), if_neg (by omega)]
  by_cases e : 28 + 24 * (V 1).toNatClampNeg ≤ p ∧ p < 52 + 24 * (V 1).toNatClampNeg
  · rw [if_pos e]; left; rfl
  · rw [if_neg e, if_neg (by omega)]
    have := c.1 a' b'
    exact h4 p a' b' ⟨fun _ _ => by omega, fun q => by omega⟩
end
section
/-! the two sides hold the same -/
def wsT (σ : Mem) (t j : Nat) (p : Nat) : Int32 := if j = t then wvM σ p else σ 117 (188 * j + p)
/-- the step in the slot q brings the house B back to A -/
def wsU (σ : Mem) (q : Nat) (A B : Nat → Int32) : Prop :=
  (σ 71 q = 0 ∧ ∃ l : Nat, (σ 72 q).toInt = (l : Int) ∧ (l : Int) < (B 1).toInt ∧ (∀ t, t < 24 → A (28 + 24 * l + t) = wvN (σ (75 + q) t)) ∧ (∀ t, t < 24 → (σ (75 + q) t).toInt = 9 ∨ (0 ≤ (σ (75 + q) t).toInt ∧ (σ (75 + q) t).toInt < (B 0).toInt)) ∧ ∀ p, p < 188 → ¬ (28 + 24 * l ≤ p ∧ p < 52 + 24 * l) → A p = B p) ∨
  (σ 71 q = 1 ∧ ∃ i : Nat, (σ 72 q).toInt = (i : Int) ∧ (i : Int) < (B 0).toInt ∧ A (12 + i) = σ 73 q ∧ ∀ p, p < 188 → ¬ p = 12 + i → A p = B p) ∨
  (σ 71 q = 2 ∧ ∃ i : Nat, (σ 72 q).toInt = (i : Int) ∧ i < 8 ∧ (0 ≤ (σ 73 q).toInt ∧ (σ 73 q).toInt ≤ 9) ∧ A (4 + i) = σ 73 q ∧ ∀ p, p < 188 → ¬ p = 4 + i → A p = B p) ∨
  (σ 71 q = 3 ∧ (0 ≤ (σ 73 q).toInt ∧ (σ 73 q).toInt ≤ 2) ∧ A 2 = σ 73 q ∧ ∀ p, p < 188 → ¬ p = 2 → A p = B p)
theorem wsU_cg {σ s : Mem} {q : Nat} {A B A' B' : Nat → Int32} (h : wsU σ q A B) (b0 : (B 1).toInt ≤ 5) (b1 : (B 0).toInt ≤ 6) (e1 : s 71 q = σ 71 q) (e2 : s 72 q = σ 72 q) (e3 : s 73 q = σ 73 q) (e4 : s (75 + q) = σ (75 + q)) (hA : ∀ p, p < 188 → A' p = A p) (hB : ∀ p, p < 188 → B' p = B p) : wsU s q A' B' := by
  unfold wsU at h ⊢
  rw [e1, e2, e3, e4, hB 0 (by decide), hB 1 (by decide)]
  rcases h with ⟨h1, l, h2, h3, h4, h5, h6⟩ | ⟨h1, i, h2, h3, h4, h5⟩ | ⟨h1, i, h2, h3, h4, h5, h6⟩ | ⟨h1, h2, h3, h4⟩
  · exact Or.inl ⟨h1, l, h2, h3, fun t ht => by rw [hA _ (by omega)]; exact h4 t ht, h5, fun p hp hn => by rw [hA p hp, hB p hp]; exact h6 p hp hn⟩
  · exact Or.inr (Or.inl ⟨h1, i, h2, h3, by rw [hA _ (by omega)]; exact h4, fun p hp hn => by rw [hA p hp, hB p hp]; exact h5 p hp hn⟩)
  · exact Or.inr (Or.inr (Or.inl ⟨h1, i, h2, h3, h4, by rw [hA _ (by omega)]; exact h5, fun p hp hn => by rw [hA p hp, hB p hp]; exact h6 p hp hn⟩))
  · exact Or.inr (Or.inr (Or.inr ⟨h1, h2, by rw [hA 2 (by decide)]; exact h3, fun p hp hn => by rw [hA p hp, hB p hp]; exact h4 p hp hn⟩))
def rV (lim : Nat) (σ : Mem) : Prop := wvV (wvM σ) ∧ weq lim (wvM σ) (wvX 1 σ)
def rI (lim : Nat) (σ : Mem) : Prop := σ 0 3 = σ 101 24 ∧ (¬ σ 0 3 = 0 → wvV (σ 116) ∧ weq lim (σ 116) (wvX 47 σ))
def rS (σ : Mem) : Prop := σ 70 5 = σ 101 30 ∧ ∀ j, j < (σ 101 30).toNatClampNeg → wvV (wsT σ (σ 101 30).toNatClampNeg j) ∧ wsU σ (((σ 70 4).toNatClampNeg + j) % 8) (wsT σ (σ 101 30).toNatClampNeg j) (wsT σ (σ 101 30).toNatClampNeg (j + 1))
def rL (σ : Mem) : Prop := σ 83 1 = σ 101 15 ∧ ∀ i, i < (σ 101 15).toNatClampNeg → σ 84 i = σ 111 i
def rW (σ : Mem) : Prop := σ 0 7 = σ 101 34 ∧ ∀ i, i < (σ 101 34).toNatClampNeg → σ 85 i = σ 121 i
def wR (lim : Nat) (σ : Mem) : Prop := wiX σ ∧ wiM σ ∧ rV lim σ ∧ rI lim σ ∧ rS σ ∧ rL σ ∧ rW σ
/-- the cells of C are as they were -/
def ag (C : Nat → Prop) (σ s : Mem) : Prop := ∀ k i, C (wcid k i) → s k i = σ k i
theorem ag_fr {W C : Nat → Prop} {σ s : Mem} (h : fr W σ s) (hC : ∀ c, C c → ¬ W c) : ag C σ s := fun k i hc => h k i (hC _ hc)
theorem ag_tr {C : Nat → Prop} {σ s z : Mem} (h1 : ag C σ s) (h2 : ag C s z) : ag C σ z := fun k i hc => (h2 k i hc).trans (h1 k i hc)
theorem ag_mono {C D : Nat → Prop} {σ s : Mem} (h : ag D σ s) (hC : ∀ c, C c → D c) : ag C σ s := fun k i hc => h k i (hC _ hc)
def cX (c : Nat) : Prop := 1 ≤ c ∧ c ≤ 17
def cM (c : Nat) : Prop := (102 ≤ c ∧ c ≤ 107) ∨ c = 1001 ∨ c = 1003 ∨ c = 1008 ∨ c = 1009
def cV (c : Nat) : Prop := cX c ∨ cM c
def cI (c : Nat) : Prop := (47 ≤ c ∧ c ≤ 63) ∨ c = 116 ∨ c = 2003 ∨ c = 1024
def cS (c : Nat) : Prop := cM c ∨ (71 ≤ c ∧ c ≤ 82) ∨ c = 117 ∨ c = 3004 ∨ c = 3005 ∨ c = 1030
def cL (c : Nat) : Prop := c = 84 ∨ c = 111 ∨ c = 4001 ∨ c = 1015
def cW (c : Nat) : Prop := c = 85 ∨ c = 121 ∨ c = 2007 ∨ c = 1034
theorem ag_wvX {h : Nat} {σ s : Mem} (hh : wt_isH h) (e : ag (fun c => h ≤ c ∧ c ≤ h + 16) σ s) {p : Nat} (hp : p < 188) : wvX h s p = wvX h σ p := by
  refine wvX_eq (fun p hp => e _ _ ?_) hp
  have h1 := wvJ_le p hp
  have h2 := wt_Hcs hh
  rw [wcid_lo (by omega) (by omega)]
  omega
theorem ag_wvM {σ s : Mem} (e : ag cM σ s) {p : Nat} (hp : p < 188) : wvM s p = wvM σ p := e _ _ (wvM_cid hp)
theorem rV_ag {lim : Nat} {σ s : Mem} (hl : 28 ≤ lim ∧ lim ≤ 188) (h : rV lim σ) (e : ag cV σ s) : rV lim s := by
  have e1 : ∀ p, p < 188 → wvM s p = wvM σ p := fun p hp => ag_wvM (ag_mono e (fun c hc => Or.inr hc)) hp
  have e2 : ∀ p, p < 188 → wvX 1 s p = wvX 1 σ p := fun p hp => ag_wvX wt_h1 (ag_mono e (fun c hc => Or.inl (by unfold cX; omega))) hp
  exact ⟨wvV_cg h.1 e1, weq_cg h.2 hl.1 (fun p hp => e1 p (by omega)) (fun p hp => e2 p (by omega))⟩
theorem rI_ag {lim : Nat} {σ s : Mem} (hl : 28 ≤ lim ∧ lim ≤ 188) (h : rI lim σ) (e : ag cI σ s) : rI lim s := by
  have e1 : s 0 3 = σ 0 3 := e 0 3 (Or.inr (Or.inr (Or.inl rfl)))
  have e2 : s 101 24 = σ 101 24 := e 101 24 (Or.inr (Or.inr (Or.inr rfl)))
  have e3 : ∀ p, s 116 p = σ 116 p := fun p => e 116 p (Or.inr (Or.inl rfl))
  have e4 : ∀ p, p < 188 → wvX 47 s p = wvX 47 σ p := fun p hp => ag_wvX wt_h47 (ag_mono e (fun c hc => Or.inl hc)) hp
  refine ⟨by rw [e1, e2]; exact h.1, fun hn => ?_⟩
  rw [e1] at hn
  obtain ⟨h1, h2⟩ := h.2 hn
  exact ⟨wvV_cg h1 (fun p _ => e3 p), weq_cg h2 hl.1 (fun p _ => e3 p) (fun p hp => e4 p (by omega))⟩
theorem rL_ag {σ s : Mem} (h : rL σ) (e : ag cL σ s) : rL s := by
  have e1 : s 83 1 = σ 83 1 := e 83 1 (Or.inr (Or.inr (Or.inl rfl)))
  have e2 : s 101 15 = σ 101 15 := e 101 15 (Or.inr (Or.inr (Or.inr rfl)))
  refine ⟨by rw [e1, e2]; exact h.1, fun i hi => ?_⟩
  rw [e2] at hi
  rw [e 84 i (Or.inl rfl), e 111 i (Or.inr (Or.inl rfl))]
  exact h.2 i hi
theorem rW_ag {σ s : Mem} (h : rW σ) (e : ag cW σ s) : rW s := by
  have e1 : s 0 7 = σ 0 7 := e 0 7 (Or.inr (Or.inr (Or.inl rfl)))
  have e2 : s 101 34 = σ 101 34 := e 101 34 (Or.inr (Or.inr (Or.inr rfl)))
  refine ⟨by rw [e1, e2]; exact h.1, fun i hi => ?_⟩
  rw [e2] at hi
  rw [e 85 i (Or.inl rfl), e 121 i (Or.inr (Or.inl rfl))]
  exact h.2 i hi
theorem wvV_b {V : Nat → Int32} (h : wvV V) : (V 1).toInt ≤ 5 ∧ (V 0).toInt ≤ 6 := ⟨h.2.1.2, h.1.2⟩
theorem wsT_t {σ : Mem} {t p : Nat} : wsT σ t t p = wvM σ p := if_pos rfl
theorem wsT_n {σ : Mem} {t j p : Nat} (h : ¬ j = t) : wsT σ t j p = σ 117 (188 * j + p) := if_neg h
theorem rS_V {σ : Mem} (hV : wvV (wvM σ)) (h : rS σ) {j : Nat} (hj : j ≤ (σ 101 30).toNatClampNeg) : wvV (wsT σ (σ 101 30).toNatClampNeg j) := by
  by_cases e : j = (σ 101 30).toNatClampNeg
  · exact wvV_cg hV (fun p _ => by rw [e, wsT_t])
  · exact (h.2 j (by omega)).1
theorem wcid_i {k i n : Nat} (h : wcid k i = n) : wcid k i = n := h
theorem rS_ag {σ s : Mem} (hV : wvV (wvM σ)) (h : rS σ) (e : ag cS σ s) : rS s := by
  have e1 : s 70 4 = σ 70 4 := e 70 4 (Or.inr (Or.inr (Or.inr (Or.inl rfl))))
  have e2 : s 70 5 = σ 70 5 := e 70 5 (Or.inr (Or.inr (Or.inr (Or.inr (Or.inl rfl)))))
  have e3 : s 101 30 = σ 101 30 := e 101 30 (Or.inr (Or.inr (Or.inr (Or.inr (Or.inr rfl)))))
  have e4 : ∀ i, s 117 i = σ 117 i := fun i => e 117 i (Or.inr (Or.inr (Or.inl rfl)))
  have e5 : ∀ k, 71 ≤ k → k ≤ 82 → ∀ i, s k i = σ k i := fun k a b i => e k i (Or.inr (Or.inl (by rw [wcid_hi (by omega)]; exact ⟨a, b⟩)))
  have e6 : ∀ p, p < 188 → wvM s p = wvM σ p := fun p hp => ag_wvM (ag_mono e (fun c hc => Or.inl hc)) hp
  have eT : ∀ j p, p < 188 → wsT s (σ 101 30).toNatClampNeg j p = wsT σ (σ 101 30).toNatClampNeg j p := fun j p hp => by
    unfold wsT
    rw [e6 p hp, e4]
  refine ⟨by rw [e2, e3]; exact h.1, fun j hj => ?_⟩
  rw [e3] at hj ⊢
  rw [e1]
  have b := wvV_b (rS_V hV h (j := j + 1) (by omega))
  have hm : ((σ 70 4).toNatClampNeg + j) % 8 < 8 := Nat.mod_lt _ (by decide)
  refine ⟨wvV_cg (h.2 j hj).1 (fun p hp => eT j p hp), wsU_cg (h.2 j hj).2 b.1 b.2 (e5 71 (by omega) (by omega) _) (e5 72 (by omega) (by omega) _) (e5 73 (by omega) (by omega) _) (funext fun i => e5 _ (by omega) (by omega) i) (fun p hp => eT j p hp) (fun p hp => eT _ p hp)⟩
theorem rS_0 {s : Mem} (h1 : s 70 5 = 0) (h2 : s 101 30 = 0) : rS s := ⟨by rw [h1, h2], fun j hj => by rw [h2] at hj; exact absurd hj (Nat.not_lt_zero j)⟩
/-- a step more -/
theorem rS_push {σ s : Mem} (hV : wvV (wvM σ)) (h : rS σ) (b4 : 0 ≤ (σ 70 4).toInt ∧ (σ 70 4).toInt ≤ 7) (b5 : 0 ≤ (σ 70 5).toInt ∧ (σ 70 5).toInt ≤ 8) (hR : wsRing σ s)
    (hslot : ∀ i, i < 8 → i ≠ wsSlot σ → s 71 i = σ 71 i ∧ s 72 i = σ 72 i ∧ s 73 i = σ 73 i ∧ s (75 + i) = σ (75 + i))
    (hK : ∃ t d : Nat, (((σ 101 30).toInt = 8 ∧ t = 7 ∧ d = 1) ∨ ((σ 101 30).toInt < 8 ∧ t = (σ 101 30).toNatClampNeg ∧ d = 0)) ∧ (s 101 30).toInt = (t : Int) + 1 ∧ (∀ i, i < 188 * t → s 117 i = σ 117 (i + 188 * d)) ∧ ∀ p, p < 188 → s 117 (188 * t + p) = wvM σ p)
    (hU : wsU s (wsSlot σ) (wvM σ) (wvM s)) : rS s := by
  obtain ⟨t, d, htd, k1, k2, k3⟩ := hK
  obtain ⟨hn, hj⟩ := h
  have h5 : (σ 70 5).toInt = (σ 101 30).toInt := congrArg Int32.toInt hn
  have e5 := ti_nat (σ 70 5)
  have e30 := ti_nat (σ 101 30)
  have e4 := ti_nat (σ 70 4)
  have es30 := ti_nat (s 101 30)
  have es4 := ti_nat (s 70 4)
  have hVj : ∀ j, j ≤ (σ 101 30).toNatClampNeg → wvV (wsT σ (σ 101 30).toNatClampNeg j) := fun j q => rS_V hV ⟨hn, hj⟩ q
  rcases htd with ⟨q8, rfl, rfl⟩ | ⟨q8, rfl, rfl⟩
  · obtain ⟨r1, r2⟩ := hR.2 (by omega)
    have n8 : (σ 101 30).toNatClampNeg = 8 := by omega
    have m8 : (s 101 30).toNatClampNeg = 8 := by omega
    have hq : wsSlot σ = (σ 70 4).toNatClampNeg := by unfold wsSlot; omega
    refine ⟨Int32.toInt_inj.mp (by omega), fun j hj8 => ?_⟩
    rw [m8] at hj8 ⊢
    rw [n8] at hj hVj
    have hT : ∀ j, j < 8 → ∀ p, p < 188 → wsT s 8 j p = wsT σ 8 (j + 1) p := fun j h8 p hp => by
      rw [wsT_n (by omega)]
      by_cases e : j = 7
      · subst e; rw [wsT_t]; exact k3 p hp
      · rw [wsT_n (by omega), k2 _ (by omega), show 188 * j + p + 188 * 1 = 188 * (j + 1) + p by omega]
    by_cases e : j = 7
    · subst e
      have hsl : ((s 70 4).toNatClampNeg + 7) % 8 = wsSlot σ := by rw [hq]; omega
      rw [hsl]
      refine ⟨wvV_cg (hVj 8 (by omega)) (hT 7 (by omega)), ?_⟩
      have b := wvV_b hV
      have hTt : ∀ p, p < 188 → wsT s 8 7 p = wvM σ p := fun p hp => by rw [hT 7 (by omega) p hp, wsT_t]
      unfold wsU at hU ⊢
      have hl7 : (∀ p, wsT s 8 (7 + 1) p = wvM s p) := fun p => wsT_t
      rcases hU with ⟨h1, l, h2, h3, h4, h5', h6⟩ | ⟨h1, i, h2, h3, h4, h5'⟩ | ⟨h1, i, h2, h3, h4, h5', h6⟩ | ⟨h1, h2, h3, h4⟩
      · by_cases hl5 : l < 5
        · exact Or.inl ⟨h1, l, h2, by rw [hl7]; exact h3, fun t ht => by rw [hTt _ (by omega)]; exact h4 t ht, by rw [hl7]; exact h5', fun p hp hn => by rw [hTt p hp, hl7]; exact h6 p hp hn⟩
        · exfalso
          have := h6 1 (by decide) (by omega)
          rw [← this] at h3
          omega
      · by_cases hl5 : i < 6
        · exact Or.inr (Or.inl ⟨h1, i, h2, by rw [hl7]; exact h3, by rw [hTt _ (by omega)]; exact h4, fun p hp hn => by rw [hTt p hp, hl7]; exact h5' p hp hn⟩)
        · exfalso
          have := h5' 0 (by decide) (by omega)
          rw [← this] at h3
          omega
      · exact Or.inr (Or.inr (Or.inl ⟨h1, i, h2, h3, h4, by rw [hTt _ (by omega)]; exact h5', fun p hp hn => by rw [hTt p hp, hl7]; exact h6 p hp hn⟩))
      · exact Or.inr (Or.inr (Or.inr ⟨h1, h2, by rw [hTt 2 (by decide)]; exact h3, fun p hp hn => by rw [hTt p hp, hl7]; exact h4 p hp hn⟩))
    · have hsl : ((s 70 4).toNatClampNeg + j) % 8 = ((σ 70 4).toNatClampNeg + (j + 1)) % 8 := by omega
      rw [hsl]
      obtain ⟨o1, o2, o3, o4⟩ := hslot (((σ 70 4).toNatClampNeg + (j + 1)) % 8) (Nat.mod_lt _ (by decide)) (by rw [hq]; omega)
      have b := wvV_b (hVj (j + 1 + 1) (by omega))
      exact ⟨wvV_cg (hVj (j + 1) (by omega)) (hT j (by omega)), wsU_cg (hj (j + 1) (by omega)).2 b.1 b.2 o1 o2 o3 o4 (hT j (by omega)) (hT (j + 1) (by omega))⟩
  · obtain ⟨r1, r2⟩ := hR.1 (by omega)
    generalize hN : (σ 101 30).toNatClampNeg = n at *
    have m8 : (s 101 30).toNatClampNeg = n + 1 := by omega
    have hq : wsSlot σ = ((σ 70 4).toNatClampNeg + n) % 8 := by unfold wsSlot; rw [show (σ 70 5).toNatClampNeg = n by omega]
    have es : (s 70 4).toNatClampNeg = (σ 70 4).toNatClampNeg := by omega
    refine ⟨Int32.toInt_inj.mp (by omega), fun j hj8 => ?_⟩
    rw [m8] at hj8 ⊢
    rw [es]
    have hT : ∀ j, j ≤ n → ∀ p, p < 188 → wsT s (n + 1) j p = wsT σ n j p := fun j h8 p hp => by
      rw [wsT_n (by omega)]
      by_cases e : j = n
      · subst e; rw [wsT_t]; exact k3 p hp
      · rw [wsT_n e, k2 _ (by omega), show 188 * j + p + 188 * 0 = 188 * j + p by omega]
    by_cases e : j = n
    · subst e
      rw [← hq]
      refine ⟨wvV_cg (hVj j (by omega)) (hT j (by omega)), ?_⟩
      have b := wvV_b hV
      have hTt : ∀ p, p < 188 → wsT s (j + 1) j p = wvM σ p := fun p hp => by rw [hT j (by omega) p hp, wsT_t]
      unfold wsU at hU ⊢
      have hl7 : (∀ p, wsT s (j + 1) (j + 1) p = wvM s p) := fun p => wsT_t
      rcases hU with ⟨h1, l, h2, h3, h4, h5', h6⟩ | ⟨h1, i, h2, h3, h4, h5'⟩ | ⟨h1, i, h2, h3, h4, h5', h6⟩ | ⟨h1, h2, h3, h4⟩
      · by_cases hl5 : l < 5
        · exact Or.inl ⟨h1, l, h2, by rw [hl7]; exact h3, fun t ht => by rw [hTt _ (by omega)]; exact h4 t ht, by rw [hl7]; exact h5', fun p hp hn => by rw [hTt p hp, hl7]; exact h6 p hp hn⟩
        · exfalso
          have := h6 1 (by decide) (by omega)
          rw [← this] at h3
          omega
      · by_cases hl5 : i < 6
        · exact Or.inr (Or.inl ⟨h1, i, h2, by rw [hl7]; exact h3, by rw [hTt _ (by omega)]; exact h4, fun p hp hn => by rw [hTt p hp, hl7]; exact h5' p hp hn⟩)
        · exfalso
          have := h5' 0 (by decide) (by omega)
          rw [← this] at h3
          omega
      · exact Or.inr (Or.inr (Or.inl ⟨h1, i, h2, h3, h4, by rw [hTt _ (by omega)]; exact h5', fun p hp hn => by rw [hTt p hp, hl7]; exact h6 p hp hn⟩))
      · exact Or.inr (Or.inr (Or.inr ⟨h1, h2, by rw [hTt 2 (by decide)]; exact h3, fun p hp hn => by rw [hTt p hp, hl7]; exact h4 p hp hn⟩))
    · obtain ⟨o1, o2, o3, o4⟩ := hslot (((σ 70 4).toNatClampNeg + j) % 8) (Nat.mod_lt _ (by decide)) (by rw [hq]; omega)
      have b := wvV_b (hVj (j + 1) (by omega))
      exact ⟨wvV_cg (hVj j (by omega)) (hT j (by omega)), wsU_cg (hj j (by omega)).2 b.1 b.2 o1 o2 o3 o4 (hT j (by omega)) (hT (j + 1) (by omega))⟩
/-- a step taken back -/
theorem rS_pop {σ s : Mem} {n : Nat} (hV : wvV (wvM σ)) (h : rS σ) (hn : (σ 101 30).toInt = (n : Int) + 1) (e4 : s 70 4 = σ 70 4) (e5 : (s 70 5).toInt = (n : Int)) (e30 : (s 101 30).toInt = (n : Int)) (o : ∀ k, 71 ≤ k → k ≤ 82 → s k = σ k) (o7 : s 117 = σ 117) (hM : ∀ p, p < 188 → wvM s p = σ 117 (188 * n + p)) : rS s ∧ wvV (wvM s) := by
  have n1 : (σ 101 30).toNatClampNeg = n + 1 := by rw [ti_nat, hn]; omega
  have m1 : (s 101 30).toNatClampNeg = n := by rw [ti_nat, e30]; omega
  have hh := h.2
  rw [n1] at hh
  have hT : ∀ j, j ≤ n → ∀ p, p < 188 → wsT s n j p = wsT σ (n + 1) j p := fun j h8 p hp => by
    rw [wsT_n (t := n + 1) (by omega)]
    by_cases e : j = n
    · subst e; rw [wsT_t, hM p hp]
    · rw [wsT_n e, o7]
  refine ⟨⟨Int32.toInt_inj.mp (by omega), fun j hj => ?_⟩, wvV_cg (hh n (by omega)).1 (fun p hp => by rw [wsT_n (by omega), hM p hp])⟩
  rw [m1] at hj ⊢
  rw [e4]
  have hm : ((σ 70 4).toNatClampNeg + j) % 8 < 8 := Nat.mod_lt _ (by decide)
  have b := wvV_b (by have := rS_V hV h (j := j + 1) (by omega); rw [n1] at this; exact this)
  exact ⟨wvV_cg (hh j (by omega)).1 (hT j (by omega)), wsU_cg (hh j (by omega)).2 b.1 b.2 (by rw [o 71 (by omega) (by omega)]) (by rw [o 72 (by omega) (by omega)]) (by rw [o 73 (by omega) (by omega)]) (o _ (by omega) (by omega)) (hT j (by omega)) (hT (j + 1) (by omega))⟩
/-- what it is taken back to, on the class's side -/
theorem weq_undone {lim n : Nat} {σ s : Mem} (hl : 28 ≤ lim ∧ lim ≤ 188) (hV : wvV (wvM σ)) (hw : weq lim (wvM σ) (wvX 1 σ)) (h : rS σ) (hn : (σ 101 30).toInt = (n : Int) + 1) (hU : wsUndone σ s (wsLast σ)) (hM : ∀ p, p < 188 → wvM s p = σ 117 (188 * n + p)) : weq lim (wvM s) (wvX 1 s) := by
  have n1 : (σ 101 30).toNatClampNeg = n + 1 := by rw [ti_nat, hn]; omega
  have hh := (h.2 n (by omega)).2
  have h5 : (σ 70 5).toNatClampNeg = n + 1 := by rw [h.1]; exact n1
  rw [n1] at hh
  have hq : ((σ 70 4).toNatClampNeg + n) % 8 = wsLast σ := by unfold wsLast; rw [h5]; rfl
  rw [hq] at hh
  have eA : ∀ p, p < 188 → wsT σ (n + 1) n p = wvM s p := fun p hp => by rw [wsT_n (by omega), hM p hp]
  have eB : ∀ p, wsT σ (n + 1) (n + 1) p = wvM σ p := fun p => wsT_t
  have b0 : σ 1 0 = wvM σ 0 := weq_lo hw hl.1 (p := 0) (by decide)
  have b1 : σ 1 2 = wvM σ 1 := weq_lo hw hl.1 (p := 1) (by decide)
  generalize wsLast σ = q at hU hh
  obtain ⟨u0, u1, u2, u3⟩ := hU
  have lv : ∀ p, wvM s 1 = wvM σ 1 → live (wvM s) p → live (wvM σ) p := fun p e hv => live_1 e hv
  rcases hh with ⟨h1, l, h2, h3, h4, h5', h6⟩ | ⟨h1, i, h2, h3, h4, h5'⟩ | ⟨h1, i, h2, h3, h4, h5', h6⟩ | ⟨h1, h2, h3, h4⟩
  · rw [eB] at h3 h5'
    have hx := u0 h1 l h2 (by rw [b1]; exact h3) (fun t ht => by rw [b0]; exact h5' t ht)
    have hl5 : l < 5 := by have := hV.2.1.2; omega
    intro p hp hv
    rw [hx p (by omega)]
    by_cases e : 28 + 24 * l ≤ p ∧ p < 52 + 24 * l
    · rw [if_pos e, ← eA p (by omega), show p = 28 + 24 * l + (p - (28 + 24 * l)) by omega, h4 _ (by omega), show 28 + 24 * l + (p - (28 + 24 * l)) - (28 + 24 * l) = p - (28 + 24 * l) by omega]
    · have e1 := h6 1 (by decide) (by omega)
      rw [eA 1 (by decide), eB] at e1
      have e2 := h6 p (by omega) e
      rw [eA p (by omega), eB] at e2
      rw [if_neg e, e2]
      exact hw p hp (lv p e1 hv)
  · rw [eB] at h3
    have hi6 : i < 6 := by have := hV.1.2; omega
    have hx := u1 h1 i h2 (by rw [b0]; exact h3)
    intro p hp hv
    rw [hx p (by omega)]
    by_cases e : p = 12 + i
    · subst e; rw [wv_us, ← eA _ (by omega), h4]
    · have e1 := h5' 1 (by decide) (by omega)
      rw [eA 1 (by decide), eB] at e1
      have e2 := h5' p (by omega) e
      rw [eA p (by omega), eB] at e2
      rw [wv_un e, e2]
      exact hw p hp (lv p e1 hv)
  · have hx := u2 h1 i h2 h3 h4.1 h4.2
    intro p hp hv
    rw [hx p (by omega)]
    by_cases e : p = 4 + i
    · subst e; rw [wv_us, ← eA _ (by omega), h5']
    · have e1 := h6 1 (by decide) (by omega)
      rw [eA 1 (by decide), eB] at e1
      have e2 := h6 p (by omega) e
      rw [eA p (by omega), eB] at e2
      rw [wv_un e, e2]
      exact hw p hp (lv p e1 hv)
  · have hx := u3 h1 h2.1 h2.2
    intro p hp hv
    rw [hx p (by omega)]
    by_cases e : p = 2
    · subst e; rw [wv_us, ← eA _ (by omega), h3]
    · have e1 := h4 1 (by decide) (by omega)
      rw [eA 1 (by decide), eB] at e1
      have e2 := h4 p (by omega) e
      rw [eA p (by omega), eB] at e2
      rw [wv_un e, e2]
      exact hw p hp (lv p e1 hv)
end
section
/-! the class's refusals -/
def cN (x a b : Int32) : Int32 := if a.toInt ≤ x.toInt then (if x.toInt ≤ b.toInt then 0 else -6) else -4
def cO (x n : Int32) : Int32 := if 0 ≤ x.toInt ∧ x.toInt < n.toInt then 0 else -2
def cF (a b : Int32) : Int32 := if a = 0 then b else a
def cB (c : Prop) [Decidable c] : Int32 := if c then 0 else -1
theorem cB_t {c : Prop} [Decidable c] (h : c) : cB c = 0 := if_pos h
theorem cB_f {c : Prop} [Decidable c] (h : ¬ c) : cB c = -1 := if_neg h
theorem cB_0 {c : Prop} [Decidable c] (h : cB c = 0) : c := by
  by_cases q : c
  · exact q
  · rw [cB_f q] at h; exact absurd h (by decide)
theorem cB_cg {c d : Prop} [Decidable c] [Decidable d] (h : c ↔ d) : cB c = cB d := by
  by_cases q : c
  · rw [cB_t q, cB_t (h.mp q)]
  · rw [cB_f q, cB_f (fun r => q (h.mpr r))]
theorem cF_0 {a b : Int32} (h : cF a b = 0) : a = 0 ∧ b = 0 := by
  unfold cF at h
  by_cases q : a = 0
  · rw [if_pos q] at h; exact ⟨q, h⟩
  · rw [if_neg q] at h; exact absurd h q
theorem cN_0 {x a b : Int32} (h : cN x a b = 0) : a.toInt ≤ x.toInt ∧ x.toInt ≤ b.toInt := by
  unfold cN at h
  by_cases q : a.toInt ≤ x.toInt
  · rw [if_pos q] at h
    by_cases r : x.toInt ≤ b.toInt
    · exact ⟨q, r⟩
    · rw [if_neg r] at h; exact absurd h (by decide)
  · rw [if_neg q] at h; exact absurd h (by decide)
theorem cN_t {x a b : Int32} (h1 : a.toInt ≤ x.toInt) (h2 : x.toInt ≤ b.toInt) : cN x a b = 0 := by
  unfold cN; rw [if_pos h1, if_pos h2]
theorem cO_0 {x n : Int32} (h : cO x n = 0) : 0 ≤ x.toInt ∧ x.toInt < n.toInt := by
  unfold cO at h
  by_cases q : 0 ≤ x.toInt ∧ x.toInt < n.toInt
  · exact q
  · rw [if_neg q] at h; exact absurd h (by decide)
theorem ax_outside {F : Nat} {x a b : Int32} {σ : Mem} : f_X3_outside F x a b σ = some (cN x a b, σ) := by
  rw [f_X3_outside_e]
  unfold cN
  by_cases c1 : a ≤ x
  · rw [if_pos c1, if_pos (ti_le c1)]
    by_cases c2 : x ≤ b
    · rw [if_pos c2, if_pos (ti_le c2)]
    · rw [if_neg c2, if_neg (Int.not_le.mpr (ti_nle c2))]
  · rw [if_neg c1, if_neg (Int.not_le.mpr (ti_nle c1))]
theorem mx_wrongN {F : Nat} {x a b : Int32} {σ : Mem} : f_X4_wrongNumber F x a b σ = some (cN x a b, σ) := mx_wrongNumber
theorem ax_notBelow {F : Nat} {x n : Int32} {σ : Mem} : f_X3_notBelow F x n σ = some (cO x n, σ) := by
  rw [f_X3_notBelow_e]
  simp only [j_X3_notBelow_13_e]
  unfold cO
  by_cases c1 : x < 0
  · rw [if_pos c1, if_neg (fun q => by have := ti_lt c1; rw [tz_0] at this; have := q.1; omega)]
  · rw [if_neg c1]
    have d1 := ti_nlt c1
    rw [tz_0] at d1
    by_cases c2 : n ≤ x
    · rw [if_pos c2, if_neg (fun q => by have := ti_le c2; have := q.2; omega)]
    · rw [if_neg c2, if_pos ⟨d1, ti_nle c2⟩]
theorem ax_firstOf {F : Nat} {a b : Int32} {σ : Mem} : f_X3_firstOf F a b σ = some (cF a b, σ) := by
  rw [f_X3_firstOf_e]
  unfold cF
  by_cases c : a = 0
  · rw [if_pos c, if_pos c]
  · rw [if_neg c, if_neg c]
theorem ax_flag {c : Prop} [Decidable c] {σ : Mem} : (if (if c then (1 : Int32) else 0) = 0 then some ((-1 : Int32), σ) else some ((0 : Int32), σ)) = some (cB c, σ) := by
  by_cases q : c
  · rw [if_pos q, if_neg (by decide), cB_t q]
  · rw [if_neg q, if_pos rfl, cB_f q]
theorem ax_noView {F : Nat} {x : Int32} {σ : Mem} : f_X3_noView F x σ = some (cB (0 ≤ x.toInt ∧ x.toInt ≤ 7), σ) := by
  rw [f_X3_noView_e, wt_bnd_eq ax_isView, ax_flag]
theorem ax_noHour {F : Nat} {x : Int32} {σ : Mem} : f_X3_noHour F x σ = some (cB (0 ≤ x.toInt ∧ x.toInt ≤ 23), σ) := by
  rw [f_X3_noHour_e, wt_bnd_eq ax_isHour, ax_flag]
theorem ax_noPane {F : Nat} {x : Int32} {σ : Mem} (b : (σ 1 0).toInt ≤ 6) : f_X3_noPane F x σ = some (cB (0 ≤ x.toInt ∧ x.toInt < (σ 1 0).toInt), σ) := by
  rw [f_X3_noPane_e, wt_bnd_eq (ax_isPane b), ax_flag]
theorem ax_noLooker {F : Nat} {x : Int32} {σ : Mem} (b : (σ 1 2).toInt ≤ 5) : f_X3_noLooker F x σ = some (cB (0 ≤ x.toInt ∧ x.toInt < (σ 1 2).toInt), σ) := by
  rw [f_X3_noLooker_e, wt_bnd_eq (ax_isLooker b), ax_flag]
theorem ax_refuse {F : Nat} {x : Int32} {σ : Mem} : pc (f_X3_refuse F x σ) (fun r s => r = x ∧ ∀ k, k ≠ 86 → s k = σ k) := by
  rw [f_X3_refuse_e]
  simp only [j_X3_refuse_23_e]
  refine pc_ite (fun _ => pc_ret ⟨rfl, fun _ _ => rfl⟩) (fun _ => pc_ite (fun _ => pc_ret ⟨rfl, fun _ _ => rfl⟩) (fun _ => ?_))
  exact pc_chk (fun _ => pc_lt (fun s2 h2 => pc_ret ⟨rfl, fun k hk => by rw [h2, up2_k hk]⟩))
/-- what a call of the class with a refusal e does -/
def cR (e : Int32) (G : Int32 → Mem → Prop) (σ : Mem) (r : Int32) (s : Mem) : Prop := (e = 0 → G r s) ∧ (¬ e = 0 → r = e ∧ ∀ k, k ≠ 86 → s k = σ k)
/-- and one of the reference -/
def mR (e : Int32) (G : Int32 → Mem → Prop) (σ : Mem) (r : Int32) (s : Mem) : Prop := (e = 0 → G r s) ∧ (¬ e = 0 → r = e ∧ ∀ k i, k ≠ 108 → ¬ (k = 101 ∧ i = 10) → s k i = σ k i)
theorem cR_end {F : Nat} {e : Int32} {G : Int32 → Mem → Prop} {σ : Mem} {A : Option (Int32 × Mem)} (h : e = 0 → pc A G) : pc (if e = 0 then A else wt_bnd (f_X3_refuse F e σ) fun r s => some (r, s)) (cR e G σ) := by
  refine pc_ite (fun c => pc_mono (h c) (fun a s g => ⟨fun _ => g, fun n => absurd c n⟩)) (fun c => pc_bnd ax_refuse (fun r s q => pc_ret ⟨fun n => absurd n c, fun _ => q⟩))
theorem ax_forget {F : Nat} {σ : Mem} : f_X2_forget F σ = some ((), up2 σ 70 5 0) := by rw [f_X2_forget_e]; rfl
def ePane (P x : Int32) : Int32 := cF (cN x 0 255) (if P.toInt < 6 then 0 else -6)
def eLooker (L k f : Int32) : Int32 := cF (cF (cO k 6) (cN f 0 9)) (if L.toInt < 5 then 0 else -6)
theorem cF_i {a b : Int32} : (if a = 0 then b else a) = cF a b := rfl
theorem pc_iteR {β : Type} {c : Prop} [Decidable c] {A E : Option (β × Mem)} {Q : β → Mem → Prop} (h1 : c → pc A Q) (h2 : ¬ c → pc E Q) : pc (if c then A else E) Q := pc_ite h1 h2
theorem cx_pane {F : Nat} {x : Int32} {σ : Mem} (b : 0 ≤ (σ 1 0).toInt ∧ (σ 1 0).toInt ≤ 6) : pc (f_X3_pane F x σ) (cR (ePane (σ 1 0) x) (fun r s => (∀ p, p < 188 → wvX 1 s p = aPane (wvX 1 σ) x p) ∧ r = s 1 0 - (1 : Int32) ∧ s 70 5 = 0) σ) := by
  rw [f_X3_pane_e]
  refine pc_be ax_outside ?_
  simp only [j_X3_pane_28_e]
  have good : ePane (σ 1 0) x = 0 → pc (wt_bnd (f_X0_addPane F 1 x σ) fun r1 s2 => wt_bnd (f_X2_forget F s2) fun r3 s4 => some ((s4 1 0) - (1 : Int32), s4)) (fun r s => (∀ p, p < 188 → wvX 1 s p = aPane (wvX 1 σ) x p) ∧ r = s 1 0 - (1 : Int32) ∧ s 70 5 = 0) := fun e => by
    obtain ⟨e1, e2⟩ := cF_0 e
    have e3 := cN_0 e1
    rw [tz_0, tz_255] at e3
    refine pc_bnd (ax_addPane wt_h1 b) (fun r s q => pc_be ax_forget (pc_ret ⟨fun p hp => ?_, rfl, up2_s⟩))
    rw [wvX_k (by omega) hp]
    refine (q.1 ⟨e3.1, e3.2, ?_⟩).2 p hp
    by_cases c : (σ 1 0).toInt < 6
    · exact c
    · rw [if_neg c] at e2; exact absurd e2 (by decide)
  have key : ∀ e, e = ePane (σ 1 0) x → pc (if e = 0 then (wt_bnd (f_X0_addPane F 1 x σ) fun r1 s2 => wt_bnd (f_X2_forget F s2) fun r3 s4 => some ((s4 1 0) - (1 : Int32), s4)) else wt_bnd (f_X3_refuse F e σ) fun r5 s6 => some (r5, s6)) (cR (ePane (σ 1 0) x) (fun r s => (∀ p, p < 188 → wvX 1 s p = aPane (wvX 1 σ) x p) ∧ r = s 1 0 - (1 : Int32) ∧ s 70 5 = 0) σ) := fun e he => by
    subst he; exact cR_end good
  by_cases c1 : cN x 0 255 = 0
  · rw [if_pos c1]
    by_cases c2 : σ 1 0 < 6
    · rw [if_pos c2]
      refine key _ ?_
      unfold ePane cF
      have := ti_lt c2
      rw [tz_6] at this
      rw [if_pos c1, if_pos this, c1]
    · rw [if_neg c2]
      refine key _ ?_
      unfold ePane cF
      have := ti_nlt c2
      rw [tz_6] at this
      rw [if_pos c1, if_neg (by omega)]
  · rw [if_neg c1]
    refine key _ ?_
    unfold ePane cF
    rw [if_neg c1]
theorem cx_looker {F : Nat} {k f : Int32} {σ : Mem} (b : 0 ≤ (σ 1 2).toInt ∧ (σ 1 2).toInt ≤ 5) : pc (f_X3_looker F k f σ) (cR (eLooker (σ 1 2) k f) (fun r s => (∀ p, p < 188 → wvX 1 s p = aLooker (wvX 1 σ) k f p) ∧ r = s 1 2 - (1 : Int32) ∧ s 70 5 = 0) σ) := by
  rw [f_X3_looker_e]
  refine pc_be ax_notBelow (pc_be ax_outside (pc_be ax_firstOf ?_))
  simp only [j_X3_looker_35_e]
  have good : eLooker (σ 1 2) k f = 0 → pc (wt_bnd (f_X0_addLooker F 1 k f σ) fun r1 s2 => wt_bnd (f_X2_forget F s2) fun r3 s4 => some ((s4 1 2) - (1 : Int32), s4)) (fun r s => (∀ p, p < 188 → wvX 1 s p = aLooker (wvX 1 σ) k f p) ∧ r = s 1 2 - (1 : Int32) ∧ s 70 5 = 0) := fun e => by
    obtain ⟨e1, e2⟩ := cF_0 e
    obtain ⟨e0, e1⟩ := cF_0 e1
    have e3 := cN_0 e1
    have e4 := cO_0 e0
    rw [tz_0, tz_9] at e3
    rw [tz_6] at e4
    refine pc_bnd (ax_addLooker wt_h1 b) (fun r s q => pc_be ax_forget (pc_ret ⟨fun p hp => ?_, rfl, up2_s⟩))
    rw [wvX_k (by omega) hp]
    refine (q.1 ⟨⟨e4.1, by omega⟩, e3, ?_⟩).2 p hp
    by_cases c : (σ 1 2).toInt < 5
    · exact c
    · rw [if_neg c] at e2; exact absurd e2 (by decide)
  have key : ∀ e, e = eLooker (σ 1 2) k f → pc (if e = 0 then (wt_bnd (f_X0_addLooker F 1 k f σ) fun r1 s2 => wt_bnd (f_X2_forget F s2) fun r3 s4 => some ((s4 1 2) - (1 : Int32), s4)) else wt_bnd (f_X3_refuse F e σ) fun r5 s6 => some (r5, s6)) (cR (eLooker (σ 1 2) k f) (fun r s => (∀ p, p < 188 → wvX 1 s p = aLooker (wvX 1 σ) k f p) ∧ r = s 1 2 - (1 : Int32) ∧ s 70 5 = 0) σ) := fun e he => by
    subst he; exact cR_end good
  generalize hc : cF (cO k 6) (cN f 0 9) = c at *
  have hE : eLooker (σ 1 2) k f = cF c (if (σ 1 2).toInt < 5 then 0 else -6) := by unfold eLooker; rw [hc]
  by_cases c1 : c = 0
  · rw [if_pos c1]
    by_cases c2 : σ 1 2 < 5
    · rw [if_pos c2]
      refine key _ ?_
      have := ti_lt c2
      rw [tz_5] at this
      rw [hE]
      unfold cF
      rw [if_pos c1, if_pos this, c1]
    · rw [if_neg c2]
      refine key _ ?_
      have := ti_nlt c2
      rw [tz_5] at this
      rw [hE]
      unfold cF
      rw [if_pos c1, if_neg (by omega)]
  · rw [if_neg c1]
    refine key _ ?_
    rw [hE]
    unfold cF
    rw [if_neg c1]
end
