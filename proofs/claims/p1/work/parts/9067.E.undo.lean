theorem wcid_or (k i : Nat) : wcid k i = k ∨ 1000 ≤ wcid k i := by
  unfold wcid
  split
  · right; omega
  split
  · right; omega
  split
  · right; omega
  split
  · right; omega
  left; rfl
theorem fr_reg {W : Nat → Prop} {τ s : Mem} {j : Nat} (hf : fr W τ s) (h1 : ¬ W j) (h2 : ∀ c, 1000 ≤ c → ¬ W c) : s j = τ j := by
  funext i
  refine hf j i ?_
  rcases wcid_or j i with e | e
  · rw [e]; exact h1
  · exact h2 _ e
theorem ax_undo_75o {F : Nat} (hF : 1000 ≤ F) {x2 x3 : Int32} : ∀ (N : Nat) (x4 : Int32) (σ : Mem), pc (lp_X2_undoLatest_75 F 1 x2 x3 N x4 σ) (fun _ s => ∀ j, ¬ (6 ≤ j ∧ j ≤ 10) → s j = σ j) := by
  intro N
  induction N with
  | zero => intro x4 σ; exact pc_none rfl
  | succ N ih =>
    intro x4 σ
    rw [lp_X2_undoLatest_75_s]
    refine pc_ite (fun c => pc_ret (fun _ _ => rfl)) (fun c => pc_chk (fun _ => pc_chk (fun _ => ?_)))
    refine pc_bnd (pc_pf (fr_X0_post hF wt_h1)) (fun r s4 w => pc_mono (ih _ s4) (fun _ s z j hj => ?_))
    rw [z j hj]
    exact fr_reg w (by unfold wf_4; omega) (fun c hc => by unfold wf_4; omega)
theorem ax_undo_75 {F : Nat} (hF : 1000 ≤ F) {q l : Nat} {x2 x3 : Int32} (hq : x2.toInt = (q : Int)) (hl : x3.toInt = (l : Int)) {P L : Int} {f : Nat → Int32} (hL : (l : Int) < L) (hL5 : L ≤ 5) (hP : P ≤ 6) (hf : ∀ t, t < 24 → (f t).toInt = 9 ∨ (0 ≤ (f t).toInt ∧ (f t).toInt < P)) : ∀ (N k : Nat) (x4 : Int32) (σ : Mem), x4.toInt = (k : Int) → k ≤ 24 → σ (75 + q) = f → (σ 1 0).toInt = P → (σ 1 2).toInt = L → pc (lp_X2_undoLatest_75 F 1 x2 x3 N x4 σ) (fun _ s => (∀ p, p < 188 → wvX 1 s p = if 28 + 24 * l + k ≤ p ∧ p < 52 + 24 * l then wvN (f (p - (28 + 24 * l))) else wvX 1 σ p) ∧ ∀ j, ¬ (6 ≤ j ∧ j ≤ 10) → s j = σ j) := by
  intro N
  induction N with
  | zero => intro k x4 σ h1 h2 h3 h4 h5; exact pc_none rfl
  | succ N ih =>
    intro k x4 σ h1 h2 h3 h4 h5
    rw [lp_X2_undoLatest_75_s]
    refine pc_ite (fun c => pc_ret ⟨fun p hp => ?_, fun _ _ => rfl⟩) (fun c => ?_)
    · have d := ti_le c
      rw [tz_24] at d
      rw [if_neg (by omega)]
    have d := ti_nle c
    rw [tz_24] at d
    refine pc_chk (fun _ => pc_chk (fun _ => ?_))
    rw [tn_int hq, tn_int h1, h3]
    have hk := hf k (by omega)
    refine pc_bnd (pc_and (ax_post (by omega) (by omega)) (pc_pf (fr_X0_post hF wt_h1))) (fun r s4 w => ?_)
    obtain ⟨w1, w2⟩ := w
    have w3 := (w1.1 ⟨⟨by omega, by omega⟩, ⟨by omega, by omega⟩, ⟨by omega, by omega⟩, by omega, by omega⟩).2
    rw [tn_int hl, tn_int h1] at w3
    have o4 : ∀ j, ¬ (6 ≤ j ∧ j ≤ 10) → s4 j = σ j := fun j hj => fr_reg w2 (by unfold wf_4; omega) (fun c hc => by unfold wf_4; omega)
    refine pc_mono (ih (k + 1) _ s4 (ti_nx h1 (by omega)) (by omega) (by rw [o4 _ (by omega), h3]) (by rw [o4 1 (by omega), h4]) (by rw [o4 1 (by omega), h5])) (fun _ s z => ⟨fun p hp => ?_, fun j hj => by rw [z.2 j hj, o4 j hj]⟩)
    rw [z.1 p hp]
    by_cases e1 : p = 28 + 24 * l + k
    · rw [if_neg (by omega), if_pos (by omega), w3 p hp]
      unfold aStand
      rw [if_pos (by omega), show p - (28 + 24 * l) = k by omega]
    · by_cases e2 : 28 + 24 * l + k ≤ p ∧ p < 52 + 24 * l
      · rw [if_pos (by omega), if_pos e2]
      · rw [if_neg (by omega), if_neg e2, w3 p hp]
        unfold aStand
        rw [if_neg (by omega)]
/-- the slot of the latest step -/
def wsLast (σ : Mem) : Nat := ((σ 70 4).toNatClampNeg + ((σ 70 5).toNatClampNeg - 1)) % 8
def wsUndone (σ s : Mem) (q : Nat) : Prop :=
  (σ 71 q = 0 → ∀ l : Nat, (σ 72 q).toInt = (l : Int) → (l : Int) < (σ 1 2).toInt → (∀ t, t < 24 → (σ (75 + q) t).toInt = 9 ∨ (0 ≤ (σ (75 + q) t).toInt ∧ (σ (75 + q) t).toInt < (σ 1 0).toInt)) → ∀ p, p < 188 → wvX 1 s p = if 28 + 24 * l ≤ p ∧ p < 52 + 24 * l then wvN (σ (75 + q) (p - (28 + 24 * l))) else wvX 1 σ p) ∧
  (σ 71 q = 1 → ∀ i : Nat, (σ 72 q).toInt = (i : Int) → (i : Int) < (σ 1 0).toInt → ∀ p, p < 188 → wvX 1 s p = upd (wvX 1 σ) (12 + i) (σ 73 q) p) ∧
  (σ 71 q = 2 → ∀ i : Nat, (σ 72 q).toInt = (i : Int) → i < 8 → 0 ≤ (σ 73 q).toInt → (σ 73 q).toInt ≤ 9 → ∀ p, p < 188 → wvX 1 s p = upd (wvX 1 σ) (4 + i) (σ 73 q) p) ∧
  (σ 71 q = 3 → 0 ≤ (σ 73 q).toInt → (σ 73 q).toInt ≤ 2 → ∀ p, p < 188 → wvX 1 s p = upd (wvX 1 σ) 2 (σ 73 q) p)
theorem ax_undo {F : Nat} (hF : 1000 ≤ F) {σ : Mem} (b0 : 0 ≤ (σ 1 0).toInt ∧ (σ 1 0).toInt ≤ 6) (b2 : 0 ≤ (σ 1 2).toInt ∧ (σ 1 2).toInt ≤ 5) (b4 : 0 ≤ (σ 70 4).toInt ∧ (σ 70 4).toInt ≤ 7) (b5 : 1 ≤ (σ 70 5).toInt ∧ (σ 70 5).toInt ≤ 8) : pc (f_X2_undoLatest F 1 σ) (fun _ s => (s 70 4 = σ 70 4 ∧ (s 70 5).toInt = (σ 70 5).toInt - 1) ∧ wsUndone σ s (wsLast σ)) := by
  rw [f_X2_undoLatest_e]
  refine pc_ite (fun _ => ?_) (fun c => by exfalso; have := ti_nlt c; rw [tz_0] at this; omega)
  refine pc_lt (fun s5 h5 => pc_lt (fun z6 h6 => ?_))
  have e5 : ∀ k, k ≠ 70 → s5 k = σ k := fun k hk => by rw [h5, up2_k hk]
  have e54 : s5 70 4 = σ 70 4 := by rw [h5, up2_i (by decide)]
  have e55 : (s5 70 5).toInt = (σ 70 5).toInt - 1 := by rw [h5, up2_s, ti_sub (by rw [tz_1]; omega) (by rw [tz_1]; omega), tz_1]
  have ez : z6.toInt = (wsLast σ : Int) := by
    have ea : ((s5 70 4) + (s5 70 5)).toInt = (σ 70 4).toInt + ((σ 70 5).toInt - 1) := by rw [ti_add (by rw [e54, e55]; omega) (by rw [e54, e55]; omega), e54, e55]
    rw [h6, ax_mod8 (by omega), ea]
    unfold wsLast
    rw [ti_nat, ti_nat]
    omega
  generalize hq : wsLast σ = q at ez ⊢
  have hq8 : q < 8 := by rw [← hq]; exact Nat.mod_lt _ (by decide)
  refine pc_chk (fun _ => pc_lt (fun z8 h8 => ?_))
  rw [tn_int ez] at h8
  rw [tn_int ez, e5 71 (by decide), e5 73 (by decide)]
  rw [e5 72 (by decide)] at h8
  have n70 : ∀ s : Mem, s 70 = s5 70 → s 70 4 = σ 70 4 ∧ (s 70 5).toInt = (σ 70 5).toInt - 1 := fun s e => by rw [e]; exact ⟨e54, e55⟩
  have hX : ∀ p, p < 188 → wvX 1 s5 p = wvX 1 σ p := fun p hp => wvX_eq (fun p hp => by have := wvJ_le p hp; rw [e5 _ (by omega)]) hp
  have e1 : s5 1 = σ 1 := e5 1 (by decide)
  refine pc_ite (fun c => ?_) (fun c0 => ?_)
  · intro a s e
    have z := fun (l : Nat) (hl : (σ 72 q).toInt = (l : Int)) (hlt : (l : Int) < (σ 1 2).toInt) hf => ax_undo_75 hF ez (by rw [h8]; exact hl) (P := (σ 1 0).toInt) (L := (σ 1 2).toInt) (f := σ (75 + q)) hlt b2.2 b0.2 hf F 0 0 s5 rfl (by omega) (e5 _ (by omega)) (by rw [e1]) (by rw [e1]) a s e
    have f70 : s 70 = s5 70 := ax_undo_75o hF F 0 s5 a s e 70 (by omega)
    refine ⟨n70 s f70, ⟨fun _ l hl hlt hf p hp => ?_, fun h => ?_, fun h => ?_, fun h => ?_⟩⟩
    · rw [(z l hl hlt hf).1 p hp, hX p hp]
      rfl
    · rw [c] at h; exact absurd h (by decide)
    · rw [c] at h; exact absurd h (by decide)
    · rw [c] at h; exact absurd h (by decide)
  refine pc_ite (fun c => ?_) (fun c1 => ?_)
  · refine pc_be (ax_isPane (by rw [e1]; omega)) ?_
    rw [e1, h8]
    have nn : ∀ s : Mem, (∀ i : Nat, (σ 72 q).toInt = (i : Int) → (i : Int) < (σ 1 0).toInt → ∀ p, p < 188 → wvX 1 s p = upd (wvX 1 σ) (12 + i) (σ 73 q) p) → wsUndone σ s q := fun s h => ⟨fun h => absurd h c0, fun _ => h, fun h => by rw [c] at h; exact absurd h (by decide), fun h => by rw [c] at h; exact absurd h (by decide)⟩
    by_cases cp : 0 ≤ (σ 72 q).toInt ∧ (σ 72 q).toInt < (σ 1 0).toInt
    · rw [if_pos cp, if_neg (by decide)]
      refine pc_chk (fun v => pc_lt (fun s13 h13 => pc_ret ⟨n70 _ (by rw [h13, up2_k (by decide)]), nn _ (fun i hi _ p hp => ?_)⟩))
      have hj := wvJI_1 i (by omega)
      rw [h13, wvX_at (q := 12 + i) (by omega) (by omega) (by rw [tn_int hi]; exact hj.2) hp, wvE_o (Or.inl (by omega)), e5 73 (by decide)]
      exact upd_cg (hX p hp) rfl
    · rw [if_neg cp, if_pos rfl]
      exact pc_ret ⟨n70 _ rfl, nn _ (fun i hi hlt => by exfalso; omega)⟩
  refine pc_ite (fun c => ?_) (fun c2 => ?_)
  · refine pc_bnd (pc_and ax_price (pc_pf (fr_X0_price hF wt_h1))) (fun r s w => pc_ret ⟨n70 _ (fr_reg w.2 (by unfold wf_6; omega) (fun c hc => by unfold wf_6; omega)), ?_⟩)
    refine ⟨fun h => absurd h c0, fun h => absurd h c1, fun _ i hi hlt h0 h9 p hp => ?_, fun h => by rw [c] at h; exact absurd h (by decide)⟩
    rw [h8] at w
    rw [(w.1.1 ⟨by omega, by omega, h0, h9⟩).2 p hp]
    unfold aWorth
    rw [tn_int hi]
    exact upd_cg (hX p hp) rfl
  · refine pc_bnd (pc_and ax_rule (pc_pf (fr_X0_rule hF wt_h1))) (fun r s w => pc_ret ⟨n70 _ (fr_reg w.2 (by unfold wf_7; omega) (fun c hc => by unfold wf_7; omega)), ?_⟩)
    refine ⟨fun h => absurd h c0, fun h => absurd h c1, fun h => absurd h c2, fun _ h0 h2 p hp => ?_⟩
    rw [(w.1.1 ⟨h0, h2⟩).2 p hp]
    unfold aLaw
    exact upd_cg (hX p hp) rfl
