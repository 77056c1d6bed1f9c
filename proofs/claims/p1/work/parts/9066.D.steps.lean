/-! steps of the class: a ring of 8 -/
theorem ax_mod8 {x : Int32} (h0 : 0 ≤ x.toInt) : (x - x / (8 : Int32) * (8 : Int32)).toInt = x.toInt % 8 := by
  rw [ti_rem, tz_8, Int.tmod_eq_emod_of_nonneg h0]
/-- where a step goes, and the ring's two numbers then -/
def wsSlot (σ : Mem) : Nat := ((σ 70 4).toNatClampNeg + (σ 70 5).toNatClampNeg) % 8
def wsRing (σ s : Mem) : Prop :=
  ((σ 70 5).toInt < 8 → (s 70 4).toInt = (σ 70 4).toInt ∧ (s 70 5).toInt = (σ 70 5).toInt + 1) ∧ ((σ 70 5).toInt = 8 → (s 70 4).toInt = ((σ 70 4).toInt + 1) % 8 ∧ (s 70 5).toInt = 8)
theorem ax_nextSlot {F : Nat} {σ : Mem} (b4 : 0 ≤ (σ 70 4).toInt ∧ (σ 70 4).toInt ≤ 7) (b5 : 0 ≤ (σ 70 5).toInt ∧ (σ 70 5).toInt ≤ 8) : pc (f_X2_nextSlot F σ) (fun r s => r.toInt = (wsSlot σ : Int) ∧ wsRing σ s ∧ ∀ k, k ≠ 70 → s k = σ k) := by
  rw [f_X2_nextSlot_e]
  simp only [j_X2_nextSlot_48_e]
  refine pc_lt (fun z1 h1 => ?_)
  have ea : ((σ 70 4) + (σ 70 5)).toInt = (σ 70 4).toInt + (σ 70 5).toInt := ti_add (by omega) (by omega)
  have ez : z1.toInt = (wsSlot σ : Int) := by
    rw [h1, ax_mod8 (by omega), ea]
    unfold wsSlot
    rw [ti_nat, ti_nat]
    omega
  refine pc_ite (fun c => ?_) (fun c => ?_)
  · have d := ti_le c
    rw [tz_8] at d
    refine pc_lt (fun s2 h2 => pc_ret ⟨ez, ⟨fun q => by omega, fun q => ⟨?_, ?_⟩⟩, fun k hk => by rw [h2, up2_k hk]⟩)
    · have e1 : ((σ 70 4) + (1 : Int32)).toInt = (σ 70 4).toInt + 1 := by rw [ti_add (by rw [tz_1]; omega) (by rw [tz_1]; omega), tz_1]
      rw [h2, up2_s, ax_mod8 (by omega), e1]
    · rw [h2, up2_i (by decide), q]
  · have d := ti_nle c
    rw [tz_8] at d
    refine pc_lt (fun s3 h3 => pc_ret ⟨ez, ⟨fun q => ⟨?_, ?_⟩, fun q => by omega⟩, fun k hk => by rw [h3, up2_k hk]⟩)
    · rw [h3, up2_i (by decide)]
    · rw [h3, up2_s, ti_add (by rw [tz_1]; omega) (by rw [tz_1]; omega), tz_1]
theorem ax_keep {F : Nat} {x1 x2 x3 : Int32} {σ : Mem} (b4 : 0 ≤ (σ 70 4).toInt ∧ (σ 70 4).toInt ≤ 7) (b5 : 0 ≤ (σ 70 5).toInt ∧ (σ 70 5).toInt ≤ 8) : pc (f_X2_keep F x1 x2 x3 σ) (fun _ s => wsRing σ s ∧ s 71 = upd (σ 71) (wsSlot σ) x1 ∧ s 72 = upd (σ 72) (wsSlot σ) x2 ∧ s 73 = upd (σ 73) (wsSlot σ) x3 ∧ ∀ k, k ≠ 70 → k ≠ 71 → k ≠ 72 → k ≠ 73 → s k = σ k) := by
  rw [f_X2_keep_e]
  refine pc_bnd (ax_nextSlot b4 b5) (fun r s2 q => ?_)
  obtain ⟨er, hR, ho⟩ := q
  refine pc_chk (fun _ => pc_lt (fun s4 h4 => pc_lt (fun s5 h5 => pc_lt (fun s6 h6 => pc_ret ?_))))
  rw [tn_int er] at h4 h5 h6
  have e70 : s6 70 = s2 70 := by rw [h6, up2_k (by decide), h5, up2_k (by decide), h4, up2_k (by decide)]
  refine ⟨by unfold wsRing; rw [e70]; exact hR, ?_, ?_, ?_, fun k n0 n1 n2 n3 => ?_⟩
  · rw [h6, up2_k (by decide), h5, up2_k (by decide), h4]
    unfold up2
    rw [if_pos rfl, ho _ (by decide)]
  · rw [h6, up2_k (by decide), h5]
    unfold up2
    rw [if_pos rfl, h4, up2_k (by decide), ho _ (by decide)]
  · rw [h6]
    unfold up2
    rw [if_pos rfl, h5, up2_k (by decide), h4, up2_k (by decide), ho _ (by decide)]
  · rw [h6, up2_k n3, h5, up2_k n2, h4, up2_k n1, ho _ n0]
theorem ax_keepRoster_22 {F a : Nat} {x3 : Int32} {q : Nat} (hq : x3.toInt = (q : Int)) (ha : a ≠ 75 + q) {f : Nat → Int32} : ∀ (N k : Nat) (x4 : Int32) (σ : Mem), x4.toInt = (k : Int) → k ≤ 24 → σ a = f → pc (lp_X2_keepRoster_22 F a x3 N x4 σ) (fun _ s => (∀ j, j ≠ 75 + q → s j = σ j) ∧ (∀ t, k ≤ t → t < 24 → s (75 + q) t = f t) ∧ (∀ t, t < k → s (75 + q) t = σ (75 + q) t)) := by
  intro N
  induction N with
  | zero => intro k x4 σ h1 h2 h3; exact pc_none rfl
  | succ N ih =>
    intro k x4 σ h1 h2 h3
    rw [lp_X2_keepRoster_22_s]
    have ex : (24 : Int32) ≤ x4 → k = 24 := fun c => by have d := ti_le c; rw [tz_24] at d; omega
    refine pc_ite (fun c => pc_ret ⟨fun _ _ => rfl, fun t a b => by have := ex c; omega, fun _ _ => rfl⟩) (fun c => ?_)
    refine pc_ite (fun c => pc_ret ⟨fun _ _ => rfl, fun t a b => by have := ex c; omega, fun _ _ => rfl⟩) (fun c => ?_)
    have d := ti_nle c
    rw [tz_24] at d
    refine pc_chk (fun _ => pc_chk (fun _ => pc_lt (fun s3 h => ?_)))
    rw [tn_int hq, tn_int h1] at h
    refine pc_mono (ih (k + 1) _ s3 (ti_nx h1 (by omega)) (by omega) (by rw [h, up2_k ha, h3])) (fun r s w => ?_)
    obtain ⟨w1, w2, w3⟩ := w
    refine ⟨fun j hj => by rw [w1 j hj, h, up2_k hj], fun t a b => ?_, fun t a => ?_⟩
    · by_cases e : t = k
      · subst e; rw [w3 _ (by omega), h, up2_s, h3]
      · exact w2 t (by omega) b
    · rw [w3 t (by omega), h, up2_i (by omega)]
theorem ax_keepRoster {F a : Nat} {x1 : Int32} {σ : Mem} (ha : a < 70) (b4 : 0 ≤ (σ 70 4).toInt ∧ (σ 70 4).toInt ≤ 7) (b5 : 0 ≤ (σ 70 5).toInt ∧ (σ 70 5).toInt ≤ 8) : pc (f_X2_keepRoster F x1 a σ) (fun _ s => wsRing σ s ∧ s 71 = upd (σ 71) (wsSlot σ) 0 ∧ s 72 = upd (σ 72) (wsSlot σ) x1 ∧ (∀ t, t < 24 → s (75 + wsSlot σ) t = σ a t) ∧ ∀ k, k ≠ 70 → k ≠ 71 → k ≠ 72 → k ≠ 75 + wsSlot σ → s k = σ k) := by
  rw [f_X2_keepRoster_e]
  refine pc_bnd (ax_nextSlot b4 b5) (fun r s2 q => ?_)
  obtain ⟨er, hR, ho⟩ := q
  refine pc_chk (fun _ => pc_lt (fun s4 h4 => pc_lt (fun s5 h5 => ?_)))
  rw [tn_int er] at h4 h5
  have e5 : ∀ k, k ≠ 70 → k ≠ 71 → k ≠ 72 → s5 k = σ k := fun k n0 n1 n2 => by rw [h5, up2_k n2, h4, up2_k n1, ho _ n0]
  refine pc_mono (ax_keepRoster_22 (a := a) (f := σ a) er (by omega) F 0 0 s5 rfl (by omega) (e5 a (by omega) (by omega) (by omega))) (fun _ s w => ?_)
  obtain ⟨w1, w2, -⟩ := w
  refine ⟨?_, ?_, ?_, fun t ht => w2 t (by omega) ht, fun k n0 n1 n2 n3 => by rw [w1 k n3, e5 k n0 n1 n2]⟩
  · unfold wsRing
    rw [w1 70 (by omega), h5, up2_k (by decide), h4, up2_k (by decide)]
    exact hR
  · rw [w1 71 (by omega), h5, up2_k (by decide), h4]
    unfold up2
    rw [if_pos rfl, ho _ (by decide)]
  · rw [w1 72 (by omega), h5]
    unfold up2
    rw [if_pos rfl, h4, up2_k (by decide), ho _ (by decide)]
