/-! questions: both sides stay alike -/
def cRest (c : Nat) : Prop := cX c ∨ cI c ∨ (71 ≤ c ∧ c ≤ 82) ∨ c = 117 ∨ c = 3004 ∨ c = 3005 ∨ c = 1030 ∨ cL c ∨ cW c
theorem rS_ve {σ z : Mem} (hV : wvV (wvM σ)) (h : rS σ) (e : ag cRest σ z) (v : VE (wvM σ) z) : rS z := by
  have e1 : z 70 4 = σ 70 4 := e 70 4 (Or.inr (Or.inr (Or.inr (Or.inr (Or.inl rfl)))))
  have e2 : z 70 5 = σ 70 5 := e 70 5 (Or.inr (Or.inr (Or.inr (Or.inr (Or.inr (Or.inl rfl))))))
  have e3 : z 101 30 = σ 101 30 := e 101 30 (Or.inr (Or.inr (Or.inr (Or.inr (Or.inr (Or.inr (Or.inl rfl)))))))
  have e4 : ∀ i, z 117 i = σ 117 i := fun i => e 117 i (Or.inr (Or.inr (Or.inr (Or.inl rfl))))
  have e5 : ∀ k, 71 ≤ k → k ≤ 82 → ∀ i, z k i = σ k i := fun k a b i => e k i (Or.inr (Or.inr (Or.inl (by rw [wcid_hi (by omega)]; exact ⟨a, b⟩))))
  have eT : ∀ j p, p < 188 → wsT z (σ 101 30).toNatClampNeg j p = wsT σ (σ 101 30).toNatClampNeg j p := fun j p hp => by
    unfold wsT
    rw [v p hp, e4]
  refine ⟨by rw [e2, e3]; exact h.1, fun j hj => ?_⟩
  rw [e3] at hj ⊢
  rw [e1]
  have b := wvV_b (rS_V hV h (j := j + 1) (by omega))
  have hm : ((σ 70 4).toNatClampNeg + j) % 8 < 8 := Nat.mod_lt _ (by decide)
  exact ⟨wvV_cg (h.2 j hj).1 (fun p hp => eT j p hp), wsU_cg (h.2 j hj).2 b.1 b.2 (e5 71 (by omega) (by omega) _) (e5 72 (by omega) (by omega) _) (e5 73 (by omega) (by omega) _) (funext fun i => e5 _ (by omega) (by omega) i) (fun p hp => eT j p hp) (fun p hp => eT _ p hp)⟩
theorem wR_ve {lim : Nat} {σ s z : Mem} (hl : 28 ≤ lim ∧ lim ≤ 188) (h : wR lim σ) (xs : wiX s) (mz : wiM z) (m2 : ∀ k, k < 101 → z k = s k) (e : ag cRest σ z) (v : VE (wvM σ) z) : wR lim z := by
  obtain ⟨hX, hM, hV, hI, hS, hL, hW⟩ := h
  refine ⟨wx_congr xs m2, mz, ⟨wvV_cg hV.1 v, weq_cg hV.2 hl.1 (fun p hp => v p (by omega)) (fun p hp => ag_wvX wt_h1 (ag_mono e (fun c hc => Or.inl (by unfold cX; omega))) (by omega))⟩, rI_ag hl hI (ag_mono e (fun c hc => Or.inr (Or.inl hc))), rS_ve hV.1 hS e v, rL_ag hL (ag_mono e (fun c hc => ?_)), rW_ag hW (ag_mono e (fun c hc => ?_))⟩
  · exact Or.inr (Or.inr (Or.inr (Or.inr (Or.inr (Or.inr (Or.inr (Or.inl hc)))))))
  · exact Or.inr (Or.inr (Or.inr (Or.inr (Or.inr (Or.inr (Or.inr (Or.inr hc)))))))
theorem VE_s {σ s z : Mem} (x2 : ∀ k, 101 ≤ k → s k = σ k) (v : VE (wvM s) z) : VE (wvM σ) z := fun p hp => (v p hp).trans (eMV x2 p hp)
theorem wR_m0 : wR 188 wt_m0 := by
  have h0 : ∀ i, (wt_m0 101 i) = 0 := fun _ => rfl
  refine ⟨⟨fun h hh => ?_, by decide, by decide, by decide, by decide⟩, fun k i hk => ?_, ⟨⟨by decide, by decide, by decide, fun p a b => ?_, fun p a b c => ?_, fun l hl => ?_, fun p a b c => ?_⟩, fun p hp hv => ?_⟩, ⟨rfl, fun n => absurd rfl n⟩, rS_0 rfl rfl, ⟨rfl, fun i hi => absurd hi (Nat.not_lt_zero i)⟩, ⟨rfl, fun i hi => absurd hi (Nat.not_lt_zero i)⟩⟩
  · rcases wt_Hcs hh with e | e | e <;> subst e <;> decide
  · have hb : wiB i 0 := ⟨fun _ => by decide, fun _ => by decide, fun _ _ => by decide⟩
    have hb2 : wiB (i % 188) 0 := ⟨fun _ => by decide, fun _ => by decide, fun _ _ => by decide⟩
    by_cases e : k = 106
    · subst e
      exact wm_106 (by show -9 ≤ (-9 : Int32).toInt ∧ (-9 : Int32).toInt ≤ 5; decide)
    by_cases e2 : k = 102
    · subst e2; exact wm_free (by decide) (by decide) (by decide) (by decide)
    have h0 : wt_m0 k i = 0 := by
      unfold wt_m0
      rw [if_neg (by omega), if_neg e]
    rw [h0]
    exact ⟨fun _ => ⟨fun _ => by decide, fun _ => by decide, fun _ => by decide, fun _ => by decide, fun _ => by decide, fun _ => by decide, fun _ => by decide⟩, fun h => absurd h e, fun _ => by decide, fun _ => hb, fun _ => hb2⟩
  · have q : ∀ p, p < 12 → 4 ≤ p → 0 ≤ (wvM wt_m0 p).toInt ∧ (wvM wt_m0 p).toInt ≤ 9 := by decide +kernel
    exact q p b a
  · exfalso
    have := c.1 a b
    exact absurd this (Nat.not_lt_zero _)
  · exfalso
    have e : (wvM wt_m0 1).toInt = 0 := by decide
    rw [e] at hl
    omega
  · exfalso
    have := c.2 a
    exact absurd this (Nat.not_lt_zero _)
  · have q : ∀ p, p < 28 → wvX 1 wt_m0 p = wvM wt_m0 p := by decide +kernel
    by_cases e : p < 28
    · exact q p e
    · exfalso
      by_cases e2 : p < 148
      · exact absurd (hv.1 (by omega) e2) (Nat.not_lt_zero _)
      · exact absurd (hv.2 (by omega)) (Nat.not_lt_zero _)
