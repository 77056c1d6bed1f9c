/-! the class's refusals -/
def cN (x a b : Int32) : Int32 := if a.toInt ≤ x.toInt then (if x.toInt ≤ b.toInt then 0 else -6) else -4
def cO (x n : Int32) : Int32 := if 0 ≤ x.toInt ∧ x.toInt < n.toInt then 0 else -2
def cF (a b : Int32) : Int32 := if a = 0 then b else a
def cB (c : Prop) [Decidable c] : Int32 := if c then 0 else -1
theorem cB_t {c : Prop} [Decidable c] (h : c) : cB c = 0 := if_pos h
theorem cB_f {c : Prop} [Decidable c] (h : ¬ c) : cB c = -1 := if_neg h
theorem cB_0 {c : Prop} [Decidable c] (h : cB c = 0) : c := by
  by_cases q : c
  · exact q
  · rw [cB_f q] at h; exact absurd h (by decide)
theorem cB_cg {c d : Prop} [Decidable c] [Decidable d] (h : c ↔ d) : cB c = cB d := by
  by_cases q : c
  · rw [cB_t q, cB_t (h.mp q)]
  · rw [cB_f q, cB_f (fun r => q (h.mpr r))]
theorem cF_0 {a b : Int32} (h : cF a b = 0) : a = 0 ∧ b = 0 := by
  unfold cF at h
  by_cases q : a = 0
  · rw [if_pos q] at h; exact ⟨q, h⟩
  · rw [if_neg q] at h; exact absurd h q
theorem cN_0 {x a b : Int32} (h : cN x a b = 0) : a.toInt ≤ x.toInt ∧ x.toInt ≤ b.toInt := by
  unfold cN at h
  by_cases q : a.toInt ≤ x.toInt
  · rw [if_pos q] at h
    by_cases r : x.toInt ≤ b.toInt
    · exact ⟨q, r⟩
    · rw [if_neg r] at h; exact absurd h (by decide)
  · rw [if_neg q] at h; exact absurd h (by decide)
theorem cN_t {x a b : Int32} (h1 : a.toInt ≤ x.toInt) (h2 : x.toInt ≤ b.toInt) : cN x a b = 0 := by
  unfold cN; rw [if_pos h1, if_pos h2]
theorem cO_0 {x n : Int32} (h : cO x n = 0) : 0 ≤ x.toInt ∧ x.toInt < n.toInt := by
  unfold cO at h
  by_cases q : 0 ≤ x.toInt ∧ x.toInt < n.toInt
  · exact q
  · rw [if_neg q] at h; exact absurd h (by decide)
theorem ax_outside {F : Nat} {x a b : Int32} {σ : Mem} : f_X3_outside F x a b σ = some (cN x a b, σ) := by
  rw [f_X3_outside_e]
  unfold cN
  by_cases c1 : a ≤ x
  · rw [if_pos c1, if_pos (ti_le c1)]
    by_cases c2 : x ≤ b
    · rw [if_pos c2, if_pos (ti_le c2)]
    · rw [if_neg c2, if_neg (Int.not_le.mpr (ti_nle c2))]
  · rw [if_neg c1, if_neg (Int.not_le.mpr (ti_nle c1))]
theorem mx_wrongN {F : Nat} {x a b : Int32} {σ : Mem} : f_X4_wrongNumber F x a b σ = some (cN x a b, σ) := mx_wrongNumber
theorem ax_notBelow {F : Nat} {x n : Int32} {σ : Mem} : f_X3_notBelow F x n σ = some (cO x n, σ) := by
  rw [f_X3_notBelow_e]
  simp only [j_X3_notBelow_13_e]
  unfold cO
  by_cases c1 : x < 0
  · rw [if_pos c1, if_neg (fun q => by have := ti_lt c1; rw [tz_0] at this; have := q.1; omega)]
  · rw [if_neg c1]
    have d1 := ti_nlt c1
    rw [tz_0] at d1
    by_cases c2 : n ≤ x
    · rw [if_pos c2, if_neg (fun q => by have := ti_le c2; have := q.2; omega)]
    · rw [if_neg c2, if_pos ⟨d1, ti_nle c2⟩]
theorem ax_firstOf {F : Nat} {a b : Int32} {σ : Mem} : f_X3_firstOf F a b σ = some (cF a b, σ) := by
  rw [f_X3_firstOf_e]
  unfold cF
  by_cases c : a = 0
  · rw [if_pos c, if_pos c]
  · rw [if_neg c, if_neg c]
theorem ax_flag {c : Prop} [Decidable c] {σ : Mem} : (if (if c then (1 : Int32) else 0) = 0 then some ((-1 : Int32), σ) else some ((0 : Int32), σ)) = some (cB c, σ) := by
  by_cases q : c
  · rw [if_pos q, if_neg (by decide), cB_t q]
  · rw [if_neg q, if_pos rfl, cB_f q]
theorem ax_noView {F : Nat} {x : Int32} {σ : Mem} : f_X3_noView F x σ = some (cB (0 ≤ x.toInt ∧ x.toInt ≤ 7), σ) := by
  rw [f_X3_noView_e, wt_bnd_eq ax_isView, ax_flag]
theorem ax_noHour {F : Nat} {x : Int32} {σ : Mem} : f_X3_noHour F x σ = some (cB (0 ≤ x.toInt ∧ x.toInt ≤ 23), σ) := by
  rw [f_X3_noHour_e, wt_bnd_eq ax_isHour, ax_flag]
theorem ax_noPane {F : Nat} {x : Int32} {σ : Mem} (b : (σ 1 0).toInt ≤ 6) : f_X3_noPane F x σ = some (cB (0 ≤ x.toInt ∧ x.toInt < (σ 1 0).toInt), σ) := by
  rw [f_X3_noPane_e, wt_bnd_eq (ax_isPane b), ax_flag]
theorem ax_noLooker {F : Nat} {x : Int32} {σ : Mem} (b : (σ 1 2).toInt ≤ 5) : f_X3_noLooker F x σ = some (cB (0 ≤ x.toInt ∧ x.toInt < (σ 1 2).toInt), σ) := by
  rw [f_X3_noLooker_e, wt_bnd_eq (ax_isLooker b), ax_flag]
theorem ax_refuse {F : Nat} {x : Int32} {σ : Mem} : pc (f_X3_refuse F x σ) (fun r s => r = x ∧ ∀ k, k ≠ 86 → s k = σ k) := by
  rw [f_X3_refuse_e]
  simp only [j_X3_refuse_23_e]
  refine pc_ite (fun _ => pc_ret ⟨rfl, fun _ _ => rfl⟩) (fun _ => pc_ite (fun _ => pc_ret ⟨rfl, fun _ _ => rfl⟩) (fun _ => ?_))
  exact pc_chk (fun _ => pc_lt (fun s2 h2 => pc_ret ⟨rfl, fun k hk => by rw [h2, up2_k hk]⟩))
/-- what a call of the class with a refusal e does -/
def cR (e : Int32) (G : Int32 → Mem → Prop) (σ : Mem) (r : Int32) (s : Mem) : Prop := (e = 0 → G r s) ∧ (¬ e = 0 → r = e ∧ ∀ k, k ≠ 86 → s k = σ k)
/-- and one of the reference -/
def mR (e : Int32) (G : Int32 → Mem → Prop) (σ : Mem) (r : Int32) (s : Mem) : Prop := (e = 0 → G r s) ∧ (¬ e = 0 → r = e ∧ ∀ k i, k ≠ 108 → ¬ (k = 101 ∧ i = 10) → s k i = σ k i)
theorem cR_end {F : Nat} {e : Int32} {G : Int32 → Mem → Prop} {σ : Mem} {A : Option (Int32 × Mem)} (h : e = 0 → pc A G) : pc (if e = 0 then A else wt_bnd (f_X3_refuse F e σ) fun r s => some (r, s)) (cR e G σ) := by
  refine pc_ite (fun c => pc_mono (h c) (fun a s g => ⟨fun _ => g, fun n => absurd c n⟩)) (fun c => pc_bnd ax_refuse (fun r s q => pc_ret ⟨fun n => absurd n c, fun _ => q⟩))
theorem ax_forget {F : Nat} {σ : Mem} : f_X2_forget F σ = some ((), up2 σ 70 5 0) := by rw [f_X2_forget_e]; rfl
def ePane (P x : Int32) : Int32 := cF (cN x 0 255) (if P.toInt < 6 then 0 else -6)
def eLooker (L k f : Int32) : Int32 := cF (cF (cO k 6) (cN f 0 9)) (if L.toInt < 5 then 0 else -6)
theorem cF_i {a b : Int32} : (if a = 0 then b else a) = cF a b := rfl
theorem pc_iteR {β : Type} {c : Prop} [Decidable c] {A E : Option (β × Mem)} {Q : β → Mem → Prop} (h1 : c → pc A Q) (h2 : ¬ c → pc E Q) : pc (if c then A else E) Q := pc_ite h1 h2
theorem cx_pane {F : Nat} {x : Int32} {σ : Mem} (b : 0 ≤ (σ 1 0).toInt ∧ (σ 1 0).toInt ≤ 6) : pc (f_X3_pane F x σ) (cR (ePane (σ 1 0) x) (fun r s => (∀ p, p < 188 → wvX 1 s p = aPane (wvX 1 σ) x p) ∧ r = s 1 0 - (1 : Int32) ∧ s 70 5 = 0) σ) := by
  rw [f_X3_pane_e]
  refine pc_be ax_outside ?_
  simp only [j_X3_pane_28_e]
  have good : ePane (σ 1 0) x = 0 → pc (wt_bnd (f_X0_addPane F 1 x σ) fun r1 s2 => wt_bnd (f_X2_forget F s2) fun r3 s4 => some ((s4 1 0) - (1 : Int32), s4)) (fun r s => (∀ p, p < 188 → wvX 1 s p = aPane (wvX 1 σ) x p) ∧ r = s 1 0 - (1 : Int32) ∧ s 70 5 = 0) := fun e => by
    obtain ⟨e1, e2⟩ := cF_0 e
    have e3 := cN_0 e1
    rw [tz_0, tz_255] at e3
    refine pc_bnd (ax_addPane wt_h1 b) (fun r s q => pc_be ax_forget (pc_ret ⟨fun p hp => ?_, rfl, up2_s⟩))
    rw [wvX_k (by omega) hp]
    refine (q.1 ⟨e3.1, e3.2, ?_⟩).2 p hp
    by_cases c : (σ 1 0).toInt < 6
    · exact c
    · rw [if_neg c] at e2; exact absurd e2 (by decide)
  have key : ∀ e, e = ePane (σ 1 0) x → pc (if e = 0 then (wt_bnd (f_X0_addPane F 1 x σ) fun r1 s2 => wt_bnd (f_X2_forget F s2) fun r3 s4 => some ((s4 1 0) - (1 : Int32), s4)) else wt_bnd (f_X3_refuse F e σ) fun r5 s6 => some (r5, s6)) (cR (ePane (σ 1 0) x) (fun r s => (∀ p, p < 188 → wvX 1 s p = aPane (wvX 1 σ) x p) ∧ r = s 1 0 - (1 : Int32) ∧ s 70 5 = 0) σ) := fun e he => by
    subst he; exact cR_end good
  by_cases c1 : cN x 0 255 = 0
  · rw [if_pos c1]
    by_cases c2 : σ 1 0 < 6
    · rw [if_pos c2]
      refine key _ ?_
      unfold ePane cF
      have := ti_lt c2
      rw [tz_6] at this
      rw [if_pos c1, if_pos this, c1]
    · rw [if_neg c2]
      refine key _ ?_
      unfold ePane cF
      have := ti_nlt c2
      rw [tz_6] at this
      rw [if_pos c1, if_neg (by omega)]
  · rw [if_neg c1]
    refine key _ ?_
    unfold ePane cF
    rw [if_neg c1]
theorem cx_looker {F : Nat} {k f : Int32} {σ : Mem} (b : 0 ≤ (σ 1 2).toInt ∧ (σ 1 2).toInt ≤ 5) : pc (f_X3_looker F k f σ) (cR (eLooker (σ 1 2) k f) (fun r s => (∀ p, p < 188 → wvX 1 s p = aLooker (wvX 1 σ) k f p) ∧ r = s 1 2 - (1 : Int32) ∧ s 70 5 = 0) σ) := by
  rw [f_X3_looker_e]
  refine pc_be ax_notBelow (pc_be ax_outside (pc_be ax_firstOf ?_))
  simp only [j_X3_looker_35_e]
  have good : eLooker (σ 1 2) k f = 0 → pc (wt_bnd (f_X0_addLooker F 1 k f σ) fun r1 s2 => wt_bnd (f_X2_forget F s2) fun r3 s4 => some ((s4 1 2) - (1 : Int32), s4)) (fun r s => (∀ p, p < 188 → wvX 1 s p = aLooker (wvX 1 σ) k f p) ∧ r = s 1 2 - (1 : Int32) ∧ s 70 5 = 0) := fun e => by
    obtain ⟨e1, e2⟩ := cF_0 e
    obtain ⟨e0, e1⟩ := cF_0 e1
    have e3 := cN_0 e1
    have e4 := cO_0 e0
    rw [tz_0, tz_9] at e3
    rw [tz_6] at e4
    refine pc_bnd (ax_addLooker wt_h1 b) (fun r s q => pc_be ax_forget (pc_ret ⟨fun p hp => ?_, rfl, up2_s⟩))
    rw [wvX_k (by omega) hp]
    refine (q.1 ⟨⟨e4.1, by omega⟩, e3, ?_⟩).2 p hp
    by_cases c : (σ 1 2).toInt < 5
    · exact c
    · rw [if_neg c] at e2; exact absurd e2 (by decide)
  have key : ∀ e, e = eLooker (σ 1 2) k f → pc (if e = 0 then (wt_bnd (f_X0_addLooker F 1 k f σ) fun r1 s2 => wt_bnd (f_X2_forget F s2) fun r3 s4 => some ((s4 1 2) - (1 : Int32), s4)) else wt_bnd (f_X3_refuse F e σ) fun r5 s6 => some (r5, s6)) (cR (eLooker (σ 1 2) k f) (fun r s => (∀ p, p < 188 → wvX 1 s p = aLooker (wvX 1 σ) k f p) ∧ r = s 1 2 - (1 : Int32) ∧ s 70 5 = 0) σ) := fun e he => by
    subst he; exact cR_end good
  generalize hc : cF (cO k 6) (cN f 0 9) = c at *
  have hE : eLooker (σ 1 2) k f = cF c (if (σ 1 2).toInt < 5 then 0 else -6) := by unfold eLooker; rw [hc]
  by_cases c1 : c = 0
  · rw [if_pos c1]
    by_cases c2 : σ 1 2 < 5
    · rw [if_pos c2]
      refine key _ ?_
      have := ti_lt c2
      rw [tz_5] at this
      rw [hE]
      unfold cF
      rw [if_pos c1, if_pos this, c1]
    · rw [if_neg c2]
      refine key _ ?_
      have := ti_nlt c2
      rw [tz_5] at this
      rw [hE]
      unfold cF
      rw [if_pos c1, if_neg (by omega)]
  · rw [if_neg c1]
    refine key _ ?_
    rw [hE]
    unfold cF
    rw [if_neg c1]
