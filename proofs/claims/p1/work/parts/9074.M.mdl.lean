/-! the reference's calls that change its house -/
def sg (e : Int32) : Prop := e = 0 ∨ e.toInt < 0
theorem sg_cN {x a b : Int32} : sg (cN x a b) := by
  unfold cN
  by_cases q : a.toInt ≤ x.toInt
  · rw [if_pos q]
    by_cases r : x.toInt ≤ b.toInt
    · rw [if_pos r]; exact Or.inl rfl
    · rw [if_neg r]; exact Or.inr (by decide)
  · rw [if_neg q]; exact Or.inr (by decide)
theorem sg_cB {c : Prop} [Decidable c] : sg (cB c) := by
  by_cases q : c
  · rw [cB_t q]; exact Or.inl rfl
  · rw [cB_f q]; exact Or.inr (by decide)
theorem sg_cO {x n : Int32} : sg (cO x n) := by
  unfold cO
  by_cases q : 0 ≤ x.toInt ∧ x.toInt < n.toInt
  · rw [if_pos q]; exact Or.inl rfl
  · rw [if_neg q]; exact Or.inr (by decide)
theorem sg_i {c : Prop} [Decidable c] {n : Int32} (h : n.toInt < 0) : sg (if c then 0 else n) := by
  by_cases q : c
  · rw [if_pos q]; exact Or.inl rfl
  · rw [if_neg q]; exact Or.inr h
theorem sg_cF {a b : Int32} (h1 : sg a) (h2 : sg b) : sg (cF a b) := by
  unfold cF
  by_cases q : a = 0
  · rw [if_pos q]; exact h2
  · rw [if_neg q]; exact h1
theorem mR_end {F : Nat} {e : Int32} (he : sg e) {G : Int32 → Mem → Prop} {σ s1 : Mem} (h1 : ∀ k i, ¬ (k = 101 ∧ i = 10) → s1 k i = σ k i) {A : Option (Int32 × Mem)} (h : e = 0 → pc A G) : pc (if 0 ≤ e then A else wt_bnd (f_X4_refuse F e s1) fun r s => some (r, s)) (mR e G σ) := by
  refine pc_ite (fun c => ?_) (fun c => pc_bnd mx_refuse (fun r s q => pc_ret ⟨fun n => absurd (by rw [n]; decide) c, fun _ => ⟨q.1, fun k i hk hi => by rw [q.2 k hk]; exact h1 k i hi⟩⟩))
  have d := ti_le c
  rw [tz_0] at d
  have e0 : e = 0 := by
    rcases he with q | q
    · exact q
    · omega
  exact pc_mono (h e0) (fun a s g => ⟨fun _ => g, fun n => absurd e0 n⟩)
theorem mR_ref {F : Nat} {e : Int32} (he : ¬ e = 0) {G : Int32 → Mem → Prop} {σ s1 : Mem} (h1 : ∀ k i, ¬ (k = 101 ∧ i = 10) → s1 k i = σ k i) : pc (wt_bnd (f_X4_refuse F e s1) fun r s => some (r, s)) (mR e G σ) := pc_bnd mx_refuse (fun r s q => pc_ret ⟨fun n => absurd n he, fun _ => ⟨q.1, fun k i hk hi => by rw [q.2 k hk]; exact h1 k i hi⟩⟩)
theorem th_k {σ : Mem} : ∀ k i, ¬ (k = 101 ∧ i = 10) → up2 σ 101 10 0 k i = σ k i := fun k i h => by rw [wm_key, if_neg h]
theorem th_V {σ : Mem} {p : Nat} (hp : p < 188) : wvM (up2 σ 101 10 0) p = wvM σ p := wvM_no (by omega) (by omega) hp
theorem cm_pane {F : Nat} {x : Int32} {σ : Mem} (b : 0 ≤ (σ 101 1).toInt ∧ (σ 101 1).toInt ≤ 6) : pc (f_X4_pane F x σ) (mR (ePane (σ 101 1) x) (fun r s => (∀ p, p < 188 → wvM s p = aPane (wvM σ) x p) ∧ r = s 101 1 - (1 : Int32) ∧ s 101 30 = 0) σ) := by
  rw [f_X4_pane_e]
  refine pc_lt (fun s7 h7 => pc_be mx_wrongN ?_)
  simp only [j_X4_pane_32_e, j_X4_pane_33_e]
  have e7 : s7 101 1 = σ 101 1 := by rw [h7, up2_i (by decide)]
  have k7 : ∀ k i, ¬ (k = 101 ∧ i = 10) → s7 k i = σ k i := by rw [h7]; exact th_k
  have hG : ∀ e, e = ePane (σ 101 1) x → pc (if 0 ≤ e then (wt_chk (s7 101 1) 6 (wt_lt (up2 s7 103 (Int32.toNatClampNeg (s7 101 1)) x) fun s2 => wt_lt (up2 s2 101 1 ((s2 101 1) + (1 : Int32))) fun s3 => wt_lt (up2 s3 101 30 (0 : Int32)) fun s4 => some (((s4 101 1) - (1 : Int32)), s4))) else wt_bnd (f_X4_refuse F e s7) fun r s => some (r, s)) (mR (ePane (σ 101 1) x) (fun r s => (∀ p, p < 188 → wvM s p = aPane (wvM σ) x p) ∧ r = s 101 1 - (1 : Int32) ∧ s 101 30 = 0) σ) := fun e he => by
    subst he
    refine mR_end (sg_cF sg_cN (sg_i (by decide))) k7 (fun e => pc_chk (fun v => pc_lt (fun s2 h2 => pc_lt (fun s3 h3 => pc_lt (fun s4 h4 => pc_ret ⟨fun p hp => ?_, rfl, by rw [h4, up2_s]⟩)))))
    rw [e7] at v h2
    have hj := wtJI_103 _ v.2.2
    rw [h4, wvM_no (by omega) (by omega) hp, h3, wvM_at (k := 101) (i := 1) (q := 0) (by decide) rfl rfl hp]
    unfold aPane
    refine upd_cg ?_ ?_
    · rw [h2, wvM_at (q := 12 + (σ 101 1).toNatClampNeg) (by have := v.2.2; omega) hj.1.symm hj.2.symm hp]
      exact upd_cg (by rw [h7]; exact th_V hp) rfl
    · rw [h2, up2_k (by decide), e7]; rfl
  by_cases c1 : cN x 0 255 = 0
  · rw [if_pos c1]
    by_cases c2 : s7 101 1 = 6
    · rw [if_pos c2]
      rw [e7] at c2
      refine hG _ ?_
      unfold ePane cF
      have := congrArg Int32.toInt c2
      rw [tz_6] at this
      rw [if_pos c1, if_neg (by omega)]
    · rw [if_neg c2]
      rw [e7] at c2
      refine hG _ ?_
      unfold ePane cF
      have := ti_ne c2
      rw [tz_6] at this
      rw [if_pos c1, if_pos (by omega), c1]
  · rw [if_neg c1]
    refine hG _ ?_
    unfold ePane cF
    rw [if_neg c1]
theorem in_cO {x : Int32} : (if 0 ≤ x.toInt ∧ x.toInt ≤ 5 then (1 : Int32) else 0) = 0 ↔ ¬ cO x 6 = 0 := by
  unfold cO
  rw [tz_6]
  by_cases q : 0 ≤ x.toInt ∧ x.toInt ≤ 5
  · rw [if_pos q, if_pos (by omega)]; exact ⟨fun h => absurd h (by decide), fun h => absurd rfl h⟩
  · rw [if_neg q, if_neg (by omega)]; exact ⟨fun _ => by decide, fun _ => rfl⟩
theorem cO_n {x n : Int32} (h : ¬ cO x n = 0) : cO x n = -2 := by
  unfold cO at h ⊢
  by_cases q : 0 ≤ x.toInt ∧ x.toInt < n.toInt
  · rw [if_pos q] at h; exact absurd rfl h
  · rw [if_neg q]
theorem cm_looker {F : Nat} {k f : Int32} {σ : Mem} (b : 0 ≤ (σ 101 3).toInt ∧ (σ 101 3).toInt ≤ 5) : pc (f_X4_looker F k f σ) (mR (eLooker (σ 101 3) k f) (fun r s => (∀ p, p < 188 → wvM s p = aLooker (wvM σ) k f p) ∧ r = s 101 3 - (1 : Int32) ∧ s 101 30 = 0) σ) := by
  rw [f_X4_looker_e]
  refine pc_lt (fun s7 h7 => pc_be (mx_in32 (lo := 0) (hi := 5) rfl rfl) ?_)
  simp only [j_X4_looker_29_e, j_X4_looker_47_e, j_X4_looker_48_e]
  have e7 : s7 101 3 = σ 101 3 := by rw [h7, up2_i (by decide)]
  have k7 : ∀ k i, ¬ (k = 101 ∧ i = 10) → s7 k i = σ k i := by rw [h7]; exact th_k
  have hG : ∀ e, e = eLooker (σ 101 3) k f → pc (if 0 ≤ e then (wt_bnd (f_X4_lookerComes F k f s7) fun r1 s2 => wt_lt (up2 s2 101 30 (0 : Int32)) fun s3 => some (((s3 101 3) - (1 : Int32)), s3)) else wt_bnd (f_X4_refuse F e s7) fun r s => some (r, s)) (mR (eLooker (σ 101 3) k f) (fun r s => (∀ p, p < 188 → wvM s p = aLooker (wvM σ) k f p) ∧ r = s 101 3 - (1 : Int32) ∧ s 101 30 = 0) σ) := fun e he => by
    subst he
    refine mR_end (sg_cF (sg_cF sg_cO sg_cN) (sg_i (by decide))) k7 (fun e => ?_)
    have hL : (σ 101 3).toInt < 5 := by
      have := (cF_0 e).2
      by_cases c : (σ 101 3).toInt < 5
      · exact c
      · rw [if_neg c] at this; exact absurd this (by decide)
    refine pc_bnd (mx_lookerComes (by rw [e7]; exact ⟨b.1, hL⟩)) (fun _ s2 q => pc_lt (fun s3 h3 => pc_ret ⟨fun p hp => ?_, rfl, by rw [h3, up2_s]⟩))
    rw [h3, wvM_no (by omega) (by omega) hp, q p hp]
    unfold aLooker
    rw [show wvM s7 1 = wvM σ 1 from e7, show wvM s7 p = wvM σ p by rw [h7]; exact th_V hp]
  have hE : eLooker (σ 101 3) k f = cF (cF (cO k 6) (cN f 0 9)) (if (σ 101 3).toInt < 5 then 0 else -6) := rfl
  generalize eLooker (σ 101 3) k f = E at *
  have hL2 : ∀ t, E = cF t (if (σ 101 3).toInt < 5 then 0 else -6) → pc (if t = 0 then (if s7 101 3 = 5 then (if (0 : Int32) ≤ -6 then (wt_bnd (f_X4_lookerComes F k f s7) fun r1 s2 => wt_lt (up2 s2 101 30 (0 : Int32)) fun s3 => some (((s3 101 3) - (1 : Int32)), s3)) else wt_bnd (f_X4_refuse F (-6) s7) fun r s => some (r, s)) else (if 0 ≤ t then (wt_bnd (f_X4_lookerComes F k f s7) fun r1 s2 => wt_lt (up2 s2 101 30 (0 : Int32)) fun s3 => some (((s3 101 3) - (1 : Int32)), s3)) else wt_bnd (f_X4_refuse F t s7) fun r s => some (r, s))) else (if 0 ≤ t then (wt_bnd (f_X4_lookerComes F k f s7) fun r1 s2 => wt_lt (up2 s2 101 30 (0 : Int32)) fun s3 => some (((s3 101 3) - (1 : Int32)), s3)) else wt_bnd (f_X4_refuse F t s7) fun r s => some (r, s))) (mR E (fun r s => (∀ p, p < 188 → wvM s p = aLooker (wvM σ) k f p) ∧ r = s 101 3 - (1 : Int32) ∧ s 101 30 = 0) σ) := fun t ht => by
    refine pc_ite (fun c => ?_) (fun c => ?_)
    · refine pc_ite (fun c2 => hG (-6) ?_) (fun c2 => hG t ?_)
      · rw [e7] at c2
        have := congrArg Int32.toInt c2
        rw [tz_5] at this
        rw [ht]; unfold cF; rw [if_pos c, if_neg (by omega)]
      · rw [e7] at c2
        have := ti_ne c2
        rw [tz_5] at this
        rw [ht]; unfold cF; rw [if_pos c, if_pos (by omega), c]
    · refine hG t ?_
      rw [ht]; unfold cF; rw [if_neg c]
  refine pc_ite (fun c => ?_) (fun c => pc_be mx_wrongN ?_)
  · have c2 := in_cO.mp c
    have e2 := cO_n c2
    refine hL2 (-2) ?_
    rw [hE, show cF (cO k 6) (cN f 0 9) = -2 by unfold cF; rw [if_neg c2, e2]]
  · have c2 : cO k 6 = 0 := Classical.byContradiction (fun q => c (in_cO.mpr q))
    refine hL2 _ ?_
    rw [hE, show cF (cO k 6) (cN f 0 9) = cN f 0 9 by unfold cF; rw [if_pos c2]]
def wsKept (σ s : Mem) : Prop := ∃ t d : Nat, (((σ 101 30).toInt = 8 ∧ t = 7 ∧ d = 1) ∨ ((σ 101 30).toInt < 8 ∧ t = (σ 101 30).toNatClampNeg ∧ d = 0)) ∧ (s 101 30).toInt = (t : Int) + 1 ∧ (∀ i, i < 188 * t → s 117 i = σ 117 (i + 188 * d)) ∧ ∀ p, p < 188 → s 117 (188 * t + p) = wvM σ p
theorem wsKept_k {σ s z : Mem} (h : wsKept σ s) (e1 : z 101 30 = s 101 30) (e2 : z 117 = s 117) : wsKept σ z := by
  unfold wsKept at h ⊢
  rw [e1, e2]
  exact h
def cIW (c : Nat) : Prop := cI c ∨ cL c ∨ cW c
def wsOld (σ s : Mem) : Prop := ∀ j i, j ≠ 117 → j ≠ 118 → ¬ wtHd j i → ¬ (j = 101 ∧ i = 30) → ¬ (j = 101 ∧ i = 10) → s j i = σ j i
theorem wsOld_V {σ s : Mem} (h : wsOld σ s) {p : Nat} (hp : p < 188) : wvM s p = wvM σ p := by
  have h1 := wtJ_101 p hp
  refine h _ _ (by omega) (by omega) (wtHd_no hp) (fun q => ?_) (fun q => ?_)
  · have := wtI_fld p hp q.1; omega
  · have := wtI_fld p hp q.1; omega
theorem mk_keep {F : Nat} (hF : 73786976294838206464 ≤ F) {σ s1 : Mem} (hM : wiM σ) (h1 : s1 = up2 σ 101 10 0) : pc (f_X4_keepTurn F s1) (fun _ s => wsKept σ s ∧ wsOld σ s) := by
  have hM1 : wiM s1 := by rw [h1]; exact wm_fld hM (by decide) (by decide) (by decide) (by decide) (by decide) (by decide) (by decide)
  have e30 : s1 101 30 = σ 101 30 := by rw [h1, up2_i (by decide)]
  have b30 := wx_X4_30 hM
  have k7 : ∀ k i, ¬ (k = 101 ∧ i = 10) → s1 k i = σ k i := by rw [h1]; exact th_k
  refine pc_mono (sf_pc (wt_keepTurn (by omega) hM1)) (fun _ s q => ?_)
  rw [e30] at q
  have old : ∀ t d, wtKeep s1 s t d → wsOld σ s := fun t d w j i a b c e f => (w.2.1 j i a b c e).trans (k7 j i f)
  have eV : ∀ p, p < 188 → s1 (wtJ p) (wtI p) = wvM σ p := fun p hp => by rw [h1]; exact th_V hp
  have e117 : ∀ i, s1 117 i = σ 117 i := fun i => k7 117 i (by omega)
  by_cases c : (σ 101 30).toInt = 8
  · rw [if_pos c] at q
    exact ⟨⟨7, 1, Or.inl ⟨c, rfl, rfl⟩, q.1, fun i hi => (q.2.2.1 i hi).trans (e117 _), fun p hp => (q.2.2.2.1 p hp).trans (eV p hp)⟩, old _ _ q⟩
  · rw [if_neg c] at q
    exact ⟨⟨(σ 101 30).toNatClampNeg, 0, Or.inr ⟨by omega, rfl, rfl⟩, q.1, fun i hi => (q.2.2.1 i hi).trans (e117 _), fun p hp => (q.2.2.2.1 p hp).trans (eV p hp)⟩, old _ _ q⟩
theorem wcid_cIW {k i : Nat} (h : cIW (wcid k i)) : k ≠ 117 ∧ k ≠ 118 ∧ ¬ wtHd k i ∧ ¬ (k = 101 ∧ (i = 30 ∨ i = 10 ∨ i = 8)) ∧ ¬ (102 ≤ k ∧ k ≤ 107) := by
  have e := wcid_or k i
  unfold cIW cI cL cW at h
  refine ⟨?_, ?_, fun q => ?_, fun q => ?_, fun q => ?_⟩
  · rintro rfl; rw [show wcid 117 i = 117 from rfl] at h; omega
  · rintro rfl; rw [show wcid 118 i = 118 from rfl] at h; omega
  · have := wcid_Hd q; omega
  · obtain ⟨rfl, q⟩ := q
    rw [show wcid 101 i = 1000 + i from rfl] at h; omega
  · rw [wcid_M (by omega)] at h; omega
theorem ag_old {σ s z : Mem} (h : wsOld σ s) (e : ∀ k i, ¬ (k = 101 ∧ i = 8) → ¬ (102 ≤ k ∧ k ≤ 107) → z k i = s k i) : ag cIW σ z := fun k i hc => by
  obtain ⟨h1, h2, h3, h4, h5⟩ := wcid_cIW hc
  rw [e k i (by omega) h5]
  exact h k i h1 h2 h3 (by omega) (by omega)
theorem cm_law {F : Nat} (hF : 73786976294838206464 ≤ F) {x : Int32} {σ : Mem} (hM : wiM σ) : pc (f_X4_law F x σ) (mR (cO x 3) (fun r s => (∀ p, p < 188 → wvM s p = aLaw (wvM σ) x p) ∧ r = σ 101 8 ∧ wsKept σ s ∧ ag cIW σ s) σ) := by
  rw [f_X4_law_e]
  refine pc_lt (fun s1 h1 => pc_be (mx_in32 (lo := 0) (hi := 2) rfl rfl) ?_)
  have k7 : ∀ k i, ¬ (k = 101 ∧ i = 10) → s1 k i = σ k i := by rw [h1]; exact th_k
  refine pc_ite (fun c => ?_) (fun c => ?_)
  · have e : cO x 3 = -2 := by
      unfold cO
      rw [tz_3]
      refine if_neg (fun q => ?_)
      rw [if_pos (by omega)] at c
      exact absurd c (by decide)
    rw [e]
    exact mR_ref (by decide) k7
  · have e : cO x 3 = 0 := by
      unfold cO
      rw [tz_3]
      refine if_pos ?_
      by_cases q : 0 ≤ x.toInt ∧ x.toInt ≤ 2
      · omega
      · rw [if_neg q] at c; exact absurd rfl c
    rw [e]
    refine pc_bnd (mk_keep hF hM h1) (fun _ s5 q => pc_lt (fun s6 h6 => pc_ret ⟨fun _ => ⟨fun p hp => ?_, ?_, wsKept_k q.1 ?_ ?_, ag_old q.2 (fun k i a b => ?_)⟩, fun n => absurd rfl n⟩))
    · rw [h6, wvM_at (k := 101) (i := 8) (q := 2) (by decide) rfl rfl hp]
      exact upd_cg (wsOld_V q.2 hp) rfl
    · exact wsOld_V q.2 (p := 2) (by decide)
    · rw [h6, up2_i (by decide)]
    · rw [h6, up2_k (by decide)]
    · rw [h6, wm_key, if_neg a]
theorem cm_worth {F : Nat} (hF : 73786976294838206464 ≤ F) {x1 x2 : Int32} {σ : Mem} (hM : wiM σ) : pc (f_X4_worth F x1 x2 σ) (mR (cF (cB (0 ≤ x1.toInt ∧ x1.toInt ≤ 7)) (cN x2 0 9)) (fun r s => (∀ p, p < 188 → wvM s p = aWorth (wvM σ) x1 x2 p) ∧ r = σ 102 x1.toNatClampNeg ∧ wsKept σ s ∧ ag cIW σ s) σ) := by
  rw [f_X4_worth_e]
  refine pc_lt (fun s1 h1 => pc_be mx_isView ?_)
  simp only [j_X4_worth_23_e]
  have k7 : ∀ k i, ¬ (k = 101 ∧ i = 10) → s1 k i = σ k i := by rw [h1]; exact th_k
  by_cases c : 0 ≤ x1.toInt ∧ x1.toInt ≤ 7
  · rw [if_pos c, if_neg (by decide), cB_t c]
    refine pc_be mx_wrongN (mR_end sg_cN k7 (fun e => ?_))
    refine pc_bnd (mk_keep hF hM h1) (fun _ s5 q => pc_chk (fun v => pc_lt (fun z4 h4 => pc_lt (fun s6 h6 => pc_ret ⟨fun p hp => ?_, ?_, wsKept_k q.1 ?_ ?_, ag_old q.2 (fun k i a b => ?_)⟩))))
    · have hj := wtJI_102 _ v.2.2
      rw [h6, wvM_at (q := 4 + x1.toNatClampNeg) (by have := v.2.2; omega) hj.1.symm hj.2.symm hp]
      exact upd_cg (wsOld_V q.2 hp) rfl
    · rw [h4]
      exact q.2 _ _ (by decide) (by decide) (fun w => by have := w.1; omega) (by omega) (by omega)
    · rw [h6, up2_k (by decide)]
    · rw [h6, up2_k (by decide)]
    · rw [h6, wm_key, if_neg (by omega)]
  · rw [if_neg c, if_pos rfl, cB_f c]
    exact mR_end (e := -1) (Or.inr (by decide)) k7 (fun e => absurd e (by decide))
theorem cm_wall {F : Nat} (hF : 73786976294838206464 ≤ F) {x1 x2 : Int32} {σ : Mem} (hM : wiM σ) : pc (f_X4_wall F x1 x2 σ) (mR (cF (cB (0 ≤ x1.toInt ∧ x1.toInt < (σ 101 1).toInt)) (cB (0 ≤ x2.toInt ∧ x2.toInt ≤ 7))) (fun r s => (∀ p, p < 188 → wvM s p = aWall (wvM σ) x1 x2 p) ∧ r = ((s 103 x1.toNatClampNeg) >>> (x2 &&& 31)) &&& (1 : Int32) ∧ wsKept σ s ∧ ag cIW σ s) σ) := by
  rw [f_X4_wall_e]
  have bp := wx_X4_1 hM
  have k7 : ∀ k i, ¬ (k = 101 ∧ i = 10) → up2 σ 101 10 0 k i = σ k i := th_k
  refine pc_lt (fun s1 h1 => ?_)
  have e7 : s1 101 1 = σ 101 1 := by rw [h1, up2_i (by decide)]
  rw [← h1] at k7
  refine pc_be (mx_isPane (by rw [e7]; exact bp.1)) ?_
  simp only [j_X4_wall_20_e]
  rw [e7]
  by_cases c : 0 ≤ x1.toInt ∧ x1.toInt < (σ 101 1).toInt
  · rw [if_pos c, if_neg (by decide), cB_t c]
    refine pc_be mx_isView ?_
    by_cases c2 : 0 ≤ x2.toInt ∧ x2.toInt ≤ 7
    · rw [if_pos c2, if_neg (by decide), cB_t c2]
      refine pc_bnd (mk_keep hF hM h1) (fun _ s5 q => pc_chk (fun v => pc_lt (fun s6 h6 => pc_ret ⟨fun _ => ⟨fun p hp => ?_, rfl, wsKept_k q.1 ?_ ?_, ag_old q.2 (fun k i a b => ?_)⟩, fun n => absurd rfl n⟩)))
      · have hj := wtJI_103 _ v.2.2
        have ev := wsOld_V q.2 (p := 12 + x1.toNatClampNeg) (by have := v.2.2; omega)
        rw [h6, wvM_at (q := 12 + x1.toNatClampNeg) (by have := v.2.2; omega) hj.1.symm hj.2.symm hp]
        refine upd_cg (wsOld_V q.2 hp) ?_
        rw [← ev]
        unfold wvM
        rw [hj.1, hj.2]
      · rw [h6, up2_k (by decide)]
      · rw [h6, up2_k (by decide)]
      · rw [h6, wm_key, if_neg (by omega)]
    · rw [if_neg c2, if_pos rfl, cB_f c2]
      exact mR_ref (by decide) k7
  · rw [if_neg c, if_pos rfl, cB_f c]
    exact mR_ref (by decide) k7
theorem mx_hoursOf_4 {F : Nat} {x1 : Int32} {σ : Mem} {l : Nat} (hl : x1.toInt = (l : Int)) (hl5 : l < 5) : ∀ (N t : Nat) (x2 x3 : Int32), x3.toInt = (t : Int) → t ≤ 24 → x2 = aHours (wvM σ) l t → pc (lp_X4_hoursOf_4 F x1 N x2 x3 σ) (fun r s => r = aHours (wvM σ) l 24 ∧ s = σ) := by
  intro N
  induction N with
  | zero => intro t x2 x3 h1 h2 h3; exact pc_none rfl
  | succ N ih =>
    intro t x2 x3 h1 h2 h3
    rw [lp_X4_hoursOf_4_s]
    simp only [j_X4_hoursOf_30_e]
    refine pc_ite (fun c => ?_) (fun c => pc_chk (fun _ => ?_))
    · have d := ti_le c
      rw [tz_24] at d
      refine pc_ret ⟨?_, rfl⟩
      rw [h3, show t = 24 by omega]
    have d := ti_nle c
    rw [tz_24] at d
    rw [tn_24 hl h1 hl5 (by omega)]
    have hj := wtJI_106 (24 * l + t) (by omega)
    have ew : wvM σ (28 + 24 * l + t) = σ 106 (24 * l + t) := by
      unfold wvM
      rw [show 28 + 24 * l + t = 28 + (24 * l + t) by omega, hj.1, hj.2]
    refine pc_ite (fun c9 => ih (t + 1) _ _ (ti_nx h1 (by omega)) (by omega) ?_) (fun c9 => ih (t + 1) _ _ (ti_nx h1 (by omega)) (by omega) ?_)
    · show x2 + 0 = aHours (wvM σ) l t + _
      have := ti_lt c9
      rw [tz_0] at this
      rw [ew, if_pos this, h3]
    · show x2 + 1 = aHours (wvM σ) l t + _
      have := ti_nlt c9
      rw [tz_0] at this
      rw [ew, if_neg (by omega), h3]
theorem mx_hoursOf {F : Nat} {x1 : Int32} {σ : Mem} {l : Nat} (hl : x1.toInt = (l : Int)) (hl5 : l < 5) : pc (f_X4_hoursOf F x1 σ) (fun r s => r = aHours (wvM σ) l 24 ∧ s = σ) := by
  rw [f_X4_hoursOf_e]
  exact mx_hoursOf_4 hl hl5 F 0 0 0 rfl (by omega) rfl
theorem aHours_cg {A B : Nat → Int32} {l : Nat} (hl5 : l < 5) (hAB : ∀ p, p < 148 → A p = B p) : ∀ t, t ≤ 24 → aHours A l t = aHours B l t := fun t => by
  induction t with
  | zero => intro _; rfl
  | succ t ih => intro ht; show aHours A _ t + _ = aHours B _ t + _; rw [ih (by omega), hAB _ (by omega)]
theorem cm_stands {F : Nat} (hF : 73786976294838206464 ≤ F) {x1 x2 x3 x4 : Int32} {σ : Mem} (hM : wiM σ) : pc (f_X4_stands F x1 x2 x3 x4 σ) (mR (eStands (σ 101 1).toInt (σ 101 3).toInt x1 x2 x3 x4) (fun r s => (∀ p, p < 188 → wvM s p = aStand (wvM σ) x1.toNatClampNeg x2.toNatClampNeg x3.toNatClampNeg x4 p) ∧ r = aHours (aStand (wvM σ) x1.toNatClampNeg x2.toNatClampNeg x3.toNatClampNeg x4) x1.toNatClampNeg 24 ∧ wsKept σ s ∧ ag cIW σ s) σ) := by
  have bp := wx_X4_1 hM
  have bl := wx_X4_3 hM
  rw [f_X4_stands_e]
  refine pc_lt (fun s1 h1 => ?_)
  simp only [j_X4_stands_57_e, j_X4_stands_43_e, j_X4_stands_58_e]
  have k7 : ∀ k i, ¬ (k = 101 ∧ i = 10) → s1 k i = σ k i := by rw [h1]; exact th_k
  have e1 : s1 101 1 = σ 101 1 := k7 _ _ (by omega)
  have e3 : s1 101 3 = σ 101 3 := k7 _ _ (by omega)
  have hG : ∀ e, e = eStands (σ 101 1).toInt (σ 101 3).toInt x1 x2 x3 x4 → pc (if 0 ≤ e then (wt_bnd (f_X4_keepTurn F s1) fun r1 s2 => wt_bnd (f_X4_stand F x1 x2 x3 x4 s2) fun r3 s4 => wt_bnd (f_X4_hoursOf F x1 s4) fun r5 s6 => some (r5, s6)) else wt_bnd (f_X4_refuse F e s1) fun r s => some (r, s)) (mR (eStands (σ 101 1).toInt (σ 101 3).toInt x1 x2 x3 x4) (fun r s => (∀ p, p < 188 → wvM s p = aStand (wvM σ) x1.toNatClampNeg x2.toNatClampNeg x3.toNatClampNeg x4 p) ∧ r = aHours (aStand (wvM σ) x1.toNatClampNeg x2.toNatClampNeg x3.toNatClampNeg x4) x1.toNatClampNeg 24 ∧ wsKept σ s ∧ ag cIW σ s) σ) := fun e he => by
    subst he
    refine mR_end (sg_cF (sg_cF (sg_cF sg_cB (sg_cF sg_cB sg_cB)) ?_) (sg_i (by decide))) k7 (fun e => ?_)
    · by_cases q : x4 = 9
      · rw [if_pos q]; exact Or.inl rfl
      · rw [if_neg q]; exact sg_cB
    have hc := eStands_0 e
    have l1 : x1.toInt = (x1.toNatClampNeg : Int) := by have := hc.1; rw [ti_nat]; omega
    have l2 : x2.toInt = (x2.toNatClampNeg : Int) := by have := hc.2.1; rw [ti_nat]; omega
    have l3 : x3.toInt = (x3.toNatClampNeg : Int) := by have := hc.2.2.1; rw [ti_nat]; omega
    have hl5 : x1.toNatClampNeg < 5 := by have := hc.1; omega
    refine pc_bnd (mk_keep hF hM h1) (fun _ s2 q => ?_)
    have hx4 : x4.toInt = 9 ∨ 0 ≤ x4.toInt := by have := hc.2.2.2.2; omega
    refine pc_bnd (mx_stand hx4 l1 hl5 l2 l3 (by have := hc.2.2.2.1; omega) (by have := hc.2.2.1; omega)) (fun _ s4 w => ?_)
    have hV : ∀ p, p < 188 → wvM s4 p = aStand (wvM σ) x1.toNatClampNeg x2.toNatClampNeg x3.toNatClampNeg x4 p := fun p hp => by
      rw [w.1 p hp]
      unfold aStand
      by_cases e : 28 + 24 * x1.toNatClampNeg + x2.toNatClampNeg ≤ p ∧ p ≤ 28 + 24 * x1.toNatClampNeg + x3.toNatClampNeg
      · rw [if_pos e, if_pos e]
      · rw [if_neg e, if_neg e, wsOld_V q.2 hp]
    refine pc_bnd (mx_hoursOf l1 hl5) (fun r z y => ?_)
    obtain ⟨rfl, rfl⟩ := y
    exact pc_ret ⟨hV, aHours_cg hl5 (fun p hp => hV p (by omega)) 24 (by omega), wsKept_k q.1 (by rw [w.2.1 101 (by decide)]) (w.2.1 117 (by decide)), ag_old q.2 (fun k i a b => by rw [w.2.1 k (by omega)])⟩
  have hE : eStands (σ 101 1).toInt (σ 101 3).toInt x1 x2 x3 x4 = cF (cF (cF (cB (0 ≤ x1.toInt ∧ x1.toInt < (σ 101 3).toInt)) (cF (cB (0 ≤ x2.toInt ∧ x2.toInt ≤ 23)) (cB (0 ≤ x3.toInt ∧ x3.toInt ≤ 23)))) (if x4 = 9 then 0 else cB (0 ≤ x4.toInt ∧ x4.toInt < (σ 101 1).toInt))) (if x2.toInt ≤ x3.toInt then 0 else -3) := rfl
  generalize eStands (σ 101 1).toInt (σ 101 3).toInt x1 x2 x3 x4 = E at *
  have m1 : cF (-1 : Int32) (if x2.toInt ≤ x3.toInt then 0 else -3) = -1 := rfl
  refine pc_be (mx_isLooker (by rw [e3]; exact bl.1)) ?_
  rw [e3]
  by_cases c : 0 ≤ x1.toInt ∧ x1.toInt < (σ 101 3).toInt
  rotate_left
  · rw [if_neg c, if_pos rfl]
    refine hG (-1) ?_
    rw [hE, cB_f c]; rfl
  rw [if_pos c, if_neg (by decide)]
  refine pc_be mx_isHour ?_
  by_cases c2 : 0 ≤ x2.toInt ∧ x2.toInt ≤ 23
  rotate_left
  · rw [if_neg c2, if_pos rfl]
    refine hG (-1) ?_
    rw [hE, cB_t c, cB_f c2]; rfl
  rw [if_pos c2, if_neg (by decide)]
  refine pc_be mx_isHour ?_
  by_cases c3 : 0 ≤ x3.toInt ∧ x3.toInt ≤ 23
  rotate_left
  · rw [if_neg c3, if_pos rfl]
    refine hG (-1) ?_
    rw [hE, cB_t c, cB_t c2, cB_f c3]; rfl
  rw [if_pos c3, if_neg (by decide)]
  rw [cB_t c, cB_t c2, cB_t c3] at hE
  have fin : E = (if x2.toInt ≤ x3.toInt then 0 else -3) → pc (if x2 ≤ x3 then (if (0 : Int32) ≤ 0 then (wt_bnd (f_X4_keepTurn F s1) fun r1 s2 => wt_bnd (f_X4_stand F x1 x2 x3 x4 s2) fun r3 s4 => wt_bnd (f_X4_hoursOf F x1 s4) fun r5 s6 => some (r5, s6)) else wt_bnd (f_X4_refuse F 0 s1) fun r s => some (r, s)) else (if (0 : Int32) ≤ -3 then (wt_bnd (f_X4_keepTurn F s1) fun r1 s2 => wt_bnd (f_X4_stand F x1 x2 x3 x4 s2) fun r3 s4 => wt_bnd (f_X4_hoursOf F x1 s4) fun r5 s6 => some (r5, s6)) else wt_bnd (f_X4_refuse F (-3) s1) fun r s => some (r, s))) (mR E (fun r s => (∀ p, p < 188 → wvM s p = aStand (wvM σ) x1.toNatClampNeg x2.toNatClampNeg x3.toNatClampNeg x4 p) ∧ r = aHours (aStand (wvM σ) x1.toNatClampNeg x2.toNatClampNeg x3.toNatClampNeg x4) x1.toNatClampNeg 24 ∧ wsKept σ s ∧ ag cIW σ s) σ) := fun h => by
    refine pc_ite (fun c => hG 0 ?_) (fun c => hG (-3) ?_)
    · rw [h, if_pos (ti_le c)]
    · rw [h, if_neg (Int.not_le.mpr (ti_nle c))]
  refine pc_ite (fun c9 => fin ?_) (fun c9 => ?_)
  · rw [hE, if_pos c9]; rfl
  refine pc_be (mx_isPane (by rw [e1]; exact bp.1)) ?_
  rw [e1]
  by_cases c4 : 0 ≤ x4.toInt ∧ x4.toInt < (σ 101 1).toInt
  · rw [if_pos c4, if_neg (by decide)]
    refine fin ?_
    rw [hE, if_neg c9, cB_t c4]; rfl
  · rw [if_neg c4, if_pos rfl]
    refine hG (-1) ?_
    rw [hE, if_neg c9, cB_f c4]; rfl
