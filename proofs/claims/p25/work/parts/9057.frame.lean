/-! what is written: cells by number -/
def wcid (k i : Nat) : Nat := if k = 101 then 1000 + i else if k = 0 then 2000 + i else if k = 70 then 3000 + i else if k = 83 then 4000 + i else k
theorem wcid_lo {k i : Nat} (h1 : k < 70) (h2 : k ≠ 0) : wcid k i = k := by
  unfold wcid
  rw [if_neg (by omega), if_neg h2, if_neg (by omega), if_neg (by omega)]
theorem wcid_hi {k i : Nat} (h : (71 ≤ k ∧ k ≤ 82) ∨ (84 ≤ k ∧ k ≤ 100)) : wcid k i = k := by
  unfold wcid
  rw [if_neg (by omega), if_neg (by omega), if_neg (by omega), if_neg (by omega)]
def fr (W : Nat → Prop) (τ s : Mem) : Prop := ∀ k i, ¬ W (wcid k i) → s k i = τ k i
def pf {α : Type} (W : Nat → Prop) (o : Option (α × Mem)) (τ : Mem) : Prop := ∀ a s, o = some (a, s) → fr W τ s
theorem fr_rf {W : Nat → Prop} {τ : Mem} : fr W τ τ := fun _ _ _ => rfl
theorem pf_none {α : Type} {W : Nat → Prop} {o : Option (α × Mem)} {τ : Mem} (h : o = none) : pf W o τ := fun a s e => by rw [h] at e; cases e
theorem pf_ret {α : Type} {W : Nat → Prop} {a : α} {τ s : Mem} (h : fr W τ s) : pf W (some (a, s)) τ := fun a' s' e => by cases e; exact h
theorem pf_lt {α β : Type} {W : Nat → Prop} {x : α} {K : α → Option (β × Mem)} {τ : Mem} (h : ∀ z, z = x → pf W (K z) τ) : pf W (wt_lt x K) τ := h x rfl
theorem pf_chk {β : Type} {W : Nat → Prop} {i : Int32} {n : Nat} {K : Option (β × Mem)} {τ : Mem} (h : i.toNatClampNeg < n → pf W K τ) : pf W (wt_chk i n K) τ := by
  unfold wt_chk
  by_cases c : i < 0 ∨ n ≤ i.toNatClampNeg
  · rw [if_pos c]; exact pf_none rfl
  · rw [if_neg c]; exact h (Nat.not_le.mp (fun q => c (Or.inr q)))
theorem pf_nz {β : Type} {W : Nat → Prop} {y : Int32} {K : Option (β × Mem)} {τ : Mem} (h : pf W K τ) : pf W (wt_nz y K) τ := by
  unfold wt_nz
  by_cases c : y = 0
  · rw [if_pos c]; exact pf_none rfl
  · rw [if_neg c]; exact h
theorem pf_nzl {β : Type} {W : Nat → Prop} {y : Int64} {K : Option (β × Mem)} {τ : Mem} (h : pf W K τ) : pf W (wt_nzl y K) τ := by
  unfold wt_nzl
  by_cases c : y = 0
  · rw [if_pos c]; exact pf_none rfl
  · rw [if_neg c]; exact h
theorem pf_bz {β : Type} {W : Nat → Prop} {x : Int32} {K : Option (β × Mem)} {τ : Mem} (h : pf W K τ) : pf W (wt_bz x K) τ := by
  unfold wt_bz
  by_cases c : x = 0 ∨ x = 1
  · rw [if_pos c]; exact h
  · rw [if_neg c]; exact pf_none rfl
theorem pf_ite {β : Type} {W : Nat → Prop} {c : Prop} [Decidable c] {A E : Option (β × Mem)} {τ : Mem} (h1 : pf W A τ) (h2 : pf W E τ) : pf W (if c then A else E) τ := by
  by_cases h : c
  · rw [if_pos h]; exact h1
  · rw [if_neg h]; exact h2
theorem pf_up2 {β : Type} {W : Nat → Prop} {k i c : Nat} {x : Int32} {K : Mem → Option (β × Mem)} {τ s : Mem} (hs : fr W τ s) (hc : wcid k i = c) (hw : W c) (h : ∀ z, fr W τ z → pf W (K z) τ) : pf W (wt_lt (up2 s k i x) K) τ := by
  refine h _ (fun q j hn => ?_)
  by_cases e : q = k
  · subst e
    by_cases e2 : j = i
    · subst e2; exact absurd (by rw [hc]; exact hw) hn
    · rw [up2_i e2]; exact hs q j hn
  · rw [up2_k e]; exact hs q j hn
theorem pf_upA {β : Type} {W : Nat → Prop} {k c : Nat} {f : Nat → Int32} {K : Mem → Option (β × Mem)} {τ s : Mem} (hs : fr W τ s) (hc : ∀ i, wcid k i = c) (hw : W c) (h : ∀ z, fr W τ z → pf W (K z) τ) : pf W (wt_lt (upA s k f) K) τ := by
  refine h _ (fun q j hn => ?_)
  by_cases e : q = k
  · subst e; exact absurd (by rw [hc]; exact hw) hn
  · rw [upA_k e]; exact hs q j hn
theorem fr_tr {V W : Nat → Prop} {τ s z : Mem} (h1 : fr W τ s) (h2 : fr V s z) (hV : ∀ c, V c → W c) : fr W τ z := fun k i hn => (h2 k i (fun q => hn (hV _ q))).trans (h1 k i hn)
theorem pf_bnd {α β : Type} {V W : Nat → Prop} {o : Option (α × Mem)} {K : α → Mem → Option (β × Mem)} {τ s : Mem} (h1 : pf V o s) (hV : ∀ c, V c → W c) (hs : fr W τ s) (h : ∀ a z, fr W τ z → pf W (K a z) τ) : pf W (wt_bnd o K) τ := by
  unfold wt_bnd
  cases ho : o with
  | none => exact pf_none rfl
  | some q => exact h q.1 q.2 (fr_tr hs (h1 q.1 q.2 ho) hV)
theorem pf_sf {α : Type} {W : Nat → Prop} {o : Option (α × Mem)} {Q : α → Mem → Prop} {τ : Mem} (h : sf o Q) (k : ∀ a s, Q a s → fr W τ s) : pf W o τ := by
  obtain ⟨a, s, e, q⟩ := h
  intro a' s' e'
  rw [e] at e'
  cases e'
  exact k a s q
theorem pf_mono {α : Type} {V W : Nat → Prop} {o : Option (α × Mem)} {τ : Mem} (h : pf V o τ) (hV : ∀ c, V c → W c) : pf W o τ := fun a s e k i hn => h a s e k i (fun q => hn (hV _ q))
/-- what answers and keeps its frame -/
theorem sf_pf {α : Type} {W : Nat → Prop} {o : Option (α × Mem)} {Q : α → Mem → Prop} {τ : Mem} (h : sf o Q) (k : pf W o τ) : sf o (fun a s => Q a s ∧ fr W τ s) := by
  obtain ⟨a, s, e, q⟩ := h
  exact ⟨a, s, e, q, k a s e⟩
/-- a snapshot taken into the region k, or given back out of it: what is written -/
theorem wcid_Hd {j i : Nat} (h : wtHd j i) : 1025 ≤ wcid j i ∧ wcid j i ≤ 1027 := by
  obtain ⟨rfl, h1, h2⟩ := h
  show 1025 ≤ 1000 + i ∧ 1000 + i ≤ 1027
  omega
theorem wcid_M {k i : Nat} (h : 102 ≤ k) : wcid k i = k := by
  unfold wcid
  rw [if_neg (by omega), if_neg (by omega), if_neg (by omega), if_neg (by omega)]
theorem wt_Car_fr1 {x : Int32} {k : Nat} {τ s : Mem} (hk : wiK k) (hx : ¬ x = 0) (hC : wtCar x k τ 188 s) : fr (fun c => (k ≤ c ∧ c ≤ k) ∨ (1025 ≤ c ∧ c ≤ 1027)) τ s := by
  intro j i hn
  have h1 : ¬ wtHd j i := fun q => hn (Or.inr (wcid_Hd q))
  refine (hC.2.2.2.1 hx).2 j i h1 (fun q => hn (Or.inl ?_))
  obtain ⟨rfl, -⟩ := q
  unfold wiK at hk
  have e : wcid j i = j := wcid_M (by omega)
  omega
theorem wt_Car_fr0 {k : Nat} {τ s : Mem} (hC : wtCar 0 k τ 188 s) : fr (fun c => (102 ≤ c ∧ c ≤ 107) ∨ (1001 ≤ c ∧ c ≤ 1001) ∨ (1003 ≤ c ∧ c ≤ 1003) ∨ (1008 ≤ c ∧ c ≤ 1009) ∨ (1025 ≤ c ∧ c ≤ 1027)) τ s := by
  intro j i hn
  have h1 : ¬ wtHd j i := fun q => hn (Or.inr (Or.inr (Or.inr (Or.inr (wcid_Hd q)))))
  refine (hC.2.2.2.2 rfl).2 j i h1 (fun p hp q => hn ?_)
  obtain ⟨rfl, rfl⟩ := q
  have h2 := wtJ_101 p hp
  by_cases e : wtJ p = 101
  · have h3 := wtI_fld p hp e
    have h5 : wcid (wtJ p) (wtI p) = 1000 + wtI p := by rw [e]; rfl
    omega
  · have h5 : wcid (wtJ p) (wtI p) = wtJ p := wcid_M (by omega)
    omega
def wf_0 (h : Nat) (c : Nat) : Prop := (h ≤ c ∧ c ≤ h + 3) ∨ (h + 5 ≤ c ∧ c ≤ h + 9) ∨ (h + 11 ≤ c ∧ c ≤ h + 16)
set_option maxRecDepth 100000 in
theorem fl_X0_takeFrom_92 {F : Nat} (hF : 1000 ≤ F) {h : Nat} {g : Nat} {τ : Mem} (hh : wt_isH h) (hg : wt_isH g) : ∀ (N : Nat) (x2 : Int32) (σ : Mem), fr (wf_0 h) τ σ → pf (wf_0 h) (lp_X0_takeFrom_92 F h g N x2 σ) τ := by
  intro N
  induction N with
  | zero => intro _ _ _; exact pf_none rfl
  | succ N ih =>
    intro x2 σ f_σ
    have hc_h := wt_Hcs hh
    have hc_g := wt_Hcs hg
    rw [lp_X0_takeFrom_92_s]
    refine pf_ite ?_ ?_
    · exact pf_ret f_σ
    · refine pf_chk (fun v1 => ?_)
      refine pf_upA f_σ ((fun _ => wcid_lo (by omega) (by omega))) (Or.inr (Or.inl (⟨by omega, by omega⟩))) (fun s2 f_s2 => ?_)
      refine pf_upA f_s2 ((fun _ => wcid_lo (by omega) (by omega))) (Or.inr (Or.inr (⟨by omega, by omega⟩))) (fun s3 f_s3 => ?_)
      exact ih _ _ f_s3
set_option maxRecDepth 100000 in
theorem fr_X0_takeFrom {F : Nat} (hF : 1000 ≤ F) {h : Nat} {g : Nat} {σ : Mem} (hh : wt_isH h) (hg : wt_isH g) : pf (wf_0 h) (f_X0_takeFrom F h g σ) σ := by
  have hc_h := wt_Hcs hh
  have hc_g := wt_Hcs hg
  have f_σ : fr (wf_0 h) σ σ := fr_rf
  rw [f_X0_takeFrom_e]
  refine pf_up2 f_σ (wcid_lo (by omega) (by omega)) (Or.inl (⟨by omega, by omega⟩)) (fun s1 f_s1 => ?_)
  refine pf_up2 f_s1 (wcid_lo (by omega) (by omega)) (Or.inl (⟨by omega, by omega⟩)) (fun s2 f_s2 => ?_)
  refine pf_up2 f_s2 (wcid_lo (by omega) (by omega)) (Or.inl (⟨by omega, by omega⟩)) (fun s3 f_s3 => ?_)
  refine pf_up2 f_s3 (wcid_lo (by omega) (by omega)) (Or.inl (⟨by omega, by omega⟩)) (fun s4 f_s4 => ?_)
  refine pf_upA f_s4 ((fun _ => wcid_lo (by omega) (by omega))) (Or.inl (⟨by omega, by omega⟩)) (fun s5 f_s5 => ?_)
  refine pf_upA f_s5 ((fun _ => wcid_lo (by omega) (by omega))) (Or.inl (⟨by omega, by omega⟩)) (fun s6 f_s6 => ?_)
  refine pf_upA f_s6 ((fun _ => wcid_lo (by omega) (by omega))) (Or.inl (⟨by omega, by omega⟩)) (fun s7 f_s7 => ?_)
  refine pf_upA f_s7 ((fun _ => wcid_lo (by omega) (by omega))) (Or.inr (Or.inr (⟨by omega, by omega⟩))) (fun s8 f_s8 => ?_)
  exact fl_X0_takeFrom_92 hF hh hg _ _ _ f_s8
def wf_1 (c : Nat) : Prop := False
set_option maxRecDepth 100000 in
theorem fr_X0_isView {F : Nat} (hF : 1000 ≤ F) {x0 : Int32} {σ : Mem} : pf wf_1 (f_X0_isView F x0 σ) σ := by
  have f_σ : fr wf_1 σ σ := fr_rf
  rw [f_X0_isView_e]
  refine pf_ite ?_ ?_
  · rw [j_X0_isView_14_e]
    exact pf_ret f_σ
  · refine pf_ite ?_ ?_
    · rw [j_X0_isView_14_e]
      exact pf_ret f_σ
    · exact pf_ret f_σ
set_option maxRecDepth 100000 in
theorem fr_X0_isHour {F : Nat} (hF : 1000 ≤ F) {x0 : Int32} {σ : Mem} : pf wf_1 (f_X0_isHour F x0 σ) σ := by
  have f_σ : fr wf_1 σ σ := fr_rf
  rw [f_X0_isHour_e]
  refine pf_ite ?_ ?_
  · rw [j_X0_isHour_14_e]
    exact pf_ret f_σ
  · refine pf_ite ?_ ?_
    · rw [j_X0_isHour_14_e]
      exact pf_ret f_σ
    · exact pf_ret f_σ
set_option maxRecDepth 100000 in
theorem fr_X0_isPane {F : Nat} (hF : 1000 ≤ F) {h : Nat} {x1 : Int32} {σ : Mem} (hh : wt_isH h) : pf wf_1 (f_X0_isPane F h x1 σ) σ := by
  have hc_h := wt_Hcs hh
  have f_σ : fr wf_1 σ σ := fr_rf
  rw [f_X0_isPane_e]
  refine pf_ite ?_ ?_
  · rw [j_X0_isPane_22_e]
    exact pf_ret f_σ
  · refine pf_ite ?_ ?_
    · rw [j_X0_isPane_22_e]
      exact pf_ret f_σ
    · refine pf_ite ?_ ?_
      · rw [j_X0_isPane_22_e]
        exact pf_ret f_σ
      · exact pf_ret f_σ
set_option maxRecDepth 100000 in
theorem fr_X0_isLooker {F : Nat} (hF : 1000 ≤ F) {h : Nat} {x1 : Int32} {σ : Mem} (hh : wt_isH h) : pf wf_1 (f_X0_isLooker F h x1 σ) σ := by
  have hc_h := wt_Hcs hh
  have f_σ : fr wf_1 σ σ := fr_rf
  rw [f_X0_isLooker_e]
  refine pf_ite ?_ ?_
  · rw [j_X0_isLooker_21_e]
    exact pf_ret f_σ
  · refine pf_ite ?_ ?_
    · rw [j_X0_isLooker_21_e]
      exact pf_ret f_σ
    · refine pf_ite ?_ ?_
      · rw [j_X0_isLooker_21_e]
        exact pf_ret f_σ
      · exact pf_ret f_σ
def wf_2 (h : Nat) (c : Nat) : Prop := (h ≤ c ∧ c ≤ h + 1)
set_option maxRecDepth 100000 in
theorem fr_X0_addPane {F : Nat} (hF : 1000 ≤ F) {h : Nat} {x1 : Int32} {σ : Mem} (hh : wt_isH h) : pf (wf_2 h) (f_X0_addPane F h x1 σ) σ := by
  have hc_h := wt_Hcs hh
  have f_σ : fr (wf_2 h) σ σ := fr_rf
  rw [f_X0_addPane_e]
  refine pf_ite ?_ ?_
  · rw [j_X0_addPane_27_e]
    exact pf_ret f_σ
  · refine pf_ite ?_ ?_
    · rw [j_X0_addPane_27_e]
      exact pf_ret f_σ
    · refine pf_ite ?_ ?_
      · rw [j_X0_addPane_27_e]
        exact pf_ret f_σ
      · refine pf_ite ?_ ?_
        · refine pf_chk (fun v1 => ?_)
          refine pf_up2 f_σ (wcid_lo (by omega) (by omega)) (⟨by omega, by omega⟩) (fun s2 f_s2 => ?_)
          refine pf_up2 f_s2 (wcid_lo (by omega) (by omega)) (⟨by omega, by omega⟩) (fun s3 f_s3 => ?_)
          exact pf_ret f_s3
        · rw [j_X0_addPane_27_e]
          exact pf_ret f_σ
def wf_3 (h : Nat) (c : Nat) : Prop := (h ≤ c ∧ c ≤ h) ∨ (h + 2 ≤ c ∧ c ≤ h + 3) ∨ (h + 5 ≤ c ∧ c ≤ h + 9) ∨ (h + 11 ≤ c ∧ c ≤ h + 15)
set_option maxRecDepth 100000 in
theorem fl_X0_addLooker_86 {F : Nat} (hF : 1000 ≤ F) {h : Nat} {τ : Mem} (hh : wt_isH h) : ∀ (N : Nat) (x3 : Int32) (σ : Mem), fr (wf_3 h) τ σ → pf (wf_3 h) (lp_X0_addLooker_86 F h N x3 σ) τ := by
  intro N
  induction N with
  | zero => intro _ _ _; exact pf_none rfl
  | succ N ih =>
    intro x3 σ f_σ
    have hc_h := wt_Hcs hh
    rw [lp_X0_addLooker_86_s]
    refine pf_ite ?_ ?_
    · refine pf_up2 f_σ (wcid_lo (by omega) (by omega)) (Or.inl (⟨by omega, by omega⟩)) (fun s1 f_s1 => ?_)
      exact pf_ret f_s1
    · refine pf_chk (fun v2 => ?_)
      refine pf_chk (fun v3 => ?_)
      refine pf_up2 f_σ (wcid_lo (by omega) (by omega)) (Or.inr (Or.inr (Or.inr (⟨by omega, by omega⟩)))) (fun s4 f_s4 => ?_)
      exact ih _ _ f_s4
set_option maxRecDepth 100000 in
theorem fl_X0_addLooker_59 {F : Nat} (hF : 1000 ≤ F) {h : Nat} {τ : Mem} (hh : wt_isH h) : ∀ (N : Nat) (x3 : Int32) (σ : Mem), fr (wf_3 h) τ σ → pf (wf_3 h) (lp_X0_addLooker_59 F h N x3 σ) τ := by
  intro N
  induction N with
  | zero => intro _ _ _; exact pf_none rfl
  | succ N ih =>
    intro x3 σ f_σ
    have hc_h := wt_Hcs hh
    rw [lp_X0_addLooker_59_s]
    refine pf_ite ?_ ?_
    · exact fl_X0_addLooker_86 hF hh _ _ _ f_σ
    · refine pf_chk (fun v1 => ?_)
      refine pf_chk (fun v2 => ?_)
      refine pf_up2 f_σ (wcid_lo (by omega) (by omega)) (Or.inr (Or.inr (Or.inl (⟨by omega, by omega⟩)))) (fun s3 f_s3 => ?_)
      exact ih _ _ f_s3
set_option maxRecDepth 100000 in
theorem fr_X0_addLooker {F : Nat} (hF : 1000 ≤ F) {h : Nat} {x1 : Int32} {x2 : Int32} {σ : Mem} (hh : wt_isH h) : pf (wf_3 h) (f_X0_addLooker F h x1 x2 σ) σ := by
  have hc_h := wt_Hcs hh
  have f_σ : fr (wf_3 h) σ σ := fr_rf
  rw [f_X0_addLooker_e]
  refine pf_ite ?_ ?_
  · rw [j_X0_addLooker_35_e]
    exact pf_ret f_σ
  · refine pf_ite ?_ ?_
    · rw [j_X0_addLooker_35_e]
      exact pf_ret f_σ
    · refine pf_ite ?_ ?_
      · rw [j_X0_addLooker_35_e]
        exact pf_ret f_σ
      · refine pf_ite ?_ ?_
        · rw [j_X0_addLooker_35_e]
          exact pf_ret f_σ
        · refine pf_ite ?_ ?_
          · rw [j_X0_addLooker_35_e]
            exact pf_ret f_σ
          · refine pf_ite ?_ ?_
            · refine pf_chk (fun v1 => ?_)
              refine pf_up2 f_σ (wcid_lo (by omega) (by omega)) (Or.inr (Or.inl (⟨by omega, by omega⟩))) (fun s2 f_s2 => ?_)
              refine pf_chk (fun v3 => ?_)
              refine pf_up2 f_s2 (wcid_lo (by omega) (by omega)) (Or.inr (Or.inl (⟨by omega, by omega⟩))) (fun s4 f_s4 => ?_)
              exact fl_X0_addLooker_59 hF hh _ _ _ f_s4
            · rw [j_X0_addLooker_35_e]
              exact pf_ret f_σ
def wf_4 (h : Nat) (c : Nat) : Prop := (h + 5 ≤ c ∧ c ≤ h + 9)
set_option maxRecDepth 100000 in
theorem fl_X0_post_48 {F : Nat} (hF : 1000 ≤ F) {h : Nat} {x1 : Int32} {x3 : Int32} {x4 : Int32} {τ : Mem} (hh : wt_isH h) : ∀ (N : Nat) (x5 : Int32) (σ : Mem), fr (wf_4 h) τ σ → pf (wf_4 h) (lp_X0_post_48 F h x1 x3 x4 N x5 σ) τ := by
  intro N
  induction N with
  | zero => intro _ _ _; exact pf_none rfl
  | succ N ih =>
    intro x5 σ f_σ
    have hc_h := wt_Hcs hh
    rw [lp_X0_post_48_s]
    refine pf_ite ?_ ?_
    · exact pf_ret f_σ
    · refine pf_chk (fun v1 => ?_)
      refine pf_chk (fun v2 => ?_)
      refine pf_up2 f_σ (wcid_lo (by omega) (by omega)) (⟨by omega, by omega⟩) (fun s3 f_s3 => ?_)
      exact ih _ _ f_s3
set_option maxRecDepth 100000 in
theorem fr_X0_post {F : Nat} (hF : 1000 ≤ F) {h : Nat} {x1 : Int32} {x2 : Int32} {x3 : Int32} {x4 : Int32} {σ : Mem} (hh : wt_isH h) : pf (wf_4 h) (f_X0_post F h x1 x2 x3 x4 σ) σ := by
  have hc_h := wt_Hcs hh
  have f_σ : fr (wf_4 h) σ σ := fr_rf
  rw [f_X0_post_e]
  refine pf_bnd (fr_X0_isLooker hF hh) (fun _ h => h.elim) f_σ (fun r1 s2 f_s2 => ?_)
  refine pf_ite ?_ ?_
  · rw [j_X0_post_43_e]
    exact pf_ret f_s2
  · refine pf_bnd (fr_X0_isHour hF) (fun _ h => h.elim) f_s2 (fun r3 s4 f_s4 => ?_)
    refine pf_ite ?_ ?_
    · rw [j_X0_post_43_e]
      exact pf_ret f_s4
    · refine pf_bnd (fr_X0_isHour hF) (fun _ h => h.elim) f_s4 (fun r5 s6 f_s6 => ?_)
      refine pf_ite ?_ ?_
      · rw [j_X0_post_43_e]
        exact pf_ret f_s6
      · refine pf_ite ?_ ?_
        · rw [j_X0_post_43_e]
          exact pf_ret f_s6
        · refine pf_ite ?_ ?_
          · rw [j_X0_post_45_e]
            exact fl_X0_post_48 hF hh _ _ _ f_s6
          · refine pf_bnd (fr_X0_isPane hF hh) (fun _ h => h.elim) f_s6 (fun r7 s8 f_s8 => ?_)
            refine pf_ite ?_ ?_
            · rw [j_X0_post_43_e]
              exact pf_ret f_s8
            · rw [j_X0_post_45_e]
              exact fl_X0_post_48 hF hh _ _ _ f_s8
def wf_5 (h : Nat) (c : Nat) : Prop := (h + 1 ≤ c ∧ c ≤ h + 1)
set_option maxRecDepth 100000 in
theorem fr_X0_flip {F : Nat} (hF : 1000 ≤ F) {h : Nat} {x1 : Int32} {x2 : Int32} {σ : Mem} (hh : wt_isH h) : pf (wf_5 h) (f_X0_flip F h x1 x2 σ) σ := by
  have hc_h := wt_Hcs hh
  have f_σ : fr (wf_5 h) σ σ := fr_rf
  rw [f_X0_flip_e]
  refine pf_bnd (fr_X0_isPane hF hh) (fun _ h => h.elim) f_σ (fun r1 s2 f_s2 => ?_)
  refine pf_ite ?_ ?_
  · rw [j_X0_flip_15_e]
    exact pf_ret f_s2
  · refine pf_bnd (fr_X0_isView hF) (fun _ h => h.elim) f_s2 (fun r3 s4 f_s4 => ?_)
    refine pf_ite ?_ ?_
    · rw [j_X0_flip_15_e]
      exact pf_ret f_s4
    · refine pf_chk (fun v5 => ?_)
      refine pf_up2 f_s4 (wcid_lo (by omega) (by omega)) (⟨by omega, by omega⟩) (fun s6 f_s6 => ?_)
      exact pf_ret f_s6
def wf_6 (h : Nat) (c : Nat) : Prop := (h + 16 ≤ c ∧ c ≤ h + 16)
set_option maxRecDepth 100000 in
theorem fr_X0_price {F : Nat} (hF : 1000 ≤ F) {h : Nat} {x1 : Int32} {x2 : Int32} {σ : Mem} (hh : wt_isH h) : pf (wf_6 h) (f_X0_price F h x1 x2 σ) σ := by
  have hc_h := wt_Hcs hh
  have f_σ : fr (wf_6 h) σ σ := fr_rf
  rw [f_X0_price_e]
  refine pf_bnd (fr_X0_isView hF) (fun _ h => h.elim) f_σ (fun r1 s2 f_s2 => ?_)
  refine pf_ite ?_ ?_
  · rw [j_X0_price_17_e]
    exact pf_ret f_s2
  · refine pf_ite ?_ ?_
    · rw [j_X0_price_17_e]
      exact pf_ret f_s2
    · refine pf_ite ?_ ?_
      · refine pf_chk (fun v3 => ?_)
        refine pf_up2 f_s2 (wcid_lo (by omega) (by omega)) (⟨by omega, by omega⟩) (fun s4 f_s4 => ?_)
        exact pf_ret f_s4
      · rw [j_X0_price_17_e]
        exact pf_ret f_s2
def wf_7 (h : Nat) (c : Nat) : Prop := (h ≤ c ∧ c ≤ h)
set_option maxRecDepth 100000 in
theorem fr_X0_rule {F : Nat} (hF : 1000 ≤ F) {h : Nat} {x1 : Int32} {σ : Mem} (hh : wt_isH h) : pf (wf_7 h) (f_X0_rule F h x1 σ) σ := by
  have hc_h := wt_Hcs hh
  have f_σ : fr (wf_7 h) σ σ := fr_rf
  rw [f_X0_rule_e]
  refine pf_ite ?_ ?_
  · rw [j_X0_rule_9_e]
    exact pf_ret f_σ
  · refine pf_ite ?_ ?_
    · refine pf_up2 f_σ (wcid_lo (by omega) (by omega)) (⟨by omega, by omega⟩) (fun s1 f_s1 => ?_)
      exact pf_ret f_s1
    · rw [j_X0_rule_9_e]
      exact pf_ret f_σ
set_option maxRecDepth 100000 in
theorem fl_X0_shownBy_4 {F : Nat} (hF : 1000 ≤ F) {h : Nat} {x1 : Int32} {τ : Mem} (hh : wt_isH h) : ∀ (N : Nat) (x2 : Int32) (x3 : Int32) (σ : Mem), fr wf_1 τ σ → pf wf_1 (lp_X0_shownBy_4 F h x1 N x2 x3 σ) τ := by
  intro N
  induction N with
  | zero => intro _ _ _ _; exact pf_none rfl
  | succ N ih =>
    intro x2 x3 σ f_σ
    have hc_h := wt_Hcs hh
    rw [lp_X0_shownBy_4_s]
    refine pf_ite ?_ ?_
    · exact pf_ret f_σ
    · refine pf_ite ?_ ?_
      · refine pf_chk (fun v1 => ?_)
        refine pf_lt (fun z2 _ => ?_)
        rw [j_X0_shownBy_30_e]
        exact ih _ _ _ f_σ
      · rw [j_X0_shownBy_30_e]
        exact ih _ _ _ f_σ
set_option maxRecDepth 100000 in
theorem fr_X0_shownBy {F : Nat} (hF : 1000 ≤ F) {h : Nat} {x1 : Int32} {σ : Mem} (hh : wt_isH h) : pf wf_1 (f_X0_shownBy F h x1 σ) σ := by
  have hc_h := wt_Hcs hh
  have f_σ : fr wf_1 σ σ := fr_rf
  rw [f_X0_shownBy_e]
  exact fl_X0_shownBy_4 hF hh _ _ _ _ f_σ
set_option maxRecDepth 100000 in
theorem fr_X0_allShown {F : Nat} (hF : 1000 ≤ F) {h : Nat} {σ : Mem} (hh : wt_isH h) : pf wf_1 (f_X0_allShown F h σ) σ := by
  have hc_h := wt_Hcs hh
  have f_σ : fr wf_1 σ σ := fr_rf
  rw [f_X0_allShown_e]
  refine pf_bnd (fr_X0_shownBy hF hh) (fun _ h => h.elim) f_σ (fun r1 s2 f_s2 => ?_)
  exact pf_ret f_s2
set_option maxRecDepth 100000 in
theorem fr_X0_invalidsPull {F : Nat} (hF : 1000 ≤ F) {x0 : Int32} {σ : Mem} : pf wf_1 (f_X0_invalidsPull F x0 σ) σ := by
  have f_σ : fr wf_1 σ σ := fr_rf
  rw [f_X0_invalidsPull_e]
  refine pf_ite ?_ ?_
  · rw [j_X0_invalidsPull_16_e]
    exact pf_ret f_σ
  · refine pf_ite ?_ ?_
    · rw [j_X0_invalidsPull_16_e]
      exact pf_ret f_σ
    · exact pf_ret f_σ
set_option maxRecDepth 100000 in
theorem fr_X0_pull {F : Nat} (hF : 1000 ≤ F) {h : Nat} {x1 : Int32} {x2 : Int32} {σ : Mem} (hh : wt_isH h) : pf wf_1 (f_X0_pull F h x1 x2 σ) σ := by
  have hc_h := wt_Hcs hh
  have f_σ : fr wf_1 σ σ := fr_rf
  rw [f_X0_pull_e]
  refine pf_chk (fun v1 => ?_)
  refine pf_lt (fun z2 _ => ?_)
  refine pf_ite ?_ ?_
  · exact pf_ret f_σ
  · refine pf_ite ?_ ?_
    · refine pf_bnd (fr_X0_invalidsPull hF) (fun _ h => h.elim) f_σ (fun r3 s4 f_s4 => ?_)
      exact pf_ret f_s4
    · refine pf_ite ?_ ?_
      · refine pf_ite ?_ ?_
        · exact pf_ret f_σ
        · exact pf_ret f_σ
      · refine pf_ite ?_ ?_
        · refine pf_ite ?_ ?_
          · exact pf_ret f_σ
          · exact pf_ret f_σ
        · refine pf_ite ?_ ?_
          · refine pf_bnd (fr_X0_invalidsPull hF) (fun _ h => h.elim) f_σ (fun r5 s6 f_s6 => ?_)
            exact pf_ret f_s6
          · refine pf_ite ?_ ?_
            · refine pf_bnd (fr_X0_invalidsPull hF) (fun _ h => h.elim) f_σ (fun r7 s8 f_s8 => ?_)
              refine pf_ite ?_ ?_
              · rw [j_X0_pull_113_e]
                exact pf_ret f_s8
              · rw [j_X0_pull_113_e]
                exact pf_ret f_s8
            · exact pf_ret f_σ
set_option maxRecDepth 100000 in
theorem fr_X0_sight {F : Nat} (hF : 1000 ≤ F) {h : Nat} {x1 : Int32} {x2 : Int32} {x3 : Int32} {σ : Mem} (hh : wt_isH h) : pf wf_1 (f_X0_sight F h x1 x2 x3 σ) σ := by
  have hc_h := wt_Hcs hh
  have f_σ : fr wf_1 σ σ := fr_rf
  rw [f_X0_sight_e]
  refine pf_chk (fun v1 => ?_)
  refine pf_ite ?_ ?_
  · exact pf_ret f_σ
  · refine pf_chk (fun v2 => ?_)
    refine pf_lt (fun z3 _ => ?_)
    refine pf_bnd (fr_X0_isPane hF hh) (fun _ h => h.elim) f_σ (fun r4 s5 f_s5 => ?_)
    refine pf_ite ?_ ?_
    · exact pf_ret f_s5
    · refine pf_chk (fun v6 => ?_)
      exact pf_ret f_s5
def wf_8 (h : Nat) (c : Nat) : Prop := (h + 18 ≤ c ∧ c ≤ h + 22)
set_option maxRecDepth 100000 in
theorem fl_X0_gain_3 {F : Nat} (hF : 1000 ≤ F) {h : Nat} {x1 : Int32} {x2 : Int32} {x3 : Int32} {τ : Mem} (hh : wt_isH h) : ∀ (N : Nat) (x4 : Int32) (σ : Mem), fr (wf_8 h) τ σ → pf (wf_8 h) (lp_X0_gain_3 F h x1 x2 x3 N x4 σ) τ := by
  intro N
  induction N with
  | zero => intro _ _ _; exact pf_none rfl
  | succ N ih =>
    intro x4 σ f_σ
    have hc_h := wt_Hcs hh
    rw [lp_X0_gain_3_s]
    refine pf_ite ?_ ?_
    · exact pf_ret f_σ
    · refine pf_ite ?_ ?_
      · refine pf_chk (fun v1 => ?_)
        refine pf_chk (fun v2 => ?_)
        refine pf_up2 f_σ (wcid_lo (by omega) (by omega)) (⟨by omega, by omega⟩) (fun s3 f_s3 => ?_)
        rw [j_X0_gain_33_e]
        exact ih _ _ f_s3
      · rw [j_X0_gain_33_e]
        exact ih _ _ f_σ
set_option maxRecDepth 100000 in
theorem fr_X0_gain {F : Nat} (hF : 1000 ≤ F) {h : Nat} {x1 : Int32} {x2 : Int32} {x3 : Int32} {σ : Mem} (hh : wt_isH h) : pf (wf_8 h) (f_X0_gain F h x1 x2 x3 σ) σ := by
  have hc_h := wt_Hcs hh
  have f_σ : fr (wf_8 h) σ σ := fr_rf
  rw [f_X0_gain_e]
  exact fl_X0_gain_3 hF hh _ _ _ f_σ
set_option maxRecDepth 100000 in
theorem fl_X0_reckon_40 {F : Nat} (hF : 1000 ≤ F) {h : Nat} {x1 : Int32} {x2 : Int32} {k7 : Int32 → Mem → Option (Unit × Mem)} {τ : Mem} (hh : wt_isH h) (hk7 : ∀ (x2 : Int32) (σ : Mem), fr (wf_8 h) τ σ → pf (wf_8 h) (k7 x2 σ) τ) : ∀ (N : Nat) (x3 : Int32) (σ : Mem), fr (wf_8 h) τ σ → pf (wf_8 h) (lp_X0_reckon_40 F k7 h x1 x2 N x3 σ) τ := by
  intro N
  induction N with
  | zero => intro _ _ _; exact pf_none rfl
  | succ N ih =>
    intro x3 σ f_σ
    have hc_h := wt_Hcs hh
    rw [lp_X0_reckon_40_s]
    refine pf_ite ?_ ?_
    · exact hk7 _ _ f_σ
    · refine pf_bnd (fr_X0_pull hF hh) (fun _ h => h.elim) f_σ (fun r1 s2 f_s2 => ?_)
      refine pf_ite ?_ ?_
      · rw [j_X0_reckon_73_e]
        exact ih _ _ f_s2
      · refine pf_bnd (fr_X0_sight hF hh) (fun _ h => h.elim) f_s2 (fun r3 s4 f_s4 => ?_)
        refine pf_bnd (fr_X0_gain hF hh) (fun _ h => h) f_s4 (fun r5 s6 f_s6 => ?_)
        rw [j_X0_reckon_73_e]
        exact ih _ _ f_s6
set_option maxRecDepth 100000 in
theorem fl_X0_reckon_17 {F : Nat} (hF : 1000 ≤ F) {h : Nat} {x1 : Int32} {x2 : Int32} {k7 : Int32 → Mem → Option (Unit × Mem)} {τ : Mem} (hh : wt_isH h) (hk7 : ∀ (x2 : Int32) (σ : Mem), fr (wf_8 h) τ σ → pf (wf_8 h) (k7 x2 σ) τ) : ∀ (N : Nat) (x3 : Int32) (σ : Mem), fr (wf_8 h) τ σ → pf (wf_8 h) (lp_X0_reckon_17 F k7 h x1 x2 N x3 σ) τ := by
  intro N
  induction N with
  | zero => intro _ _ _; exact pf_none rfl
  | succ N ih =>
    intro x3 σ f_σ
    have hc_h := wt_Hcs hh
    rw [lp_X0_reckon_17_s]
    refine pf_ite ?_ ?_
    · exact fl_X0_reckon_40 hF hh hk7 _ _ _ f_σ
    · refine pf_chk (fun v1 => ?_)
      refine pf_chk (fun v2 => ?_)
      refine pf_up2 f_σ (wcid_lo (by omega) (by omega)) (⟨by omega, by omega⟩) (fun s3 f_s3 => ?_)
      exact ih _ _ f_s3
set_option maxRecDepth 100000 in
theorem fl_X0_reckon_7 {F : Nat} (hF : 1000 ≤ F) {h : Nat} {x1 : Int32} {τ : Mem} (hh : wt_isH h) : ∀ (N : Nat) (x2 : Int32) (σ : Mem), fr (wf_8 h) τ σ → pf (wf_8 h) (lp_X0_reckon_7 F h x1 N x2 σ) τ := by
  intro N
  induction N with
  | zero => intro _ _ _; exact pf_none rfl
  | succ N ih =>
    intro x2 σ f_σ
    have hc_h := wt_Hcs hh
    rw [lp_X0_reckon_7_s]
    refine pf_ite ?_ ?_
    · exact pf_ret f_σ
    · exact fl_X0_reckon_17 hF hh ih _ _ _ f_σ
set_option maxRecDepth 100000 in
theorem fr_X0_reckon {F : Nat} (hF : 1000 ≤ F) {h : Nat} {σ : Mem} (hh : wt_isH h) : pf (wf_8 h) (f_X0_reckon F h σ) σ := by
  have hc_h := wt_Hcs hh
  have f_σ : fr (wf_8 h) σ σ := fr_rf
  rw [f_X0_reckon_e]
  refine pf_bnd (fr_X0_allShown hF hh) (fun _ h => h.elim) f_σ (fun r1 s2 f_s2 => ?_)
  exact fl_X0_reckon_7 hF hh _ _ _ f_s2
set_option maxRecDepth 100000 in
theorem fr_X0_behind {F : Nat} (hF : 1000 ≤ F) {h : Nat} {x1 : Int32} {x2 : Int32} {x3 : Int32} {σ : Mem} (hh : wt_isH h) : pf wf_1 (f_X0_behind F h x1 x2 x3 σ) σ := by
  have hc_h := wt_Hcs hh
  have f_σ : fr wf_1 σ σ := fr_rf
  rw [f_X0_behind_e]
  refine pf_chk (fun v1 => ?_)
  refine pf_chk (fun v2 => ?_)
  exact pf_ret f_σ
def wf_9 (h : Nat) (c : Nat) : Prop := (h ≤ c ∧ c ≤ h) ∨ (h + 11 ≤ c ∧ c ≤ h + 15) ∨ (h + 18 ≤ c ∧ c ≤ h + 22)
set_option maxRecDepth 100000 in
theorem fl_X0_pass_41 {F : Nat} (hF : 1000 ≤ F) {h : Nat} {x1 : Int32} {x2 : Int32} {k31 : Int32 → Mem → Option (Int32 × Mem)} {τ : Mem} (hh : wt_isH h) (hk31 : ∀ (x2 : Int32) (σ : Mem), fr (wf_9 h) τ σ → pf (wf_9 h) (k31 x2 σ) τ) : ∀ (N : Nat) (x3 : Int32) (σ : Mem), fr (wf_9 h) τ σ → pf (wf_9 h) (lp_X0_pass_41 F k31 h x1 x2 N x3 σ) τ := by
  intro N
  induction N with
  | zero => intro _ _ _; exact pf_none rfl
  | succ N ih =>
    intro x3 σ f_σ
    have hc_h := wt_Hcs hh
    rw [lp_X0_pass_41_s]
    refine pf_ite ?_ ?_
    · exact hk31 _ _ f_σ
    · refine pf_chk (fun v1 => ?_)
      refine pf_bnd (fr_X0_behind hF hh) (fun _ h => h.elim) f_σ (fun r2 s3 f_s3 => ?_)
      refine pf_chk (fun v4 => ?_)
      refine pf_up2 f_s3 (wcid_lo (by omega) (by omega)) (Or.inr (Or.inl (⟨by omega, by omega⟩))) (fun s5 f_s5 => ?_)
      exact ih _ _ f_s5
set_option maxRecDepth 100000 in
theorem fl_X0_pass_31 {F : Nat} (hF : 1000 ≤ F) {h : Nat} {x1 : Int32} {τ : Mem} (hh : wt_isH h) : ∀ (N : Nat) (x2 : Int32) (σ : Mem), fr (wf_9 h) τ σ → pf (wf_9 h) (lp_X0_pass_31 F h x1 N x2 σ) τ := by
  intro N
  induction N with
  | zero => intro _ _ _; exact pf_none rfl
  | succ N ih =>
    intro x2 σ f_σ
    have hc_h := wt_Hcs hh
    rw [lp_X0_pass_31_s]
    refine pf_ite ?_ ?_
    · refine pf_up2 f_σ (wcid_lo (by omega) (by omega)) (Or.inl (⟨by omega, by omega⟩)) (fun s1 f_s1 => ?_)
      exact pf_ret f_s1
    · exact fl_X0_pass_41 hF hh ih _ _ _ f_σ
set_option maxRecDepth 100000 in
theorem fr_X0_pass {F : Nat} (hF : 1000 ≤ F) {h : Nat} {x1 : Int32} {σ : Mem} (hh : wt_isH h) : pf (wf_9 h) (f_X0_pass F h x1 σ) σ := by
  have hc_h := wt_Hcs hh
  have f_σ : fr (wf_9 h) σ σ := fr_rf
  rw [f_X0_pass_e]
  refine pf_ite ?_ ?_
  · rw [j_X0_pass_23_e]
    exact pf_ret f_σ
  · refine pf_ite ?_ ?_
    · rw [j_X0_pass_23_e]
      exact pf_ret f_σ
    · refine pf_ite ?_ ?_
      · refine pf_bnd (fr_X0_reckon hF hh) (fun c h => by unfold wf_8 at h; unfold wf_9; omega) f_σ (fun r1 s2 f_s2 => ?_)
        exact fl_X0_pass_31 hF hh _ _ _ f_s2
      · rw [j_X0_pass_23_e]
        exact pf_ret f_σ
set_option maxRecDepth 100000 in
theorem fl_X0_tradeRosters_19 {F : Nat} (hF : 1000 ≤ F) {h : Nat} {x1 : Int32} {x2 : Int32} {τ : Mem} (hh : wt_isH h) : ∀ (N : Nat) (x3 : Int32) (σ : Mem), fr (wf_4 h) τ σ → pf (wf_4 h) (lp_X0_tradeRosters_19 F h x1 x2 N x3 σ) τ := by
  intro N
  induction N with
  | zero => intro _ _ _; exact pf_none rfl
  | succ N ih =>
    intro x3 σ f_σ
    have hc_h := wt_Hcs hh
    rw [lp_X0_tradeRosters_19_s]
    refine pf_ite ?_ ?_
    · exact pf_ret f_σ
    · refine pf_chk (fun v1 => ?_)
      refine pf_chk (fun v2 => ?_)
      refine pf_lt (fun z3 _ => ?_)
      refine pf_chk (fun v4 => ?_)
      refine pf_up2 f_σ (wcid_lo (by omega) (by omega)) (⟨by omega, by omega⟩) (fun s5 f_s5 => ?_)
      refine pf_up2 f_s5 (wcid_lo (by omega) (by omega)) (⟨by omega, by omega⟩) (fun s6 f_s6 => ?_)
      exact ih _ _ f_s6
set_option maxRecDepth 100000 in
theorem fr_X0_tradeRosters {F : Nat} (hF : 1000 ≤ F) {h : Nat} {x1 : Int32} {x2 : Int32} {σ : Mem} (hh : wt_isH h) : pf (wf_4 h) (f_X0_tradeRosters F h x1 x2 σ) σ := by
  have hc_h := wt_Hcs hh
  have f_σ : fr (wf_4 h) σ σ := fr_rf
  rw [f_X0_tradeRosters_e]
  refine pf_bnd (fr_X0_isLooker hF hh) (fun _ h => h.elim) f_σ (fun r1 s2 f_s2 => ?_)
  refine pf_ite ?_ ?_
  · exact pf_ret f_s2
  · refine pf_bnd (fr_X0_isLooker hF hh) (fun _ h => h.elim) f_s2 (fun r3 s4 f_s4 => ?_)
    refine pf_ite ?_ ?_
    · exact pf_ret f_s4
    · exact fl_X0_tradeRosters_19 hF hh _ _ _ f_s4
set_option maxRecDepth 100000 in
theorem fr_X0_shows {F : Nat} (hF : 1000 ≤ F) {h : Nat} {x1 : Int32} {x2 : Int32} {σ : Mem} (hh : wt_isH h) : pf wf_1 (f_X0_shows F h x1 x2 σ) σ := by
  have hc_h := wt_Hcs hh
  have f_σ : fr wf_1 σ σ := fr_rf
  rw [f_X0_shows_e]
  refine pf_bnd (fr_X0_isPane hF hh) (fun _ h => h.elim) f_σ (fun r1 s2 f_s2 => ?_)
  refine pf_ite ?_ ?_
  · rw [j_X0_shows_33_e]
    exact pf_ret f_s2
  · refine pf_bnd (fr_X0_isView hF) (fun _ h => h.elim) f_s2 (fun r3 s4 f_s4 => ?_)
    refine pf_ite ?_ ?_
    · rw [j_X0_shows_33_e]
      exact pf_ret f_s4
    · refine pf_chk (fun v5 => ?_)
      refine pf_ite ?_ ?_
      · exact pf_ret f_s4
      · rw [j_X0_shows_33_e]
        exact pf_ret f_s4
set_option maxRecDepth 100000 in
theorem fl_X0_timesShown_4 {F : Nat} (hF : 1000 ≤ F) {h : Nat} {x1 : Int32} {τ : Mem} (hh : wt_isH h) : ∀ (N : Nat) (x2 : Int32) (x3 : Int32) (σ : Mem), fr wf_1 τ σ → pf wf_1 (lp_X0_timesShown_4 F h x1 N x2 x3 σ) τ := by
  intro N
  induction N with
  | zero => intro _ _ _ _; exact pf_none rfl
  | succ N ih =>
    intro x2 x3 σ f_σ
    have hc_h := wt_Hcs hh
    rw [lp_X0_timesShown_4_s]
    refine pf_ite ?_ ?_
    · exact pf_ret f_σ
    · refine pf_bnd (fr_X0_shows hF hh) (fun _ h => h.elim) f_σ (fun r1 s2 f_s2 => ?_)
      refine pf_ite ?_ ?_
      · rw [j_X0_timesShown_24_e]
        exact ih _ _ _ f_s2
      · rw [j_X0_timesShown_24_e]
        exact ih _ _ _ f_s2
set_option maxRecDepth 100000 in
theorem fr_X0_timesShown {F : Nat} (hF : 1000 ≤ F) {h : Nat} {x1 : Int32} {σ : Mem} (hh : wt_isH h) : pf wf_1 (f_X0_timesShown F h x1 σ) σ := by
  have hc_h := wt_Hcs hh
  have f_σ : fr wf_1 σ σ := fr_rf
  rw [f_X0_timesShown_e]
  exact fl_X0_timesShown_4 hF hh _ _ _ _ f_σ
set_option maxRecDepth 100000 in
theorem fl_X0_hoursAt_15 {F : Nat} (hF : 1000 ≤ F) {h : Nat} {x1 : Int32} {x3 : Int32} {k4 : Int32 → Int32 → Mem → Option (Int32 × Mem)} {τ : Mem} (hh : wt_isH h) (hk4 : ∀ (x2 : Int32) (x3 : Int32) (σ : Mem), fr wf_1 τ σ → pf wf_1 (k4 x2 x3 σ) τ) : ∀ (N : Nat) (x2 : Int32) (x4 : Int32) (σ : Mem), fr wf_1 τ σ → pf wf_1 (lp_X0_hoursAt_15 F k4 h x1 x3 N x2 x4 σ) τ := by
  intro N
  induction N with
  | zero => intro _ _ _ _; exact pf_none rfl
  | succ N ih =>
    intro x2 x4 σ f_σ
    have hc_h := wt_Hcs hh
    rw [lp_X0_hoursAt_15_s]
    refine pf_ite ?_ ?_
    · exact hk4 _ _ _ f_σ
    · refine pf_chk (fun v1 => ?_)
      refine pf_chk (fun v2 => ?_)
      refine pf_ite ?_ ?_
      · rw [j_X0_hoursAt_38_e]
        exact ih _ _ _ f_σ
      · rw [j_X0_hoursAt_38_e]
        exact ih _ _ _ f_σ
set_option maxRecDepth 100000 in
theorem fl_X0_hoursAt_4 {F : Nat} (hF : 1000 ≤ F) {h : Nat} {x1 : Int32} {τ : Mem} (hh : wt_isH h) : ∀ (N : Nat) (x2 : Int32) (x3 : Int32) (σ : Mem), fr wf_1 τ σ → pf wf_1 (lp_X0_hoursAt_4 F h x1 N x2 x3 σ) τ := by
  intro N
  induction N with
  | zero => intro _ _ _ _; exact pf_none rfl
  | succ N ih =>
    intro x2 x3 σ f_σ
    have hc_h := wt_Hcs hh
    rw [lp_X0_hoursAt_4_s]
    refine pf_ite ?_ ?_
    · exact pf_ret f_σ
    · exact fl_X0_hoursAt_15 hF hh ih _ _ _ _ f_σ
set_option maxRecDepth 100000 in
theorem fr_X0_hoursAt {F : Nat} (hF : 1000 ≤ F) {h : Nat} {x1 : Int32} {σ : Mem} (hh : wt_isH h) : pf wf_1 (f_X0_hoursAt F h x1 σ) σ := by
  have hc_h := wt_Hcs hh
  have f_σ : fr wf_1 σ σ := fr_rf
  rw [f_X0_hoursAt_e]
  exact fl_X0_hoursAt_4 hF hh _ _ _ _ f_σ
set_option maxRecDepth 100000 in
theorem fl_X0_hoursOf_4 {F : Nat} (hF : 1000 ≤ F) {h : Nat} {x1 : Int32} {τ : Mem} (hh : wt_isH h) : ∀ (N : Nat) (x2 : Int32) (x3 : Int32) (σ : Mem), fr wf_1 τ σ → pf wf_1 (lp_X0_hoursOf_4 F h x1 N x2 x3 σ) τ := by
  intro N
  induction N with
  | zero => intro _ _ _ _; exact pf_none rfl
  | succ N ih =>
    intro x2 x3 σ f_σ
    have hc_h := wt_Hcs hh
    rw [lp_X0_hoursOf_4_s]
    refine pf_ite ?_ ?_
    · exact pf_ret f_σ
    · refine pf_chk (fun v1 => ?_)
      refine pf_chk (fun v2 => ?_)
      refine pf_ite ?_ ?_
      · rw [j_X0_hoursOf_26_e]
        exact ih _ _ _ f_σ
      · rw [j_X0_hoursOf_26_e]
        exact ih _ _ _ f_σ
set_option maxRecDepth 100000 in
theorem fr_X0_hoursOf {F : Nat} (hF : 1000 ≤ F) {h : Nat} {x1 : Int32} {σ : Mem} (hh : wt_isH h) : pf wf_1 (f_X0_hoursOf F h x1 σ) σ := by
  have hc_h := wt_Hcs hh
  have f_σ : fr wf_1 σ σ := fr_rf
  rw [f_X0_hoursOf_e]
  exact fl_X0_hoursOf_4 hF hh _ _ _ _ f_σ
set_option maxRecDepth 100000 in
theorem fl_X0_hoursOfAll_4 {F : Nat} (hF : 1000 ≤ F) {h : Nat} {τ : Mem} (hh : wt_isH h) : ∀ (N : Nat) (x1 : Int32) (x2 : Int32) (σ : Mem), fr wf_1 τ σ → pf wf_1 (lp_X0_hoursOfAll_4 F h N x1 x2 σ) τ := by
  intro N
  induction N with
  | zero => intro _ _ _ _; exact pf_none rfl
  | succ N ih =>
    intro x1 x2 σ f_σ
    have hc_h := wt_Hcs hh
    rw [lp_X0_hoursOfAll_4_s]
    refine pf_ite ?_ ?_
    · exact pf_ret f_σ
    · refine pf_bnd (fr_X0_hoursOf hF hh) (fun _ h => h.elim) f_σ (fun r1 s2 f_s2 => ?_)
      exact ih _ _ _ f_s2
set_option maxRecDepth 100000 in
theorem fr_X0_hoursOfAll {F : Nat} (hF : 1000 ≤ F) {h : Nat} {σ : Mem} (hh : wt_isH h) : pf wf_1 (f_X0_hoursOfAll F h σ) σ := by
  have hc_h := wt_Hcs hh
  have f_σ : fr wf_1 σ σ := fr_rf
  rw [f_X0_hoursOfAll_e]
  exact fl_X0_hoursOfAll_4 hF hh _ _ _ _ f_σ
set_option maxRecDepth 100000 in
theorem fl_X0_standingIn_4 {F : Nat} (hF : 1000 ≤ F) {h : Nat} {x1 : Int32} {τ : Mem} (hh : wt_isH h) : ∀ (N : Nat) (x2 : Int32) (x3 : Int32) (σ : Mem), fr wf_1 τ σ → pf wf_1 (lp_X0_standingIn_4 F h x1 N x2 x3 σ) τ := by
  intro N
  induction N with
  | zero => intro _ _ _ _; exact pf_none rfl
  | succ N ih =>
    intro x2 x3 σ f_σ
    have hc_h := wt_Hcs hh
    rw [lp_X0_standingIn_4_s]
    refine pf_ite ?_ ?_
    · exact pf_ret f_σ
    · refine pf_chk (fun v1 => ?_)
      refine pf_chk (fun v2 => ?_)
      refine pf_ite ?_ ?_
      · rw [j_X0_standingIn_28_e]
        exact ih _ _ _ f_σ
      · rw [j_X0_standingIn_28_e]
        exact ih _ _ _ f_σ
set_option maxRecDepth 100000 in
theorem fr_X0_standingIn {F : Nat} (hF : 1000 ≤ F) {h : Nat} {x1 : Int32} {σ : Mem} (hh : wt_isH h) : pf wf_1 (f_X0_standingIn F h x1 σ) σ := by
  have hc_h := wt_Hcs hh
  have f_σ : fr wf_1 σ σ := fr_rf
  rw [f_X0_standingIn_e]
  exact fl_X0_standingIn_4 hF hh _ _ _ _ f_σ
set_option maxRecDepth 100000 in
theorem fl_X0_gainOfAll_4 {F : Nat} (hF : 1000 ≤ F) {h : Nat} {x1 : Int32} {τ : Mem} (hh : wt_isH h) : ∀ (N : Nat) (x2 : Int32) (x3 : Int32) (σ : Mem), fr wf_1 τ σ → pf wf_1 (lp_X0_gainOfAll_4 F h x1 N x2 x3 σ) τ := by
  intro N
  induction N with
  | zero => intro _ _ _ _; exact pf_none rfl
  | succ N ih =>
    intro x2 x3 σ f_σ
    have hc_h := wt_Hcs hh
    rw [lp_X0_gainOfAll_4_s]
    refine pf_ite ?_ ?_
    · exact pf_ret f_σ
    · refine pf_chk (fun v1 => ?_)
      refine pf_chk (fun v2 => ?_)
      refine pf_lt (fun z3 _ => ?_)
      exact ih _ _ _ f_σ
set_option maxRecDepth 100000 in
theorem fr_X0_gainOfAll {F : Nat} (hF : 1000 ≤ F) {h : Nat} {x1 : Int32} {σ : Mem} (hh : wt_isH h) : pf wf_1 (f_X0_gainOfAll F h x1 σ) σ := by
  have hc_h := wt_Hcs hh
  have f_σ : fr wf_1 σ σ := fr_rf
  rw [f_X0_gainOfAll_e]
  exact fl_X0_gainOfAll_4 hF hh _ _ _ _ f_σ
set_option maxRecDepth 100000 in
theorem fl_X0_holder_15 {F : Nat} (hF : 1000 ≤ F) {h : Nat} {x1 : Int32} {x2 : Int32} {τ : Mem} (hh : wt_isH h) : ∀ (N : Nat) (x3 : Int32) (x4 : Int32) (x5 : Int32) (x6 : Int32) (x7 : Int32) (σ : Mem), fr wf_1 τ σ → pf wf_1 (lp_X0_holder_15 F h x1 x2 N x3 x4 x5 x6 x7 σ) τ := by
  intro N
  induction N with
  | zero => intro _ _ _ _ _ _ _; exact pf_none rfl
  | succ N ih =>
    intro x3 x4 x5 x6 x7 σ f_σ
    have hc_h := wt_Hcs hh
    rw [lp_X0_holder_15_s]
    refine pf_ite ?_ ?_
    · refine pf_ite ?_ ?_
      · refine pf_ite ?_ ?_
        · rw [j_X0_holder_90_e]
          refine pf_ite ?_ ?_
          · refine pf_ite ?_ ?_
            · rw [j_X0_holder_111_e]
              exact pf_ret f_σ
            · rw [j_X0_holder_108_e]
              exact pf_ret f_σ
          · rw [j_X0_holder_111_e]
            exact pf_ret f_σ
        · rw [j_X0_holder_108_e]
          exact pf_ret f_σ
      · rw [j_X0_holder_90_e]
        refine pf_ite ?_ ?_
        · refine pf_ite ?_ ?_
          · rw [j_X0_holder_111_e]
            exact pf_ret f_σ
          · rw [j_X0_holder_108_e]
            exact pf_ret f_σ
        · rw [j_X0_holder_111_e]
          exact pf_ret f_σ
    · refine pf_bnd (fr_X0_behind hF hh) (fun _ h => h.elim) f_σ (fun r1 s2 f_s2 => ?_)
      refine pf_ite ?_ ?_
      · refine pf_ite ?_ ?_
        · rw [j_X0_holder_71_e]
          exact ih _ _ _ _ _ _ f_s2
        · rw [j_X0_holder_71_e]
          exact ih _ _ _ _ _ _ f_s2
      · rw [j_X0_holder_71_e]
        exact ih _ _ _ _ _ _ f_s2
set_option maxRecDepth 100000 in
theorem fr_X0_holder {F : Nat} (hF : 1000 ≤ F) {h : Nat} {x1 : Int32} {x2 : Int32} {σ : Mem} (hh : wt_isH h) : pf wf_1 (f_X0_holder F h x1 x2 σ) σ := by
  have hc_h := wt_Hcs hh
  have f_σ : fr wf_1 σ σ := fr_rf
  rw [f_X0_holder_e]
  exact fl_X0_holder_15 hF hh _ _ _ _ _ _ _ f_σ
set_option maxRecDepth 100000 in
theorem fl_X0_holdings_5 {F : Nat} (hF : 1000 ≤ F) {h : Nat} {x1 : Int32} {x2 : Int32} {τ : Mem} (hh : wt_isH h) : ∀ (N : Nat) (x3 : Int32) (x4 : Int32) (σ : Mem), fr wf_1 τ σ → pf wf_1 (lp_X0_holdings_5 F h x1 x2 N x3 x4 σ) τ := by
  intro N
  induction N with
  | zero => intro _ _ _ _; exact pf_none rfl
  | succ N ih =>
    intro x3 x4 σ f_σ
    have hc_h := wt_Hcs hh
    rw [lp_X0_holdings_5_s]
    refine pf_ite ?_ ?_
    · exact pf_ret f_σ
    · refine pf_bnd (fr_X0_holder hF hh) (fun _ h => h.elim) f_σ (fun r1 s2 f_s2 => ?_)
      refine pf_ite ?_ ?_
      · refine pf_lt (fun z3 _ => ?_)
        rw [j_X0_holdings_30_e]
        exact ih _ _ _ f_s2
      · rw [j_X0_holdings_30_e]
        exact ih _ _ _ f_s2
set_option maxRecDepth 100000 in
theorem fr_X0_holdings {F : Nat} (hF : 1000 ≤ F) {h : Nat} {x1 : Int32} {x2 : Int32} {σ : Mem} (hh : wt_isH h) : pf wf_1 (f_X0_holdings F h x1 x2 σ) σ := by
  have hc_h := wt_Hcs hh
  have f_σ : fr wf_1 σ σ := fr_rf
  rw [f_X0_holdings_e]
  exact fl_X0_holdings_5 hF hh _ _ _ _ f_σ
set_option maxRecDepth 100000 in
theorem fl_X0_firstHolding_2 {F : Nat} (hF : 1000 ≤ F) {h : Nat} {x1 : Int32} {x2 : Int32} {τ : Mem} (hh : wt_isH h) : ∀ (N : Nat) (x3 : Int32) (σ : Mem), fr wf_1 τ σ → pf wf_1 (lp_X0_firstHolding_2 F h x1 x2 N x3 σ) τ := by
  intro N
  induction N with
  | zero => intro _ _ _; exact pf_none rfl
  | succ N ih =>
    intro x3 σ f_σ
    have hc_h := wt_Hcs hh
    rw [lp_X0_firstHolding_2_s]
    refine pf_ite ?_ ?_
    · exact pf_ret f_σ
    · refine pf_bnd (fr_X0_holder hF hh) (fun _ h => h.elim) f_σ (fun r1 s2 f_s2 => ?_)
      refine pf_ite ?_ ?_
      · exact pf_ret f_s2
      · exact ih _ _ f_s2
set_option maxRecDepth 100000 in
theorem fr_X0_firstHolding {F : Nat} (hF : 1000 ≤ F) {h : Nat} {x1 : Int32} {x2 : Int32} {σ : Mem} (hh : wt_isH h) : pf wf_1 (f_X0_firstHolding F h x1 x2 σ) σ := by
  have hc_h := wt_Hcs hh
  have f_σ : fr wf_1 σ σ := fr_rf
  rw [f_X0_firstHolding_e]
  exact fl_X0_firstHolding_2 hF hh _ _ _ f_σ
set_option maxRecDepth 100000 in
theorem fr_X0_held {F : Nat} (hF : 1000 ≤ F) {h : Nat} {x1 : Int32} {σ : Mem} (hh : wt_isH h) : pf wf_1 (f_X0_held F h x1 σ) σ := by
  have hc_h := wt_Hcs hh
  have f_σ : fr wf_1 σ σ := fr_rf
  rw [f_X0_held_e]
  refine pf_bnd (fr_X0_holdings hF hh) (fun _ h => h.elim) f_σ (fun r1 s2 f_s2 => ?_)
  exact pf_ret f_s2
set_option maxRecDepth 100000 in
theorem fl_X0_wealth_5 {F : Nat} (hF : 1000 ≤ F) {h : Nat} {x1 : Int32} {x2 : Int32} {τ : Mem} (hh : wt_isH h) : ∀ (N : Nat) (x3 : Int32) (x4 : Int32) (σ : Mem), fr wf_1 τ σ → pf wf_1 (lp_X0_wealth_5 F h x1 x2 N x3 x4 σ) τ := by
  intro N
  induction N with
  | zero => intro _ _ _ _; exact pf_none rfl
  | succ N ih =>
    intro x3 x4 σ f_σ
    have hc_h := wt_Hcs hh
    rw [lp_X0_wealth_5_s]
    refine pf_ite ?_ ?_
    · exact pf_ret f_σ
    · refine pf_bnd (fr_X0_holder hF hh) (fun _ h => h.elim) f_σ (fun r1 s2 f_s2 => ?_)
      refine pf_ite ?_ ?_
      · refine pf_chk (fun v3 => ?_)
        refine pf_lt (fun z4 _ => ?_)
        rw [j_X0_wealth_33_e]
        exact ih _ _ _ f_s2
      · rw [j_X0_wealth_33_e]
        exact ih _ _ _ f_s2
set_option maxRecDepth 100000 in
theorem fr_X0_wealth {F : Nat} (hF : 1000 ≤ F) {h : Nat} {x1 : Int32} {x2 : Int32} {σ : Mem} (hh : wt_isH h) : pf wf_1 (f_X0_wealth F h x1 x2 σ) σ := by
  have hc_h := wt_Hcs hh
  have f_σ : fr wf_1 σ σ := fr_rf
  rw [f_X0_wealth_e]
  exact fl_X0_wealth_5 hF hh _ _ _ _ f_σ
set_option maxRecDepth 100000 in
theorem fl_X0_wealthiest_8 {F : Nat} (hF : 1000 ≤ F) {h : Nat} {x1 : Int32} {τ : Mem} (hh : wt_isH h) : ∀ (N : Nat) (x2 : Int32) (x3 : Int32) (x4 : Int32) (σ : Mem), fr wf_1 τ σ → pf wf_1 (lp_X0_wealthiest_8 F h x1 N x2 x3 x4 σ) τ := by
  intro N
  induction N with
  | zero => intro _ _ _ _ _; exact pf_none rfl
  | succ N ih =>
    intro x2 x3 x4 σ f_σ
    have hc_h := wt_Hcs hh
    rw [lp_X0_wealthiest_8_s]
    refine pf_ite ?_ ?_
    · exact pf_ret f_σ
    · refine pf_bnd (fr_X0_wealth hF hh) (fun _ h => h.elim) f_σ (fun r1 s2 f_s2 => ?_)
      refine pf_ite ?_ ?_
      · rw [j_X0_wealthiest_38_e]
        exact ih _ _ _ _ f_s2
      · rw [j_X0_wealthiest_38_e]
        exact ih _ _ _ _ f_s2
set_option maxRecDepth 100000 in
theorem fr_X0_wealthiest {F : Nat} (hF : 1000 ≤ F) {h : Nat} {x1 : Int32} {σ : Mem} (hh : wt_isH h) : pf wf_1 (f_X0_wealthiest F h x1 σ) σ := by
  have hc_h := wt_Hcs hh
  have f_σ : fr wf_1 σ σ := fr_rf
  rw [f_X0_wealthiest_e]
  exact fl_X0_wealthiest_8 hF hh _ _ _ _ _ f_σ
set_option maxRecDepth 100000 in
theorem fl_X0_lead_6 {F : Nat} (hF : 1000 ≤ F) {h : Nat} {x1 : Int32} {x2 : Int32} {x3 : Int32} {τ : Mem} (hh : wt_isH h) : ∀ (N : Nat) (x4 : Int32) (x5 : Int32) (σ : Mem), fr wf_1 τ σ → pf wf_1 (lp_X0_lead_6 F h x1 x2 x3 N x4 x5 σ) τ := by
  intro N
  induction N with
  | zero => intro _ _ _ _; exact pf_none rfl
  | succ N ih =>
    intro x4 x5 σ f_σ
    have hc_h := wt_Hcs hh
    rw [lp_X0_lead_6_s]
    refine pf_ite ?_ ?_
    · exact pf_ret f_σ
    · refine pf_bnd (fr_X0_holder hF hh) (fun _ h => h.elim) f_σ (fun r1 s2 f_s2 => ?_)
      refine pf_ite ?_ ?_
      · refine pf_chk (fun v3 => ?_)
        refine pf_lt (fun z4 _ => ?_)
        rw [j_X0_lead_61_e]
        exact ih _ _ _ f_s2
      · refine pf_ite ?_ ?_
        · refine pf_chk (fun v5 => ?_)
          refine pf_lt (fun z6 _ => ?_)
          rw [j_X0_lead_61_e]
          exact ih _ _ _ f_s2
        · rw [j_X0_lead_61_e]
          exact ih _ _ _ f_s2
set_option maxRecDepth 100000 in
theorem fr_X0_lead {F : Nat} (hF : 1000 ≤ F) {h : Nat} {x1 : Int32} {x2 : Int32} {x3 : Int32} {σ : Mem} (hh : wt_isH h) : pf wf_1 (f_X0_lead F h x1 x2 x3 σ) σ := by
  have hc_h := wt_Hcs hh
  have f_σ : fr wf_1 σ σ := fr_rf
  rw [f_X0_lead_e]
  exact fl_X0_lead_6 hF hh _ _ _ _ f_σ
set_option maxRecDepth 100000 in
theorem fl_X0_outdo_22 {F : Nat} (hF : 1000 ≤ F) {h : Nat} {x1 : Int32} {x2 : Int32} {x3 : Int32} {x4 : Int32} {x5 : Int32} {τ : Mem} (hh : wt_isH h) : ∀ (N : Nat) (x6 : Int32) (σ : Mem), fr wf_1 τ σ → pf wf_1 (lp_X0_outdo_22 F h x1 x2 x3 x4 x5 N x6 σ) τ := by
  intro N
  induction N with
  | zero => intro _ _ _; exact pf_none rfl
  | succ N ih =>
    intro x6 σ f_σ
    have hc_h := wt_Hcs hh
    rw [lp_X0_outdo_22_s]
    refine pf_ite ?_ ?_
    · exact pf_ret f_σ
    · refine pf_ite ?_ ?_
      · rw [j_X0_outdo_59_e]
        exact ih _ _ f_σ
      · refine pf_ite ?_ ?_
        · rw [j_X0_outdo_59_e]
          exact ih _ _ f_σ
        · refine pf_bnd (fr_X0_behind hF hh) (fun _ h => h.elim) f_σ (fun r1 s2 f_s2 => ?_)
          refine pf_ite ?_ ?_
          · rw [j_X0_outdo_59_e]
            exact ih _ _ f_s2
          · exact pf_ret f_s2
set_option maxRecDepth 100000 in
theorem fr_X0_outdo {F : Nat} (hF : 1000 ≤ F) {h : Nat} {x1 : Int32} {x2 : Int32} {x3 : Int32} {x4 : Int32} {σ : Mem} (hh : wt_isH h) : pf wf_1 (f_X0_outdo F h x1 x2 x3 x4 σ) σ := by
  have hc_h := wt_Hcs hh
  have f_σ : fr wf_1 σ σ := fr_rf
  rw [f_X0_outdo_e]
  refine pf_bnd (fr_X0_behind hF hh) (fun _ h => h.elim) f_σ (fun r1 s2 f_s2 => ?_)
  refine pf_bnd (fr_X0_behind hF hh) (fun _ h => h.elim) f_s2 (fun r3 s4 f_s4 => ?_)
  exact fl_X0_outdo_22 hF hh _ _ _ f_s4
set_option maxRecDepth 100000 in
theorem fl_X0_placeOf_15 {F : Nat} (hF : 1000 ≤ F) {h : Nat} {x1 : Int32} {x2 : Int32} {x4 : Int32} {τ : Mem} (hh : wt_isH h) : ∀ (N : Nat) (x3 : Int32) (x5 : Int32) (σ : Mem), fr wf_1 τ σ → pf wf_1 (lp_X0_placeOf_15 F h x1 x2 x4 N x3 x5 σ) τ := by
  intro N
  induction N with
  | zero => intro _ _ _ _; exact pf_none rfl
  | succ N ih =>
    intro x3 x5 σ f_σ
    have hc_h := wt_Hcs hh
    rw [lp_X0_placeOf_15_s]
    refine pf_ite ?_ ?_
    · exact pf_ret f_σ
    · refine pf_chk (fun v1 => ?_)
      refine pf_chk (fun v2 => ?_)
      refine pf_lt (fun z3 _ => ?_)
      refine pf_ite ?_ ?_
      · rw [j_X0_placeOf_55_e]
        rw [j_X0_placeOf_58_e]
        exact ih _ _ _ f_σ
      · refine pf_ite ?_ ?_
        · refine pf_ite ?_ ?_
          · rw [j_X0_placeOf_58_e]
            exact ih _ _ _ f_σ
          · rw [j_X0_placeOf_55_e]
            rw [j_X0_placeOf_58_e]
            exact ih _ _ _ f_σ
        · rw [j_X0_placeOf_58_e]
          exact ih _ _ _ f_σ
set_option maxRecDepth 100000 in
theorem fr_X0_placeOf {F : Nat} (hF : 1000 ≤ F) {h : Nat} {x1 : Int32} {x2 : Int32} {σ : Mem} (hh : wt_isH h) : pf wf_1 (f_X0_placeOf F h x1 x2 σ) σ := by
  have hc_h := wt_Hcs hh
  have f_σ : fr wf_1 σ σ := fr_rf
  rw [f_X0_placeOf_e]
  refine pf_chk (fun v1 => ?_)
  refine pf_chk (fun v2 => ?_)
  refine pf_lt (fun z3 _ => ?_)
  exact fl_X0_placeOf_15 hF hh _ _ _ _ f_σ
def wf_10 (c : Nat) : Prop := (84 ≤ c ∧ c ≤ 84) ∨ (4001 ≤ c ∧ c ≤ 4001)
set_option maxRecDepth 100000 in
theorem fr_X1_add {F : Nat} (hF : 1000 ≤ F) {x1 : Int32} {σ : Mem} : pf wf_10 (f_X1_add F x1 σ) σ := by
  have f_σ : fr wf_10 σ σ := fr_rf
  rw [f_X1_add_e]
  refine pf_ite ?_ ?_
  · exact pf_ret f_σ
  · refine pf_ite ?_ ?_
    · exact pf_ret f_σ
    · refine pf_chk (fun v1 => ?_)
      refine pf_up2 (c := 84) f_σ (rfl) (Or.inl (⟨by omega, by omega⟩)) (fun s2 f_s2 => ?_)
      refine pf_up2 (c := 4001) f_s2 (rfl) (Or.inr (⟨by omega, by omega⟩)) (fun s3 f_s3 => ?_)
      exact pf_ret f_s3
set_option maxRecDepth 100000 in
theorem fr_X1_digitsOf {F : Nat} (hF : 1000 ≤ F) {x0 : Int32} {σ : Mem} : pf wf_1 (f_X1_digitsOf F x0 σ) σ := by
  have f_σ : fr wf_1 σ σ := fr_rf
  rw [f_X1_digitsOf_e]
  refine pf_ite ?_ ?_
  · exact pf_ret f_σ
  · refine pf_ite ?_ ?_
    · exact pf_ret f_σ
    · refine pf_ite ?_ ?_
      · exact pf_ret f_σ
      · refine pf_ite ?_ ?_
        · exact pf_ret f_σ
        · refine pf_ite ?_ ?_
          · exact pf_ret f_σ
          · refine pf_ite ?_ ?_
            · exact pf_ret f_σ
            · refine pf_ite ?_ ?_
              · exact pf_ret f_σ
              · exact pf_ret f_σ
set_option maxRecDepth 100000 in
theorem fr_X1_isDigit {F : Nat} (hF : 1000 ≤ F) {x1 : Int32} {σ : Mem} : pf wf_1 (f_X1_isDigit F x1 σ) σ := by
  have f_σ : fr wf_1 σ σ := fr_rf
  rw [f_X1_isDigit_e]
  refine pf_ite ?_ ?_
  · rw [j_X1_isDigit_38_e]
    exact pf_ret f_σ
  · refine pf_ite ?_ ?_
    · rw [j_X1_isDigit_38_e]
      exact pf_ret f_σ
    · refine pf_chk (fun v1 => ?_)
      refine pf_ite ?_ ?_
      · rw [j_X1_isDigit_38_e]
        exact pf_ret f_σ
      · refine pf_ite ?_ ?_
        · rw [j_X1_isDigit_38_e]
          exact pf_ret f_σ
        · exact pf_ret f_σ
set_option maxRecDepth 100000 in
theorem fr_X1_behind {F : Nat} (hF : 1000 ≤ F) {x1 : Int32} {σ : Mem} : pf wf_1 (f_X1_behind F x1 σ) σ := by
  have f_σ : fr wf_1 σ σ := fr_rf
  rw [f_X1_behind_e]
  refine pf_ite ?_ ?_
  · rw [j_X1_behind_12_e]
    exact pf_ret f_σ
  · refine pf_ite ?_ ?_
    · refine pf_chk (fun v1 => ?_)
      refine pf_bnd (fr_X1_digitsOf hF) (fun _ h => h.elim) f_σ (fun r2 s3 f_s3 => ?_)
      exact pf_ret f_s3
    · rw [j_X1_behind_12_e]
      exact pf_ret f_σ
set_option maxRecDepth 100000 in
theorem fl_X1_faultOfForm_15 {F : Nat} (hF : 1000 ≤ F) {τ : Mem} : ∀ (N : Nat) (x1 : Int32) (x2 : Int32) (x3 : Int32) (σ : Mem), fr wf_1 τ σ → pf wf_1 (lp_X1_faultOfForm_15 F N x1 x2 x3 σ) τ := by
  intro N
  induction N with
  | zero => intro _ _ _ _ _; exact pf_none rfl
  | succ N ih =>
    intro x1 x2 x3 σ f_σ
    rw [lp_X1_faultOfForm_15_s]
    refine pf_ite ?_ ?_
    · refine pf_ite ?_ ?_
      · exact pf_ret f_σ
      · exact pf_ret f_σ
    · refine pf_ite ?_ ?_
      · refine pf_chk (fun v1 => ?_)
        refine pf_bnd (fr_X1_digitsOf hF) (fun _ h => h.elim) f_σ (fun r2 s3 f_s3 => ?_)
        refine pf_ite ?_ ?_
        · rw [j_X1_faultOfForm_48_e]
          refine pf_ite ?_ ?_
          · exact pf_ret f_s3
          · rw [j_X1_faultOfForm_90_e]
            exact ih _ _ _ _ f_s3
        · rw [j_X1_faultOfForm_48_e]
          refine pf_ite ?_ ?_
          · exact pf_ret f_s3
          · rw [j_X1_faultOfForm_90_e]
            exact ih _ _ _ _ f_s3
      · refine pf_ite ?_ ?_
        · refine pf_chk (fun v4 => ?_)
          refine pf_ite ?_ ?_
          · rw [j_X1_faultOfForm_90_e]
            exact ih _ _ _ _ f_σ
          · exact pf_ret f_σ
        · refine pf_bnd (fr_X1_isDigit hF) (fun _ h => h.elim) f_σ (fun r5 s6 f_s6 => ?_)
          refine pf_ite ?_ ?_
          · exact pf_ret f_s6
          · rw [j_X1_faultOfForm_90_e]
            exact ih _ _ _ _ f_s6
set_option maxRecDepth 100000 in
theorem fr_X1_faultOfForm {F : Nat} (hF : 1000 ≤ F) {σ : Mem} : pf wf_1 (f_X1_faultOfForm F σ) σ := by
  have f_σ : fr wf_1 σ σ := fr_rf
  rw [f_X1_faultOfForm_e]
  refine pf_ite ?_ ?_
  · exact pf_ret f_σ
  · exact fl_X1_faultOfForm_15 hF _ _ _ _ _ f_σ
set_option maxRecDepth 100000 in
theorem fl_X1_number_5 {F : Nat} (hF : 1000 ≤ F) {x1 : Int32} {x2 : Int32} {τ : Mem} : ∀ (N : Nat) (x3 : Int32) (x4 : Int32) (σ : Mem), fr wf_1 τ σ → pf wf_1 (lp_X1_number_5 F x1 x2 N x3 x4 σ) τ := by
  intro N
  induction N with
  | zero => intro _ _ _ _; exact pf_none rfl
  | succ N ih =>
    intro x3 x4 σ f_σ
    rw [lp_X1_number_5_s]
    refine pf_ite ?_ ?_
    · exact pf_ret f_σ
    · refine pf_bnd (fr_X1_isDigit hF) (fun _ h => h.elim) f_σ (fun r1 s2 f_s2 => ?_)
      refine pf_ite ?_ ?_
      · rw [j_X1_number_40_e]
        exact ih _ _ _ f_s2
      · refine pf_chk (fun v3 => ?_)
        rw [j_X1_number_40_e]
        exact ih _ _ _ f_s2
set_option maxRecDepth 100000 in
theorem fr_X1_number {F : Nat} (hF : 1000 ≤ F) {x1 : Int32} {x2 : Int32} {σ : Mem} : pf wf_1 (f_X1_number F x1 x2 σ) σ := by
  have f_σ : fr wf_1 σ σ := fr_rf
  rw [f_X1_number_e]
  exact fl_X1_number_5 hF _ _ _ _ f_σ
def wf_11 (g : Nat) (c : Nat) : Prop := (g ≤ c ∧ c ≤ g + 3) ∨ (g + 5 ≤ c ∧ c ≤ g + 9) ∨ (g + 11 ≤ c ∧ c ≤ g + 16) ∨ (g + 18 ≤ c ∧ c ≤ g + 22)
set_option maxRecDepth 100000 in
theorem fr_X1_tell {F : Nat} (hF : 1000 ≤ F) {g : Nat} {x2 : Int32} {σ : Mem} (hg : wt_isH g) : pf (wf_11 g) (f_X1_tell F g x2 σ) σ := by
  have hc_g := wt_Hcs hg
  have f_σ : fr (wf_11 g) σ σ := fr_rf
  rw [f_X1_tell_e]
  refine pf_ite ?_ ?_
  · rw [j_X1_tell_12_e]
    exact pf_ret f_σ
  · refine pf_ite ?_ ?_
    · refine pf_chk (fun v1 => ?_)
      refine pf_ite ?_ ?_
      · refine pf_bnd (fr_X1_number hF) (fun _ h => h.elim) f_σ (fun r2 s3 f_s3 => ?_)
        refine pf_ite ?_ ?_
        · rw [j_X1_tell_262_e]
          exact pf_ret f_s3
        · refine pf_bnd (fr_X1_number hF) (fun _ h => h.elim) f_s3 (fun r4 s5 f_s5 => ?_)
          refine pf_bnd (fr_X0_pass hF hg) (fun c h => by unfold wf_9 at h; unfold wf_11; omega) f_s5 (fun r6 s7 f_s7 => ?_)
          refine pf_ite ?_ ?_
          · rw [j_X1_tell_262_e]
            exact pf_ret f_s7
          · exact pf_ret f_s7
      · refine pf_ite ?_ ?_
        · refine pf_bnd (fr_X1_number hF) (fun _ h => h.elim) f_σ (fun r8 s9 f_s9 => ?_)
          refine pf_bnd (fr_X1_number hF) (fun _ h => h.elim) f_s9 (fun r10 s11 f_s11 => ?_)
          refine pf_bnd (fr_X0_addLooker hF hg) (fun c h => by unfold wf_3 at h; unfold wf_11; omega) f_s11 (fun r12 s13 f_s13 => ?_)
          refine pf_bz ?_
          exact pf_ret f_s13
        · refine pf_ite ?_ ?_
          · refine pf_bnd (fr_X1_number hF) (fun _ h => h.elim) f_σ (fun r14 s15 f_s15 => ?_)
            refine pf_bnd (fr_X0_addPane hF hg) (fun c h => by unfold wf_2 at h; unfold wf_11; omega) f_s15 (fun r16 s17 f_s17 => ?_)
            refine pf_bz ?_
            exact pf_ret f_s17
          · refine pf_ite ?_ ?_
            · refine pf_bnd (fr_X1_number hF) (fun _ h => h.elim) f_σ (fun r18 s19 f_s19 => ?_)
              refine pf_bnd (fr_X1_number hF) (fun _ h => h.elim) f_s19 (fun r20 s21 f_s21 => ?_)
              refine pf_bnd (fr_X1_number hF) (fun _ h => h.elim) f_s21 (fun r22 s23 f_s23 => ?_)
              refine pf_bnd (fr_X1_number hF) (fun _ h => h.elim) f_s23 (fun r24 s25 f_s25 => ?_)
              refine pf_bnd (fr_X0_post hF hg) (fun c h => by unfold wf_4 at h; unfold wf_11; omega) f_s25 (fun r26 s27 f_s27 => ?_)
              refine pf_bz ?_
              exact pf_ret f_s27
            · refine pf_ite ?_ ?_
              · refine pf_bnd (fr_X1_number hF) (fun _ h => h.elim) f_σ (fun r28 s29 f_s29 => ?_)
                refine pf_bnd (fr_X0_rule hF hg) (fun c h => by unfold wf_7 at h; unfold wf_11; omega) f_s29 (fun r30 s31 f_s31 => ?_)
                refine pf_bz ?_
                exact pf_ret f_s31
              · refine pf_ite ?_ ?_
                · refine pf_bnd (fr_X1_number hF) (fun _ h => h.elim) f_σ (fun r32 s33 f_s33 => ?_)
                  refine pf_bnd (fr_X1_number hF) (fun _ h => h.elim) f_s33 (fun r34 s35 f_s35 => ?_)
                  refine pf_bnd (fr_X0_price hF hg) (fun c h => by unfold wf_6 at h; unfold wf_11; omega) f_s35 (fun r36 s37 f_s37 => ?_)
                  refine pf_bz ?_
                  exact pf_ret f_s37
                · refine pf_ite ?_ ?_
                  · refine pf_bnd (fr_X1_number hF) (fun _ h => h.elim) f_σ (fun r38 s39 f_s39 => ?_)
                    refine pf_bnd (fr_X1_number hF) (fun _ h => h.elim) f_s39 (fun r40 s41 f_s41 => ?_)
                    refine pf_bnd (fr_X0_flip hF hg) (fun c h => by unfold wf_5 at h; unfold wf_11; omega) f_s41 (fun r42 s43 f_s43 => ?_)
                    refine pf_bz ?_
                    exact pf_ret f_s43
                  · exact pf_ret f_σ
    · rw [j_X1_tell_12_e]
      exact pf_ret f_σ
def wf_12 (c : Nat) : Prop := (3005 ≤ c ∧ c ≤ 3005)
set_option maxRecDepth 100000 in
theorem fr_X2_forget {F : Nat} (hF : 1000 ≤ F) {σ : Mem} : pf wf_12 (f_X2_forget F σ) σ := by
  have f_σ : fr wf_12 σ σ := fr_rf
  rw [f_X2_forget_e]
  refine pf_up2 (c := 3005) f_σ (rfl) (⟨by omega, by omega⟩) (fun s1 f_s1 => ?_)
  exact pf_ret f_s1
def wf_13 (c : Nat) : Prop := (3004 ≤ c ∧ c ≤ 3005)
set_option maxRecDepth 100000 in
theorem fr_X2_nextSlot {F : Nat} (hF : 1000 ≤ F) {σ : Mem} : pf wf_13 (f_X2_nextSlot F σ) σ := by
  have f_σ : fr wf_13 σ σ := fr_rf
  rw [f_X2_nextSlot_e]
  refine pf_lt (fun z1 _ => ?_)
  refine pf_ite ?_ ?_
  · refine pf_up2 (c := 3004) f_σ (rfl) (⟨by omega, by omega⟩) (fun s2 f_s2 => ?_)
    rw [j_X2_nextSlot_48_e]
    exact pf_ret f_s2
  · refine pf_up2 (c := 3005) f_σ (rfl) (⟨by omega, by omega⟩) (fun s3 f_s3 => ?_)
    rw [j_X2_nextSlot_48_e]
    exact pf_ret f_s3
def wf_14 (c : Nat) : Prop := (71 ≤ c ∧ c ≤ 73) ∨ (3004 ≤ c ∧ c ≤ 3005)
theorem ww_0 : ∀ c, wf_13 c → wf_14 c := fun c h => Or.inr (h)
set_option maxRecDepth 100000 in
theorem fr_X2_keep {F : Nat} (hF : 1000 ≤ F) {x1 : Int32} {x2 : Int32} {x3 : Int32} {σ : Mem} : pf wf_14 (f_X2_keep F x1 x2 x3 σ) σ := by
  have f_σ : fr wf_14 σ σ := fr_rf
  rw [f_X2_keep_e]
  refine pf_bnd (fr_X2_nextSlot hF) (ww_0) f_σ (fun r1 s2 f_s2 => ?_)
  refine pf_chk (fun v3 => ?_)
  refine pf_up2 (c := 71) f_s2 (rfl) (Or.inl (⟨by omega, by omega⟩)) (fun s4 f_s4 => ?_)
  refine pf_up2 (c := 72) f_s4 (rfl) (Or.inl (⟨by omega, by omega⟩)) (fun s5 f_s5 => ?_)
  refine pf_up2 (c := 73) f_s5 (rfl) (Or.inl (⟨by omega, by omega⟩)) (fun s6 f_s6 => ?_)
  exact pf_ret f_s6
def wf_15 (c : Nat) : Prop := (71 ≤ c ∧ c ≤ 72) ∨ (75 ≤ c ∧ c ≤ 82) ∨ (3004 ≤ c ∧ c ≤ 3005)
theorem ww_1 : ∀ c, wf_13 c → wf_15 c := fun c h => Or.inr (Or.inr (h))
set_option maxRecDepth 100000 in
theorem fl_X2_keepRoster_22 {F : Nat} (hF : 1000 ≤ F) {a : Nat} {x3 : Int32} {τ : Mem} : ∀ (N : Nat) (x4 : Int32) (σ : Mem), fr wf_15 τ σ → pf wf_15 (lp_X2_keepRoster_22 F a x3 N x4 σ) τ := by
  intro N
  induction N with
  | zero => intro _ _ _; exact pf_none rfl
  | succ N ih =>
    intro x4 σ f_σ
    rw [lp_X2_keepRoster_22_s]
    refine pf_ite ?_ ?_
    · exact pf_ret f_σ
    · refine pf_ite ?_ ?_
      · exact pf_ret f_σ
      · refine pf_chk (fun v1 => ?_)
        refine pf_chk (fun v2 => ?_)
        refine pf_up2 f_σ (wcid_hi (by omega)) (Or.inr (Or.inl (⟨by omega, by omega⟩))) (fun s3 f_s3 => ?_)
        exact ih _ _ f_s3
set_option maxRecDepth 100000 in
theorem fr_X2_keepRoster {F : Nat} (hF : 1000 ≤ F) {x1 : Int32} {a : Nat} {σ : Mem} : pf wf_15 (f_X2_keepRoster F x1 a σ) σ := by
  have f_σ : fr wf_15 σ σ := fr_rf
  rw [f_X2_keepRoster_e]
  refine pf_bnd (fr_X2_nextSlot hF) (ww_1) f_σ (fun r1 s2 f_s2 => ?_)
  refine pf_chk (fun v3 => ?_)
  refine pf_up2 (c := 71) f_s2 (rfl) (Or.inl (⟨by omega, by omega⟩)) (fun s4 f_s4 => ?_)
  refine pf_up2 (c := 72) f_s4 (rfl) (Or.inl (⟨by omega, by omega⟩)) (fun s5 f_s5 => ?_)
  exact fl_X2_keepRoster_22 hF _ _ _ f_s5
def wf_16 (g : Nat) (c : Nat) : Prop := (3005 ≤ c ∧ c ≤ 3005) ∨ (g ≤ c ∧ c ≤ g + 1) ∨ (g + 5 ≤ c ∧ c ≤ g + 9) ∨ (g + 16 ≤ c ∧ c ≤ g + 16)
set_option maxRecDepth 100000 in
theorem fl_X2_undoLatest_75 {F : Nat} (hF : 1000 ≤ F) {g : Nat} {x2 : Int32} {x3 : Int32} {τ : Mem} (hg : wt_isH g) : ∀ (N : Nat) (x4 : Int32) (σ : Mem), fr (wf_16 g) τ σ → pf (wf_16 g) (lp_X2_undoLatest_75 F g x2 x3 N x4 σ) τ := by
  intro N
  induction N with
  | zero => intro _ _ _; exact pf_none rfl
  | succ N ih =>
    intro x4 σ f_σ
    have hc_g := wt_Hcs hg
    rw [lp_X2_undoLatest_75_s]
    refine pf_ite ?_ ?_
    · exact pf_ret f_σ
    · refine pf_chk (fun v1 => ?_)
      refine pf_chk (fun v2 => ?_)
      refine pf_bnd (fr_X0_post hF hg) (fun c h => by unfold wf_4 at h; unfold wf_16; omega) f_σ (fun r3 s4 f_s4 => ?_)
      exact ih _ _ f_s4
set_option maxRecDepth 100000 in
theorem fr_X2_undoLatest {F : Nat} (hF : 1000 ≤ F) {g : Nat} {σ : Mem} (hg : wt_isH g) : pf (wf_16 g) (f_X2_undoLatest F g σ) σ := by
  have hc_g := wt_Hcs hg
  have f_σ : fr (wf_16 g) σ σ := fr_rf
  rw [f_X2_undoLatest_e]
  refine pf_ite ?_ ?_
  · refine pf_up2 (c := 3005) f_σ (rfl) (Or.inl (⟨by omega, by omega⟩)) (fun s1 f_s1 => ?_)
    refine pf_lt (fun z2 _ => ?_)
    refine pf_chk (fun v3 => ?_)
    refine pf_lt (fun z4 _ => ?_)
    refine pf_ite ?_ ?_
    · exact fl_X2_undoLatest_75 hF hg _ _ _ f_s1
    · refine pf_ite ?_ ?_
      · refine pf_bnd (fr_X0_isPane hF hg) (fun _ h => h.elim) f_s1 (fun r5 s6 f_s6 => ?_)
        refine pf_ite ?_ ?_
        · exact pf_ret f_s6
        · refine pf_chk (fun v7 => ?_)
          refine pf_up2 f_s6 (wcid_lo (by omega) (by omega)) (Or.inr (Or.inl (⟨by omega, by omega⟩))) (fun s8 f_s8 => ?_)
          exact pf_ret f_s8
      · refine pf_ite ?_ ?_
        · refine pf_bnd (fr_X0_price hF hg) (fun c h => by unfold wf_6 at h; unfold wf_16; omega) f_s1 (fun r9 s10 f_s10 => ?_)
          exact pf_ret f_s10
        · refine pf_bnd (fr_X0_rule hF hg) (fun c h => by unfold wf_7 at h; unfold wf_16; omega) f_s1 (fun r11 s12 f_s12 => ?_)
          exact pf_ret f_s12
  · exact pf_ret f_σ
def wf_17 (c : Nat) : Prop := (86 ≤ c ∧ c ≤ 86)
set_option maxRecDepth 100000 in
theorem fr_X3_refuse {F : Nat} (hF : 1000 ≤ F) {x1 : Int32} {σ : Mem} : pf wf_17 (f_X3_refuse F x1 σ) σ := by
  have f_σ : fr wf_17 σ σ := fr_rf
  rw [f_X3_refuse_e]
  refine pf_ite ?_ ?_
  · rw [j_X3_refuse_23_e]
    exact pf_ret f_σ
  · refine pf_ite ?_ ?_
    · rw [j_X3_refuse_23_e]
      exact pf_ret f_σ
    · refine pf_chk (fun v1 => ?_)
      refine pf_up2 (c := 86) f_σ (rfl) (⟨by omega, by omega⟩) (fun s2 f_s2 => ?_)
      rw [j_X3_refuse_23_e]
      exact pf_ret f_s2
set_option maxRecDepth 100000 in
theorem fr_X3_refuseLong {F : Nat} (hF : 1000 ≤ F) {x1 : Int32} {σ : Mem} : pf wf_17 (f_X3_refuseLong F x1 σ) σ := by
  have f_σ : fr wf_17 σ σ := fr_rf
  rw [f_X3_refuseLong_e]
  refine pf_bnd (fr_X3_refuse hF) (fun _ h => h) f_σ (fun r1 s2 f_s2 => ?_)
  exact pf_ret f_s2
set_option maxRecDepth 100000 in
theorem fr_X3_firstOf {F : Nat} (hF : 1000 ≤ F) {x0 : Int32} {x1 : Int32} {σ : Mem} : pf wf_1 (f_X3_firstOf F x0 x1 σ) σ := by
  have f_σ : fr wf_1 σ σ := fr_rf
  rw [f_X3_firstOf_e]
  refine pf_ite ?_ ?_
  · exact pf_ret f_σ
  · exact pf_ret f_σ
set_option maxRecDepth 100000 in
theorem fr_X3_noView {F : Nat} (hF : 1000 ≤ F) {x0 : Int32} {σ : Mem} : pf wf_1 (f_X3_noView F x0 σ) σ := by
  have f_σ : fr wf_1 σ σ := fr_rf
  rw [f_X3_noView_e]
  refine pf_bnd (fr_X0_isView hF) (fun _ h => h.elim) f_σ (fun r1 s2 f_s2 => ?_)
  refine pf_ite ?_ ?_
  · exact pf_ret f_s2
  · exact pf_ret f_s2
set_option maxRecDepth 100000 in
theorem fr_X3_noHour {F : Nat} (hF : 1000 ≤ F) {x0 : Int32} {σ : Mem} : pf wf_1 (f_X3_noHour F x0 σ) σ := by
  have f_σ : fr wf_1 σ σ := fr_rf
  rw [f_X3_noHour_e]
  refine pf_bnd (fr_X0_isHour hF) (fun _ h => h.elim) f_σ (fun r1 s2 f_s2 => ?_)
  refine pf_ite ?_ ?_
  · exact pf_ret f_s2
  · exact pf_ret f_s2
set_option maxRecDepth 100000 in
theorem fr_X3_noPane {F : Nat} (hF : 1000 ≤ F) {x1 : Int32} {σ : Mem} : pf wf_1 (f_X3_noPane F x1 σ) σ := by
  have f_σ : fr wf_1 σ σ := fr_rf
  rw [f_X3_noPane_e]
  refine pf_bnd (fr_X0_isPane hF wt_h1) (fun _ h => h.elim) f_σ (fun r1 s2 f_s2 => ?_)
  refine pf_ite ?_ ?_
  · exact pf_ret f_s2
  · exact pf_ret f_s2
set_option maxRecDepth 100000 in
theorem fr_X3_noLooker {F : Nat} (hF : 1000 ≤ F) {x1 : Int32} {σ : Mem} : pf wf_1 (f_X3_noLooker F x1 σ) σ := by
  have f_σ : fr wf_1 σ σ := fr_rf
  rw [f_X3_noLooker_e]
  refine pf_bnd (fr_X0_isLooker hF wt_h1) (fun _ h => h.elim) f_σ (fun r1 s2 f_s2 => ?_)
  refine pf_ite ?_ ?_
  · exact pf_ret f_s2
  · exact pf_ret f_s2
set_option maxRecDepth 100000 in
theorem fr_X3_noPair {F : Nat} (hF : 1000 ≤ F) {x1 : Int32} {x2 : Int32} {σ : Mem} : pf wf_1 (f_X3_noPair F x1 x2 σ) σ := by
  have f_σ : fr wf_1 σ σ := fr_rf
  rw [f_X3_noPair_e]
  refine pf_bnd (fr_X0_isLooker hF wt_h1) (fun _ h => h.elim) f_σ (fun r1 s2 f_s2 => ?_)
  refine pf_ite ?_ ?_
  · rw [j_X3_noPair_31_e]
    exact pf_ret f_s2
  · refine pf_bnd (fr_X0_isLooker hF wt_h1) (fun _ h => h.elim) f_s2 (fun r3 s4 f_s4 => ?_)
    refine pf_ite ?_ ?_
    · rw [j_X3_noPair_31_e]
      exact pf_ret f_s4
    · refine pf_ite ?_ ?_
      · rw [j_X3_noPair_31_e]
        exact pf_ret f_s4
      · exact pf_ret f_s4
set_option maxRecDepth 100000 in
theorem fr_X3_notBelow {F : Nat} (hF : 1000 ≤ F) {x0 : Int32} {x1 : Int32} {σ : Mem} : pf wf_1 (f_X3_notBelow F x0 x1 σ) σ := by
  have f_σ : fr wf_1 σ σ := fr_rf
  rw [f_X3_notBelow_e]
  refine pf_ite ?_ ?_
  · rw [j_X3_notBelow_13_e]
    exact pf_ret f_σ
  · refine pf_ite ?_ ?_
    · rw [j_X3_notBelow_13_e]
      exact pf_ret f_σ
    · exact pf_ret f_σ
set_option maxRecDepth 100000 in
theorem fr_X3_outside {F : Nat} (hF : 1000 ≤ F) {x0 : Int32} {x1 : Int32} {x2 : Int32} {σ : Mem} : pf wf_1 (f_X3_outside F x0 x1 x2 σ) σ := by
  have f_σ : fr wf_1 σ σ := fr_rf
  rw [f_X3_outside_e]
  refine pf_ite ?_ ?_
  · refine pf_ite ?_ ?_
    · exact pf_ret f_σ
    · exact pf_ret f_σ
  · exact pf_ret f_σ
set_option maxRecDepth 100000 in
theorem fr_X3_noLookerFar {F : Nat} (hF : 1000 ≤ F) {x1 : Int32} {x2 : Int32} {σ : Mem} : pf wf_1 (f_X3_noLookerFar F x1 x2 σ) σ := by
  have f_σ : fr wf_1 σ σ := fr_rf
  rw [f_X3_noLookerFar_e]
  refine pf_bnd (fr_X3_noLooker hF) (fun _ h => h.elim) f_σ (fun r1 s2 f_s2 => ?_)
  refine pf_bnd (fr_X3_outside hF) (fun _ h => h.elim) f_s2 (fun r3 s4 f_s4 => ?_)
  refine pf_bnd (fr_X3_firstOf hF) (fun _ h => h.elim) f_s4 (fun r5 s6 f_s6 => ?_)
  exact pf_ret f_s6
set_option maxRecDepth 100000 in
theorem fr_X3_noPairFar {F : Nat} (hF : 1000 ≤ F) {x1 : Int32} {x2 : Int32} {x3 : Int32} {σ : Mem} : pf wf_1 (f_X3_noPairFar F x1 x2 x3 σ) σ := by
  have f_σ : fr wf_1 σ σ := fr_rf
  rw [f_X3_noPairFar_e]
  refine pf_bnd (fr_X3_noPair hF) (fun _ h => h.elim) f_σ (fun r1 s2 f_s2 => ?_)
  refine pf_bnd (fr_X3_outside hF) (fun _ h => h.elim) f_s2 (fun r3 s4 f_s4 => ?_)
  refine pf_bnd (fr_X3_firstOf hF) (fun _ h => h.elim) f_s4 (fun r5 s6 f_s6 => ?_)
  exact pf_ret f_s6
set_option maxRecDepth 100000 in
theorem fr_X3_longRow {F : Nat} (hF : 1000 ≤ F) {σ : Mem} : pf wf_1 (f_X3_longRow F σ) σ := by
  have f_σ : fr wf_1 σ σ := fr_rf
  rw [f_X3_longRow_e]
  refine pf_ite ?_ ?_
  · exact pf_ret f_σ
  · exact pf_ret f_σ
def wf_18 (c : Nat) : Prop := (84 ≤ c ∧ c ≤ 84) ∨ (86 ≤ c ∧ c ≤ 86) ∨ (4001 ≤ c ∧ c ≤ 4001)
theorem ww_2 : ∀ c, wf_10 c → wf_18 c := fun c h => h.elim (fun a => Or.inl (a)) (fun b0 => Or.inr (Or.inr (b0)))
theorem ww_3 : ∀ c, wf_17 c → wf_18 c := fun c h => Or.inr (Or.inl (h))
set_option maxRecDepth 100000 in
theorem fr_X3_feed {F : Nat} (hF : 1000 ≤ F) {x1 : Int32} {σ : Mem} : pf wf_18 (f_X3_feed F x1 σ) σ := by
  have f_σ : fr wf_18 σ σ := fr_rf
  rw [f_X3_feed_e]
  refine pf_bnd (fr_X3_outside hF) (fun _ h => h.elim) f_σ (fun r1 s2 f_s2 => ?_)
  refine pf_ite ?_ ?_
  · refine pf_ite ?_ ?_
    · rw [j_X3_feed_28_e]
      refine pf_ite ?_ ?_
      · refine pf_bnd (fr_X1_add hF) (ww_2) f_s2 (fun r3 s4 f_s4 => ?_)
        exact pf_ret f_s4
      · refine pf_bnd (fr_X3_refuse hF) (ww_3) f_s2 (fun r5 s6 f_s6 => ?_)
        exact pf_ret f_s6
    · rw [j_X3_feed_28_e]
      refine pf_ite ?_ ?_
      · refine pf_bnd (fr_X1_add hF) (ww_2) f_s2 (fun r7 s8 f_s8 => ?_)
        exact pf_ret f_s8
      · refine pf_bnd (fr_X3_refuse hF) (ww_3) f_s2 (fun r9 s10 f_s10 => ?_)
        exact pf_ret f_s10
  · rw [j_X3_feed_28_e]
    refine pf_ite ?_ ?_
    · refine pf_bnd (fr_X1_add hF) (ww_2) f_s2 (fun r11 s12 f_s12 => ?_)
      exact pf_ret f_s12
    · refine pf_bnd (fr_X3_refuse hF) (ww_3) f_s2 (fun r13 s14 f_s14 => ?_)
      exact pf_ret f_s14
def wf_19 (c : Nat) : Prop := (1 ≤ c ∧ c ≤ 4) ∨ (6 ≤ c ∧ c ≤ 10) ∨ (12 ≤ c ∧ c ≤ 17) ∨ (24 ≤ c ∧ c ≤ 27) ∨ (29 ≤ c ∧ c ≤ 33) ∨ (35 ≤ c ∧ c ≤ 40) ∨ (42 ≤ c ∧ c ≤ 46) ∨ (3005 ≤ c ∧ c ≤ 3005)
theorem ww_4 : ∀ c, wf_12 c → wf_19 c := fun c h => Or.inr (Or.inr (Or.inr (Or.inr (Or.inr (Or.inr (Or.inr (h)))))))
set_option maxRecDepth 100000 in
theorem fl_X3_tellTerrace_35 {F : Nat} (hF : 1000 ≤ F) {τ : Mem} : ∀ (N : Nat) (x1 : Int32) (x2 : Int32) (x3 : Int32) (σ : Mem), fr wf_19 τ σ → pf wf_19 (lp_X3_tellTerrace_35 F N x1 x2 x3 σ) τ := by
  intro N
  induction N with
  | zero => intro _ _ _ _ _; exact pf_none rfl
  | succ N ih =>
    intro x1 x2 x3 σ f_σ
    rw [lp_X3_tellTerrace_35_s]
    refine pf_ite ?_ ?_
    · rw [j_X3_tellTerrace_91_e]
      refine pf_bnd (fr_X0_takeFrom hF wt_h1 wt_h24) (fun c h => by unfold wf_0 at h; unfold wf_19; omega) f_σ (fun r1 s2 f_s2 => ?_)
      refine pf_bnd (fr_X2_forget hF) (ww_4) f_s2 (fun r3 s4 f_s4 => ?_)
      exact pf_ret f_s4
    · refine pf_ite ?_ ?_
      · rw [j_X3_tellTerrace_91_e]
        refine pf_bnd (fr_X0_takeFrom hF wt_h1 wt_h24) (fun c h => by unfold wf_0 at h; unfold wf_19; omega) f_σ (fun r5 s6 f_s6 => ?_)
        refine pf_bnd (fr_X2_forget hF) (ww_4) f_s6 (fun r7 s8 f_s8 => ?_)
        exact pf_ret f_s8
      · refine pf_bnd (fr_X1_tell hF wt_h24) (fun c h => by unfold wf_11 at h; unfold wf_19; omega) f_σ (fun r9 s10 f_s10 => ?_)
        refine pf_ite ?_ ?_
        · exact pf_ret f_s10
        · refine pf_bnd (fr_X1_behind hF) (fun _ h => h.elim) f_s10 (fun r11 s12 f_s12 => ?_)
          exact ih _ _ _ _ f_s12
set_option maxRecDepth 100000 in
theorem fr_X3_tellTerrace {F : Nat} (hF : 1000 ≤ F) {σ : Mem} : pf wf_19 (f_X3_tellTerrace F σ) σ := by
  have f_σ : fr wf_19 σ σ := fr_rf
  rw [f_X3_tellTerrace_e]
  refine pf_bnd (fr_X1_faultOfForm hF) (fun _ h => h.elim) f_σ (fun r1 s2 f_s2 => ?_)
  refine pf_ite ?_ ?_
  · refine pf_bnd (fr_X0_takeFrom hF wt_h24 wt_h1) (fun c h => by unfold wf_0 at h; unfold wf_19; omega) f_s2 (fun r3 s4 f_s4 => ?_)
    exact fl_X3_tellTerrace_35 hF _ _ _ _ _ f_s4
  · exact pf_ret f_s2
def wf_20 (c : Nat) : Prop := (1 ≤ c ∧ c ≤ 4) ∨ (6 ≤ c ∧ c ≤ 10) ∨ (12 ≤ c ∧ c ≤ 17) ∨ (24 ≤ c ∧ c ≤ 27) ∨ (29 ≤ c ∧ c ≤ 33) ∨ (35 ≤ c ∧ c ≤ 40) ∨ (42 ≤ c ∧ c ≤ 46) ∨ (3005 ≤ c ∧ c ≤ 3005) ∨ (4001 ≤ c ∧ c ≤ 4001)
theorem ww_5 : ∀ c, wf_19 c → wf_20 c := fun c h => h.elim (fun a => Or.inl (a)) (fun b0 => b0.elim (fun a => Or.inr (Or.inl (a))) (fun b1 => b1.elim (fun a => Or.inr (Or.inr (Or.inl (a)))) (fun b2 => b2.elim (fun a => Or.inr (Or.inr (Or.inr (Or.inl (a))))) (fun b3 => b3.elim (fun a => Or.inr (Or.inr (Or.inr (Or.inr (Or.inl (a)))))) (fun b4 => b4.elim (fun a => Or.inr (Or.inr (Or.inr (Or.inr (Or.inr (Or.inl (a))))))) (fun b5 => b5.elim (fun a => Or.inr (Or.inr (Or.inr (Or.inr (Or.inr (Or.inr (Or.inl (a)))))))) (fun b6 => Or.inr (Or.inr (Or.inr (Or.inr (Or.inr (Or.inr (Or.inr (Or.inl (b6)))))))))))))))
set_option maxRecDepth 100000 in
theorem fr_X3_terrace {F : Nat} (hF : 1000 ≤ F) {σ : Mem} : pf wf_20 (f_X3_terrace F σ) σ := by
  have f_σ : fr wf_20 σ σ := fr_rf
  rw [f_X3_terrace_e]
  refine pf_bnd (fr_X3_tellTerrace hF) (ww_5) f_σ (fun r1 s2 f_s2 => ?_)
  refine pf_up2 (c := 4001) f_s2 (rfl) (Or.inr (Or.inr (Or.inr (Or.inr (Or.inr (Or.inr (Or.inr (Or.inr (⟨by omega, by omega⟩))))))))) (fun s3 f_s3 => ?_)
  exact pf_ret f_s3
set_option maxRecDepth 100000 in
theorem fr_X3_paneOf {F : Nat} (hF : 1000 ≤ F) {x1 : Int32} {x2 : Int32} {σ : Mem} : pf wf_17 (f_X3_paneOf F x1 x2 σ) σ := by
  have f_σ : fr wf_17 σ σ := fr_rf
  rw [f_X3_paneOf_e]
  refine pf_bnd (fr_X3_noPane hF) (fun _ h => h.elim) f_σ (fun r1 s2 f_s2 => ?_)
  refine pf_bnd (fr_X3_notBelow hF) (fun _ h => h.elim) f_s2 (fun r3 s4 f_s4 => ?_)
  refine pf_bnd (fr_X3_firstOf hF) (fun _ h => h.elim) f_s4 (fun r5 s6 f_s6 => ?_)
  refine pf_ite ?_ ?_
  · refine pf_ite ?_ ?_
    · refine pf_chk (fun v7 => ?_)
      exact pf_ret f_s6
    · refine pf_bnd (fr_X0_hoursAt hF wt_h1) (fun _ h => h.elim) f_s6 (fun r8 s9 f_s9 => ?_)
      exact pf_ret f_s9
  · refine pf_bnd (fr_X3_refuse hF) (fun _ h => h) f_s6 (fun r10 s11 f_s11 => ?_)
    exact pf_ret f_s11
def wf_21 (c : Nat) : Prop := (19 ≤ c ∧ c ≤ 23) ∨ (86 ≤ c ∧ c ≤ 86)
theorem ww_6 : ∀ c, wf_17 c → wf_21 c := fun c h => Or.inr (h)
set_option maxRecDepth 100000 in
theorem fr_X3_lookerOf {F : Nat} (hF : 1000 ≤ F) {x1 : Int32} {x2 : Int32} {σ : Mem} : pf wf_21 (f_X3_lookerOf F x1 x2 σ) σ := by
  have f_σ : fr wf_21 σ σ := fr_rf
  rw [f_X3_lookerOf_e]
  refine pf_bnd (fr_X3_noLooker hF) (fun _ h => h.elim) f_σ (fun r1 s2 f_s2 => ?_)
  refine pf_bnd (fr_X3_notBelow hF) (fun _ h => h.elim) f_s2 (fun r3 s4 f_s4 => ?_)
  refine pf_bnd (fr_X3_firstOf hF) (fun _ h => h.elim) f_s4 (fun r5 s6 f_s6 => ?_)
  refine pf_ite ?_ ?_
  · refine pf_ite ?_ ?_
    · refine pf_chk (fun v7 => ?_)
      exact pf_ret f_s6
    · refine pf_ite ?_ ?_
      · refine pf_chk (fun v8 => ?_)
        exact pf_ret f_s6
      · refine pf_ite ?_ ?_
        · refine pf_bnd (fr_X0_hoursOf hF wt_h1) (fun _ h => h.elim) f_s6 (fun r9 s10 f_s10 => ?_)
          exact pf_ret f_s10
        · refine pf_bnd (fr_X0_reckon hF wt_h1) (fun c h => by unfold wf_8 at h; unfold wf_21; omega) f_s6 (fun r11 s12 f_s12 => ?_)
          refine pf_bnd (fr_X0_holdings hF wt_h1) (fun _ h => h.elim) f_s12 (fun r13 s14 f_s14 => ?_)
          exact pf_ret f_s14
  · refine pf_bnd (fr_X3_refuse hF) (ww_6) f_s6 (fun r15 s16 f_s16 => ?_)
    exact pf_ret f_s16
def wf_22 (c : Nat) : Prop := (1 ≤ c ∧ c ≤ 2) ∨ (86 ≤ c ∧ c ≤ 86) ∨ (3005 ≤ c ∧ c ≤ 3005)
theorem ww_7 : ∀ c, wf_12 c → wf_22 c := fun c h => Or.inr (Or.inr (h))
theorem ww_8 : ∀ c, wf_17 c → wf_22 c := fun c h => Or.inr (Or.inl (h))
set_option maxRecDepth 100000 in
theorem fr_X3_pane {F : Nat} (hF : 1000 ≤ F) {x1 : Int32} {σ : Mem} : pf wf_22 (f_X3_pane F x1 σ) σ := by
  have f_σ : fr wf_22 σ σ := fr_rf
  rw [f_X3_pane_e]
  refine pf_bnd (fr_X3_outside hF) (fun _ h => h.elim) f_σ (fun r1 s2 f_s2 => ?_)
  refine pf_ite ?_ ?_
  · refine pf_ite ?_ ?_
    · rw [j_X3_pane_28_e]
      refine pf_ite ?_ ?_
      · refine pf_bnd (fr_X0_addPane hF wt_h1) (fun c h => by unfold wf_2 at h; unfold wf_22; omega) f_s2 (fun r3 s4 f_s4 => ?_)
        refine pf_bnd (fr_X2_forget hF) (ww_7) f_s4 (fun r5 s6 f_s6 => ?_)
        exact pf_ret f_s6
      · refine pf_bnd (fr_X3_refuse hF) (ww_8) f_s2 (fun r7 s8 f_s8 => ?_)
        exact pf_ret f_s8
    · rw [j_X3_pane_28_e]
      refine pf_ite ?_ ?_
      · refine pf_bnd (fr_X0_addPane hF wt_h1) (fun c h => by unfold wf_2 at h; unfold wf_22; omega) f_s2 (fun r9 s10 f_s10 => ?_)
        refine pf_bnd (fr_X2_forget hF) (ww_7) f_s10 (fun r11 s12 f_s12 => ?_)
        exact pf_ret f_s12
      · refine pf_bnd (fr_X3_refuse hF) (ww_8) f_s2 (fun r13 s14 f_s14 => ?_)
        exact pf_ret f_s14
  · rw [j_X3_pane_28_e]
    refine pf_ite ?_ ?_
    · refine pf_bnd (fr_X0_addPane hF wt_h1) (fun c h => by unfold wf_2 at h; unfold wf_22; omega) f_s2 (fun r15 s16 f_s16 => ?_)
      refine pf_bnd (fr_X2_forget hF) (ww_7) f_s16 (fun r17 s18 f_s18 => ?_)
      exact pf_ret f_s18
    · refine pf_bnd (fr_X3_refuse hF) (ww_8) f_s2 (fun r19 s20 f_s20 => ?_)
      exact pf_ret f_s20
def wf_23 (c : Nat) : Prop := (1 ≤ c ∧ c ≤ 1) ∨ (3 ≤ c ∧ c ≤ 4) ∨ (6 ≤ c ∧ c ≤ 10) ∨ (12 ≤ c ∧ c ≤ 16) ∨ (86 ≤ c ∧ c ≤ 86) ∨ (3005 ≤ c ∧ c ≤ 3005)
theorem ww_9 : ∀ c, wf_12 c → wf_23 c := fun c h => Or.inr (Or.inr (Or.inr (Or.inr (Or.inr (h)))))
theorem ww_10 : ∀ c, wf_17 c → wf_23 c := fun c h => Or.inr (Or.inr (Or.inr (Or.inr (Or.inl (h)))))
set_option maxRecDepth 100000 in
theorem fr_X3_looker {F : Nat} (hF : 1000 ≤ F) {x1 : Int32} {x2 : Int32} {σ : Mem} : pf wf_23 (f_X3_looker F x1 x2 σ) σ := by
  have f_σ : fr wf_23 σ σ := fr_rf
  rw [f_X3_looker_e]
  refine pf_bnd (fr_X3_notBelow hF) (fun _ h => h.elim) f_σ (fun r1 s2 f_s2 => ?_)
  refine pf_bnd (fr_X3_outside hF) (fun _ h => h.elim) f_s2 (fun r3 s4 f_s4 => ?_)
  refine pf_bnd (fr_X3_firstOf hF) (fun _ h => h.elim) f_s4 (fun r5 s6 f_s6 => ?_)
  refine pf_ite ?_ ?_
  · refine pf_ite ?_ ?_
    · rw [j_X3_looker_35_e]
      refine pf_ite ?_ ?_
      · refine pf_bnd (fr_X0_addLooker hF wt_h1) (fun c h => by unfold wf_3 at h; unfold wf_23; omega) f_s6 (fun r7 s8 f_s8 => ?_)
        refine pf_bnd (fr_X2_forget hF) (ww_9) f_s8 (fun r9 s10 f_s10 => ?_)
        exact pf_ret f_s10
      · refine pf_bnd (fr_X3_refuse hF) (ww_10) f_s6 (fun r11 s12 f_s12 => ?_)
        exact pf_ret f_s12
    · rw [j_X3_looker_35_e]
      refine pf_ite ?_ ?_
      · refine pf_bnd (fr_X0_addLooker hF wt_h1) (fun c h => by unfold wf_3 at h; unfold wf_23; omega) f_s6 (fun r13 s14 f_s14 => ?_)
        refine pf_bnd (fr_X2_forget hF) (ww_9) f_s14 (fun r15 s16 f_s16 => ?_)
        exact pf_ret f_s16
      · refine pf_bnd (fr_X3_refuse hF) (ww_10) f_s6 (fun r17 s18 f_s18 => ?_)
        exact pf_ret f_s18
  · rw [j_X3_looker_35_e]
    refine pf_ite ?_ ?_
    · refine pf_bnd (fr_X0_addLooker hF wt_h1) (fun c h => by unfold wf_3 at h; unfold wf_23; omega) f_s6 (fun r19 s20 f_s20 => ?_)
      refine pf_bnd (fr_X2_forget hF) (ww_9) f_s20 (fun r21 s22 f_s22 => ?_)
      exact pf_ret f_s22
    · refine pf_bnd (fr_X3_refuse hF) (ww_10) f_s6 (fun r23 s24 f_s24 => ?_)
      exact pf_ret f_s24
def wf_24 (c : Nat) : Prop := (6 ≤ c ∧ c ≤ 10) ∨ (71 ≤ c ∧ c ≤ 72) ∨ (75 ≤ c ∧ c ≤ 82) ∨ (86 ≤ c ∧ c ≤ 86) ∨ (3004 ≤ c ∧ c ≤ 3005)
theorem ww_11 : ∀ c, wf_15 c → wf_24 c := fun c h => h.elim (fun a => Or.inr (Or.inl (a))) (fun b0 => b0.elim (fun a => Or.inr (Or.inr (Or.inl (a)))) (fun b1 => Or.inr (Or.inr (Or.inr (Or.inr (b1))))))
theorem ww_12 : ∀ c, wf_17 c → wf_24 c := fun c h => Or.inr (Or.inr (Or.inr (Or.inl (h))))
set_option maxRecDepth 100000 in
theorem fr_X3_stands {F : Nat} (hF : 1000 ≤ F) {x1 : Int32} {x2 : Int32} {x3 : Int32} {x4 : Int32} {σ : Mem} : pf wf_24 (f_X3_stands F x1 x2 x3 x4 σ) σ := by
  have f_σ : fr wf_24 σ σ := fr_rf
  rw [f_X3_stands_e]
  refine pf_bnd (fr_X3_noLooker hF) (fun _ h => h.elim) f_σ (fun r1 s2 f_s2 => ?_)
  refine pf_bnd (fr_X3_noHour hF) (fun _ h => h.elim) f_s2 (fun r3 s4 f_s4 => ?_)
  refine pf_bnd (fr_X3_noHour hF) (fun _ h => h.elim) f_s4 (fun r5 s6 f_s6 => ?_)
  refine pf_bnd (fr_X3_firstOf hF) (fun _ h => h.elim) f_s6 (fun r7 s8 f_s8 => ?_)
  refine pf_bnd (fr_X3_firstOf hF) (fun _ h => h.elim) f_s8 (fun r9 s10 f_s10 => ?_)
  refine pf_ite ?_ ?_
  · refine pf_ite ?_ ?_
    · rw [j_X3_stands_41_e]
      refine pf_ite ?_ ?_
      · refine pf_ite ?_ ?_
        · rw [j_X3_stands_55_e]
          refine pf_ite ?_ ?_
          · refine pf_chk (fun v11 => ?_)
            refine pf_bnd (fr_X2_keepRoster hF) (ww_11) f_s10 (fun r12 s13 f_s13 => ?_)
            refine pf_bnd (fr_X0_post hF wt_h1) (fun c h => by unfold wf_4 at h; unfold wf_24; omega) f_s13 (fun r14 s15 f_s15 => ?_)
            refine pf_bnd (fr_X0_hoursOf hF wt_h1) (fun _ h => h.elim) f_s15 (fun r16 s17 f_s17 => ?_)
            exact pf_ret f_s17
          · refine pf_bnd (fr_X3_refuse hF) (ww_12) f_s10 (fun r18 s19 f_s19 => ?_)
            exact pf_ret f_s19
        · rw [j_X3_stands_55_e]
          refine pf_ite ?_ ?_
          · refine pf_chk (fun v20 => ?_)
            refine pf_bnd (fr_X2_keepRoster hF) (ww_11) f_s10 (fun r21 s22 f_s22 => ?_)
            refine pf_bnd (fr_X0_post hF wt_h1) (fun c h => by unfold wf_4 at h; unfold wf_24; omega) f_s22 (fun r23 s24 f_s24 => ?_)
            refine pf_bnd (fr_X0_hoursOf hF wt_h1) (fun _ h => h.elim) f_s24 (fun r25 s26 f_s26 => ?_)
            exact pf_ret f_s26
          · refine pf_bnd (fr_X3_refuse hF) (ww_12) f_s10 (fun r27 s28 f_s28 => ?_)
            exact pf_ret f_s28
      · rw [j_X3_stands_55_e]
        refine pf_ite ?_ ?_
        · refine pf_chk (fun v29 => ?_)
          refine pf_bnd (fr_X2_keepRoster hF) (ww_11) f_s10 (fun r30 s31 f_s31 => ?_)
          refine pf_bnd (fr_X0_post hF wt_h1) (fun c h => by unfold wf_4 at h; unfold wf_24; omega) f_s31 (fun r32 s33 f_s33 => ?_)
          refine pf_bnd (fr_X0_hoursOf hF wt_h1) (fun _ h => h.elim) f_s33 (fun r34 s35 f_s35 => ?_)
          exact pf_ret f_s35
        · refine pf_bnd (fr_X3_refuse hF) (ww_12) f_s10 (fun r36 s37 f_s37 => ?_)
          exact pf_ret f_s37
    · refine pf_bnd (fr_X3_noPane hF) (fun _ h => h.elim) f_s10 (fun r38 s39 f_s39 => ?_)
      rw [j_X3_stands_41_e]
      refine pf_ite ?_ ?_
      · refine pf_ite ?_ ?_
        · rw [j_X3_stands_55_e]
          refine pf_ite ?_ ?_
          · refine pf_chk (fun v40 => ?_)
            refine pf_bnd (fr_X2_keepRoster hF) (ww_11) f_s39 (fun r41 s42 f_s42 => ?_)
            refine pf_bnd (fr_X0_post hF wt_h1) (fun c h => by unfold wf_4 at h; unfold wf_24; omega) f_s42 (fun r43 s44 f_s44 => ?_)
            refine pf_bnd (fr_X0_hoursOf hF wt_h1) (fun _ h => h.elim) f_s44 (fun r45 s46 f_s46 => ?_)
            exact pf_ret f_s46
          · refine pf_bnd (fr_X3_refuse hF) (ww_12) f_s39 (fun r47 s48 f_s48 => ?_)
            exact pf_ret f_s48
        · rw [j_X3_stands_55_e]
          refine pf_ite ?_ ?_
          · refine pf_chk (fun v49 => ?_)
            refine pf_bnd (fr_X2_keepRoster hF) (ww_11) f_s39 (fun r50 s51 f_s51 => ?_)
            refine pf_bnd (fr_X0_post hF wt_h1) (fun c h => by unfold wf_4 at h; unfold wf_24; omega) f_s51 (fun r52 s53 f_s53 => ?_)
            refine pf_bnd (fr_X0_hoursOf hF wt_h1) (fun _ h => h.elim) f_s53 (fun r54 s55 f_s55 => ?_)
            exact pf_ret f_s55
          · refine pf_bnd (fr_X3_refuse hF) (ww_12) f_s39 (fun r56 s57 f_s57 => ?_)
            exact pf_ret f_s57
      · rw [j_X3_stands_55_e]
        refine pf_ite ?_ ?_
        · refine pf_chk (fun v58 => ?_)
          refine pf_bnd (fr_X2_keepRoster hF) (ww_11) f_s39 (fun r59 s60 f_s60 => ?_)
          refine pf_bnd (fr_X0_post hF wt_h1) (fun c h => by unfold wf_4 at h; unfold wf_24; omega) f_s60 (fun r61 s62 f_s62 => ?_)
          refine pf_bnd (fr_X0_hoursOf hF wt_h1) (fun _ h => h.elim) f_s62 (fun r63 s64 f_s64 => ?_)
          exact pf_ret f_s64
        · refine pf_bnd (fr_X3_refuse hF) (ww_12) f_s39 (fun r65 s66 f_s66 => ?_)
          exact pf_ret f_s66
  · rw [j_X3_stands_41_e]
    refine pf_ite ?_ ?_
    · refine pf_ite ?_ ?_
      · rw [j_X3_stands_55_e]
        refine pf_ite ?_ ?_
        · refine pf_chk (fun v67 => ?_)
          refine pf_bnd (fr_X2_keepRoster hF) (ww_11) f_s10 (fun r68 s69 f_s69 => ?_)
          refine pf_bnd (fr_X0_post hF wt_h1) (fun c h => by unfold wf_4 at h; unfold wf_24; omega) f_s69 (fun r70 s71 f_s71 => ?_)
          refine pf_bnd (fr_X0_hoursOf hF wt_h1) (fun _ h => h.elim) f_s71 (fun r72 s73 f_s73 => ?_)
          exact pf_ret f_s73
        · refine pf_bnd (fr_X3_refuse hF) (ww_12) f_s10 (fun r74 s75 f_s75 => ?_)
          exact pf_ret f_s75
      · rw [j_X3_stands_55_e]
        refine pf_ite ?_ ?_
        · refine pf_chk (fun v76 => ?_)
          refine pf_bnd (fr_X2_keepRoster hF) (ww_11) f_s10 (fun r77 s78 f_s78 => ?_)
          refine pf_bnd (fr_X0_post hF wt_h1) (fun c h => by unfold wf_4 at h; unfold wf_24; omega) f_s78 (fun r79 s80 f_s80 => ?_)
          refine pf_bnd (fr_X0_hoursOf hF wt_h1) (fun _ h => h.elim) f_s80 (fun r81 s82 f_s82 => ?_)
          exact pf_ret f_s82
        · refine pf_bnd (fr_X3_refuse hF) (ww_12) f_s10 (fun r83 s84 f_s84 => ?_)
          exact pf_ret f_s84
    · rw [j_X3_stands_55_e]
      refine pf_ite ?_ ?_
      · refine pf_chk (fun v85 => ?_)
        refine pf_bnd (fr_X2_keepRoster hF) (ww_11) f_s10 (fun r86 s87 f_s87 => ?_)
        refine pf_bnd (fr_X0_post hF wt_h1) (fun c h => by unfold wf_4 at h; unfold wf_24; omega) f_s87 (fun r88 s89 f_s89 => ?_)
        refine pf_bnd (fr_X0_hoursOf hF wt_h1) (fun _ h => h.elim) f_s89 (fun r90 s91 f_s91 => ?_)
        exact pf_ret f_s91
      · refine pf_bnd (fr_X3_refuse hF) (ww_12) f_s10 (fun r92 s93 f_s93 => ?_)
        exact pf_ret f_s93
set_option maxRecDepth 100000 in
theorem fr_X3_roster {F : Nat} (hF : 1000 ≤ F) {x1 : Int32} {x2 : Int32} {σ : Mem} : pf wf_17 (f_X3_roster F x1 x2 σ) σ := by
  have f_σ : fr wf_17 σ σ := fr_rf
  rw [f_X3_roster_e]
  refine pf_bnd (fr_X3_noLooker hF) (fun _ h => h.elim) f_σ (fun r1 s2 f_s2 => ?_)
  refine pf_bnd (fr_X3_noHour hF) (fun _ h => h.elim) f_s2 (fun r3 s4 f_s4 => ?_)
  refine pf_bnd (fr_X3_firstOf hF) (fun _ h => h.elim) f_s4 (fun r5 s6 f_s6 => ?_)
  refine pf_ite ?_ ?_
  · refine pf_chk (fun v7 => ?_)
    refine pf_chk (fun v8 => ?_)
    refine pf_lt (fun z9 _ => ?_)
    refine pf_ite ?_ ?_
    · exact pf_ret f_s6
    · exact pf_ret f_s6
  · refine pf_bnd (fr_X3_refuse hF) (fun _ h => h) f_s6 (fun r10 s11 f_s11 => ?_)
    exact pf_ret f_s11
def wf_25 (c : Nat) : Prop := (2 ≤ c ∧ c ≤ 2) ∨ (71 ≤ c ∧ c ≤ 73) ∨ (86 ≤ c ∧ c ≤ 86) ∨ (3004 ≤ c ∧ c ≤ 3005)
theorem ww_13 : ∀ c, wf_14 c → wf_25 c := fun c h => h.elim (fun a => Or.inr (Or.inl (a))) (fun b0 => Or.inr (Or.inr (Or.inr (b0))))
theorem ww_14 : ∀ c, wf_17 c → wf_25 c := fun c h => Or.inr (Or.inr (Or.inl (h)))
set_option maxRecDepth 100000 in
theorem fr_X3_wall {F : Nat} (hF : 1000 ≤ F) {x1 : Int32} {x2 : Int32} {σ : Mem} : pf wf_25 (f_X3_wall F x1 x2 σ) σ := by
  have f_σ : fr wf_25 σ σ := fr_rf
  rw [f_X3_wall_e]
  refine pf_bnd (fr_X3_noPane hF) (fun _ h => h.elim) f_σ (fun r1 s2 f_s2 => ?_)
  refine pf_bnd (fr_X3_noView hF) (fun _ h => h.elim) f_s2 (fun r3 s4 f_s4 => ?_)
  refine pf_bnd (fr_X3_firstOf hF) (fun _ h => h.elim) f_s4 (fun r5 s6 f_s6 => ?_)
  refine pf_ite ?_ ?_
  · refine pf_chk (fun v7 => ?_)
    refine pf_bnd (fr_X2_keep hF) (ww_13) f_s6 (fun r8 s9 f_s9 => ?_)
    refine pf_bnd (fr_X0_flip hF wt_h1) (fun c h => by unfold wf_5 at h; unfold wf_25; omega) f_s9 (fun r10 s11 f_s11 => ?_)
    refine pf_bnd (fr_X0_shows hF wt_h1) (fun _ h => h.elim) f_s11 (fun r12 s13 f_s13 => ?_)
    refine pf_ite ?_ ?_
    · exact pf_ret f_s13
    · exact pf_ret f_s13
  · refine pf_bnd (fr_X3_refuse hF) (ww_14) f_s6 (fun r14 s15 f_s15 => ?_)
    exact pf_ret f_s15
def wf_26 (c : Nat) : Prop := (17 ≤ c ∧ c ≤ 17) ∨ (71 ≤ c ∧ c ≤ 73) ∨ (86 ≤ c ∧ c ≤ 86) ∨ (3004 ≤ c ∧ c ≤ 3005)
theorem ww_15 : ∀ c, wf_14 c → wf_26 c := fun c h => h.elim (fun a => Or.inr (Or.inl (a))) (fun b0 => Or.inr (Or.inr (Or.inr (b0))))
theorem ww_16 : ∀ c, wf_17 c → wf_26 c := fun c h => Or.inr (Or.inr (Or.inl (h)))
set_option maxRecDepth 100000 in
theorem fr_X3_worth {F : Nat} (hF : 1000 ≤ F) {x1 : Int32} {x2 : Int32} {σ : Mem} : pf wf_26 (f_X3_worth F x1 x2 σ) σ := by
  have f_σ : fr wf_26 σ σ := fr_rf
  rw [f_X3_worth_e]
  refine pf_bnd (fr_X3_noView hF) (fun _ h => h.elim) f_σ (fun r1 s2 f_s2 => ?_)
  refine pf_bnd (fr_X3_outside hF) (fun _ h => h.elim) f_s2 (fun r3 s4 f_s4 => ?_)
  refine pf_bnd (fr_X3_firstOf hF) (fun _ h => h.elim) f_s4 (fun r5 s6 f_s6 => ?_)
  refine pf_ite ?_ ?_
  · refine pf_chk (fun v7 => ?_)
    refine pf_lt (fun z8 _ => ?_)
    refine pf_bnd (fr_X2_keep hF) (ww_15) f_s6 (fun r9 s10 f_s10 => ?_)
    refine pf_bnd (fr_X0_price hF wt_h1) (fun c h => by unfold wf_6 at h; unfold wf_26; omega) f_s10 (fun r11 s12 f_s12 => ?_)
    exact pf_ret f_s12
  · refine pf_bnd (fr_X3_refuse hF) (ww_16) f_s6 (fun r13 s14 f_s14 => ?_)
    exact pf_ret f_s14
def wf_27 (c : Nat) : Prop := (1 ≤ c ∧ c ≤ 1) ∨ (71 ≤ c ∧ c ≤ 73) ∨ (86 ≤ c ∧ c ≤ 86) ∨ (3004 ≤ c ∧ c ≤ 3005)
theorem ww_17 : ∀ c, wf_14 c → wf_27 c := fun c h => h.elim (fun a => Or.inr (Or.inl (a))) (fun b0 => Or.inr (Or.inr (Or.inr (b0))))
theorem ww_18 : ∀ c, wf_17 c → wf_27 c := fun c h => Or.inr (Or.inr (Or.inl (h)))
set_option maxRecDepth 100000 in
theorem fr_X3_law {F : Nat} (hF : 1000 ≤ F) {x1 : Int32} {σ : Mem} : pf wf_27 (f_X3_law F x1 σ) σ := by
  have f_σ : fr wf_27 σ σ := fr_rf
  rw [f_X3_law_e]
  refine pf_bnd (fr_X3_notBelow hF) (fun _ h => h.elim) f_σ (fun r1 s2 f_s2 => ?_)
  refine pf_ite ?_ ?_
  · refine pf_bnd (fr_X2_keep hF) (ww_17) f_s2 (fun r3 s4 f_s4 => ?_)
    refine pf_bnd (fr_X0_rule hF wt_h1) (fun c h => by unfold wf_7 at h; unfold wf_27; omega) f_s4 (fun r5 s6 f_s6 => ?_)
    exact pf_ret f_s6
  · refine pf_bnd (fr_X3_refuse hF) (ww_18) f_s2 (fun r7 s8 f_s8 => ?_)
    exact pf_ret f_s8
set_option maxRecDepth 100000 in
theorem fr_J6_bitCount_0f7a4 {F : Nat} (hF : 1000 ≤ F) {x0 : Int32} {σ : Mem} : pf wf_1 (f_J6_bitCount_0f7a4 F x0 σ) σ := by
  have f_σ : fr wf_1 σ σ := fr_rf
  rw [f_J6_bitCount_0f7a4_e]
  refine pf_lt (fun z1 _ => ?_)
  refine pf_lt (fun z2 _ => ?_)
  refine pf_lt (fun z3 _ => ?_)
  refine pf_lt (fun z4 _ => ?_)
  refine pf_lt (fun z5 _ => ?_)
  exact pf_ret f_σ
def wf_28 (c : Nat) : Prop := (1 ≤ c ∧ c ≤ 1) ∨ (12 ≤ c ∧ c ≤ 16) ∨ (19 ≤ c ∧ c ≤ 23) ∨ (86 ≤ c ∧ c ≤ 86) ∨ (3005 ≤ c ∧ c ≤ 3005)
theorem ww_19 : ∀ c, wf_12 c → wf_28 c := fun c h => Or.inr (Or.inr (Or.inr (Or.inr (h))))
theorem ww_20 : ∀ c, wf_17 c → wf_28 c := fun c h => Or.inr (Or.inr (Or.inr (Or.inl (h))))
set_option maxRecDepth 100000 in
theorem fr_X3_days {F : Nat} (hF : 1000 ≤ F) {x1 : Int32} {σ : Mem} : pf wf_28 (f_X3_days F x1 σ) σ := by
  have f_σ : fr wf_28 σ σ := fr_rf
  rw [f_X3_days_e]
  refine pf_bnd (fr_X3_outside hF) (fun _ h => h.elim) f_σ (fun r1 s2 f_s2 => ?_)
  refine pf_ite ?_ ?_
  · refine pf_ite ?_ ?_
    · rw [j_X3_days_30_e]
      refine pf_ite ?_ ?_
      · refine pf_bnd (fr_X0_pass hF wt_h1) (fun c h => by unfold wf_9 at h; unfold wf_28; omega) f_s2 (fun r3 s4 f_s4 => ?_)
        refine pf_bnd (fr_X2_forget hF) (ww_19) f_s4 (fun r5 s6 f_s6 => ?_)
        refine pf_bnd (fr_X0_held hF wt_h1) (fun _ h => h.elim) f_s6 (fun r7 s8 f_s8 => ?_)
        refine pf_bnd (fr_J6_bitCount_0f7a4 hF) (fun _ h => h.elim) f_s8 (fun r9 s10 f_s10 => ?_)
        exact pf_ret f_s10
      · refine pf_bnd (fr_X3_refuse hF) (ww_20) f_s2 (fun r11 s12 f_s12 => ?_)
        exact pf_ret f_s12
    · rw [j_X3_days_30_e]
      refine pf_ite ?_ ?_
      · refine pf_bnd (fr_X0_pass hF wt_h1) (fun c h => by unfold wf_9 at h; unfold wf_28; omega) f_s2 (fun r13 s14 f_s14 => ?_)
        refine pf_bnd (fr_X2_forget hF) (ww_19) f_s14 (fun r15 s16 f_s16 => ?_)
        refine pf_bnd (fr_X0_held hF wt_h1) (fun _ h => h.elim) f_s16 (fun r17 s18 f_s18 => ?_)
        refine pf_bnd (fr_J6_bitCount_0f7a4 hF) (fun _ h => h.elim) f_s18 (fun r19 s20 f_s20 => ?_)
        exact pf_ret f_s20
      · refine pf_bnd (fr_X3_refuse hF) (ww_20) f_s2 (fun r21 s22 f_s22 => ?_)
        exact pf_ret f_s22
  · rw [j_X3_days_30_e]
    refine pf_ite ?_ ?_
    · refine pf_bnd (fr_X0_pass hF wt_h1) (fun c h => by unfold wf_9 at h; unfold wf_28; omega) f_s2 (fun r23 s24 f_s24 => ?_)
      refine pf_bnd (fr_X2_forget hF) (ww_19) f_s24 (fun r25 s26 f_s26 => ?_)
      refine pf_bnd (fr_X0_held hF wt_h1) (fun _ h => h.elim) f_s26 (fun r27 s28 f_s28 => ?_)
      refine pf_bnd (fr_J6_bitCount_0f7a4 hF) (fun _ h => h.elim) f_s28 (fun r29 s30 f_s30 => ?_)
      exact pf_ret f_s30
    · refine pf_bnd (fr_X3_refuse hF) (ww_20) f_s2 (fun r31 s32 f_s32 => ?_)
      exact pf_ret f_s32
def wf_29 (c : Nat) : Prop := (1 ≤ c ∧ c ≤ 2) ∨ (6 ≤ c ∧ c ≤ 10) ∨ (17 ≤ c ∧ c ≤ 17) ∨ (86 ≤ c ∧ c ≤ 86) ∨ (3005 ≤ c ∧ c ≤ 3005)
theorem ww_21 : ∀ c, wf_17 c → wf_29 c := fun c h => Or.inr (Or.inr (Or.inr (Or.inl (h))))
set_option maxRecDepth 100000 in
theorem fr_X3_back {F : Nat} (hF : 1000 ≤ F) {σ : Mem} : pf wf_29 (f_X3_back F σ) σ := by
  have f_σ : fr wf_29 σ σ := fr_rf
  rw [f_X3_back_e]
  refine pf_ite ?_ ?_
  · refine pf_bnd (fr_X3_refuse hF) (ww_21) f_σ (fun r1 s2 f_s2 => ?_)
    exact pf_ret f_s2
  · refine pf_bnd (fr_X2_undoLatest hF wt_h1) (fun c h => by unfold wf_16 at h; unfold wf_29; omega) f_σ (fun r3 s4 f_s4 => ?_)
    exact pf_ret f_s4
set_option maxRecDepth 100000 in
theorem fr_X3_counts {F : Nat} (hF : 1000 ≤ F) {x1 : Int32} {x2 : Int32} {x3 : Int32} {σ : Mem} : pf wf_21 (f_X3_counts F x1 x2 x3 σ) σ := by
  have f_σ : fr wf_21 σ σ := fr_rf
  rw [f_X3_counts_e]
  refine pf_bnd (fr_X3_noLooker hF) (fun _ h => h.elim) f_σ (fun r1 s2 f_s2 => ?_)
  refine pf_bnd (fr_X3_noView hF) (fun _ h => h.elim) f_s2 (fun r3 s4 f_s4 => ?_)
  refine pf_bnd (fr_X3_firstOf hF) (fun _ h => h.elim) f_s4 (fun r5 s6 f_s6 => ?_)
  refine pf_bnd (fr_X3_notBelow hF) (fun _ h => h.elim) f_s6 (fun r7 s8 f_s8 => ?_)
  refine pf_bnd (fr_X3_firstOf hF) (fun _ h => h.elim) f_s8 (fun r9 s10 f_s10 => ?_)
  refine pf_ite ?_ ?_
  · refine pf_bnd (fr_X0_reckon hF wt_h1) (fun c h => by unfold wf_8 at h; unfold wf_21; omega) f_s10 (fun r11 s12 f_s12 => ?_)
    refine pf_ite ?_ ?_
    · refine pf_chk (fun v13 => ?_)
      refine pf_chk (fun v14 => ?_)
      exact pf_ret f_s12
    · refine pf_chk (fun v15 => ?_)
      refine pf_chk (fun v16 => ?_)
      exact pf_ret f_s12
  · refine pf_bnd (fr_X3_refuse hF) (ww_6) f_s10 (fun r17 s18 f_s18 => ?_)
    exact pf_ret f_s18
set_option maxRecDepth 100000 in
theorem fr_X3_owner {F : Nat} (hF : 1000 ≤ F) {x1 : Int32} {x2 : Int32} {σ : Mem} : pf wf_21 (f_X3_owner F x1 x2 σ) σ := by
  have f_σ : fr wf_21 σ σ := fr_rf
  rw [f_X3_owner_e]
  refine pf_bnd (fr_X3_noView hF) (fun _ h => h.elim) f_σ (fun r1 s2 f_s2 => ?_)
  refine pf_bnd (fr_X3_outside hF) (fun _ h => h.elim) f_s2 (fun r3 s4 f_s4 => ?_)
  refine pf_bnd (fr_X3_firstOf hF) (fun _ h => h.elim) f_s4 (fun r5 s6 f_s6 => ?_)
  refine pf_ite ?_ ?_
  · refine pf_bnd (fr_X0_reckon hF wt_h1) (fun c h => by unfold wf_8 at h; unfold wf_21; omega) f_s6 (fun r7 s8 f_s8 => ?_)
    refine pf_bnd (fr_X0_holder hF wt_h1) (fun _ h => h.elim) f_s8 (fun r9 s10 f_s10 => ?_)
    exact pf_ret f_s10
  · refine pf_bnd (fr_X3_refuse hF) (ww_6) f_s6 (fun r11 s12 f_s12 => ?_)
    exact pf_ret f_s12
set_option maxRecDepth 100000 in
theorem fr_X3_owns {F : Nat} (hF : 1000 ≤ F) {x1 : Int32} {x2 : Int32} {x3 : Int32} {σ : Mem} : pf wf_21 (f_X3_owns F x1 x2 x3 σ) σ := by
  have f_σ : fr wf_21 σ σ := fr_rf
  rw [f_X3_owns_e]
  refine pf_bnd (fr_X3_noLookerFar hF) (fun _ h => h.elim) f_σ (fun r1 s2 f_s2 => ?_)
  refine pf_bnd (fr_X3_notBelow hF) (fun _ h => h.elim) f_s2 (fun r3 s4 f_s4 => ?_)
  refine pf_bnd (fr_X3_firstOf hF) (fun _ h => h.elim) f_s4 (fun r5 s6 f_s6 => ?_)
  refine pf_ite ?_ ?_
  · refine pf_bnd (fr_X0_reckon hF wt_h1) (fun c h => by unfold wf_8 at h; unfold wf_21; omega) f_s6 (fun r7 s8 f_s8 => ?_)
    refine pf_ite ?_ ?_
    · refine pf_bnd (fr_X0_holdings hF wt_h1) (fun _ h => h.elim) f_s8 (fun r9 s10 f_s10 => ?_)
      exact pf_ret f_s10
    · refine pf_bnd (fr_X0_wealth hF wt_h1) (fun _ h => h.elim) f_s8 (fun r11 s12 f_s12 => ?_)
      exact pf_ret f_s12
  · refine pf_bnd (fr_X3_refuse hF) (ww_6) f_s6 (fun r13 s14 f_s14 => ?_)
    exact pf_ret f_s14
set_option maxRecDepth 100000 in
theorem fr_X3_nobodys {F : Nat} (hF : 1000 ≤ F) {x1 : Int32} {σ : Mem} : pf wf_21 (f_X3_nobodys F x1 σ) σ := by
  have f_σ : fr wf_21 σ σ := fr_rf
  rw [f_X3_nobodys_e]
  refine pf_bnd (fr_X3_outside hF) (fun _ h => h.elim) f_σ (fun r1 s2 f_s2 => ?_)
  refine pf_ite ?_ ?_
  · refine pf_bnd (fr_X0_reckon hF wt_h1) (fun c h => by unfold wf_8 at h; unfold wf_21; omega) f_s2 (fun r3 s4 f_s4 => ?_)
    refine pf_bnd (fr_X0_held hF wt_h1) (fun _ h => h.elim) f_s4 (fun r5 s6 f_s6 => ?_)
    exact pf_ret f_s6
  · refine pf_bnd (fr_X3_refuse hF) (ww_6) f_s2 (fun r7 s8 f_s8 => ?_)
    exact pf_ret f_s8
set_option maxRecDepth 100000 in
theorem fl_X3_from_33 {F : Nat} (hF : 1000 ≤ F) {x1 : Int32} {x2 : Int32} {τ : Mem} : ∀ (N : Nat) (x4 : Int32) (σ : Mem), fr wf_21 τ σ → pf wf_21 (lp_X3_from_33 F x1 x2 N x4 σ) τ := by
  intro N
  induction N with
  | zero => intro _ _ _; exact pf_none rfl
  | succ N ih =>
    intro x4 σ f_σ
    rw [lp_X3_from_33_s]
    refine pf_ite ?_ ?_
    · exact pf_ret f_σ
    · refine pf_bnd (fr_X0_holder hF wt_h1) (fun _ h => h.elim) f_σ (fun r1 s2 f_s2 => ?_)
      refine pf_ite ?_ ?_
      · exact pf_ret f_s2
      · exact ih _ _ f_s2
set_option maxRecDepth 100000 in
theorem fr_X3_from {F : Nat} (hF : 1000 ≤ F) {x1 : Int32} {x2 : Int32} {σ : Mem} : pf wf_21 (f_X3_from F x1 x2 σ) σ := by
  have f_σ : fr wf_21 σ σ := fr_rf
  rw [f_X3_from_e]
  refine pf_bnd (fr_X3_noLooker hF) (fun _ h => h.elim) f_σ (fun r1 s2 f_s2 => ?_)
  refine pf_bnd (fr_X3_noView hF) (fun _ h => h.elim) f_s2 (fun r3 s4 f_s4 => ?_)
  refine pf_bnd (fr_X3_firstOf hF) (fun _ h => h.elim) f_s4 (fun r5 s6 f_s6 => ?_)
  refine pf_ite ?_ ?_
  · refine pf_bnd (fr_X0_reckon hF wt_h1) (fun c h => by unfold wf_8 at h; unfold wf_21; omega) f_s6 (fun r7 s8 f_s8 => ?_)
    exact fl_X3_from_33 hF _ _ _ f_s8
  · refine pf_bnd (fr_X3_refuse hF) (ww_6) f_s6 (fun r9 s10 f_s10 => ?_)
    exact pf_ret f_s10
set_option maxRecDepth 100000 in
theorem fl_X3_lost_45 {F : Nat} (hF : 1000 ≤ F) {x1 : Int32} {x2 : Int32} {τ : Mem} : ∀ (N : Nat) (x3 : Int32) (σ : Mem), fr wf_21 τ σ → pf wf_21 (lp_X3_lost_45 F x1 x2 N x3 σ) τ := by
  intro N
  induction N with
  | zero => intro _ _ _; exact pf_none rfl
  | succ N ih =>
    intro x3 σ f_σ
    rw [lp_X3_lost_45_s]
    refine pf_ite ?_ ?_
    · exact pf_ret f_σ
    · refine pf_bnd (fr_X0_holder hF wt_h1) (fun _ h => h.elim) f_σ (fun r1 s2 f_s2 => ?_)
      refine pf_ite ?_ ?_
      · exact ih _ _ f_s2
      · exact pf_ret f_s2
set_option maxRecDepth 100000 in
theorem fr_X3_lost {F : Nat} (hF : 1000 ≤ F) {x1 : Int32} {σ : Mem} : pf wf_21 (f_X3_lost F x1 σ) σ := by
  have f_σ : fr wf_21 σ σ := fr_rf
  rw [f_X3_lost_e]
  refine pf_bnd (fr_X0_isView hF) (fun _ h => h.elim) f_σ (fun r1 s2 f_s2 => ?_)
  refine pf_ite ?_ ?_
  · refine pf_bnd (fr_X3_refuse hF) (ww_6) f_s2 (fun r3 s4 f_s4 => ?_)
    exact pf_ret f_s4
  · refine pf_bnd (fr_X0_reckon hF wt_h1) (fun c h => by unfold wf_8 at h; unfold wf_21; omega) f_s2 (fun r5 s6 f_s6 => ?_)
    refine pf_bnd (fr_X0_holder hF wt_h1) (fun _ h => h.elim) f_s6 (fun r7 s8 f_s8 => ?_)
    refine pf_ite ?_ ?_
    · refine pf_bnd (fr_X3_refuse hF) (ww_6) f_s8 (fun r9 s10 f_s10 => ?_)
      exact pf_ret f_s10
    · exact fl_X3_lost_45 hF _ _ _ f_s8
set_option maxRecDepth 100000 in
theorem fr_X3_richest {F : Nat} (hF : 1000 ≤ F) {x1 : Int32} {x2 : Int32} {σ : Mem} : pf wf_21 (f_X3_richest F x1 x2 σ) σ := by
  have f_σ : fr wf_21 σ σ := fr_rf
  rw [f_X3_richest_e]
  refine pf_bnd (fr_X3_outside hF) (fun _ h => h.elim) f_σ (fun r1 s2 f_s2 => ?_)
  refine pf_bnd (fr_X3_notBelow hF) (fun _ h => h.elim) f_s2 (fun r3 s4 f_s4 => ?_)
  refine pf_bnd (fr_X3_firstOf hF) (fun _ h => h.elim) f_s4 (fun r5 s6 f_s6 => ?_)
  refine pf_ite ?_ ?_
  · refine pf_bnd (fr_X0_reckon hF wt_h1) (fun c h => by unfold wf_8 at h; unfold wf_21; omega) f_s6 (fun r7 s8 f_s8 => ?_)
    refine pf_bnd (fr_X0_wealthiest hF wt_h1) (fun _ h => h.elim) f_s8 (fun r9 s10 f_s10 => ?_)
    refine pf_ite ?_ ?_
    · rw [j_X3_richest_55_e]
      exact pf_ret f_s10
    · refine pf_ite ?_ ?_
      · rw [j_X3_richest_55_e]
        exact pf_ret f_s10
      · refine pf_bnd (fr_X0_wealth hF wt_h1) (fun _ h => h.elim) f_s10 (fun r11 s12 f_s12 => ?_)
        exact pf_ret f_s12
  · refine pf_bnd (fr_X3_refuse hF) (ww_6) f_s6 (fun r13 s14 f_s14 => ?_)
    exact pf_ret f_s14
set_option maxRecDepth 100000 in
theorem fr_X3_staredOut {F : Nat} (hF : 1000 ≤ F) {x1 : Int32} {x2 : Int32} {x3 : Int32} {σ : Mem} : pf wf_21 (f_X3_staredOut F x1 x2 x3 σ) σ := by
  have f_σ : fr wf_21 σ σ := fr_rf
  rw [f_X3_staredOut_e]
  refine pf_bnd (fr_X3_noPairFar hF) (fun _ h => h.elim) f_σ (fun r1 s2 f_s2 => ?_)
  refine pf_ite ?_ ?_
  · refine pf_bnd (fr_X0_reckon hF wt_h1) (fun c h => by unfold wf_8 at h; unfold wf_21; omega) f_s2 (fun r3 s4 f_s4 => ?_)
    refine pf_bnd (fr_X0_holdings hF wt_h1) (fun _ h => h.elim) f_s4 (fun r5 s6 f_s6 => ?_)
    refine pf_bnd (fr_X0_holdings hF wt_h1) (fun _ h => h.elim) f_s6 (fun r7 s8 f_s8 => ?_)
    exact pf_ret f_s8
  · refine pf_bnd (fr_X3_refuse hF) (ww_6) f_s2 (fun r9 s10 f_s10 => ?_)
    exact pf_ret f_s10
def wf_30 (c : Nat) : Prop := (24 ≤ c ∧ c ≤ 27) ∨ (29 ≤ c ∧ c ≤ 33) ∨ (35 ≤ c ∧ c ≤ 40) ∨ (42 ≤ c ∧ c ≤ 46)
set_option maxRecDepth 100000 in
theorem fl_X3_hoursUntilOwned_33 {F : Nat} (hF : 1000 ≤ F) {x1 : Int32} {x2 : Int32} {x3 : Int32} {x5 : Int32} {k25 : Int32 → Int32 → Mem → Option (Int32 × Mem)} {τ : Mem} (hk25 : ∀ (x4 : Int32) (x5 : Int32) (σ : Mem), fr wf_30 τ σ → pf wf_30 (k25 x4 x5 σ) τ) : ∀ (N : Nat) (x4 : Int32) (x6 : Int32) (σ : Mem), fr wf_30 τ σ → pf wf_30 (lp_X3_hoursUntilOwned_33 F k25 x1 x2 x3 x5 N x4 x6 σ) τ := by
  intro N
  induction N with
  | zero => intro _ _ _ _; exact pf_none rfl
  | succ N ih =>
    intro x4 x6 σ f_σ
    rw [lp_X3_hoursUntilOwned_33_s]
    refine pf_ite ?_ ?_
    · exact hk25 _ _ _ f_σ
    · refine pf_chk (fun v1 => ?_)
      refine pf_chk (fun v2 => ?_)
      refine pf_ite ?_ ?_
      · refine pf_bnd (fr_X0_pull hF wt_h1) (fun _ h => h.elim) f_σ (fun r3 s4 f_s4 => ?_)
        refine pf_ite ?_ ?_
        · refine pf_chk (fun v5 => ?_)
          refine pf_up2 f_s4 (wcid_lo (by omega) (by omega)) (Or.inr (Or.inr (Or.inr (⟨by omega, by omega⟩)))) (fun s6 f_s6 => ?_)
          refine pf_bnd (fr_X0_holder hF wt_h24) (fun _ h => h.elim) f_s6 (fun r7 s8 f_s8 => ?_)
          refine pf_ite ?_ ?_
          · exact pf_ret f_s8
          · rw [j_X3_hoursUntilOwned_107_e]
            exact ih _ _ _ f_s8
        · rw [j_X3_hoursUntilOwned_107_e]
          exact ih _ _ _ f_s4
      · rw [j_X3_hoursUntilOwned_107_e]
        exact ih _ _ _ f_σ
set_option maxRecDepth 100000 in
theorem fl_X3_hoursUntilOwned_25 {F : Nat} (hF : 1000 ≤ F) {x1 : Int32} {x2 : Int32} {x3 : Int32} {τ : Mem} : ∀ (N : Nat) (x4 : Int32) (x5 : Int32) (σ : Mem), fr wf_30 τ σ → pf wf_30 (lp_X3_hoursUntilOwned_25 F x1 x2 x3 N x4 x5 σ) τ := by
  intro N
  induction N with
  | zero => intro _ _ _ _; exact pf_none rfl
  | succ N ih =>
    intro x4 x5 σ f_σ
    rw [lp_X3_hoursUntilOwned_25_s]
    refine pf_ite ?_ ?_
    · exact pf_ret f_σ
    · exact fl_X3_hoursUntilOwned_33 hF ih _ _ _ _ f_σ
set_option maxRecDepth 100000 in
theorem fr_X3_hoursUntilOwned {F : Nat} (hF : 1000 ≤ F) {x1 : Int32} {x2 : Int32} {x3 : Int32} {σ : Mem} : pf wf_30 (f_X3_hoursUntilOwned F x1 x2 x3 σ) σ := by
  have f_σ : fr wf_30 σ σ := fr_rf
  rw [f_X3_hoursUntilOwned_e]
  refine pf_bnd (fr_X0_takeFrom hF wt_h24 wt_h1) (fun c h => by unfold wf_0 at h; unfold wf_30; omega) f_σ (fun r1 s2 f_s2 => ?_)
  refine pf_bnd (fr_X0_reckon hF wt_h24) (fun c h => by unfold wf_8 at h; unfold wf_30; omega) f_s2 (fun r3 s4 f_s4 => ?_)
  exact fl_X3_hoursUntilOwned_25 hF _ _ _ _ f_s4
def wf_31 (c : Nat) : Prop := (19 ≤ c ∧ c ≤ 27) ∨ (29 ≤ c ∧ c ≤ 33) ∨ (35 ≤ c ∧ c ≤ 40) ∨ (42 ≤ c ∧ c ≤ 46) ∨ (86 ≤ c ∧ c ≤ 86)
theorem ww_22 : ∀ c, wf_30 c → wf_31 c := fun c h => h.elim (fun a => Or.inl (⟨Nat.le_trans (by omega) (a).1, Nat.le_trans (a).2 (by omega)⟩)) (fun b0 => b0.elim (fun a => Or.inr (Or.inl (a))) (fun b1 => b1.elim (fun a => Or.inr (Or.inr (Or.inl (a)))) (fun b2 => Or.inr (Or.inr (Or.inr (Or.inl (b2)))))))
theorem ww_23 : ∀ c, wf_17 c → wf_31 c := fun c h => Or.inr (Or.inr (Or.inr (Or.inr (h))))
set_option maxRecDepth 100000 in
theorem fr_X3_moreHours {F : Nat} (hF : 1000 ≤ F) {x1 : Int32} {x2 : Int32} {x3 : Int32} {σ : Mem} : pf wf_31 (f_X3_moreHours F x1 x2 x3 σ) σ := by
  have f_σ : fr wf_31 σ σ := fr_rf
  rw [f_X3_moreHours_e]
  refine pf_bnd (fr_X3_noLooker hF) (fun _ h => h.elim) f_σ (fun r1 s2 f_s2 => ?_)
  refine pf_bnd (fr_X3_noView hF) (fun _ h => h.elim) f_s2 (fun r3 s4 f_s4 => ?_)
  refine pf_bnd (fr_X3_firstOf hF) (fun _ h => h.elim) f_s4 (fun r5 s6 f_s6 => ?_)
  refine pf_bnd (fr_X3_outside hF) (fun _ h => h.elim) f_s6 (fun r7 s8 f_s8 => ?_)
  refine pf_bnd (fr_X3_firstOf hF) (fun _ h => h.elim) f_s8 (fun r9 s10 f_s10 => ?_)
  refine pf_ite ?_ ?_
  · refine pf_bnd (fr_X0_reckon hF wt_h1) (fun c h => by unfold wf_8 at h; unfold wf_31; omega) f_s10 (fun r11 s12 f_s12 => ?_)
    refine pf_bnd (fr_X0_holder hF wt_h1) (fun _ h => h.elim) f_s12 (fun r13 s14 f_s14 => ?_)
    refine pf_ite ?_ ?_
    · exact pf_ret f_s14
    · refine pf_bnd (fr_X0_timesShown hF wt_h1) (fun _ h => h.elim) f_s14 (fun r15 s16 f_s16 => ?_)
      refine pf_ite ?_ ?_
      · rw [j_X3_moreHours_83_e]
        exact pf_ret f_s16
      · refine pf_chk (fun v17 => ?_)
        refine pf_ite ?_ ?_
        · rw [j_X3_moreHours_83_e]
          exact pf_ret f_s16
        · refine pf_bnd (fr_X3_hoursUntilOwned hF) (ww_22) f_s16 (fun r18 s19 f_s19 => ?_)
          exact pf_ret f_s19
  · refine pf_bnd (fr_X3_refuse hF) (ww_23) f_s10 (fun r20 s21 f_s21 => ?_)
    exact pf_ret f_s21
def wf_32 (c : Nat) : Prop := (29 ≤ c ∧ c ≤ 33) ∨ (42 ≤ c ∧ c ≤ 46)
set_option maxRecDepth 100000 in
theorem fr_X3_wealthAt {F : Nat} (hF : 1000 ≤ F) {x1 : Int32} {x2 : Int32} {x3 : Int32} {x4 : Int32} {σ : Mem} : pf wf_32 (f_X3_wealthAt F x1 x2 x3 x4 σ) σ := by
  have f_σ : fr wf_32 σ σ := fr_rf
  rw [f_X3_wealthAt_e]
  refine pf_bnd (fr_X0_post hF wt_h24) (fun c h => by unfold wf_4 at h; unfold wf_32; omega) f_σ (fun r1 s2 f_s2 => ?_)
  refine pf_bnd (fr_X0_reckon hF wt_h24) (fun c h => by unfold wf_8 at h; unfold wf_32; omega) f_s2 (fun r3 s4 f_s4 => ?_)
  refine pf_bnd (fr_X0_wealth hF wt_h24) (fun _ h => h.elim) f_s4 (fun r5 s6 f_s6 => ?_)
  exact pf_ret f_s6
def wf_33 (c : Nat) : Prop := (24 ≤ c ∧ c ≤ 27) ∨ (29 ≤ c ∧ c ≤ 33) ∨ (35 ≤ c ∧ c ≤ 40) ∨ (42 ≤ c ∧ c ≤ 46) ∨ (86 ≤ c ∧ c ≤ 86)
theorem ww_24 : ∀ c, wf_32 c → wf_33 c := fun c h => h.elim (fun a => Or.inr (Or.inl (a))) (fun b0 => Or.inr (Or.inr (Or.inr (Or.inl (b0)))))
theorem ww_25 : ∀ c, wf_17 c → wf_33 c := fun c h => Or.inr (Or.inr (Or.inr (Or.inr (h))))
set_option maxRecDepth 100000 in
theorem fl_X3_bestPane_71 {F : Nat} (hF : 1000 ≤ F) {x1 : Int32} {x2 : Int32} {x3 : Int32} {x4 : Int32} {τ : Mem} : ∀ (N : Nat) (x6 : Int32) (x7 : Int32) (x8 : Int32) (σ : Mem), fr wf_33 τ σ → pf wf_33 (lp_X3_bestPane_71 F x1 x2 x3 x4 N x6 x7 x8 σ) τ := by
  intro N
  induction N with
  | zero => intro _ _ _ _ _; exact pf_none rfl
  | succ N ih =>
    intro x6 x7 x8 σ f_σ
    rw [lp_X3_bestPane_71_s]
    refine pf_ite ?_ ?_
    · refine pf_ite ?_ ?_
      · exact pf_ret f_σ
      · exact pf_ret f_σ
    · refine pf_ite ?_ ?_
      · rw [j_X3_bestPane_102_e]
        refine pf_bnd (fr_X3_wealthAt hF) (ww_24) f_σ (fun r1 s2 f_s2 => ?_)
        refine pf_ite ?_ ?_
        · rw [j_X3_bestPane_130_e]
          exact ih _ _ _ _ f_s2
        · rw [j_X3_bestPane_130_e]
          exact ih _ _ _ _ f_s2
      · rw [j_X3_bestPane_102_e]
        refine pf_bnd (fr_X3_wealthAt hF) (ww_24) f_σ (fun r3 s4 f_s4 => ?_)
        refine pf_ite ?_ ?_
        · rw [j_X3_bestPane_130_e]
          exact ih _ _ _ _ f_s4
        · rw [j_X3_bestPane_130_e]
          exact ih _ _ _ _ f_s4
set_option maxRecDepth 100000 in
theorem fr_X3_bestPane {F : Nat} (hF : 1000 ≤ F) {x1 : Int32} {x2 : Int32} {x3 : Int32} {x4 : Int32} {σ : Mem} : pf wf_33 (f_X3_bestPane F x1 x2 x3 x4 σ) σ := by
  have f_σ : fr wf_33 σ σ := fr_rf
  rw [f_X3_bestPane_e]
  refine pf_bnd (fr_X3_noLooker hF) (fun _ h => h.elim) f_σ (fun r1 s2 f_s2 => ?_)
  refine pf_bnd (fr_X3_noHour hF) (fun _ h => h.elim) f_s2 (fun r3 s4 f_s4 => ?_)
  refine pf_bnd (fr_X3_firstOf hF) (fun _ h => h.elim) f_s4 (fun r5 s6 f_s6 => ?_)
  refine pf_bnd (fr_X3_outside hF) (fun _ h => h.elim) f_s6 (fun r7 s8 f_s8 => ?_)
  refine pf_bnd (fr_X3_firstOf hF) (fun _ h => h.elim) f_s8 (fun r9 s10 f_s10 => ?_)
  refine pf_bnd (fr_X3_notBelow hF) (fun _ h => h.elim) f_s10 (fun r11 s12 f_s12 => ?_)
  refine pf_bnd (fr_X3_firstOf hF) (fun _ h => h.elim) f_s12 (fun r13 s14 f_s14 => ?_)
  refine pf_ite ?_ ?_
  · refine pf_bnd (fr_X0_takeFrom hF wt_h24 wt_h1) (fun c h => by unfold wf_0 at h; unfold wf_33; omega) f_s14 (fun r15 s16 f_s16 => ?_)
    exact fl_X3_bestPane_71 hF _ _ _ _ _ f_s16
  · refine pf_bnd (fr_X3_refuse hF) (ww_25) f_s14 (fun r17 s18 f_s18 => ?_)
    exact pf_ret f_s18
set_option maxRecDepth 100000 in
theorem fl_X3_freeHours_52 {F : Nat} (hF : 1000 ≤ F) {x1 : Int32} {x2 : Int32} {x4 : Int32} {τ : Mem} : ∀ (N : Nat) (x5 : Int32) (x6 : Int32) (σ : Mem), fr wf_31 τ σ → pf wf_31 (lp_X3_freeHours_52 F x1 x2 x4 N x5 x6 σ) τ := by
  intro N
  induction N with
  | zero => intro _ _ _ _; exact pf_none rfl
  | succ N ih =>
    intro x5 x6 σ f_σ
    rw [lp_X3_freeHours_52_s]
    refine pf_ite ?_ ?_
    · exact pf_ret f_σ
    · refine pf_chk (fun v1 => ?_)
      refine pf_chk (fun v2 => ?_)
      refine pf_lt (fun z3 _ => ?_)
      refine pf_ite ?_ ?_
      · rw [j_X3_freeHours_140_e]
        exact ih _ _ _ f_σ
      · refine pf_bnd (fr_X0_post hF wt_h24) (fun c h => by unfold wf_4 at h; unfold wf_31; omega) f_σ (fun r4 s5 f_s5 => ?_)
        refine pf_bnd (fr_X0_reckon hF wt_h24) (fun c h => by unfold wf_8 at h; unfold wf_31; omega) f_s5 (fun r6 s7 f_s7 => ?_)
        refine pf_bnd (fr_X0_holdings hF wt_h24) (fun _ h => h.elim) f_s7 (fun r8 s9 f_s9 => ?_)
        refine pf_ite ?_ ?_
        · refine pf_lt (fun z10 _ => ?_)
          rw [j_X3_freeHours_125_e]
          refine pf_bnd (fr_X0_post hF wt_h24) (fun c h => by unfold wf_4 at h; unfold wf_31; omega) f_s9 (fun r11 s12 f_s12 => ?_)
          rw [j_X3_freeHours_140_e]
          exact ih _ _ _ f_s12
        · rw [j_X3_freeHours_125_e]
          refine pf_bnd (fr_X0_post hF wt_h24) (fun c h => by unfold wf_4 at h; unfold wf_31; omega) f_s9 (fun r13 s14 f_s14 => ?_)
          rw [j_X3_freeHours_140_e]
          exact ih _ _ _ f_s14
set_option maxRecDepth 100000 in
theorem fr_X3_freeHours {F : Nat} (hF : 1000 ≤ F) {x1 : Int32} {x2 : Int32} {σ : Mem} : pf wf_31 (f_X3_freeHours F x1 x2 σ) σ := by
  have f_σ : fr wf_31 σ σ := fr_rf
  rw [f_X3_freeHours_e]
  refine pf_bnd (fr_X3_noLookerFar hF) (fun _ h => h.elim) f_σ (fun r1 s2 f_s2 => ?_)
  refine pf_ite ?_ ?_
  · refine pf_bnd (fr_X0_reckon hF wt_h1) (fun c h => by unfold wf_8 at h; unfold wf_31; omega) f_s2 (fun r3 s4 f_s4 => ?_)
    refine pf_bnd (fr_X0_takeFrom hF wt_h24 wt_h1) (fun c h => by unfold wf_0 at h; unfold wf_31; omega) f_s4 (fun r5 s6 f_s6 => ?_)
    refine pf_bnd (fr_X0_holdings hF wt_h1) (fun _ h => h.elim) f_s6 (fun r7 s8 f_s8 => ?_)
    exact fl_X3_freeHours_52 hF _ _ _ _ f_s8
  · refine pf_bnd (fr_X3_refuse hF) (ww_23) f_s2 (fun r9 s10 f_s10 => ?_)
    exact pf_ret f_s10
set_option maxRecDepth 100000 in
theorem fl_X3_cover_22 {F : Nat} (hF : 1000 ≤ F) {x1 : Int32} {τ : Mem} : ∀ (N : Nat) (x2 : Int32) (x3 : Int32) (σ : Mem), fr wf_1 τ σ → pf wf_1 (lp_X3_cover_22 F x1 N x2 x3 σ) τ := by
  intro N
  induction N with
  | zero => intro _ _ _ _; exact pf_none rfl
  | succ N ih =>
    intro x2 x3 σ f_σ
    rw [lp_X3_cover_22_s]
    refine pf_ite ?_ ?_
    · exact pf_ret f_σ
    · refine pf_bnd (fr_J6_bitCount_0f7a4 hF) (fun _ h => h.elim) f_σ (fun r1 s2 f_s2 => ?_)
      refine pf_bnd (fr_J6_bitCount_0f7a4 hF) (fun _ h => h.elim) f_s2 (fun r3 s4 f_s4 => ?_)
      refine pf_ite ?_ ?_
      · rw [j_X3_cover_60_e]
        exact ih _ _ _ f_s4
      · refine pf_bnd (fr_X0_shownBy hF wt_h1) (fun _ h => h.elim) f_s4 (fun r5 s6 f_s6 => ?_)
        refine pf_ite ?_ ?_
        · rw [j_X3_cover_60_e]
          exact ih _ _ _ f_s6
        · rw [j_X3_cover_60_e]
          exact ih _ _ _ f_s6
set_option maxRecDepth 100000 in
theorem fr_X3_cover {F : Nat} (hF : 1000 ≤ F) {σ : Mem} : pf wf_1 (f_X3_cover F σ) σ := by
  have f_σ : fr wf_1 σ σ := fr_rf
  rw [f_X3_cover_e]
  refine pf_bnd (fr_X0_allShown hF wt_h1) (fun _ h => h.elim) f_σ (fun r1 s2 f_s2 => ?_)
  refine pf_lt (fun z3 _ => ?_)
  exact fl_X3_cover_22 hF _ _ _ _ f_s2
set_option maxRecDepth 100000 in
theorem fr_X3_shown {F : Nat} (hF : 1000 ≤ F) {x1 : Int32} {σ : Mem} : pf wf_17 (f_X3_shown F x1 σ) σ := by
  have f_σ : fr wf_17 σ σ := fr_rf
  rw [f_X3_shown_e]
  refine pf_bnd (fr_X0_isView hF) (fun _ h => h.elim) f_σ (fun r1 s2 f_s2 => ?_)
  refine pf_ite ?_ ?_
  · refine pf_bnd (fr_X3_refuse hF) (fun _ h => h) f_s2 (fun r3 s4 f_s4 => ?_)
    exact pf_ret f_s4
  · refine pf_bnd (fr_X0_timesShown hF wt_h1) (fun _ h => h.elim) f_s2 (fun r5 s6 f_s6 => ?_)
    exact pf_ret f_s6
def wf_34 (c : Nat) : Prop := (25 ≤ c ∧ c ≤ 25) ∨ (42 ≤ c ∧ c ≤ 46)
set_option maxRecDepth 100000 in
theorem fr_X3_wealthWalled {F : Nat} (hF : 1000 ≤ F) {x1 : Int32} {x2 : Int32} {x3 : Int32} {x4 : Int32} {σ : Mem} : pf wf_34 (f_X3_wealthWalled F x1 x2 x3 x4 σ) σ := by
  have f_σ : fr wf_34 σ σ := fr_rf
  rw [f_X3_wealthWalled_e]
  refine pf_bnd (fr_X0_flip hF wt_h24) (fun c h => by unfold wf_5 at h; unfold wf_34; omega) f_σ (fun r1 s2 f_s2 => ?_)
  refine pf_bnd (fr_X0_reckon hF wt_h24) (fun c h => by unfold wf_8 at h; unfold wf_34; omega) f_s2 (fun r3 s4 f_s4 => ?_)
  refine pf_bnd (fr_X0_wealth hF wt_h24) (fun _ h => h.elim) f_s4 (fun r5 s6 f_s6 => ?_)
  refine pf_bnd (fr_X0_flip hF wt_h24) (fun c h => by unfold wf_5 at h; unfold wf_34; omega) f_s6 (fun r7 s8 f_s8 => ?_)
  exact pf_ret f_s8
theorem ww_26 : ∀ c, wf_34 c → wf_31 c := fun c h => h.elim (fun a => Or.inl (⟨Nat.le_trans (by omega) (a).1, Nat.le_trans (a).2 (by omega)⟩)) (fun b0 => Or.inr (Or.inr (Or.inr (Or.inl (b0)))))
set_option maxRecDepth 100000 in
theorem fl_X3_walls_82 {F : Nat} (hF : 1000 ≤ F) {x1 : Int32} {x2 : Int32} {x3 : Int32} {x5 : Int32} {x8 : Int32} {k67 : Int32 → Int32 → Int32 → Mem → Option (Int32 × Mem)} {τ : Mem} (hk67 : ∀ (x6 : Int32) (x7 : Int32) (x8 : Int32) (σ : Mem), fr wf_31 τ σ → pf wf_31 (k67 x6 x7 x8 σ) τ) : ∀ (N : Nat) (x6 : Int32) (x7 : Int32) (x9 : Int32) (σ : Mem), fr wf_31 τ σ → pf wf_31 (lp_X3_walls_82 F k67 x1 x2 x3 x5 x8 N x6 x7 x9 σ) τ := by
  intro N
  induction N with
  | zero => intro _ _ _ _ _; exact pf_none rfl
  | succ N ih =>
    intro x6 x7 x9 σ f_σ
    rw [lp_X3_walls_82_s]
    refine pf_ite ?_ ?_
    · exact hk67 _ _ _ _ f_σ
    · refine pf_bnd (fr_X0_shows hF wt_h1) (fun _ h => h.elim) f_σ (fun r1 s2 f_s2 => ?_)
      refine pf_ite ?_ ?_
      · rw [j_X3_walls_120_e]
        refine pf_ite ?_ ?_
        · rw [j_X3_walls_143_e]
          exact ih _ _ _ _ f_s2
        · refine pf_lt (fun z3 _ => ?_)
          rw [j_X3_walls_143_e]
          exact ih _ _ _ _ f_s2
      · refine pf_bnd (fr_X3_wealthWalled hF) (ww_26) f_s2 (fun r4 s5 f_s5 => ?_)
        rw [j_X3_walls_120_e]
        refine pf_ite ?_ ?_
        · rw [j_X3_walls_143_e]
          exact ih _ _ _ _ f_s5
        · refine pf_lt (fun z6 _ => ?_)
          rw [j_X3_walls_143_e]
          exact ih _ _ _ _ f_s5
set_option maxRecDepth 100000 in
theorem fl_X3_walls_67 {F : Nat} (hF : 1000 ≤ F) {x1 : Int32} {x2 : Int32} {x3 : Int32} {x5 : Int32} {τ : Mem} : ∀ (N : Nat) (x6 : Int32) (x7 : Int32) (x8 : Int32) (σ : Mem), fr wf_31 τ σ → pf wf_31 (lp_X3_walls_67 F x1 x2 x3 x5 N x6 x7 x8 σ) τ := by
  intro N
  induction N with
  | zero => intro _ _ _ _ _; exact pf_none rfl
  | succ N ih =>
    intro x6 x7 x8 σ f_σ
    rw [lp_X3_walls_67_s]
    refine pf_ite ?_ ?_
    · refine pf_ite ?_ ?_
      · rw [j_X3_walls_166_e]
        exact pf_ret f_σ
      · refine pf_ite ?_ ?_
        · rw [j_X3_walls_166_e]
          exact pf_ret f_σ
        · exact pf_ret f_σ
    · exact fl_X3_walls_82 hF ih _ _ _ _ _ f_σ
set_option maxRecDepth 100000 in
theorem fr_X3_walls {F : Nat} (hF : 1000 ≤ F) {x1 : Int32} {x2 : Int32} {x3 : Int32} {σ : Mem} : pf wf_31 (f_X3_walls F x1 x2 x3 σ) σ := by
  have f_σ : fr wf_31 σ σ := fr_rf
  rw [f_X3_walls_e]
  refine pf_bnd (fr_X3_noLookerFar hF) (fun _ h => h.elim) f_σ (fun r1 s2 f_s2 => ?_)
  refine pf_bnd (fr_X3_notBelow hF) (fun _ h => h.elim) f_s2 (fun r3 s4 f_s4 => ?_)
  refine pf_bnd (fr_X3_firstOf hF) (fun _ h => h.elim) f_s4 (fun r5 s6 f_s6 => ?_)
  refine pf_ite ?_ ?_
  · refine pf_bnd (fr_X0_reckon hF wt_h1) (fun c h => by unfold wf_8 at h; unfold wf_31; omega) f_s6 (fun r7 s8 f_s8 => ?_)
    refine pf_bnd (fr_X0_takeFrom hF wt_h24 wt_h1) (fun c h => by unfold wf_0 at h; unfold wf_31; omega) f_s8 (fun r9 s10 f_s10 => ?_)
    refine pf_bnd (fr_X0_wealth hF wt_h1) (fun _ h => h.elim) f_s10 (fun r11 s12 f_s12 => ?_)
    exact fl_X3_walls_67 hF _ _ _ _ _ f_s12
  · refine pf_bnd (fr_X3_refuse hF) (ww_23) f_s6 (fun r13 s14 f_s14 => ?_)
    exact pf_ret f_s14
set_option maxRecDepth 100000 in
theorem fl_X3_commonDivisor_9 {F : Nat} (hF : 1000 ≤ F) {τ : Mem} : ∀ (N : Nat) (y4 : Int64) (y6 : Int64) (x8 : Int32) (σ : Mem), fr wf_1 τ σ → pf wf_1 (lp_X3_commonDivisor_9 F N y4 y6 x8 σ) τ := by
  intro N
  induction N with
  | zero => intro _ _ _ _ _; exact pf_none rfl
  | succ N ih =>
    intro y4 y6 x8 σ f_σ
    rw [lp_X3_commonDivisor_9_s]
    refine pf_ite ?_ ?_
    · rw [j_X3_commonDivisor_45_e]
      exact pf_ret f_σ
    · refine pf_ite ?_ ?_
      · rw [j_X3_commonDivisor_45_e]
        exact pf_ret f_σ
      · refine pf_nzl ?_
        exact ih _ _ _ _ f_σ
set_option maxRecDepth 100000 in
theorem fr_X3_commonDivisor {F : Nat} (hF : 1000 ≤ F) {y0 : Int64} {y2 : Int64} {σ : Mem} : pf wf_1 (f_X3_commonDivisor F y0 y2 σ) σ := by
  have f_σ : fr wf_1 σ σ := fr_rf
  rw [f_X3_commonDivisor_e]
  exact fl_X3_commonDivisor_9 hF _ _ _ _ _ f_σ
set_option maxRecDepth 100000 in
theorem fr_X3_fraction {F : Nat} (hF : 1000 ≤ F) {y0 : Int64} {y2 : Int64} {x4 : Int32} {σ : Mem} : pf wf_1 (f_X3_fraction F y0 y2 x4 σ) σ := by
  have f_σ : fr wf_1 σ σ := fr_rf
  rw [f_X3_fraction_e]
  refine pf_ite ?_ ?_
  · rw [j_X3_fraction_12_e]
    refine pf_ite ?_ ?_
    · exact pf_ret f_σ
    · exact pf_ret f_σ
  · refine pf_ite ?_ ?_
    · refine pf_bnd (fr_X3_commonDivisor hF) (fun _ h => h.elim) f_σ (fun r1 s2 f_s2 => ?_)
      refine pf_ite ?_ ?_
      · refine pf_ite ?_ ?_
        · refine pf_nzl ?_
          exact pf_ret f_s2
        · refine pf_nzl ?_
          exact pf_ret f_s2
      · refine pf_ite ?_ ?_
        · exact pf_ret f_s2
        · exact pf_ret f_s2
    · rw [j_X3_fraction_12_e]
      refine pf_ite ?_ ?_
      · exact pf_ret f_σ
      · exact pf_ret f_σ
set_option maxRecDepth 100000 in
theorem fl_X3_share_40 {F : Nat} (hF : 1000 ≤ F) {x1 : Int32} {x2 : Int32} {x3 : Int32} {τ : Mem} : ∀ (N : Nat) (y5 : Int64) (x7 : Int32) (σ : Mem), fr wf_17 τ σ → pf wf_17 (lp_X3_share_40 F x1 x2 x3 N y5 x7 σ) τ := by
  intro N
  induction N with
  | zero => intro _ _ _ _; exact pf_none rfl
  | succ N ih =>
    intro y5 x7 σ f_σ
    rw [lp_X3_share_40_s]
    refine pf_ite ?_ ?_
    · refine pf_chk (fun v1 => ?_)
      refine pf_chk (fun v2 => ?_)
      refine pf_bnd (fr_X3_fraction hF) (fun _ h => h.elim) f_σ (fun r3 s4 f_s4 => ?_)
      exact pf_ret f_s4
    · refine pf_chk (fun v5 => ?_)
      refine pf_chk (fun v6 => ?_)
      refine pf_lt (fun z7 _ => ?_)
      exact ih _ _ _ f_σ
set_option maxRecDepth 100000 in
theorem fr_X3_share {F : Nat} (hF : 1000 ≤ F) {x1 : Int32} {x2 : Int32} {x3 : Int32} {σ : Mem} : pf wf_17 (f_X3_share F x1 x2 x3 σ) σ := by
  have f_σ : fr wf_17 σ σ := fr_rf
  rw [f_X3_share_e]
  refine pf_bnd (fr_X3_noLooker hF) (fun _ h => h.elim) f_σ (fun r1 s2 f_s2 => ?_)
  refine pf_bnd (fr_X3_noView hF) (fun _ h => h.elim) f_s2 (fun r3 s4 f_s4 => ?_)
  refine pf_bnd (fr_X3_firstOf hF) (fun _ h => h.elim) f_s4 (fun r5 s6 f_s6 => ?_)
  refine pf_bnd (fr_X3_notBelow hF) (fun _ h => h.elim) f_s6 (fun r7 s8 f_s8 => ?_)
  refine pf_bnd (fr_X3_firstOf hF) (fun _ h => h.elim) f_s8 (fun r9 s10 f_s10 => ?_)
  refine pf_ite ?_ ?_
  · exact fl_X3_share_40 hF _ _ _ _ f_s10
  · refine pf_bnd (fr_X3_refuseLong hF) (fun _ h => h) f_s10 (fun r11 s12 f_s12 => ?_)
    exact pf_ret f_s12
def wf_35 (c : Nat) : Prop := (24 ≤ c ∧ c ≤ 27) ∨ (29 ≤ c ∧ c ≤ 33) ∨ (35 ≤ c ∧ c ≤ 40) ∨ (42 ≤ c ∧ c ≤ 46) ∨ (88 ≤ c ∧ c ≤ 93) ∨ (95 ≤ c ∧ c ≤ 100)
set_option maxRecDepth 100000 in
theorem fl_X3_fillPays_42 {F : Nat} (hF : 1000 ≤ F) {x1 : Int32} {x2 : Int32} {x3 : Int32} {x4 : Int32} {x5 : Int32} {k14 : Int32 → Mem → Option (Unit × Mem)} {τ : Mem} (hk14 : ∀ (x5 : Int32) (σ : Mem), fr wf_35 τ σ → pf wf_35 (k14 x5 σ) τ) : ∀ (N : Nat) (x6 : Int32) (σ : Mem), fr wf_35 τ σ → pf wf_35 (lp_X3_fillPays_42 F k14 x1 x2 x3 x4 x5 N x6 σ) τ := by
  intro N
  induction N with
  | zero => intro _ _ _; exact pf_none rfl
  | succ N ih =>
    intro x6 σ f_σ
    rw [lp_X3_fillPays_42_s]
    refine pf_ite ?_ ?_
    · exact hk14 _ _ f_σ
    · refine pf_bnd (fr_X0_post hF wt_h24) (fun c h => by unfold wf_4 at h; unfold wf_35; omega) f_σ (fun r1 s2 f_s2 => ?_)
      refine pf_bnd (fr_X0_reckon hF wt_h24) (fun c h => by unfold wf_8 at h; unfold wf_35; omega) f_s2 (fun r3 s4 f_s4 => ?_)
      refine pf_chk (fun v5 => ?_)
      refine pf_bnd (fr_X0_wealth hF wt_h24) (fun _ h => h.elim) f_s4 (fun r6 s7 f_s7 => ?_)
      refine pf_chk (fun v8 => ?_)
      refine pf_up2 f_s7 (wcid_hi (by omega)) (Or.inr (Or.inr (Or.inr (Or.inr (Or.inl (⟨by omega, by omega⟩)))))) (fun s9 f_s9 => ?_)
      refine pf_bnd (fr_X0_wealth hF wt_h24) (fun _ h => h.elim) f_s9 (fun r10 s11 f_s11 => ?_)
      refine pf_up2 f_s11 (wcid_hi (by omega)) (Or.inr (Or.inr (Or.inr (Or.inr (Or.inr (⟨by omega, by omega⟩)))))) (fun s12 f_s12 => ?_)
      exact ih _ _ f_s12
set_option maxRecDepth 100000 in
theorem fl_X3_fillPays_14 {F : Nat} (hF : 1000 ≤ F) {x1 : Int32} {x2 : Int32} {x3 : Int32} {x4 : Int32} {τ : Mem} : ∀ (N : Nat) (x5 : Int32) (σ : Mem), fr wf_35 τ σ → pf wf_35 (lp_X3_fillPays_14 F x1 x2 x3 x4 N x5 σ) τ := by
  intro N
  induction N with
  | zero => intro _ _ _; exact pf_none rfl
  | succ N ih =>
    intro x5 σ f_σ
    rw [lp_X3_fillPays_14_s]
    refine pf_ite ?_ ?_
    · exact pf_ret f_σ
    · refine pf_bnd (fr_X0_post hF wt_h24) (fun c h => by unfold wf_4 at h; unfold wf_35; omega) f_σ (fun r1 s2 f_s2 => ?_)
      exact fl_X3_fillPays_42 hF ih _ _ _ f_s2
set_option maxRecDepth 100000 in
theorem fr_X3_fillPays {F : Nat} (hF : 1000 ≤ F) {x1 : Int32} {x2 : Int32} {x3 : Int32} {x4 : Int32} {σ : Mem} : pf wf_35 (f_X3_fillPays F x1 x2 x3 x4 σ) σ := by
  have f_σ : fr wf_35 σ σ := fr_rf
  rw [f_X3_fillPays_e]
  refine pf_bnd (fr_X0_takeFrom hF wt_h24 wt_h1) (fun c h => by unfold wf_0 at h; unfold wf_35; omega) f_σ (fun r1 s2 f_s2 => ?_)
  exact fl_X3_fillPays_14 hF _ _ _ f_s2
set_option maxRecDepth 100000 in
theorem fl_X3_bothContent_2 {F : Nat} (hF : 1000 ≤ F) {x1 : Int32} {x2 : Int32} {τ : Mem} : ∀ (N : Nat) (x3 : Int32) (σ : Mem), fr wf_1 τ σ → pf wf_1 (lp_X3_bothContent_2 F x1 x2 N x3 σ) τ := by
  intro N
  induction N with
  | zero => intro _ _ _; exact pf_none rfl
  | succ N ih =>
    intro x3 σ f_σ
    rw [lp_X3_bothContent_2_s]
    refine pf_ite ?_ ?_
    · exact pf_ret f_σ
    · refine pf_chk (fun v1 => ?_)
      refine pf_chk (fun v2 => ?_)
      refine pf_chk (fun v3 => ?_)
      refine pf_ite ?_ ?_
      · rw [j_X3_bothContent_51_e]
        exact pf_ret f_σ
      · refine pf_ite ?_ ?_
        · exact ih _ _ f_σ
        · rw [j_X3_bothContent_51_e]
          exact pf_ret f_σ
set_option maxRecDepth 100000 in
theorem fr_X3_bothContent {F : Nat} (hF : 1000 ≤ F) {x1 : Int32} {x2 : Int32} {σ : Mem} : pf wf_1 (f_X3_bothContent F x1 x2 σ) σ := by
  have f_σ : fr wf_1 σ σ := fr_rf
  rw [f_X3_bothContent_e]
  exact fl_X3_bothContent_2 hF _ _ _ f_σ
def wf_36 (c : Nat) : Prop := (24 ≤ c ∧ c ≤ 27) ∨ (29 ≤ c ∧ c ≤ 33) ∨ (35 ≤ c ∧ c ≤ 40) ∨ (42 ≤ c ∧ c ≤ 46) ∨ (86 ≤ c ∧ c ≤ 86) ∨ (88 ≤ c ∧ c ≤ 93) ∨ (95 ≤ c ∧ c ≤ 100)
theorem ww_27 : ∀ c, wf_35 c → wf_36 c := fun c h => h.elim (fun a => Or.inl (a)) (fun b0 => b0.elim (fun a => Or.inr (Or.inl (a))) (fun b1 => b1.elim (fun a => Or.inr (Or.inr (Or.inl (a)))) (fun b2 => b2.elim (fun a => Or.inr (Or.inr (Or.inr (Or.inl (a))))) (fun b3 => b3.elim (fun a => Or.inr (Or.inr (Or.inr (Or.inr (Or.inr (Or.inl (a))))))) (fun b4 => Or.inr (Or.inr (Or.inr (Or.inr (Or.inr (Or.inr (b4)))))))))))
theorem ww_28 : ∀ c, wf_17 c → wf_36 c := fun c h => Or.inr (Or.inr (Or.inr (Or.inr (Or.inl (h)))))
set_option maxRecDepth 100000 in
theorem fl_X3_two_66 {F : Nat} (hF : 1000 ≤ F) {x6 : Int32} {k51 : Int32 → Mem → Option (Int32 × Mem)} {τ : Mem} (hk51 : ∀ (x6 : Int32) (σ : Mem), fr wf_36 τ σ → pf wf_36 (k51 x6 σ) τ) : ∀ (N : Nat) (x7 : Int32) (σ : Mem), fr wf_36 τ σ → pf wf_36 (lp_X3_two_66 F k51 x6 N x7 σ) τ := by
  intro N
  induction N with
  | zero => intro _ _ _; exact pf_none rfl
  | succ N ih =>
    intro x7 σ f_σ
    rw [lp_X3_two_66_s]
    refine pf_ite ?_ ?_
    · exact hk51 _ _ f_σ
    · refine pf_bnd (fr_X3_bothContent hF) (fun _ h => h.elim) f_σ (fun r1 s2 f_s2 => ?_)
      refine pf_ite ?_ ?_
      · exact ih _ _ f_s2
      · exact pf_ret f_s2
set_option maxRecDepth 100000 in
theorem fl_X3_two_51 {F : Nat} (hF : 1000 ≤ F) {τ : Mem} : ∀ (N : Nat) (x6 : Int32) (σ : Mem), fr wf_36 τ σ → pf wf_36 (lp_X3_two_51 F N x6 σ) τ := by
  intro N
  induction N with
  | zero => intro _ _ _; exact pf_none rfl
  | succ N ih =>
    intro x6 σ f_σ
    rw [lp_X3_two_51_s]
    refine pf_ite ?_ ?_
    · exact pf_ret f_σ
    · exact fl_X3_two_66 hF ih _ _ _ f_σ
set_option maxRecDepth 100000 in
theorem fr_X3_two {F : Nat} (hF : 1000 ≤ F) {x1 : Int32} {x2 : Int32} {x3 : Int32} {x4 : Int32} {σ : Mem} : pf wf_36 (f_X3_two F x1 x2 x3 x4 σ) σ := by
  have f_σ : fr wf_36 σ σ := fr_rf
  rw [f_X3_two_e]
  refine pf_bnd (fr_X3_noPair hF) (fun _ h => h.elim) f_σ (fun r1 s2 f_s2 => ?_)
  refine pf_bnd (fr_X3_noHour hF) (fun _ h => h.elim) f_s2 (fun r3 s4 f_s4 => ?_)
  refine pf_bnd (fr_X3_firstOf hF) (fun _ h => h.elim) f_s4 (fun r5 s6 f_s6 => ?_)
  refine pf_bnd (fr_X3_outside hF) (fun _ h => h.elim) f_s6 (fun r7 s8 f_s8 => ?_)
  refine pf_bnd (fr_X3_firstOf hF) (fun _ h => h.elim) f_s8 (fun r9 s10 f_s10 => ?_)
  refine pf_ite ?_ ?_
  · refine pf_bnd (fr_X3_fillPays hF) (ww_27) f_s10 (fun r11 s12 f_s12 => ?_)
    exact fl_X3_two_51 hF _ _ _ f_s12
  · refine pf_bnd (fr_X3_refuse hF) (ww_28) f_s10 (fun r13 s14 f_s14 => ?_)
    exact pf_ret f_s14
set_option maxRecDepth 100000 in
theorem fr_X3_inRow {F : Nat} (hF : 1000 ≤ F) {x0 : Int32} {σ : Mem} : pf wf_1 (f_X3_inRow F x0 σ) σ := by
  have f_σ : fr wf_1 σ σ := fr_rf
  rw [f_X3_inRow_e]
  refine pf_ite ?_ ?_
  · exact pf_ret f_σ
  · exact pf_ret f_σ
set_option maxRecDepth 100000 in
theorem fl_X3_rowTells_2 {F : Nat} (hF : 1000 ≤ F) {x1 : Int32} {τ : Mem} : ∀ (N : Nat) (x2 : Int32) (σ : Mem), fr wf_1 τ σ → pf wf_1 (lp_X3_rowTells_2 F x1 N x2 σ) τ := by
  intro N
  induction N with
  | zero => intro _ _ _; exact pf_none rfl
  | succ N ih =>
    intro x2 σ f_σ
    rw [lp_X3_rowTells_2_s]
    refine pf_ite ?_ ?_
    · rw [j_X3_rowTells_45_e]
      exact pf_ret f_σ
    · refine pf_ite ?_ ?_
      · rw [j_X3_rowTells_45_e]
        exact pf_ret f_σ
      · refine pf_chk (fun v1 => ?_)
        refine pf_bnd (fr_X0_holder hF wt_h24) (fun _ h => h.elim) f_σ (fun r2 s3 f_s3 => ?_)
        refine pf_bnd (fr_X3_inRow hF) (fun _ h => h.elim) f_s3 (fun r4 s5 f_s5 => ?_)
        refine pf_ite ?_ ?_
        · exact ih _ _ f_s5
        · exact pf_ret f_s5
set_option maxRecDepth 100000 in
theorem fr_X3_rowTells {F : Nat} (hF : 1000 ≤ F) {x1 : Int32} {σ : Mem} : pf wf_1 (f_X3_rowTells F x1 σ) σ := by
  have f_σ : fr wf_1 σ σ := fr_rf
  rw [f_X3_rowTells_e]
  exact fl_X3_rowTells_2 hF _ _ _ f_σ
set_option maxRecDepth 100000 in
theorem fl_X3_whichLaw_30 {F : Nat} (hF : 1000 ≤ F) {τ : Mem} : ∀ (N : Nat) (x2 : Int32) (x3 : Int32) (σ : Mem), fr wf_33 τ σ → pf wf_33 (lp_X3_whichLaw_30 F N x2 x3 σ) τ := by
  intro N
  induction N with
  | zero => intro _ _ _ _; exact pf_none rfl
  | succ N ih =>
    intro x2 x3 σ f_σ
    rw [lp_X3_whichLaw_30_s]
    refine pf_ite ?_ ?_
    · exact pf_ret f_σ
    · refine pf_bnd (fr_X0_rule hF wt_h24) (fun c h => by unfold wf_7 at h; unfold wf_33; omega) f_σ (fun r1 s2 f_s2 => ?_)
      refine pf_bnd (fr_X0_reckon hF wt_h24) (fun c h => by unfold wf_8 at h; unfold wf_33; omega) f_s2 (fun r3 s4 f_s4 => ?_)
      refine pf_bnd (fr_X3_rowTells hF) (fun _ h => h.elim) f_s4 (fun r5 s6 f_s6 => ?_)
      refine pf_ite ?_ ?_
      · rw [j_X3_whichLaw_65_e]
        exact ih _ _ _ f_s6
      · refine pf_lt (fun z7 _ => ?_)
        rw [j_X3_whichLaw_65_e]
        exact ih _ _ _ f_s6
set_option maxRecDepth 100000 in
theorem fr_X3_whichLaw {F : Nat} (hF : 1000 ≤ F) {σ : Mem} : pf wf_33 (f_X3_whichLaw F σ) σ := by
  have f_σ : fr wf_33 σ σ := fr_rf
  rw [f_X3_whichLaw_e]
  refine pf_bnd (fr_X3_longRow hF) (fun _ h => h.elim) f_σ (fun r1 s2 f_s2 => ?_)
  refine pf_ite ?_ ?_
  · refine pf_bnd (fr_X0_takeFrom hF wt_h24 wt_h1) (fun c h => by unfold wf_0 at h; unfold wf_33; omega) f_s2 (fun r3 s4 f_s4 => ?_)
    exact fl_X3_whichLaw_30 hF _ _ _ _ f_s4
  · refine pf_bnd (fr_X3_refuse hF) (ww_25) f_s2 (fun r5 s6 f_s6 => ?_)
    exact pf_ret f_s6
set_option maxRecDepth 100000 in
theorem fl_X3_whichKind_64 {F : Nat} (hF : 1000 ≤ F) {x1 : Int32} {x2 : Int32} {x3 : Int32} {x6 : Int32} {τ : Mem} : ∀ (N : Nat) (x5 : Int32) (x7 : Int32) (σ : Mem), fr wf_33 τ σ → pf wf_33 (lp_X3_whichKind_64 F x1 x2 x3 x6 N x5 x7 σ) τ := by
  intro N
  induction N with
  | zero => intro _ _ _ _; exact pf_none rfl
  | succ N ih =>
    intro x5 x7 σ f_σ
    rw [lp_X3_whichKind_64_s]
    refine pf_ite ?_ ?_
    · exact pf_ret f_σ
    · refine pf_ite ?_ ?_
      · refine pf_chk (fun v1 => ?_)
        refine pf_up2 f_σ (wcid_lo (by omega) (by omega)) (Or.inl (⟨by omega, by omega⟩)) (fun s2 f_s2 => ?_)
        rw [j_X3_whichKind_100_e]
        refine pf_bnd (fr_X0_reckon hF wt_h24) (fun c h => by unfold wf_8 at h; unfold wf_33; omega) f_s2 (fun r3 s4 f_s4 => ?_)
        refine pf_bnd (fr_X3_rowTells hF) (fun _ h => h.elim) f_s4 (fun r5 s6 f_s6 => ?_)
        refine pf_ite ?_ ?_
        · rw [j_X3_whichKind_124_e]
          exact ih _ _ _ f_s6
        · refine pf_lt (fun z7 _ => ?_)
          rw [j_X3_whichKind_124_e]
          exact ih _ _ _ f_s6
      · refine pf_chk (fun v8 => ?_)
        refine pf_up2 f_σ (wcid_lo (by omega) (by omega)) (Or.inl (⟨by omega, by omega⟩)) (fun s9 f_s9 => ?_)
        rw [j_X3_whichKind_100_e]
        refine pf_bnd (fr_X0_reckon hF wt_h24) (fun c h => by unfold wf_8 at h; unfold wf_33; omega) f_s9 (fun r10 s11 f_s11 => ?_)
        refine pf_bnd (fr_X3_rowTells hF) (fun _ h => h.elim) f_s11 (fun r12 s13 f_s13 => ?_)
        refine pf_ite ?_ ?_
        · rw [j_X3_whichKind_124_e]
          exact ih _ _ _ f_s13
        · refine pf_lt (fun z14 _ => ?_)
          rw [j_X3_whichKind_124_e]
          exact ih _ _ _ f_s13
set_option maxRecDepth 100000 in
theorem fr_X3_whichKind {F : Nat} (hF : 1000 ≤ F) {x1 : Int32} {x2 : Int32} {x3 : Int32} {σ : Mem} : pf wf_33 (f_X3_whichKind F x1 x2 x3 σ) σ := by
  have f_σ : fr wf_33 σ σ := fr_rf
  rw [f_X3_whichKind_e]
  refine pf_bnd (fr_X3_noLookerFar hF) (fun _ h => h.elim) f_σ (fun r1 s2 f_s2 => ?_)
  refine pf_bnd (fr_X3_notBelow hF) (fun _ h => h.elim) f_s2 (fun r3 s4 f_s4 => ?_)
  refine pf_bnd (fr_X3_longRow hF) (fun _ h => h.elim) f_s4 (fun r5 s6 f_s6 => ?_)
  refine pf_bnd (fr_X3_firstOf hF) (fun _ h => h.elim) f_s6 (fun r7 s8 f_s8 => ?_)
  refine pf_bnd (fr_X3_firstOf hF) (fun _ h => h.elim) f_s8 (fun r9 s10 f_s10 => ?_)
  refine pf_ite ?_ ?_
  · refine pf_bnd (fr_X0_takeFrom hF wt_h24 wt_h1) (fun c h => by unfold wf_0 at h; unfold wf_33; omega) f_s10 (fun r11 s12 f_s12 => ?_)
    refine pf_ite ?_ ?_
    · rw [j_X3_whichKind_59_e]
      exact fl_X3_whichKind_64 hF _ _ _ _ f_s12
    · rw [j_X3_whichKind_59_e]
      exact fl_X3_whichKind_64 hF _ _ _ _ f_s12
  · refine pf_bnd (fr_X3_refuse hF) (ww_25) f_s10 (fun r13 s14 f_s14 => ?_)
    exact pf_ret f_s14
def wf_37 (c : Nat) : Prop := (35 ≤ c ∧ c ≤ 39) ∨ (42 ≤ c ∧ c ≤ 46)
set_option maxRecDepth 100000 in
theorem fr_X3_ownsWell {F : Nat} (hF : 1000 ≤ F) {x1 : Int32} {x2 : Int32} {x3 : Int32} {x4 : Int32} {σ : Mem} : pf wf_37 (f_X3_ownsWell F x1 x2 x3 x4 σ) σ := by
  have f_σ : fr wf_37 σ σ := fr_rf
  rw [f_X3_ownsWell_e]
  refine pf_chk (fun v1 => ?_)
  refine pf_bnd (fr_X0_behind hF wt_h1) (fun _ h => h.elim) f_σ (fun r2 s3 f_s3 => ?_)
  refine pf_chk (fun v4 => ?_)
  refine pf_up2 f_s3 (wcid_lo (by omega) (by omega)) (Or.inl (⟨by omega, by omega⟩)) (fun s5 f_s5 => ?_)
  refine pf_up2 f_s5 (wcid_lo (by omega) (by omega)) (Or.inr (⟨by omega, by omega⟩)) (fun s6 f_s6 => ?_)
  refine pf_bnd (fr_X0_holder hF wt_h24) (fun _ h => h.elim) f_s6 (fun r7 s8 f_s8 => ?_)
  refine pf_ite ?_ ?_
  · exact pf_ret f_s8
  · exact pf_ret f_s8
theorem ww_29 : ∀ c, wf_37 c → wf_31 c := fun c h => h.elim (fun a => Or.inr (Or.inr (Or.inl (⟨Nat.le_trans (by omega) (a).1, Nat.le_trans (a).2 (by omega)⟩)))) (fun b0 => Or.inr (Or.inr (Or.inr (Or.inl (b0)))))
set_option maxRecDepth 100000 in
theorem fl_X3_ill_117 {F : Nat} (hF : 1000 ≤ F) {x1 : Int32} {x2 : Int32} {x3 : Int32} {x4 : Int32} {x5 : Int32} {τ : Mem} : ∀ (N : Nat) (y7 : Int64) (y9 : Int64) (y11 : Int64) (x13 : Int32) (σ : Mem), fr wf_31 τ σ → pf wf_31 (lp_X3_ill_117 F x1 x2 x3 x4 x5 N y7 y9 y11 x13 σ) τ := by
  intro N
  induction N with
  | zero => intro _ _ _ _ _ _; exact pf_none rfl
  | succ N ih =>
    intro y7 y9 y11 x13 σ f_σ
    rw [lp_X3_ill_117_s]
    refine pf_ite ?_ ?_
    · refine pf_bnd (fr_X3_fraction hF) (fun _ h => h.elim) f_σ (fun r1 s2 f_s2 => ?_)
      exact pf_ret f_s2
    · refine pf_bnd (fr_X3_ownsWell hF) (ww_29) f_σ (fun r3 s4 f_s4 => ?_)
      refine pf_ite ?_ ?_
      · rw [j_X3_ill_142_e]
        refine pf_nzl ?_
        refine pf_lt (fun z5 _ => ?_)
        refine pf_ite ?_ ?_
        · rw [j_X3_ill_181_e]
          exact ih _ _ _ _ _ f_s4
        · rw [j_X3_ill_181_e]
          exact ih _ _ _ _ _ f_s4
      · rw [j_X3_ill_142_e]
        refine pf_nzl ?_
        refine pf_lt (fun z6 _ => ?_)
        refine pf_ite ?_ ?_
        · rw [j_X3_ill_181_e]
          exact ih _ _ _ _ _ f_s4
        · rw [j_X3_ill_181_e]
          exact ih _ _ _ _ _ f_s4
set_option maxRecDepth 100000 in
theorem fr_X3_ill {F : Nat} (hF : 1000 ≤ F) {x1 : Int32} {x2 : Int32} {x3 : Int32} {x4 : Int32} {x5 : Int32} {σ : Mem} : pf wf_31 (f_X3_ill F x1 x2 x3 x4 x5 σ) σ := by
  have f_σ : fr wf_31 σ σ := fr_rf
  rw [f_X3_ill_e]
  refine pf_bnd (fr_X3_noLooker hF) (fun _ h => h.elim) f_σ (fun r1 s2 f_s2 => ?_)
  refine pf_bnd (fr_X3_noView hF) (fun _ h => h.elim) f_s2 (fun r3 s4 f_s4 => ?_)
  refine pf_bnd (fr_X3_firstOf hF) (fun _ h => h.elim) f_s4 (fun r5 s6 f_s6 => ?_)
  refine pf_ite ?_ ?_
  · refine pf_ite ?_ ?_
    · rw [j_X3_ill_29_e]
      rw [j_X3_ill_33_e]
      refine pf_ite ?_ ?_
      · refine pf_ite ?_ ?_
        · rw [j_X3_ill_51_e]
          rw [j_X3_ill_55_e]
          refine pf_bnd (fr_X3_notBelow hF) (fun _ h => h.elim) f_s6 (fun r7 s8 f_s8 => ?_)
          refine pf_bnd (fr_X3_firstOf hF) (fun _ h => h.elim) f_s8 (fun r9 s10 f_s10 => ?_)
          refine pf_ite ?_ ?_
          · refine pf_bnd (fr_X0_reckon hF wt_h1) (fun c h => by unfold wf_8 at h; unfold wf_31; omega) f_s10 (fun r11 s12 f_s12 => ?_)
            refine pf_bnd (fr_X0_takeFrom hF wt_h24 wt_h1) (fun c h => by unfold wf_0 at h; unfold wf_31; omega) f_s12 (fun r13 s14 f_s14 => ?_)
            refine pf_bnd (fr_X0_reckon hF wt_h24) (fun c h => by unfold wf_8 at h; unfold wf_31; omega) f_s14 (fun r15 s16 f_s16 => ?_)
            exact fl_X3_ill_117 hF _ _ _ _ _ _ f_s16
          · refine pf_bnd (fr_X3_refuseLong hF) (ww_23) f_s10 (fun r17 s18 f_s18 => ?_)
            exact pf_ret f_s18
        · refine pf_ite ?_ ?_
          · rw [j_X3_ill_55_e]
            refine pf_bnd (fr_X3_notBelow hF) (fun _ h => h.elim) f_s6 (fun r19 s20 f_s20 => ?_)
            refine pf_bnd (fr_X3_firstOf hF) (fun _ h => h.elim) f_s20 (fun r21 s22 f_s22 => ?_)
            refine pf_ite ?_ ?_
            · refine pf_bnd (fr_X0_reckon hF wt_h1) (fun c h => by unfold wf_8 at h; unfold wf_31; omega) f_s22 (fun r23 s24 f_s24 => ?_)
              refine pf_bnd (fr_X0_takeFrom hF wt_h24 wt_h1) (fun c h => by unfold wf_0 at h; unfold wf_31; omega) f_s24 (fun r25 s26 f_s26 => ?_)
              refine pf_bnd (fr_X0_reckon hF wt_h24) (fun c h => by unfold wf_8 at h; unfold wf_31; omega) f_s26 (fun r27 s28 f_s28 => ?_)
              exact fl_X3_ill_117 hF _ _ _ _ _ _ f_s28
            · refine pf_bnd (fr_X3_refuseLong hF) (ww_23) f_s22 (fun r29 s30 f_s30 => ?_)
              exact pf_ret f_s30
          · rw [j_X3_ill_51_e]
            rw [j_X3_ill_55_e]
            refine pf_bnd (fr_X3_notBelow hF) (fun _ h => h.elim) f_s6 (fun r31 s32 f_s32 => ?_)
            refine pf_bnd (fr_X3_firstOf hF) (fun _ h => h.elim) f_s32 (fun r33 s34 f_s34 => ?_)
            refine pf_ite ?_ ?_
            · refine pf_bnd (fr_X0_reckon hF wt_h1) (fun c h => by unfold wf_8 at h; unfold wf_31; omega) f_s34 (fun r35 s36 f_s36 => ?_)
              refine pf_bnd (fr_X0_takeFrom hF wt_h24 wt_h1) (fun c h => by unfold wf_0 at h; unfold wf_31; omega) f_s36 (fun r37 s38 f_s38 => ?_)
              refine pf_bnd (fr_X0_reckon hF wt_h24) (fun c h => by unfold wf_8 at h; unfold wf_31; omega) f_s38 (fun r39 s40 f_s40 => ?_)
              exact fl_X3_ill_117 hF _ _ _ _ _ _ f_s40
            · refine pf_bnd (fr_X3_refuseLong hF) (ww_23) f_s34 (fun r41 s42 f_s42 => ?_)
              exact pf_ret f_s42
      · rw [j_X3_ill_55_e]
        refine pf_bnd (fr_X3_notBelow hF) (fun _ h => h.elim) f_s6 (fun r43 s44 f_s44 => ?_)
        refine pf_bnd (fr_X3_firstOf hF) (fun _ h => h.elim) f_s44 (fun r45 s46 f_s46 => ?_)
        refine pf_ite ?_ ?_
        · refine pf_bnd (fr_X0_reckon hF wt_h1) (fun c h => by unfold wf_8 at h; unfold wf_31; omega) f_s46 (fun r47 s48 f_s48 => ?_)
          refine pf_bnd (fr_X0_takeFrom hF wt_h24 wt_h1) (fun c h => by unfold wf_0 at h; unfold wf_31; omega) f_s48 (fun r49 s50 f_s50 => ?_)
          refine pf_bnd (fr_X0_reckon hF wt_h24) (fun c h => by unfold wf_8 at h; unfold wf_31; omega) f_s50 (fun r51 s52 f_s52 => ?_)
          exact fl_X3_ill_117 hF _ _ _ _ _ _ f_s52
        · refine pf_bnd (fr_X3_refuseLong hF) (ww_23) f_s46 (fun r53 s54 f_s54 => ?_)
          exact pf_ret f_s54
    · refine pf_ite ?_ ?_
      · rw [j_X3_ill_33_e]
        refine pf_ite ?_ ?_
        · refine pf_ite ?_ ?_
          · rw [j_X3_ill_51_e]
            rw [j_X3_ill_55_e]
            refine pf_bnd (fr_X3_notBelow hF) (fun _ h => h.elim) f_s6 (fun r55 s56 f_s56 => ?_)
            refine pf_bnd (fr_X3_firstOf hF) (fun _ h => h.elim) f_s56 (fun r57 s58 f_s58 => ?_)
            refine pf_ite ?_ ?_
            · refine pf_bnd (fr_X0_reckon hF wt_h1) (fun c h => by unfold wf_8 at h; unfold wf_31; omega) f_s58 (fun r59 s60 f_s60 => ?_)
              refine pf_bnd (fr_X0_takeFrom hF wt_h24 wt_h1) (fun c h => by unfold wf_0 at h; unfold wf_31; omega) f_s60 (fun r61 s62 f_s62 => ?_)
              refine pf_bnd (fr_X0_reckon hF wt_h24) (fun c h => by unfold wf_8 at h; unfold wf_31; omega) f_s62 (fun r63 s64 f_s64 => ?_)
              exact fl_X3_ill_117 hF _ _ _ _ _ _ f_s64
            · refine pf_bnd (fr_X3_refuseLong hF) (ww_23) f_s58 (fun r65 s66 f_s66 => ?_)
              exact pf_ret f_s66
          · refine pf_ite ?_ ?_
            · rw [j_X3_ill_55_e]
              refine pf_bnd (fr_X3_notBelow hF) (fun _ h => h.elim) f_s6 (fun r67 s68 f_s68 => ?_)
              refine pf_bnd (fr_X3_firstOf hF) (fun _ h => h.elim) f_s68 (fun r69 s70 f_s70 => ?_)
              refine pf_ite ?_ ?_
              · refine pf_bnd (fr_X0_reckon hF wt_h1) (fun c h => by unfold wf_8 at h; unfold wf_31; omega) f_s70 (fun r71 s72 f_s72 => ?_)
                refine pf_bnd (fr_X0_takeFrom hF wt_h24 wt_h1) (fun c h => by unfold wf_0 at h; unfold wf_31; omega) f_s72 (fun r73 s74 f_s74 => ?_)
                refine pf_bnd (fr_X0_reckon hF wt_h24) (fun c h => by unfold wf_8 at h; unfold wf_31; omega) f_s74 (fun r75 s76 f_s76 => ?_)
                exact fl_X3_ill_117 hF _ _ _ _ _ _ f_s76
              · refine pf_bnd (fr_X3_refuseLong hF) (ww_23) f_s70 (fun r77 s78 f_s78 => ?_)
                exact pf_ret f_s78
            · rw [j_X3_ill_51_e]
              rw [j_X3_ill_55_e]
              refine pf_bnd (fr_X3_notBelow hF) (fun _ h => h.elim) f_s6 (fun r79 s80 f_s80 => ?_)
              refine pf_bnd (fr_X3_firstOf hF) (fun _ h => h.elim) f_s80 (fun r81 s82 f_s82 => ?_)
              refine pf_ite ?_ ?_
              · refine pf_bnd (fr_X0_reckon hF wt_h1) (fun c h => by unfold wf_8 at h; unfold wf_31; omega) f_s82 (fun r83 s84 f_s84 => ?_)
                refine pf_bnd (fr_X0_takeFrom hF wt_h24 wt_h1) (fun c h => by unfold wf_0 at h; unfold wf_31; omega) f_s84 (fun r85 s86 f_s86 => ?_)
                refine pf_bnd (fr_X0_reckon hF wt_h24) (fun c h => by unfold wf_8 at h; unfold wf_31; omega) f_s86 (fun r87 s88 f_s88 => ?_)
                exact fl_X3_ill_117 hF _ _ _ _ _ _ f_s88
              · refine pf_bnd (fr_X3_refuseLong hF) (ww_23) f_s82 (fun r89 s90 f_s90 => ?_)
                exact pf_ret f_s90
        · rw [j_X3_ill_55_e]
          refine pf_bnd (fr_X3_notBelow hF) (fun _ h => h.elim) f_s6 (fun r91 s92 f_s92 => ?_)
          refine pf_bnd (fr_X3_firstOf hF) (fun _ h => h.elim) f_s92 (fun r93 s94 f_s94 => ?_)
          refine pf_ite ?_ ?_
          · refine pf_bnd (fr_X0_reckon hF wt_h1) (fun c h => by unfold wf_8 at h; unfold wf_31; omega) f_s94 (fun r95 s96 f_s96 => ?_)
            refine pf_bnd (fr_X0_takeFrom hF wt_h24 wt_h1) (fun c h => by unfold wf_0 at h; unfold wf_31; omega) f_s96 (fun r97 s98 f_s98 => ?_)
            refine pf_bnd (fr_X0_reckon hF wt_h24) (fun c h => by unfold wf_8 at h; unfold wf_31; omega) f_s98 (fun r99 s100 f_s100 => ?_)
            exact fl_X3_ill_117 hF _ _ _ _ _ _ f_s100
          · refine pf_bnd (fr_X3_refuseLong hF) (ww_23) f_s94 (fun r101 s102 f_s102 => ?_)
            exact pf_ret f_s102
      · rw [j_X3_ill_29_e]
        rw [j_X3_ill_33_e]
        refine pf_ite ?_ ?_
        · refine pf_ite ?_ ?_
          · rw [j_X3_ill_51_e]
            rw [j_X3_ill_55_e]
            refine pf_bnd (fr_X3_notBelow hF) (fun _ h => h.elim) f_s6 (fun r103 s104 f_s104 => ?_)
            refine pf_bnd (fr_X3_firstOf hF) (fun _ h => h.elim) f_s104 (fun r105 s106 f_s106 => ?_)
            refine pf_ite ?_ ?_
            · refine pf_bnd (fr_X0_reckon hF wt_h1) (fun c h => by unfold wf_8 at h; unfold wf_31; omega) f_s106 (fun r107 s108 f_s108 => ?_)
              refine pf_bnd (fr_X0_takeFrom hF wt_h24 wt_h1) (fun c h => by unfold wf_0 at h; unfold wf_31; omega) f_s108 (fun r109 s110 f_s110 => ?_)
              refine pf_bnd (fr_X0_reckon hF wt_h24) (fun c h => by unfold wf_8 at h; unfold wf_31; omega) f_s110 (fun r111 s112 f_s112 => ?_)
              exact fl_X3_ill_117 hF _ _ _ _ _ _ f_s112
            · refine pf_bnd (fr_X3_refuseLong hF) (ww_23) f_s106 (fun r113 s114 f_s114 => ?_)
              exact pf_ret f_s114
          · refine pf_ite ?_ ?_
            · rw [j_X3_ill_55_e]
              refine pf_bnd (fr_X3_notBelow hF) (fun _ h => h.elim) f_s6 (fun r115 s116 f_s116 => ?_)
              refine pf_bnd (fr_X3_firstOf hF) (fun _ h => h.elim) f_s116 (fun r117 s118 f_s118 => ?_)
              refine pf_ite ?_ ?_
              · refine pf_bnd (fr_X0_reckon hF wt_h1) (fun c h => by unfold wf_8 at h; unfold wf_31; omega) f_s118 (fun r119 s120 f_s120 => ?_)
                refine pf_bnd (fr_X0_takeFrom hF wt_h24 wt_h1) (fun c h => by unfold wf_0 at h; unfold wf_31; omega) f_s120 (fun r121 s122 f_s122 => ?_)
                refine pf_bnd (fr_X0_reckon hF wt_h24) (fun c h => by unfold wf_8 at h; unfold wf_31; omega) f_s122 (fun r123 s124 f_s124 => ?_)
                exact fl_X3_ill_117 hF _ _ _ _ _ _ f_s124
              · refine pf_bnd (fr_X3_refuseLong hF) (ww_23) f_s118 (fun r125 s126 f_s126 => ?_)
                exact pf_ret f_s126
            · rw [j_X3_ill_51_e]
              rw [j_X3_ill_55_e]
              refine pf_bnd (fr_X3_notBelow hF) (fun _ h => h.elim) f_s6 (fun r127 s128 f_s128 => ?_)
              refine pf_bnd (fr_X3_firstOf hF) (fun _ h => h.elim) f_s128 (fun r129 s130 f_s130 => ?_)
              refine pf_ite ?_ ?_
              · refine pf_bnd (fr_X0_reckon hF wt_h1) (fun c h => by unfold wf_8 at h; unfold wf_31; omega) f_s130 (fun r131 s132 f_s132 => ?_)
                refine pf_bnd (fr_X0_takeFrom hF wt_h24 wt_h1) (fun c h => by unfold wf_0 at h; unfold wf_31; omega) f_s132 (fun r133 s134 f_s134 => ?_)
                refine pf_bnd (fr_X0_reckon hF wt_h24) (fun c h => by unfold wf_8 at h; unfold wf_31; omega) f_s134 (fun r135 s136 f_s136 => ?_)
                exact fl_X3_ill_117 hF _ _ _ _ _ _ f_s136
              · refine pf_bnd (fr_X3_refuseLong hF) (ww_23) f_s130 (fun r137 s138 f_s138 => ?_)
                exact pf_ret f_s138
        · rw [j_X3_ill_55_e]
          refine pf_bnd (fr_X3_notBelow hF) (fun _ h => h.elim) f_s6 (fun r139 s140 f_s140 => ?_)
          refine pf_bnd (fr_X3_firstOf hF) (fun _ h => h.elim) f_s140 (fun r141 s142 f_s142 => ?_)
          refine pf_ite ?_ ?_
          · refine pf_bnd (fr_X0_reckon hF wt_h1) (fun c h => by unfold wf_8 at h; unfold wf_31; omega) f_s142 (fun r143 s144 f_s144 => ?_)
            refine pf_bnd (fr_X0_takeFrom hF wt_h24 wt_h1) (fun c h => by unfold wf_0 at h; unfold wf_31; omega) f_s144 (fun r145 s146 f_s146 => ?_)
            refine pf_bnd (fr_X0_reckon hF wt_h24) (fun c h => by unfold wf_8 at h; unfold wf_31; omega) f_s146 (fun r147 s148 f_s148 => ?_)
            exact fl_X3_ill_117 hF _ _ _ _ _ _ f_s148
          · refine pf_bnd (fr_X3_refuseLong hF) (ww_23) f_s142 (fun r149 s150 f_s150 => ?_)
            exact pf_ret f_s150
  · rw [j_X3_ill_33_e]
    refine pf_ite ?_ ?_
    · refine pf_ite ?_ ?_
      · rw [j_X3_ill_51_e]
        rw [j_X3_ill_55_e]
        refine pf_bnd (fr_X3_notBelow hF) (fun _ h => h.elim) f_s6 (fun r151 s152 f_s152 => ?_)
        refine pf_bnd (fr_X3_firstOf hF) (fun _ h => h.elim) f_s152 (fun r153 s154 f_s154 => ?_)
        refine pf_ite ?_ ?_
        · refine pf_bnd (fr_X0_reckon hF wt_h1) (fun c h => by unfold wf_8 at h; unfold wf_31; omega) f_s154 (fun r155 s156 f_s156 => ?_)
          refine pf_bnd (fr_X0_takeFrom hF wt_h24 wt_h1) (fun c h => by unfold wf_0 at h; unfold wf_31; omega) f_s156 (fun r157 s158 f_s158 => ?_)
          refine pf_bnd (fr_X0_reckon hF wt_h24) (fun c h => by unfold wf_8 at h; unfold wf_31; omega) f_s158 (fun r159 s160 f_s160 => ?_)
          exact fl_X3_ill_117 hF _ _ _ _ _ _ f_s160
        · refine pf_bnd (fr_X3_refuseLong hF) (ww_23) f_s154 (fun r161 s162 f_s162 => ?_)
          exact pf_ret f_s162
      · refine pf_ite ?_ ?_
        · rw [j_X3_ill_55_e]
          refine pf_bnd (fr_X3_notBelow hF) (fun _ h => h.elim) f_s6 (fun r163 s164 f_s164 => ?_)
          refine pf_bnd (fr_X3_firstOf hF) (fun _ h => h.elim) f_s164 (fun r165 s166 f_s166 => ?_)
          refine pf_ite ?_ ?_
          · refine pf_bnd (fr_X0_reckon hF wt_h1) (fun c h => by unfold wf_8 at h; unfold wf_31; omega) f_s166 (fun r167 s168 f_s168 => ?_)
            refine pf_bnd (fr_X0_takeFrom hF wt_h24 wt_h1) (fun c h => by unfold wf_0 at h; unfold wf_31; omega) f_s168 (fun r169 s170 f_s170 => ?_)
            refine pf_bnd (fr_X0_reckon hF wt_h24) (fun c h => by unfold wf_8 at h; unfold wf_31; omega) f_s170 (fun r171 s172 f_s172 => ?_)
            exact fl_X3_ill_117 hF _ _ _ _ _ _ f_s172
          · refine pf_bnd (fr_X3_refuseLong hF) (ww_23) f_s166 (fun r173 s174 f_s174 => ?_)
            exact pf_ret f_s174
        · rw [j_X3_ill_51_e]
          rw [j_X3_ill_55_e]
          refine pf_bnd (fr_X3_notBelow hF) (fun _ h => h.elim) f_s6 (fun r175 s176 f_s176 => ?_)
          refine pf_bnd (fr_X3_firstOf hF) (fun _ h => h.elim) f_s176 (fun r177 s178 f_s178 => ?_)
          refine pf_ite ?_ ?_
          · refine pf_bnd (fr_X0_reckon hF wt_h1) (fun c h => by unfold wf_8 at h; unfold wf_31; omega) f_s178 (fun r179 s180 f_s180 => ?_)
            refine pf_bnd (fr_X0_takeFrom hF wt_h24 wt_h1) (fun c h => by unfold wf_0 at h; unfold wf_31; omega) f_s180 (fun r181 s182 f_s182 => ?_)
            refine pf_bnd (fr_X0_reckon hF wt_h24) (fun c h => by unfold wf_8 at h; unfold wf_31; omega) f_s182 (fun r183 s184 f_s184 => ?_)
            exact fl_X3_ill_117 hF _ _ _ _ _ _ f_s184
          · refine pf_bnd (fr_X3_refuseLong hF) (ww_23) f_s178 (fun r185 s186 f_s186 => ?_)
            exact pf_ret f_s186
    · rw [j_X3_ill_55_e]
      refine pf_bnd (fr_X3_notBelow hF) (fun _ h => h.elim) f_s6 (fun r187 s188 f_s188 => ?_)
      refine pf_bnd (fr_X3_firstOf hF) (fun _ h => h.elim) f_s188 (fun r189 s190 f_s190 => ?_)
      refine pf_ite ?_ ?_
      · refine pf_bnd (fr_X0_reckon hF wt_h1) (fun c h => by unfold wf_8 at h; unfold wf_31; omega) f_s190 (fun r191 s192 f_s192 => ?_)
        refine pf_bnd (fr_X0_takeFrom hF wt_h24 wt_h1) (fun c h => by unfold wf_0 at h; unfold wf_31; omega) f_s192 (fun r193 s194 f_s194 => ?_)
        refine pf_bnd (fr_X0_reckon hF wt_h24) (fun c h => by unfold wf_8 at h; unfold wf_31; omega) f_s194 (fun r195 s196 f_s196 => ?_)
        exact fl_X3_ill_117 hF _ _ _ _ _ _ f_s196
      · refine pf_bnd (fr_X3_refuseLong hF) (ww_23) f_s190 (fun r197 s198 f_s198 => ?_)
        exact pf_ret f_s198
set_option maxRecDepth 100000 in
theorem fl_X3_busy_24 {F : Nat} (hF : 1000 ≤ F) {x1 : Int32} {τ : Mem} : ∀ (N : Nat) (x3 : Int32) (x4 : Int32) (x5 : Int32) (σ : Mem), fr wf_17 τ σ → pf wf_17 (lp_X3_busy_24 F x1 N x3 x4 x5 σ) τ := by
  intro N
  induction N with
  | zero => intro _ _ _ _ _; exact pf_none rfl
  | succ N ih =>
    intro x3 x4 x5 σ f_σ
    rw [lp_X3_busy_24_s]
    refine pf_ite ?_ ?_
    · refine pf_ite ?_ ?_
      · exact pf_ret f_σ
      · exact pf_ret f_σ
    · refine pf_bnd (fr_X0_standingIn hF wt_h1) (fun _ h => h.elim) f_σ (fun r1 s2 f_s2 => ?_)
      refine pf_ite ?_ ?_
      · rw [j_X3_busy_56_e]
        exact ih _ _ _ _ f_s2
      · rw [j_X3_busy_56_e]
        exact ih _ _ _ _ f_s2
set_option maxRecDepth 100000 in
theorem fr_X3_busy {F : Nat} (hF : 1000 ≤ F) {x1 : Int32} {σ : Mem} : pf wf_17 (f_X3_busy F x1 σ) σ := by
  have f_σ : fr wf_17 σ σ := fr_rf
  rw [f_X3_busy_e]
  refine pf_bnd (fr_X3_notBelow hF) (fun _ h => h.elim) f_σ (fun r1 s2 f_s2 => ?_)
  refine pf_ite ?_ ?_
  · exact fl_X3_busy_24 hF _ _ _ _ _ f_s2
  · refine pf_bnd (fr_X3_refuse hF) (fun _ h => h) f_s2 (fun r3 s4 f_s4 => ?_)
    exact pf_ret f_s4
set_option maxRecDepth 100000 in
theorem fl_X3_together_23 {F : Nat} (hF : 1000 ≤ F) {x1 : Int32} {x2 : Int32} {τ : Mem} : ∀ (N : Nat) (x4 : Int32) (x5 : Int32) (σ : Mem), fr wf_17 τ σ → pf wf_17 (lp_X3_together_23 F x1 x2 N x4 x5 σ) τ := by
  intro N
  induction N with
  | zero => intro _ _ _ _; exact pf_none rfl
  | succ N ih =>
    intro x4 x5 σ f_σ
    rw [lp_X3_together_23_s]
    refine pf_ite ?_ ?_
    · exact pf_ret f_σ
    · refine pf_chk (fun v1 => ?_)
      refine pf_chk (fun v2 => ?_)
      refine pf_lt (fun z3 _ => ?_)
      refine pf_ite ?_ ?_
      · rw [j_X3_together_77_e]
        exact ih _ _ _ f_σ
      · refine pf_chk (fun v4 => ?_)
        refine pf_ite ?_ ?_
        · refine pf_lt (fun z5 _ => ?_)
          rw [j_X3_together_77_e]
          exact ih _ _ _ f_σ
        · rw [j_X3_together_77_e]
          exact ih _ _ _ f_σ
set_option maxRecDepth 100000 in
theorem fr_X3_together {F : Nat} (hF : 1000 ≤ F) {x1 : Int32} {x2 : Int32} {σ : Mem} : pf wf_17 (f_X3_together F x1 x2 σ) σ := by
  have f_σ : fr wf_17 σ σ := fr_rf
  rw [f_X3_together_e]
  refine pf_bnd (fr_X3_noPair hF) (fun _ h => h.elim) f_σ (fun r1 s2 f_s2 => ?_)
  refine pf_ite ?_ ?_
  · exact fl_X3_together_23 hF _ _ _ _ f_s2
  · refine pf_bnd (fr_X3_refuse hF) (fun _ h => h) f_s2 (fun r3 s4 f_s4 => ?_)
    exact pf_ret f_s4
set_option maxRecDepth 100000 in
theorem fr_X3_wealthSwapped {F : Nat} (hF : 1000 ≤ F) {x1 : Int32} {x2 : Int32} {x3 : Int32} {σ : Mem} : pf wf_32 (f_X3_wealthSwapped F x1 x2 x3 σ) σ := by
  have f_σ : fr wf_32 σ σ := fr_rf
  rw [f_X3_wealthSwapped_e]
  refine pf_bnd (fr_X0_tradeRosters hF wt_h24) (fun c h => by unfold wf_4 at h; unfold wf_32; omega) f_σ (fun r1 s2 f_s2 => ?_)
  refine pf_bnd (fr_X0_reckon hF wt_h24) (fun c h => by unfold wf_8 at h; unfold wf_32; omega) f_s2 (fun r3 s4 f_s4 => ?_)
  refine pf_bnd (fr_X0_wealth hF wt_h24) (fun _ h => h.elim) f_s4 (fun r5 s6 f_s6 => ?_)
  refine pf_bnd (fr_X0_wealth hF wt_h24) (fun _ h => h.elim) f_s6 (fun r7 s8 f_s8 => ?_)
  refine pf_bnd (fr_X0_tradeRosters hF wt_h24) (fun c h => by unfold wf_4 at h; unfold wf_32; omega) f_s8 (fun r9 s10 f_s10 => ?_)
  exact pf_ret f_s10
theorem ww_30 : ∀ c, wf_32 c → wf_31 c := fun c h => h.elim (fun a => Or.inr (Or.inl (a))) (fun b0 => Or.inr (Or.inr (Or.inr (Or.inl (b0)))))
set_option maxRecDepth 100000 in
theorem fl_X3_swap_64 {F : Nat} (hF : 1000 ≤ F) {x1 : Int32} {x5 : Int32} {k46 : Int32 → Int32 → Int32 → Mem → Option (Int32 × Mem)} {τ : Mem} (hk46 : ∀ (x3 : Int32) (x4 : Int32) (x5 : Int32) (σ : Mem), fr wf_31 τ σ → pf wf_31 (k46 x3 x4 x5 σ) τ) : ∀ (N : Nat) (x3 : Int32) (x4 : Int32) (x6 : Int32) (σ : Mem), fr wf_31 τ σ → pf wf_31 (lp_X3_swap_64 F k46 x1 x5 N x3 x4 x6 σ) τ := by
  intro N
  induction N with
  | zero => intro _ _ _ _ _; exact pf_none rfl
  | succ N ih =>
    intro x3 x4 x6 σ f_σ
    rw [lp_X3_swap_64_s]
    refine pf_ite ?_ ?_
    · exact hk46 _ _ _ _ f_σ
    · refine pf_bnd (fr_X3_wealthSwapped hF) (ww_30) f_σ (fun r1 s2 f_s2 => ?_)
      refine pf_bnd (fr_X0_wealth hF wt_h1) (fun _ h => h.elim) f_s2 (fun r3 s4 f_s4 => ?_)
      refine pf_bnd (fr_X0_wealth hF wt_h1) (fun _ h => h.elim) f_s4 (fun r5 s6 f_s6 => ?_)
      refine pf_ite ?_ ?_
      · rw [j_X3_swap_137_e]
        exact ih _ _ _ _ f_s6
      · refine pf_ite ?_ ?_
        · rw [j_X3_swap_137_e]
          exact ih _ _ _ _ f_s6
        · refine pf_lt (fun z7 _ => ?_)
          rw [j_X3_swap_137_e]
          exact ih _ _ _ _ f_s6
set_option maxRecDepth 100000 in
theorem fl_X3_swap_46 {F : Nat} (hF : 1000 ≤ F) {x1 : Int32} {τ : Mem} : ∀ (N : Nat) (x3 : Int32) (x4 : Int32) (x5 : Int32) (σ : Mem), fr wf_31 τ σ → pf wf_31 (lp_X3_swap_46 F x1 N x3 x4 x5 σ) τ := by
  intro N
  induction N with
  | zero => intro _ _ _ _ _; exact pf_none rfl
  | succ N ih =>
    intro x3 x4 x5 σ f_σ
    rw [lp_X3_swap_46_s]
    refine pf_ite ?_ ?_
    · exact pf_ret f_σ
    · exact fl_X3_swap_64 hF ih _ _ _ _ _ f_σ
set_option maxRecDepth 100000 in
theorem fr_X3_swap {F : Nat} (hF : 1000 ≤ F) {x1 : Int32} {σ : Mem} : pf wf_31 (f_X3_swap F x1 σ) σ := by
  have f_σ : fr wf_31 σ σ := fr_rf
  rw [f_X3_swap_e]
  refine pf_bnd (fr_X3_outside hF) (fun _ h => h.elim) f_σ (fun r1 s2 f_s2 => ?_)
  refine pf_ite ?_ ?_
  · refine pf_bnd (fr_X0_reckon hF wt_h1) (fun c h => by unfold wf_8 at h; unfold wf_31; omega) f_s2 (fun r3 s4 f_s4 => ?_)
    refine pf_bnd (fr_X0_takeFrom hF wt_h24 wt_h1) (fun c h => by unfold wf_0 at h; unfold wf_31; omega) f_s4 (fun r5 s6 f_s6 => ?_)
    exact fl_X3_swap_46 hF _ _ _ _ _ f_s6
  · refine pf_bnd (fr_X3_refuse hF) (ww_23) f_s2 (fun r7 s8 f_s8 => ?_)
    exact pf_ret f_s8
set_option maxRecDepth 100000 in
theorem fl_X3_heir_65 {F : Nat} (hF : 1000 ≤ F) {x1 : Int32} {x2 : Int32} {x3 : Int32} {τ : Mem} : ∀ (N : Nat) (x5 : Int32) (σ : Mem), fr wf_33 τ σ → pf wf_33 (lp_X3_heir_65 F x1 x2 x3 N x5 σ) τ := by
  intro N
  induction N with
  | zero => intro _ _ _; exact pf_none rfl
  | succ N ih =>
    intro x5 σ f_σ
    rw [lp_X3_heir_65_s]
    refine pf_ite ?_ ?_
    · refine pf_bnd (fr_X0_reckon hF wt_h24) (fun c h => by unfold wf_8 at h; unfold wf_33; omega) f_σ (fun r1 s2 f_s2 => ?_)
      refine pf_bnd (fr_X0_holder hF wt_h24) (fun _ h => h.elim) f_s2 (fun r3 s4 f_s4 => ?_)
      exact pf_ret f_s4
    · refine pf_chk (fun v5 => ?_)
      refine pf_chk (fun v6 => ?_)
      refine pf_up2 f_σ (wcid_lo (by omega) (by omega)) (Or.inr (Or.inr (Or.inl (⟨by omega, by omega⟩)))) (fun s7 f_s7 => ?_)
      exact ih _ _ f_s7
set_option maxRecDepth 100000 in
theorem fr_X3_heir {F : Nat} (hF : 1000 ≤ F) {x1 : Int32} {x2 : Int32} {x3 : Int32} {σ : Mem} : pf wf_33 (f_X3_heir F x1 x2 x3 σ) σ := by
  have f_σ : fr wf_33 σ σ := fr_rf
  rw [f_X3_heir_e]
  refine pf_bnd (fr_X3_noLooker hF) (fun _ h => h.elim) f_σ (fun r1 s2 f_s2 => ?_)
  refine pf_bnd (fr_X3_noView hF) (fun _ h => h.elim) f_s2 (fun r3 s4 f_s4 => ?_)
  refine pf_bnd (fr_X3_firstOf hF) (fun _ h => h.elim) f_s4 (fun r5 s6 f_s6 => ?_)
  refine pf_bnd (fr_X3_outside hF) (fun _ h => h.elim) f_s6 (fun r7 s8 f_s8 => ?_)
  refine pf_bnd (fr_X3_firstOf hF) (fun _ h => h.elim) f_s8 (fun r9 s10 f_s10 => ?_)
  refine pf_ite ?_ ?_
  · refine pf_bnd (fr_X0_takeFrom hF wt_h24 wt_h1) (fun c h => by unfold wf_0 at h; unfold wf_33; omega) f_s10 (fun r11 s12 f_s12 => ?_)
    refine pf_bnd (fr_X0_post hF wt_h24) (fun c h => by unfold wf_4 at h; unfold wf_33; omega) f_s12 (fun r13 s14 f_s14 => ?_)
    exact fl_X3_heir_65 hF _ _ _ f_s14
  · refine pf_bnd (fr_X3_refuse hF) (ww_25) f_s10 (fun r15 s16 f_s16 => ?_)
    exact pf_ret f_s16
set_option maxRecDepth 100000 in
theorem fl_X3_even_49 {F : Nat} (hF : 1000 ≤ F) {x1 : Int32} {x4 : Int32} {k31 : Int32 → Int32 → Mem → Option (Int32 × Mem)} {τ : Mem} (hk31 : ∀ (x3 : Int32) (x4 : Int32) (σ : Mem), fr wf_21 τ σ → pf wf_21 (k31 x3 x4 σ) τ) : ∀ (N : Nat) (x3 : Int32) (x5 : Int32) (σ : Mem), fr wf_21 τ σ → pf wf_21 (lp_X3_even_49 F k31 x1 x4 N x3 x5 σ) τ := by
  intro N
  induction N with
  | zero => intro _ _ _ _; exact pf_none rfl
  | succ N ih =>
    intro x3 x5 σ f_σ
    rw [lp_X3_even_49_s]
    refine pf_ite ?_ ?_
    · exact hk31 _ _ _ f_σ
    · refine pf_bnd (fr_X0_lead hF wt_h1) (fun _ h => h.elim) f_σ (fun r1 s2 f_s2 => ?_)
      refine pf_ite ?_ ?_
      · rw [j_X3_even_79_e]
        exact ih _ _ _ f_s2
      · rw [j_X3_even_79_e]
        exact ih _ _ _ f_s2
set_option maxRecDepth 100000 in
theorem fl_X3_even_31 {F : Nat} (hF : 1000 ≤ F) {x1 : Int32} {τ : Mem} : ∀ (N : Nat) (x3 : Int32) (x4 : Int32) (σ : Mem), fr wf_21 τ σ → pf wf_21 (lp_X3_even_31 F x1 N x3 x4 σ) τ := by
  intro N
  induction N with
  | zero => intro _ _ _ _; exact pf_none rfl
  | succ N ih =>
    intro x3 x4 σ f_σ
    rw [lp_X3_even_31_s]
    refine pf_ite ?_ ?_
    · exact pf_ret f_σ
    · exact fl_X3_even_49 hF ih _ _ _ _ f_σ
set_option maxRecDepth 100000 in
theorem fr_X3_even {F : Nat} (hF : 1000 ≤ F) {x1 : Int32} {σ : Mem} : pf wf_21 (f_X3_even F x1 σ) σ := by
  have f_σ : fr wf_21 σ σ := fr_rf
  rw [f_X3_even_e]
  refine pf_bnd (fr_X3_outside hF) (fun _ h => h.elim) f_σ (fun r1 s2 f_s2 => ?_)
  refine pf_ite ?_ ?_
  · refine pf_bnd (fr_X0_reckon hF wt_h1) (fun c h => by unfold wf_8 at h; unfold wf_21; omega) f_s2 (fun r3 s4 f_s4 => ?_)
    exact fl_X3_even_31 hF _ _ _ _ f_s4
  · refine pf_bnd (fr_X3_refuse hF) (ww_6) f_s2 (fun r5 s6 f_s6 => ?_)
    exact pf_ret f_s6
def wf_38 (c : Nat) : Prop := (19 ≤ c ∧ c ≤ 23)
set_option maxRecDepth 100000 in
theorem fl_X3_last_34 {F : Nat} (hF : 1000 ≤ F) {x1 : Int32} {x2 : Int32} {x3 : Int32} {k11 : Int32 → Int32 → Mem → Option (Int32 × Mem)} {τ : Mem} (hk11 : ∀ (x1 : Int32) (x2 : Int32) (σ : Mem), fr wf_38 τ σ → pf wf_38 (k11 x1 x2 σ) τ) : ∀ (N : Nat) (x4 : Int32) (σ : Mem), fr wf_38 τ σ → pf wf_38 (lp_X3_last_34 F k11 x1 x2 x3 N x4 σ) τ := by
  intro N
  induction N with
  | zero => intro _ _ _; exact pf_none rfl
  | succ N ih =>
    intro x4 σ f_σ
    rw [lp_X3_last_34_s]
    refine pf_ite ?_ ?_
    · rw [j_X3_last_62_e]
      exact hk11 _ _ _ f_σ
    · refine pf_bnd (fr_X0_holder hF wt_h1) (fun _ h => h.elim) f_σ (fun r1 s2 f_s2 => ?_)
      refine pf_ite ?_ ?_
      · exact ih _ _ f_s2
      · rw [j_X3_last_62_e]
        exact hk11 _ _ _ f_s2
set_option maxRecDepth 100000 in
theorem fl_X3_last_11 {F : Nat} (hF : 1000 ≤ F) {τ : Mem} : ∀ (N : Nat) (x1 : Int32) (x2 : Int32) (σ : Mem), fr wf_38 τ σ → pf wf_38 (lp_X3_last_11 F N x1 x2 σ) τ := by
  intro N
  induction N with
  | zero => intro _ _ _ _; exact pf_none rfl
  | succ N ih =>
    intro x1 x2 σ f_σ
    rw [lp_X3_last_11_s]
    refine pf_ite ?_ ?_
    · exact pf_ret f_σ
    · refine pf_bnd (fr_X0_holder hF wt_h1) (fun _ h => h.elim) f_σ (fun r1 s2 f_s2 => ?_)
      exact fl_X3_last_34 hF ih _ _ _ f_s2
set_option maxRecDepth 100000 in
theorem fr_X3_last {F : Nat} (hF : 1000 ≤ F) {σ : Mem} : pf wf_38 (f_X3_last F σ) σ := by
  have f_σ : fr wf_38 σ σ := fr_rf
  rw [f_X3_last_e]
  refine pf_bnd (fr_X0_reckon hF wt_h1) (fun c h => by unfold wf_8 at h; unfold wf_38; omega) f_σ (fun r1 s2 f_s2 => ?_)
  exact fl_X3_last_11 hF _ _ _ _ f_s2
set_option maxRecDepth 100000 in
theorem fl_X3_joint_34 {F : Nat} (hF : 1000 ≤ F) {x1 : Int32} {x2 : Int32} {x3 : Int32} {τ : Mem} : ∀ (N : Nat) (x5 : Int32) (x6 : Int32) (σ : Mem), fr wf_21 τ σ → pf wf_21 (lp_X3_joint_34 F x1 x2 x3 N x5 x6 σ) τ := by
  intro N
  induction N with
  | zero => intro _ _ _ _; exact pf_none rfl
  | succ N ih =>
    intro x5 x6 σ f_σ
    rw [lp_X3_joint_34_s]
    refine pf_ite ?_ ?_
    · exact pf_ret f_σ
    · refine pf_bnd (fr_X0_outdo hF wt_h1) (fun _ h => h.elim) f_σ (fun r1 s2 f_s2 => ?_)
      refine pf_ite ?_ ?_
      · rw [j_X3_joint_65_e]
        exact ih _ _ _ f_s2
      · refine pf_lt (fun z3 _ => ?_)
        rw [j_X3_joint_65_e]
        exact ih _ _ _ f_s2
set_option maxRecDepth 100000 in
theorem fr_X3_joint {F : Nat} (hF : 1000 ≤ F) {x1 : Int32} {x2 : Int32} {x3 : Int32} {σ : Mem} : pf wf_21 (f_X3_joint F x1 x2 x3 σ) σ := by
  have f_σ : fr wf_21 σ σ := fr_rf
  rw [f_X3_joint_e]
  refine pf_bnd (fr_X3_noPairFar hF) (fun _ h => h.elim) f_σ (fun r1 s2 f_s2 => ?_)
  refine pf_ite ?_ ?_
  · refine pf_bnd (fr_X0_reckon hF wt_h1) (fun c h => by unfold wf_8 at h; unfold wf_21; omega) f_s2 (fun r3 s4 f_s4 => ?_)
    exact fl_X3_joint_34 hF _ _ _ _ f_s4
  · refine pf_bnd (fr_X3_refuse hF) (ww_6) f_s2 (fun r5 s6 f_s6 => ?_)
    exact pf_ret f_s6
set_option maxRecDepth 100000 in
theorem fl_X3_rank_29 {F : Nat} (hF : 1000 ≤ F) {x1 : Int32} {x2 : Int32} {τ : Mem} : ∀ (N : Nat) (x4 : Int32) (σ : Mem), fr wf_17 τ σ → pf wf_17 (lp_X3_rank_29 F x1 x2 N x4 σ) τ := by
  intro N
  induction N with
  | zero => intro _ _ _; exact pf_none rfl
  | succ N ih =>
    intro x4 σ f_σ
    rw [lp_X3_rank_29_s]
    refine pf_ite ?_ ?_
    · exact pf_ret f_σ
    · refine pf_bnd (fr_X0_placeOf hF wt_h1) (fun _ h => h.elim) f_σ (fun r1 s2 f_s2 => ?_)
      refine pf_ite ?_ ?_
      · exact pf_ret f_s2
      · exact ih _ _ f_s2
set_option maxRecDepth 100000 in
theorem fr_X3_rank {F : Nat} (hF : 1000 ≤ F) {x1 : Int32} {x2 : Int32} {σ : Mem} : pf wf_17 (f_X3_rank F x1 x2 σ) σ := by
  have f_σ : fr wf_17 σ σ := fr_rf
  rw [f_X3_rank_e]
  refine pf_bnd (fr_X3_noView hF) (fun _ h => h.elim) f_σ (fun r1 s2 f_s2 => ?_)
  refine pf_ite ?_ ?_
  · refine pf_ite ?_ ?_
    · rw [j_X3_rank_16_e]
      refine pf_ite ?_ ?_
      · exact fl_X3_rank_29 hF _ _ _ f_s2
      · refine pf_bnd (fr_X3_refuse hF) (fun _ h => h) f_s2 (fun r3 s4 f_s4 => ?_)
        exact pf_ret f_s4
    · rw [j_X3_rank_16_e]
      refine pf_ite ?_ ?_
      · exact fl_X3_rank_29 hF _ _ _ f_s2
      · refine pf_bnd (fr_X3_refuse hF) (fun _ h => h) f_s2 (fun r5 s6 f_s6 => ?_)
        exact pf_ret f_s6
  · rw [j_X3_rank_16_e]
    refine pf_ite ?_ ?_
    · exact fl_X3_rank_29 hF _ _ _ f_s2
    · refine pf_bnd (fr_X3_refuse hF) (fun _ h => h) f_s2 (fun r7 s8 f_s8 => ?_)
      exact pf_ret f_s8
set_option maxRecDepth 100000 in
theorem fl_X3_gap_42 {F : Nat} (hF : 1000 ≤ F) {x1 : Int32} {x2 : Int32} {τ : Mem} : ∀ (N : Nat) (x4 : Int32) (x5 : Int32) (x6 : Int32) (σ : Mem), fr wf_21 τ σ → pf wf_21 (lp_X3_gap_42 F x1 x2 N x4 x5 x6 σ) τ := by
  intro N
  induction N with
  | zero => intro _ _ _ _ _; exact pf_none rfl
  | succ N ih =>
    intro x4 x5 x6 σ f_σ
    rw [lp_X3_gap_42_s]
    refine pf_ite ?_ ?_
    · exact pf_ret f_σ
    · refine pf_bnd (fr_X0_behind hF wt_h1) (fun _ h => h.elim) f_σ (fun r1 s2 f_s2 => ?_)
      refine pf_ite ?_ ?_
      · refine pf_ite ?_ ?_
        · rw [j_X3_gap_96_e]
          exact ih _ _ _ _ f_s2
        · rw [j_X3_gap_96_e]
          exact ih _ _ _ _ f_s2
      · rw [j_X3_gap_96_e]
        exact ih _ _ _ _ f_s2
set_option maxRecDepth 100000 in
theorem fr_X3_gap {F : Nat} (hF : 1000 ≤ F) {x1 : Int32} {x2 : Int32} {σ : Mem} : pf wf_21 (f_X3_gap F x1 x2 σ) σ := by
  have f_σ : fr wf_21 σ σ := fr_rf
  rw [f_X3_gap_e]
  refine pf_bnd (fr_X3_noView hF) (fun _ h => h.elim) f_σ (fun r1 s2 f_s2 => ?_)
  refine pf_bnd (fr_X3_outside hF) (fun _ h => h.elim) f_s2 (fun r3 s4 f_s4 => ?_)
  refine pf_bnd (fr_X3_firstOf hF) (fun _ h => h.elim) f_s4 (fun r5 s6 f_s6 => ?_)
  refine pf_ite ?_ ?_
  · refine pf_bnd (fr_X0_reckon hF wt_h1) (fun c h => by unfold wf_8 at h; unfold wf_21; omega) f_s6 (fun r7 s8 f_s8 => ?_)
    exact fl_X3_gap_42 hF _ _ _ _ _ f_s8
  · refine pf_bnd (fr_X3_refuse hF) (ww_6) f_s6 (fun r9 s10 f_s10 => ?_)
    exact pf_ret f_s10
set_option maxRecDepth 100000 in
theorem fl_X3_wasted_30 {F : Nat} (hF : 1000 ≤ F) {x1 : Int32} {x2 : Int32} {τ : Mem} : ∀ (N : Nat) (x4 : Int32) (x5 : Int32) (σ : Mem), fr wf_17 τ σ → pf wf_17 (lp_X3_wasted_30 F x1 x2 N x4 x5 σ) τ := by
  intro N
  induction N with
  | zero => intro _ _ _ _; exact pf_none rfl
  | succ N ih =>
    intro x4 x5 σ f_σ
    rw [lp_X3_wasted_30_s]
    refine pf_ite ?_ ?_
    · exact pf_ret f_σ
    · refine pf_chk (fun v1 => ?_)
      refine pf_chk (fun v2 => ?_)
      refine pf_ite ?_ ?_
      · rw [j_X3_wasted_59_e]
        refine pf_bnd (fr_X0_pull hF wt_h1) (fun _ h => h.elim) f_σ (fun r3 s4 f_s4 => ?_)
        refine pf_ite ?_ ?_
        · rw [j_X3_wasted_79_e]
          refine pf_ite ?_ ?_
          · refine pf_ite ?_ ?_
            · rw [j_X3_wasted_117_e]
              exact ih _ _ _ f_s4
            · refine pf_ite ?_ ?_
              · rw [j_X3_wasted_108_e]
                refine pf_lt (fun z5 _ => ?_)
                rw [j_X3_wasted_117_e]
                exact ih _ _ _ f_s4
              · rw [j_X3_wasted_117_e]
                exact ih _ _ _ f_s4
          · refine pf_ite ?_ ?_
            · refine pf_ite ?_ ?_
              · rw [j_X3_wasted_117_e]
                exact ih _ _ _ f_s4
              · rw [j_X3_wasted_108_e]
                refine pf_lt (fun z6 _ => ?_)
                rw [j_X3_wasted_117_e]
                exact ih _ _ _ f_s4
            · rw [j_X3_wasted_117_e]
              exact ih _ _ _ f_s4
        · rw [j_X3_wasted_79_e]
          refine pf_ite ?_ ?_
          · refine pf_ite ?_ ?_
            · rw [j_X3_wasted_117_e]
              exact ih _ _ _ f_s4
            · refine pf_ite ?_ ?_
              · rw [j_X3_wasted_108_e]
                refine pf_lt (fun z7 _ => ?_)
                rw [j_X3_wasted_117_e]
                exact ih _ _ _ f_s4
              · rw [j_X3_wasted_117_e]
                exact ih _ _ _ f_s4
          · refine pf_ite ?_ ?_
            · refine pf_ite ?_ ?_
              · rw [j_X3_wasted_117_e]
                exact ih _ _ _ f_s4
              · rw [j_X3_wasted_108_e]
                refine pf_lt (fun z8 _ => ?_)
                rw [j_X3_wasted_117_e]
                exact ih _ _ _ f_s4
            · rw [j_X3_wasted_117_e]
              exact ih _ _ _ f_s4
      · rw [j_X3_wasted_59_e]
        refine pf_bnd (fr_X0_pull hF wt_h1) (fun _ h => h.elim) f_σ (fun r9 s10 f_s10 => ?_)
        refine pf_ite ?_ ?_
        · rw [j_X3_wasted_79_e]
          refine pf_ite ?_ ?_
          · refine pf_ite ?_ ?_
            · rw [j_X3_wasted_117_e]
              exact ih _ _ _ f_s10
            · refine pf_ite ?_ ?_
              · rw [j_X3_wasted_108_e]
                refine pf_lt (fun z11 _ => ?_)
                rw [j_X3_wasted_117_e]
                exact ih _ _ _ f_s10
              · rw [j_X3_wasted_117_e]
                exact ih _ _ _ f_s10
          · refine pf_ite ?_ ?_
            · refine pf_ite ?_ ?_
              · rw [j_X3_wasted_117_e]
                exact ih _ _ _ f_s10
              · rw [j_X3_wasted_108_e]
                refine pf_lt (fun z12 _ => ?_)
                rw [j_X3_wasted_117_e]
                exact ih _ _ _ f_s10
            · rw [j_X3_wasted_117_e]
              exact ih _ _ _ f_s10
        · rw [j_X3_wasted_79_e]
          refine pf_ite ?_ ?_
          · refine pf_ite ?_ ?_
            · rw [j_X3_wasted_117_e]
              exact ih _ _ _ f_s10
            · refine pf_ite ?_ ?_
              · rw [j_X3_wasted_108_e]
                refine pf_lt (fun z13 _ => ?_)
                rw [j_X3_wasted_117_e]
                exact ih _ _ _ f_s10
              · rw [j_X3_wasted_117_e]
                exact ih _ _ _ f_s10
          · refine pf_ite ?_ ?_
            · refine pf_ite ?_ ?_
              · rw [j_X3_wasted_117_e]
                exact ih _ _ _ f_s10
              · rw [j_X3_wasted_108_e]
                refine pf_lt (fun z14 _ => ?_)
                rw [j_X3_wasted_117_e]
                exact ih _ _ _ f_s10
            · rw [j_X3_wasted_117_e]
              exact ih _ _ _ f_s10
set_option maxRecDepth 100000 in
theorem fr_X3_wasted {F : Nat} (hF : 1000 ≤ F) {x1 : Int32} {x2 : Int32} {σ : Mem} : pf wf_17 (f_X3_wasted F x1 x2 σ) σ := by
  have f_σ : fr wf_17 σ σ := fr_rf
  rw [f_X3_wasted_e]
  refine pf_bnd (fr_X3_noLooker hF) (fun _ h => h.elim) f_σ (fun r1 s2 f_s2 => ?_)
  refine pf_bnd (fr_X3_notBelow hF) (fun _ h => h.elim) f_s2 (fun r3 s4 f_s4 => ?_)
  refine pf_bnd (fr_X3_firstOf hF) (fun _ h => h.elim) f_s4 (fun r5 s6 f_s6 => ?_)
  refine pf_ite ?_ ?_
  · exact fl_X3_wasted_30 hF _ _ _ _ f_s6
  · refine pf_bnd (fr_X3_refuse hF) (fun _ h => h) f_s6 (fun r7 s8 f_s8 => ?_)
    exact pf_ret f_s8
set_option maxRecDepth 100000 in
theorem fl_X3_ahead_27 {F : Nat} (hF : 1000 ≤ F) {x1 : Int32} {x2 : Int32} {τ : Mem} : ∀ (N : Nat) (x4 : Int32) (σ : Mem), fr wf_21 τ σ → pf wf_21 (lp_X3_ahead_27 F x1 x2 N x4 σ) τ := by
  intro N
  induction N with
  | zero => intro _ _ _; exact pf_none rfl
  | succ N ih =>
    intro x4 σ f_σ
    rw [lp_X3_ahead_27_s]
    refine pf_ite ?_ ?_
    · exact pf_ret f_σ
    · refine pf_bnd (fr_X0_lead hF wt_h1) (fun _ h => h.elim) f_σ (fun r1 s2 f_s2 => ?_)
      refine pf_ite ?_ ?_
      · exact ih _ _ f_s2
      · exact pf_ret f_s2
set_option maxRecDepth 100000 in
theorem fr_X3_ahead {F : Nat} (hF : 1000 ≤ F) {x1 : Int32} {x2 : Int32} {σ : Mem} : pf wf_21 (f_X3_ahead F x1 x2 σ) σ := by
  have f_σ : fr wf_21 σ σ := fr_rf
  rw [f_X3_ahead_e]
  refine pf_bnd (fr_X3_noPair hF) (fun _ h => h.elim) f_σ (fun r1 s2 f_s2 => ?_)
  refine pf_ite ?_ ?_
  · refine pf_bnd (fr_X0_reckon hF wt_h1) (fun c h => by unfold wf_8 at h; unfold wf_21; omega) f_s2 (fun r3 s4 f_s4 => ?_)
    exact fl_X3_ahead_27 hF _ _ _ f_s4
  · refine pf_bnd (fr_X3_refuse hF) (ww_6) f_s2 (fun r5 s6 f_s6 => ?_)
    exact pf_ret f_s6
set_option maxRecDepth 100000 in
theorem fl_X3_bestLaw_44 {F : Nat} (hF : 1000 ≤ F) {x1 : Int32} {x2 : Int32} {τ : Mem} : ∀ (N : Nat) (x4 : Int32) (x5 : Int32) (x6 : Int32) (σ : Mem), fr wf_33 τ σ → pf wf_33 (lp_X3_bestLaw_44 F x1 x2 N x4 x5 x6 σ) τ := by
  intro N
  induction N with
  | zero => intro _ _ _ _ _; exact pf_none rfl
  | succ N ih =>
    intro x4 x5 x6 σ f_σ
    rw [lp_X3_bestLaw_44_s]
    refine pf_ite ?_ ?_
    · exact pf_ret f_σ
    · refine pf_bnd (fr_X0_rule hF wt_h24) (fun c h => by unfold wf_7 at h; unfold wf_33; omega) f_σ (fun r1 s2 f_s2 => ?_)
      refine pf_bnd (fr_X0_wealth hF wt_h24) (fun _ h => h.elim) f_s2 (fun r3 s4 f_s4 => ?_)
      refine pf_ite ?_ ?_
      · rw [j_X3_bestLaw_86_e]
        exact ih _ _ _ _ f_s4
      · rw [j_X3_bestLaw_86_e]
        exact ih _ _ _ _ f_s4
set_option maxRecDepth 100000 in
theorem fr_X3_bestLaw {F : Nat} (hF : 1000 ≤ F) {x1 : Int32} {x2 : Int32} {σ : Mem} : pf wf_33 (f_X3_bestLaw F x1 x2 σ) σ := by
  have f_σ : fr wf_33 σ σ := fr_rf
  rw [f_X3_bestLaw_e]
  refine pf_bnd (fr_X3_noLookerFar hF) (fun _ h => h.elim) f_σ (fun r1 s2 f_s2 => ?_)
  refine pf_ite ?_ ?_
  · refine pf_bnd (fr_X0_takeFrom hF wt_h24 wt_h1) (fun c h => by unfold wf_0 at h; unfold wf_33; omega) f_s2 (fun r3 s4 f_s4 => ?_)
    refine pf_bnd (fr_X0_reckon hF wt_h24) (fun c h => by unfold wf_8 at h; unfold wf_33; omega) f_s4 (fun r5 s6 f_s6 => ?_)
    exact fl_X3_bestLaw_44 hF _ _ _ _ _ f_s6
  · refine pf_bnd (fr_X3_refuse hF) (ww_25) f_s2 (fun r7 s8 f_s8 => ?_)
    exact pf_ret f_s8
set_option maxRecDepth 100000 in
theorem fl_X3_newcomer_112 {F : Nat} (hF : 1000 ≤ F) {x3 : Int32} {x5 : Int32} {τ : Mem} : ∀ (N : Nat) (x6 : Int32) (σ : Mem), fr wf_33 τ σ → pf wf_33 (lp_X3_newcomer_112 F x3 x5 N x6 σ) τ := by
  intro N
  induction N with
  | zero => intro _ _ _; exact pf_none rfl
  | succ N ih =>
    intro x6 σ f_σ
    rw [lp_X3_newcomer_112_s]
    refine pf_ite ?_ ?_
    · exact pf_ret f_σ
    · refine pf_bnd (fr_X0_firstHolding hF wt_h24) (fun _ h => h.elim) f_σ (fun r1 s2 f_s2 => ?_)
      refine pf_ite ?_ ?_
      · exact ih _ _ f_s2
      · refine pf_ite ?_ ?_
        · exact pf_ret f_s2
        · exact pf_ret f_s2
set_option maxRecDepth 100000 in
theorem fr_X3_newcomer {F : Nat} (hF : 1000 ≤ F) {x1 : Int32} {x2 : Int32} {x3 : Int32} {σ : Mem} : pf wf_33 (f_X3_newcomer F x1 x2 x3 σ) σ := by
  have f_σ : fr wf_33 σ σ := fr_rf
  rw [f_X3_newcomer_e]
  refine pf_bnd (fr_X3_noPane hF) (fun _ h => h.elim) f_σ (fun r1 s2 f_s2 => ?_)
  refine pf_bnd (fr_X3_notBelow hF) (fun _ h => h.elim) f_s2 (fun r3 s4 f_s4 => ?_)
  refine pf_bnd (fr_X3_notBelow hF) (fun _ h => h.elim) f_s4 (fun r5 s6 f_s6 => ?_)
  refine pf_bnd (fr_X3_firstOf hF) (fun _ h => h.elim) f_s6 (fun r7 s8 f_s8 => ?_)
  refine pf_bnd (fr_X3_firstOf hF) (fun _ h => h.elim) f_s8 (fun r9 s10 f_s10 => ?_)
  refine pf_ite ?_ ?_
  · refine pf_ite ?_ ?_
    · rw [j_X3_newcomer_44_e]
      refine pf_ite ?_ ?_
      · refine pf_bnd (fr_X0_takeFrom hF wt_h24 wt_h1) (fun c h => by unfold wf_0 at h; unfold wf_33; omega) f_s10 (fun r11 s12 f_s12 => ?_)
        refine pf_bnd (fr_X0_addLooker hF wt_h24) (fun c h => by unfold wf_3 at h; unfold wf_33; omega) f_s12 (fun r13 s14 f_s14 => ?_)
        refine pf_lt (fun z15 _ => ?_)
        refine pf_bnd (fr_X0_post hF wt_h24) (fun c h => by unfold wf_4 at h; unfold wf_33; omega) f_s14 (fun r16 s17 f_s17 => ?_)
        refine pf_bnd (fr_X0_reckon hF wt_h24) (fun c h => by unfold wf_8 at h; unfold wf_33; omega) f_s17 (fun r18 s19 f_s19 => ?_)
        exact fl_X3_newcomer_112 hF _ _ _ f_s19
      · refine pf_bnd (fr_X3_refuse hF) (ww_25) f_s10 (fun r20 s21 f_s21 => ?_)
        exact pf_ret f_s21
    · rw [j_X3_newcomer_44_e]
      refine pf_ite ?_ ?_
      · refine pf_bnd (fr_X0_takeFrom hF wt_h24 wt_h1) (fun c h => by unfold wf_0 at h; unfold wf_33; omega) f_s10 (fun r22 s23 f_s23 => ?_)
        refine pf_bnd (fr_X0_addLooker hF wt_h24) (fun c h => by unfold wf_3 at h; unfold wf_33; omega) f_s23 (fun r24 s25 f_s25 => ?_)
        refine pf_lt (fun z26 _ => ?_)
        refine pf_bnd (fr_X0_post hF wt_h24) (fun c h => by unfold wf_4 at h; unfold wf_33; omega) f_s25 (fun r27 s28 f_s28 => ?_)
        refine pf_bnd (fr_X0_reckon hF wt_h24) (fun c h => by unfold wf_8 at h; unfold wf_33; omega) f_s28 (fun r29 s30 f_s30 => ?_)
        exact fl_X3_newcomer_112 hF _ _ _ f_s30
      · refine pf_bnd (fr_X3_refuse hF) (ww_25) f_s10 (fun r31 s32 f_s32 => ?_)
        exact pf_ret f_s32
  · rw [j_X3_newcomer_44_e]
    refine pf_ite ?_ ?_
    · refine pf_bnd (fr_X0_takeFrom hF wt_h24 wt_h1) (fun c h => by unfold wf_0 at h; unfold wf_33; omega) f_s10 (fun r33 s34 f_s34 => ?_)
      refine pf_bnd (fr_X0_addLooker hF wt_h24) (fun c h => by unfold wf_3 at h; unfold wf_33; omega) f_s34 (fun r35 s36 f_s36 => ?_)
      refine pf_lt (fun z37 _ => ?_)
      refine pf_bnd (fr_X0_post hF wt_h24) (fun c h => by unfold wf_4 at h; unfold wf_33; omega) f_s36 (fun r38 s39 f_s39 => ?_)
      refine pf_bnd (fr_X0_reckon hF wt_h24) (fun c h => by unfold wf_8 at h; unfold wf_33; omega) f_s39 (fun r40 s41 f_s41 => ?_)
      exact fl_X3_newcomer_112 hF _ _ _ f_s41
    · refine pf_bnd (fr_X3_refuse hF) (ww_25) f_s10 (fun r42 s43 f_s43 => ?_)
      exact pf_ret f_s43
set_option maxRecDepth 100000 in
theorem fl_X3_mostSeen_31 {F : Nat} (hF : 1000 ≤ F) {x1 : Int32} {τ : Mem} : ∀ (N : Nat) (x3 : Int32) (x4 : Int32) (x5 : Int32) (σ : Mem), fr wf_21 τ σ → pf wf_21 (lp_X3_mostSeen_31 F x1 N x3 x4 x5 σ) τ := by
  intro N
  induction N with
  | zero => intro _ _ _ _ _; exact pf_none rfl
  | succ N ih =>
    intro x3 x4 x5 σ f_σ
    rw [lp_X3_mostSeen_31_s]
    refine pf_ite ?_ ?_
    · refine pf_ite ?_ ?_
      · exact pf_ret f_σ
      · exact pf_ret f_σ
    · refine pf_bnd (fr_X0_gainOfAll hF wt_h1) (fun _ h => h.elim) f_σ (fun r1 s2 f_s2 => ?_)
      refine pf_ite ?_ ?_
      · rw [j_X3_mostSeen_63_e]
        exact ih _ _ _ _ f_s2
      · rw [j_X3_mostSeen_63_e]
        exact ih _ _ _ _ f_s2
set_option maxRecDepth 100000 in
theorem fr_X3_mostSeen {F : Nat} (hF : 1000 ≤ F) {x1 : Int32} {σ : Mem} : pf wf_21 (f_X3_mostSeen F x1 σ) σ := by
  have f_σ : fr wf_21 σ σ := fr_rf
  rw [f_X3_mostSeen_e]
  refine pf_bnd (fr_X3_notBelow hF) (fun _ h => h.elim) f_σ (fun r1 s2 f_s2 => ?_)
  refine pf_ite ?_ ?_
  · refine pf_bnd (fr_X0_reckon hF wt_h1) (fun c h => by unfold wf_8 at h; unfold wf_21; omega) f_s2 (fun r3 s4 f_s4 => ?_)
    exact fl_X3_mostSeen_31 hF _ _ _ _ _ f_s4
  · refine pf_bnd (fr_X3_refuse hF) (ww_6) f_s2 (fun r5 s6 f_s6 => ?_)
    exact pf_ret f_s6
set_option maxRecDepth 100000 in
theorem fl_X3_duels_30 {F : Nat} (hF : 1000 ≤ F) {x1 : Int32} {x2 : Int32} {τ : Mem} : ∀ (N : Nat) (x4 : Int32) (x5 : Int32) (σ : Mem), fr wf_21 τ σ → pf wf_21 (lp_X3_duels_30 F x1 x2 N x4 x5 σ) τ := by
  intro N
  induction N with
  | zero => intro _ _ _ _; exact pf_none rfl
  | succ N ih =>
    intro x4 x5 σ f_σ
    rw [lp_X3_duels_30_s]
    refine pf_ite ?_ ?_
    · exact pf_ret f_σ
    · refine pf_chk (fun v1 => ?_)
      refine pf_chk (fun v2 => ?_)
      refine pf_ite ?_ ?_
      · rw [j_X3_duels_70_e]
        exact ih _ _ _ f_σ
      · refine pf_chk (fun v3 => ?_)
        refine pf_ite ?_ ?_
        · rw [j_X3_duels_70_e]
          exact ih _ _ _ f_σ
        · rw [j_X3_duels_70_e]
          exact ih _ _ _ f_σ
set_option maxRecDepth 100000 in
theorem fr_X3_duels {F : Nat} (hF : 1000 ≤ F) {x1 : Int32} {x2 : Int32} {σ : Mem} : pf wf_21 (f_X3_duels F x1 x2 σ) σ := by
  have f_σ : fr wf_21 σ σ := fr_rf
  rw [f_X3_duels_e]
  refine pf_bnd (fr_X3_noPair hF) (fun _ h => h.elim) f_σ (fun r1 s2 f_s2 => ?_)
  refine pf_ite ?_ ?_
  · refine pf_bnd (fr_X0_reckon hF wt_h1) (fun c h => by unfold wf_8 at h; unfold wf_21; omega) f_s2 (fun r3 s4 f_s4 => ?_)
    exact fl_X3_duels_30 hF _ _ _ _ f_s4
  · refine pf_bnd (fr_X3_refuse hF) (ww_6) f_s2 (fun r5 s6 f_s6 => ?_)
    exact pf_ret f_s6
def wf_39 (c : Nat) : Prop := (85 ≤ c ∧ c ≤ 86) ∨ (2007 ≤ c ∧ c ≤ 2007)
theorem ww_31 : ∀ c, wf_17 c → wf_39 c := fun c h => Or.inl (⟨Nat.le_trans (by omega) (h).1, Nat.le_trans (h).2 (by omega)⟩)
set_option maxRecDepth 100000 in
theorem fr_X3_row {F : Nat} (hF : 1000 ≤ F) {x1 : Int32} {σ : Mem} : pf wf_39 (f_X3_row F x1 σ) σ := by
  have f_σ : fr wf_39 σ σ := fr_rf
  rw [f_X3_row_e]
  refine pf_bnd (fr_X3_outside hF) (fun _ h => h.elim) f_σ (fun r1 s2 f_s2 => ?_)
  refine pf_ite ?_ ?_
  · refine pf_ite ?_ ?_
    · rw [j_X3_row_24_e]
      refine pf_ite ?_ ?_
      · refine pf_chk (fun v3 => ?_)
        refine pf_up2 (c := 85) f_s2 (rfl) (Or.inl (⟨by omega, by omega⟩)) (fun s4 f_s4 => ?_)
        refine pf_up2 (c := 2007) f_s4 (rfl) (Or.inr (⟨by omega, by omega⟩)) (fun s5 f_s5 => ?_)
        exact pf_ret f_s5
      · refine pf_bnd (fr_X3_refuse hF) (ww_31) f_s2 (fun r6 s7 f_s7 => ?_)
        exact pf_ret f_s7
    · rw [j_X3_row_24_e]
      refine pf_ite ?_ ?_
      · refine pf_chk (fun v8 => ?_)
        refine pf_up2 (c := 85) f_s2 (rfl) (Or.inl (⟨by omega, by omega⟩)) (fun s9 f_s9 => ?_)
        refine pf_up2 (c := 2007) f_s9 (rfl) (Or.inr (⟨by omega, by omega⟩)) (fun s10 f_s10 => ?_)
        exact pf_ret f_s10
      · refine pf_bnd (fr_X3_refuse hF) (ww_31) f_s2 (fun r11 s12 f_s12 => ?_)
        exact pf_ret f_s12
  · rw [j_X3_row_24_e]
    refine pf_ite ?_ ?_
    · refine pf_chk (fun v13 => ?_)
      refine pf_up2 (c := 85) f_s2 (rfl) (Or.inl (⟨by omega, by omega⟩)) (fun s14 f_s14 => ?_)
      refine pf_up2 (c := 2007) f_s14 (rfl) (Or.inr (⟨by omega, by omega⟩)) (fun s15 f_s15 => ?_)
      exact pf_ret f_s15
    · refine pf_bnd (fr_X3_refuse hF) (ww_31) f_s2 (fun r16 s17 f_s17 => ?_)
      exact pf_ret f_s17
def wf_40 (c : Nat) : Prop := (19 ≤ c ∧ c ≤ 23) ∨ (86 ≤ c ∧ c ≤ 86) ∨ (2007 ≤ c ∧ c ≤ 2007)
theorem ww_32 : ∀ c, wf_17 c → wf_40 c := fun c h => Or.inr (Or.inl (h))
set_option maxRecDepth 100000 in
theorem fl_X3_judge_25 {F : Nat} (hF : 1000 ≤ F) {x1 : Int32} {τ : Mem} : ∀ (N : Nat) (x2 : Int32) (x3 : Int32) (σ : Mem), fr wf_40 τ σ → pf wf_40 (lp_X3_judge_25 F x1 N x2 x3 σ) τ := by
  intro N
  induction N with
  | zero => intro _ _ _ _; exact pf_none rfl
  | succ N ih =>
    intro x2 x3 σ f_σ
    rw [lp_X3_judge_25_s]
    refine pf_ite ?_ ?_
    · rw [j_X3_judge_68_e]
      refine pf_up2 (c := 2007) f_σ (rfl) (Or.inr (Or.inr (⟨by omega, by omega⟩))) (fun s1 f_s1 => ?_)
      exact pf_ret f_s1
    · refine pf_ite ?_ ?_
      · refine pf_chk (fun v2 => ?_)
        refine pf_bnd (fr_X0_holder hF wt_h1) (fun _ h => h.elim) f_σ (fun r3 s4 f_s4 => ?_)
        refine pf_bnd (fr_X3_inRow hF) (fun _ h => h.elim) f_s4 (fun r5 s6 f_s6 => ?_)
        refine pf_ite ?_ ?_
        · rw [j_X3_judge_62_e]
          exact ih _ _ _ f_s6
        · rw [j_X3_judge_62_e]
          exact ih _ _ _ f_s6
      · rw [j_X3_judge_68_e]
        refine pf_up2 (c := 2007) f_σ (rfl) (Or.inr (Or.inr (⟨by omega, by omega⟩))) (fun s7 f_s7 => ?_)
        exact pf_ret f_s7
set_option maxRecDepth 100000 in
theorem fr_X3_judge {F : Nat} (hF : 1000 ≤ F) {x1 : Int32} {σ : Mem} : pf wf_40 (f_X3_judge F x1 σ) σ := by
  have f_σ : fr wf_40 σ σ := fr_rf
  rw [f_X3_judge_e]
  refine pf_bnd (fr_X0_isView hF) (fun _ h => h.elim) f_σ (fun r1 s2 f_s2 => ?_)
  refine pf_ite ?_ ?_
  · refine pf_bnd (fr_X3_refuse hF) (ww_32) f_s2 (fun r3 s4 f_s4 => ?_)
    exact pf_ret f_s4
  · refine pf_bnd (fr_X0_reckon hF wt_h1) (fun c h => by unfold wf_8 at h; unfold wf_40; omega) f_s2 (fun r5 s6 f_s6 => ?_)
    exact fl_X3_judge_25 hF _ _ _ _ f_s6
def wf_41 (c : Nat) : Prop := (2007 ≤ c ∧ c ≤ 2007)
set_option maxRecDepth 100000 in
theorem fr_X3_clear {F : Nat} (hF : 1000 ≤ F) {σ : Mem} : pf wf_41 (f_X3_clear F σ) σ := by
  have f_σ : fr wf_41 σ σ := fr_rf
  rw [f_X3_clear_e]
  refine pf_up2 (c := 2007) f_σ (rfl) (⟨by omega, by omega⟩) (fun s1 f_s1 => ?_)
  exact pf_ret f_s1
set_option maxRecDepth 100000 in
theorem fr_X3_nextSeed {F : Nat} (hF : 1000 ≤ F) {x0 : Int32} {σ : Mem} : pf wf_1 (f_X3_nextSeed F x0 σ) σ := by
  have f_σ : fr wf_1 σ σ := fr_rf
  rw [f_X3_nextSeed_e]
  exact pf_ret f_σ
set_option maxRecDepth 100000 in
theorem fr_X3_drawBelow {F : Nat} (hF : 1000 ≤ F) {x0 : Int32} {x1 : Int32} {σ : Mem} : pf wf_1 (f_X3_drawBelow F x0 x1 σ) σ := by
  have f_σ : fr wf_1 σ σ := fr_rf
  rw [f_X3_drawBelow_e]
  refine pf_ite ?_ ?_
  · refine pf_nz ?_
    exact pf_ret f_σ
  · exact pf_ret f_σ
def wf_42 (c : Nat) : Prop := (29 ≤ c ∧ c ≤ 33)
set_option maxRecDepth 100000 in
theorem fl_X3_castRosters_32 {F : Nat} (hF : 1000 ≤ F) {x3 : Int32} {k4 : Int32 → Int32 → Mem → Option (Int32 × Mem)} {τ : Mem} (hk4 : ∀ (x2 : Int32) (x3 : Int32) (σ : Mem), fr wf_42 τ σ → pf wf_42 (k4 x2 x3 σ) τ) : ∀ (N : Nat) (x2 : Int32) (x4 : Int32) (σ : Mem), fr wf_42 τ σ → pf wf_42 (lp_X3_castRosters_32 F k4 x3 N x2 x4 σ) τ := by
  intro N
  induction N with
  | zero => intro _ _ _ _; exact pf_none rfl
  | succ N ih =>
    intro x2 x4 σ f_σ
    rw [lp_X3_castRosters_32_s]
    refine pf_ite ?_ ?_
    · exact hk4 _ _ _ f_σ
    · refine pf_bnd (fr_X3_nextSeed hF) (fun _ h => h.elim) f_σ (fun r1 s2 f_s2 => ?_)
      refine pf_bnd (fr_X3_drawBelow hF) (fun _ h => h.elim) f_s2 (fun r3 s4 f_s4 => ?_)
      refine pf_bnd (fr_X3_nextSeed hF) (fun _ h => h.elim) f_s4 (fun r5 s6 f_s6 => ?_)
      refine pf_lt (fun z7 _ => ?_)
      refine pf_bnd (fr_X3_drawBelow hF) (fun _ h => h.elim) f_s6 (fun r8 s9 f_s9 => ?_)
      refine pf_bnd (fr_X0_post hF wt_h24) (fun c h => by unfold wf_4 at h; unfold wf_42; omega) f_s9 (fun r10 s11 f_s11 => ?_)
      exact ih _ _ _ f_s11
set_option maxRecDepth 100000 in
theorem fl_X3_castRosters_4 {F : Nat} (hF : 1000 ≤ F) {τ : Mem} : ∀ (N : Nat) (x2 : Int32) (x3 : Int32) (σ : Mem), fr wf_42 τ σ → pf wf_42 (lp_X3_castRosters_4 F N x2 x3 σ) τ := by
  intro N
  induction N with
  | zero => intro _ _ _ _; exact pf_none rfl
  | succ N ih =>
    intro x2 x3 σ f_σ
    rw [lp_X3_castRosters_4_s]
    refine pf_ite ?_ ?_
    · exact pf_ret f_σ
    · refine pf_bnd (fr_X0_post hF wt_h24) (fun c h => by unfold wf_4 at h; unfold wf_42; omega) f_σ (fun r1 s2 f_s2 => ?_)
      exact fl_X3_castRosters_32 hF ih _ _ _ _ f_s2
set_option maxRecDepth 100000 in
theorem fr_X3_castRosters {F : Nat} (hF : 1000 ≤ F) {x1 : Int32} {σ : Mem} : pf wf_42 (f_X3_castRosters F x1 σ) σ := by
  have f_σ : fr wf_42 σ σ := fr_rf
  rw [f_X3_castRosters_e]
  exact fl_X3_castRosters_4 hF _ _ _ _ f_σ
theorem ww_33 : ∀ c, wf_42 c → wf_33 c := fun c h => Or.inr (Or.inl (h))
set_option maxRecDepth 100000 in
theorem fl_X3_lots_61 {F : Nat} (hF : 1000 ≤ F) {x1 : Int32} {x3 : Int32} {τ : Mem} : ∀ (N : Nat) (x5 : Int32) (x6 : Int32) (x7 : Int32) (σ : Mem), fr wf_33 τ σ → pf wf_33 (lp_X3_lots_61 F x1 x3 N x5 x6 x7 σ) τ := by
  intro N
  induction N with
  | zero => intro _ _ _ _ _; exact pf_none rfl
  | succ N ih =>
    intro x5 x6 x7 σ f_σ
    rw [lp_X3_lots_61_s]
    refine pf_ite ?_ ?_
    · exact pf_ret f_σ
    · refine pf_bnd (fr_X3_castRosters hF) (ww_33) f_σ (fun r1 s2 f_s2 => ?_)
      refine pf_bnd (fr_X0_reckon hF wt_h24) (fun c h => by unfold wf_8 at h; unfold wf_33; omega) f_s2 (fun r3 s4 f_s4 => ?_)
      refine pf_bnd (fr_X0_wealthiest hF wt_h24) (fun _ h => h.elim) f_s4 (fun r5 s6 f_s6 => ?_)
      refine pf_ite ?_ ?_
      · refine pf_bnd (fr_X0_held hF wt_h24) (fun _ h => h.elim) f_s6 (fun r7 s8 f_s8 => ?_)
        refine pf_bnd (fr_J6_bitCount_0f7a4 hF) (fun _ h => h.elim) f_s8 (fun r9 s10 f_s10 => ?_)
        rw [j_X3_lots_140_e]
        exact ih _ _ _ _ f_s10
      · refine pf_ite ?_ ?_
        · rw [j_X3_lots_140_e]
          exact ih _ _ _ _ f_s6
        · refine pf_bnd (fr_X0_wealth hF wt_h24) (fun _ h => h.elim) f_s6 (fun r11 s12 f_s12 => ?_)
          rw [j_X3_lots_140_e]
          exact ih _ _ _ _ f_s12
set_option maxRecDepth 100000 in
theorem fr_X3_lots {F : Nat} (hF : 1000 ≤ F) {x1 : Int32} {x2 : Int32} {x3 : Int32} {σ : Mem} : pf wf_33 (f_X3_lots F x1 x2 x3 σ) σ := by
  have f_σ : fr wf_33 σ σ := fr_rf
  rw [f_X3_lots_e]
  refine pf_bnd (fr_X3_outside hF) (fun _ h => h.elim) f_σ (fun r1 s2 f_s2 => ?_)
  refine pf_bnd (fr_X3_notBelow hF) (fun _ h => h.elim) f_s2 (fun r3 s4 f_s4 => ?_)
  refine pf_bnd (fr_X3_firstOf hF) (fun _ h => h.elim) f_s4 (fun r5 s6 f_s6 => ?_)
  refine pf_ite ?_ ?_
  · refine pf_ite ?_ ?_
    · exact pf_ret f_s6
    · refine pf_bnd (fr_X0_takeFrom hF wt_h24 wt_h1) (fun c h => by unfold wf_0 at h; unfold wf_33; omega) f_s6 (fun r7 s8 f_s8 => ?_)
      exact fl_X3_lots_61 hF _ _ _ _ _ f_s8
  · refine pf_bnd (fr_X3_refuse hF) (ww_25) f_s6 (fun r9 s10 f_s10 => ?_)
    exact pf_ret f_s10
def wf_43 (c : Nat) : Prop := (47 ≤ c ∧ c ≤ 50) ∨ (52 ≤ c ∧ c ≤ 56) ∨ (58 ≤ c ∧ c ≤ 63) ∨ (2003 ≤ c ∧ c ≤ 2003)
set_option maxRecDepth 100000 in
theorem fr_X3_image {F : Nat} (hF : 1000 ≤ F) {σ : Mem} : pf wf_43 (f_X3_image F σ) σ := by
  have f_σ : fr wf_43 σ σ := fr_rf
  rw [f_X3_image_e]
  refine pf_bnd (fr_X0_takeFrom hF wt_h47 wt_h1) (fun c h => by unfold wf_0 at h; unfold wf_43; omega) f_σ (fun r1 s2 f_s2 => ?_)
  refine pf_up2 (c := 2003) f_s2 (rfl) (Or.inr (Or.inr (Or.inr (⟨by omega, by omega⟩)))) (fun s3 f_s3 => ?_)
  exact pf_ret f_s3
def wf_44 (c : Nat) : Prop := (1 ≤ c ∧ c ≤ 4) ∨ (6 ≤ c ∧ c ≤ 10) ∨ (12 ≤ c ∧ c ≤ 17) ∨ (86 ≤ c ∧ c ≤ 86) ∨ (3005 ≤ c ∧ c ≤ 3005)
theorem ww_34 : ∀ c, wf_17 c → wf_44 c := fun c h => Or.inr (Or.inr (Or.inr (Or.inl (h))))
theorem ww_35 : ∀ c, wf_12 c → wf_44 c := fun c h => Or.inr (Or.inr (Or.inr (Or.inr (h))))
set_option maxRecDepth 100000 in
theorem fr_X3_restore {F : Nat} (hF : 1000 ≤ F) {σ : Mem} : pf wf_44 (f_X3_restore F σ) σ := by
  have f_σ : fr wf_44 σ σ := fr_rf
  rw [f_X3_restore_e]
  refine pf_ite ?_ ?_
  · refine pf_bnd (fr_X3_refuse hF) (ww_34) f_σ (fun r1 s2 f_s2 => ?_)
    exact pf_ret f_s2
  · refine pf_bnd (fr_X0_takeFrom hF wt_h1 wt_h47) (fun c h => by unfold wf_0 at h; unfold wf_44; omega) f_σ (fun r3 s4 f_s4 => ?_)
    refine pf_bnd (fr_X2_forget hF) (ww_35) f_s4 (fun r5 s6 f_s6 => ?_)
    exact pf_ret f_s6
set_option maxRecDepth 100000 in
theorem fr_X3_count {F : Nat} (hF : 1000 ≤ F) {x1 : Int32} {σ : Mem} : pf wf_38 (f_X3_count F x1 σ) σ := by
  have f_σ : fr wf_38 σ σ := fr_rf
  rw [f_X3_count_e]
  refine pf_ite ?_ ?_
  · rw [j_X3_count_22_e]
    refine pf_ite ?_ ?_
    · exact pf_ret f_σ
    · refine pf_ite ?_ ?_
      · exact pf_ret f_σ
      · refine pf_ite ?_ ?_
        · exact pf_ret f_σ
        · refine pf_ite ?_ ?_
          · exact pf_ret f_σ
          · refine pf_ite ?_ ?_
            · refine pf_bnd (fr_X0_reckon hF wt_h1) (fun c h => by unfold wf_8 at h; unfold wf_38; omega) f_σ (fun r1 s2 f_s2 => ?_)
              refine pf_bnd (fr_X0_held hF wt_h1) (fun _ h => h.elim) f_s2 (fun r3 s4 f_s4 => ?_)
              refine pf_bnd (fr_J6_bitCount_0f7a4 hF) (fun _ h => h.elim) f_s4 (fun r5 s6 f_s6 => ?_)
              exact pf_ret f_s6
            · refine pf_ite ?_ ?_
              · refine pf_bnd (fr_X0_allShown hF wt_h1) (fun _ h => h.elim) f_σ (fun r7 s8 f_s8 => ?_)
                refine pf_bnd (fr_J6_bitCount_0f7a4 hF) (fun _ h => h.elim) f_s8 (fun r9 s10 f_s10 => ?_)
                exact pf_ret f_s10
              · refine pf_ite ?_ ?_
                · refine pf_bnd (fr_X0_hoursOfAll hF wt_h1) (fun _ h => h.elim) f_σ (fun r11 s12 f_s12 => ?_)
                  exact pf_ret f_s12
                · refine pf_ite ?_ ?_
                  · exact pf_ret f_σ
                  · refine pf_ite ?_ ?_
                    · exact pf_ret f_σ
                    · refine pf_ite ?_ ?_
                      · exact pf_ret f_σ
                      · exact pf_ret f_σ
  · refine pf_ite ?_ ?_
    · rw [j_X3_count_22_e]
      refine pf_ite ?_ ?_
      · exact pf_ret f_σ
      · refine pf_ite ?_ ?_
        · exact pf_ret f_σ
        · refine pf_ite ?_ ?_
          · exact pf_ret f_σ
          · refine pf_ite ?_ ?_
            · exact pf_ret f_σ
            · refine pf_ite ?_ ?_
              · refine pf_bnd (fr_X0_reckon hF wt_h1) (fun c h => by unfold wf_8 at h; unfold wf_38; omega) f_σ (fun r13 s14 f_s14 => ?_)
                refine pf_bnd (fr_X0_held hF wt_h1) (fun _ h => h.elim) f_s14 (fun r15 s16 f_s16 => ?_)
                refine pf_bnd (fr_J6_bitCount_0f7a4 hF) (fun _ h => h.elim) f_s16 (fun r17 s18 f_s18 => ?_)
                exact pf_ret f_s18
              · refine pf_ite ?_ ?_
                · refine pf_bnd (fr_X0_allShown hF wt_h1) (fun _ h => h.elim) f_σ (fun r19 s20 f_s20 => ?_)
                  refine pf_bnd (fr_J6_bitCount_0f7a4 hF) (fun _ h => h.elim) f_s20 (fun r21 s22 f_s22 => ?_)
                  exact pf_ret f_s22
                · refine pf_ite ?_ ?_
                  · refine pf_bnd (fr_X0_hoursOfAll hF wt_h1) (fun _ h => h.elim) f_σ (fun r23 s24 f_s24 => ?_)
                    exact pf_ret f_s24
                  · refine pf_ite ?_ ?_
                    · exact pf_ret f_σ
                    · refine pf_ite ?_ ?_
                      · exact pf_ret f_σ
                      · refine pf_ite ?_ ?_
                        · exact pf_ret f_σ
                        · exact pf_ret f_σ
    · refine pf_chk (fun v25 => ?_)
      exact pf_ret f_σ
