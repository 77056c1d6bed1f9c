set_option maxRecDepth 100000 in
theorem fl_X3_share_40 {F : Nat} (hF : 1000 ≤ F) {x1 : Int32} {x2 : Int32} {x3 : Int32} {τ : Mem} : ∀ (N : Nat) (y5 : Int64) (x7 : Int32) (σ : Mem), fr wf_17 τ σ → pf wf_17 (lp_X3_share_40 F x1 x2 x3 N y5 x7 σ) τ := by
  intro N
  induction N with
  | zero => intro _ _ _ _; exact pf_none rfl
  | succ N ih =>
    intro y5 x7 σ f_σ
    rw [lp_X3_share_40_s]
    refine pf_ite ?_ ?_
    · refine pf_chk (fun v1 => ?_)
      refine pf_chk (fun v2 => ?_)
      refine pf_bnd (fr_X3_fraction hF) (fun _ h => h.elim) f_σ (fun r3 s4 f_s4 => ?_)
      exact pf_ret f_s4
    · refine pf_chk (fun v5 => ?_)
      refine pf_chk (fun v6 => ?_)
      refine pf_lt (fun z7 _ => ?_)
      exact ih _ _ _ f_σ
set_option maxRecDepth 100000 in
theorem fr_X3_share {F : Nat} (hF : 1000 ≤ F) {x1 : Int32} {x2 : Int32} {x3 : Int32} {σ : Mem} : pf wf_17 (f_X3_share F x1 x2 x3 σ) σ := by
  have f_σ : fr wf_17 σ σ := fr_rf
  rw [f_X3_share_e]
  refine pf_bnd (fr_X3_noLooker hF) (fun _ h => h.elim) f_σ (fun r1 s2 f_s2 => ?_)
  refine pf_bnd (fr_X3_noView hF) (fun _ h => h.elim) f_s2 (fun r3 s4 f_s4 => ?_)
  refine pf_bnd (fr_X3_firstOf hF) (fun _ h => h.elim) f_s4 (fun r5 s6 f_s6 => ?_)
  refine pf_bnd (fr_X3_notBelow hF) (fun _ h => h.elim) f_s6 (fun r7 s8 f_s8 => ?_)
  refine pf_bnd (fr_X3_firstOf hF) (fun _ h => h.elim) f_s8 (fun r9 s10 f_s10 => ?_)
  refine pf_ite ?_ ?_
  · exact fl_X3_share_40 hF _ _ _ _ f_s10
  · refine pf_bnd (fr_X3_refuseLong hF) (fun _ h => h) f_s10 (fun r11 s12 f_s12 => ?_)
    exact pf_ret f_s12
def wf_35 (c : Nat) : Prop := (24 ≤ c ∧ c ≤ 27) ∨ (29 ≤ c ∧ c ≤ 33) ∨ (35 ≤ c ∧ c ≤ 40) ∨ (42 ≤ c ∧ c ≤ 46) ∨ (88 ≤ c ∧ c ≤ 93) ∨ (95 ≤ c ∧ c ≤ 100)
set_option maxRecDepth 100000 in
theorem fl_X3_fillPays_42 {F : Nat} (hF : 1000 ≤ F) {x1 : Int32} {x2 : Int32} {x3 : Int32} {x4 : Int32} {x5 : Int32} {k14 : Int32 → Mem → Option (Unit × Mem)} {τ : Mem} (hk14 : ∀ (x5 : Int32) (σ : Mem), fr wf_35 τ σ → pf wf_35 (k14 x5 σ) τ) : ∀ (N : Nat) (x6 : Int32) (σ : Mem), fr wf_35 τ σ → pf wf_35 (lp_X3_fillPays_42 F k14 x1 x2 x3 x4 x5 N x6 σ) τ := by
  intro N
  induction N with
  | zero => intro _ _ _; exact pf_none rfl
  | succ N ih =>
    intro x6 σ f_σ
    rw [lp_X3_fillPays_42_s]
    refine pf_ite ?_ ?_
    · exact hk14 _ _ f_σ
    · refine pf_bnd (fr_X0_post hF wt_h24) (fun c h => by unfold wf_4 at h; unfold wf_35; omega) f_σ (fun r1 s2 f_s2 => ?_)
      refine pf_bnd (fr_X0_reckon hF wt_h24) (fun c h => by unfold wf_8 at h; unfold wf_35; omega) f_s2 (fun r3 s4 f_s4 => ?_)
      refine pf_chk (fun v5 => ?_)
      refine pf_bnd (fr_X0_wealth hF wt_h24) (fun _ h => h.elim) f_s4 (fun r6 s7 f_s7 => ?_)
      refine pf_chk (fun v8 => ?_)
      refine pf_up2 f_s7 (wcid_hi (by omega)) (Or.inr (Or.inr (Or.inr (Or.inr (Or.inl (⟨by omega, by omega⟩)))))) (fun s9 f_s9 => ?_)
      refine pf_bnd (fr_X0_wealth hF wt_h24) (fun _ h => h.elim) f_s9 (fun r10 s11 f_s11 => ?_)
      refine pf_up2 f_s11 (wcid_hi (by omega)) (Or.inr (Or.inr (Or.inr (Or.inr (Or.inr (⟨by omega, by omega⟩)))))) (fun s12 f_s12 => ?_)
      exact ih _ _ f_s12
set_option maxRecDepth 100000 in
theorem fl_X3_fillPays_14 {F : Nat} (hF : 1000 ≤ F) {x1 : Int32} {x2 : Int32} {x3 : Int32} {x4 : Int32} {τ : Mem} : ∀ (N : Nat) (x5 : Int32) (σ : Mem), fr wf_35 τ σ → pf wf_35 (lp_X3_fillPays_14 F x1 x2 x3 x4 N x5 σ) τ := by
  intro N
  induction N with
  | zero => intro _ _ _; exact pf_none rfl
  | succ N ih =>
    intro x5 σ f_σ
    rw [lp_X3_fillPays_14_s]
    refine pf_ite ?_ ?_
    · exact pf_ret f_σ
    · refine pf_bnd (fr_X0_post hF wt_h24) (fun c h => by unfold wf_4 at h; unfold wf_35; omega) f_σ (fun r1 s2 f_s2 => ?_)
      exact fl_X3_fillPays_42 hF ih _ _ _ f_s2
set_option maxRecDepth 100000 in
theorem fr_X3_fillPays {F : Nat} (hF : 1000 ≤ F) {x1 : Int32} {x2 : Int32} {x3 : Int32} {x4 : Int32} {σ : Mem} : pf wf_35 (f_X3_fillPays F x1 x2 x3 x4 σ) σ := by
  have f_σ : fr wf_35 σ σ := fr_rf
  rw [f_X3_fillPays_e]
  refine pf_bnd (fr_X0_takeFrom hF wt_h24 wt_h1) (fun c h => by unfold wf_0 at h; unfold wf_35; omega) f_σ (fun r1 s2 f_s2 => ?_)
  exact fl_X3_fillPays_14 hF _ _ _ f_s2
set_option maxRecDepth 100000 in
theorem fl_X3_bothContent_2 {F : Nat} (hF : 1000 ≤ F) {x1 : Int32} {x2 : Int32} {τ : Mem} : ∀ (N : Nat) (x3 : Int32) (σ : Mem), fr wf_1 τ σ → pf wf_1 (lp_X3_bothContent_2 F x1 x2 N x3 σ) τ := by
  intro N
  induction N with
  | zero => intro _ _ _; exact pf_none rfl
  | succ N ih =>
    intro x3 σ f_σ
    rw [lp_X3_bothContent_2_s]
    refine pf_ite ?_ ?_
    · exact pf_ret f_σ
    · refine pf_chk (fun v1 => ?_)
      refine pf_chk (fun v2 => ?_)
      refine pf_chk (fun v3 => ?_)
      refine pf_ite ?_ ?_
      · rw [j_X3_bothContent_51_e]
        exact pf_ret f_σ
      · refine pf_ite ?_ ?_
        · exact ih _ _ f_σ
        · rw [j_X3_bothContent_51_e]
          exact pf_ret f_σ
set_option maxRecDepth 100000 in
theorem fr_X3_bothContent {F : Nat} (hF : 1000 ≤ F) {x1 : Int32} {x2 : Int32} {σ : Mem} : pf wf_1 (f_X3_bothContent F x1 x2 σ) σ := by
  have f_σ : fr wf_1 σ σ := fr_rf
  rw [f_X3_bothContent_e]
  exact fl_X3_bothContent_2 hF _ _ _ f_σ
def wf_36 (c : Nat) : Prop := (24 ≤ c ∧ c ≤ 27) ∨ (29 ≤ c ∧ c ≤ 33) ∨ (35 ≤ c ∧ c ≤ 40) ∨ (42 ≤ c ∧ c ≤ 46) ∨ (86 ≤ c ∧ c ≤ 86) ∨ (88 ≤ c ∧ c ≤ 93) ∨ (95 ≤ c ∧ c ≤ 100)
theorem ww_27 : ∀ c, wf_35 c → wf_36 c := fun c h => h.elim (fun a => Or.inl (a)) (fun b0 => b0.elim (fun a => Or.inr (Or.inl (a))) (fun b1 => b1.elim (fun a => Or.inr (Or.inr (Or.inl (a)))) (fun b2 => b2.elim (fun a => Or.inr (Or.inr (Or.inr (Or.inl (a))))) (fun b3 => b3.elim (fun a => Or.inr (Or.inr (Or.inr (Or.inr (Or.inr (Or.inl (a))))))) (fun b4 => Or.inr (Or.inr (Or.inr (Or.inr (Or.inr (Or.inr (b4)))))))))))
theorem ww_28 : ∀ c, wf_17 c → wf_36 c := fun c h => Or.inr (Or.inr (Or.inr (Or.inr (Or.inl (h)))))
set_option maxRecDepth 100000 in
theorem fl_X3_two_66 {F : Nat} (hF : 1000 ≤ F) {x6 : Int32} {k51 : Int32 → Mem → Option (Int32 × Mem)} {τ : Mem} (hk51 : ∀ (x6 : Int32) (σ : Mem), fr wf_36 τ σ → pf wf_36 (k51 x6 σ) τ) : ∀ (N : Nat) (x7 : Int32) (σ : Mem), fr wf_36 τ σ → pf wf_36 (lp_X3_two_66 F k51 x6 N x7 σ) τ := by
  intro N
  induction N with
  | zero => intro _ _ _; exact pf_none rfl
  | succ N ih =>
    intro x7 σ f_σ
    rw [lp_X3_two_66_s]
    refine pf_ite ?_ ?_
    · exact hk51 _ _ f_σ
    · refine pf_bnd (fr_X3_bothContent hF) (fun _ h => h.elim) f_σ (fun r1 s2 f_s2 => ?_)
      refine pf_ite ?_ ?_
      · exact ih _ _ f_s2
      · exact pf_ret f_s2
set_option maxRecDepth 100000 in
theorem fl_X3_two_51 {F : Nat} (hF : 1000 ≤ F) {τ : Mem} : ∀ (N : Nat) (x6 : Int32) (σ : Mem), fr wf_36 τ σ → pf wf_36 (lp_X3_two_51 F N x6 σ) τ := by
  intro N
  induction N with
  | zero => intro _ _ _; exact pf_none rfl
  | succ N ih =>
    intro x6 σ f_σ
    rw [lp_X3_two_51_s]
    refine pf_ite ?_ ?_
    · exact pf_ret f_σ
    · exact fl_X3_two_66 hF ih _ _ _ f_σ
set_option maxRecDepth 100000 in
theorem fr_X3_two {F : Nat} (hF : 1000 ≤ F) {x1 : Int32} {x2 : Int32} {x3 : Int32} {x4 : Int32} {σ : Mem} : pf wf_36 (f_X3_two F x1 x2 x3 x4 σ) σ := by
  have f_σ : fr wf_36 σ σ := fr_rf
  rw [f_X3_two_e]
  refine pf_bnd (fr_X3_noPair hF) (fun _ h => h.elim) f_σ (fun r1 s2 f_s2 => ?_)
  refine pf_bnd (fr_X3_noHour hF) (fun _ h => h.elim) f_s2 (fun r3 s4 f_s4 => ?_)
  refine pf_bnd (fr_X3_firstOf hF) (fun _ h => h.elim) f_s4 (fun r5 s6 f_s6 => ?_)
  refine pf_bnd (fr_X3_outside hF) (fun _ h => h.elim) f_s6 (fun r7 s8 f_s8 => ?_)
  refine pf_bnd (fr_X3_firstOf hF) (fun _ h => h.elim) f_s8 (fun r9 s10 f_s10 => ?_)
  refine pf_ite ?_ ?_
  · refine pf_bnd (fr_X3_fillPays hF) (ww_27) f_s10 (fun r11 s12 f_s12 => ?_)
    exact fl_X3_two_51 hF _ _ _ f_s12
  · refine pf_bnd (fr_X3_refuse hF) (ww_28) f_s10 (fun r13 s14 f_s14 => ?_)
    exact pf_ret f_s14
set_option maxRecDepth 100000 in
theorem fr_X3_inRow {F : Nat} (hF : 1000 ≤ F) {x0 : Int32} {σ : Mem} : pf wf_1 (f_X3_inRow F x0 σ) σ := by
  have f_σ : fr wf_1 σ σ := fr_rf
  rw [f_X3_inRow_e]
  refine pf_ite ?_ ?_
  · exact pf_ret f_σ
  · exact pf_ret f_σ
set_option maxRecDepth 100000 in
theorem fl_X3_rowTells_2 {F : Nat} (hF : 1000 ≤ F) {x1 : Int32} {τ : Mem} : ∀ (N : Nat) (x2 : Int32) (σ : Mem), fr wf_1 τ σ → pf wf_1 (lp_X3_rowTells_2 F x1 N x2 σ) τ := by
  intro N
  induction N with
  | zero => intro _ _ _; exact pf_none rfl
  | succ N ih =>
    intro x2 σ f_σ
    rw [lp_X3_rowTells_2_s]
    refine pf_ite ?_ ?_
    · rw [j_X3_rowTells_45_e]
      exact pf_ret f_σ
    · refine pf_ite ?_ ?_
      · rw [j_X3_rowTells_45_e]
        exact pf_ret f_σ
      · refine pf_chk (fun v1 => ?_)
        refine pf_bnd (fr_X0_holder hF wt_h24) (fun _ h => h.elim) f_σ (fun r2 s3 f_s3 => ?_)
        refine pf_bnd (fr_X3_inRow hF) (fun _ h => h.elim) f_s3 (fun r4 s5 f_s5 => ?_)
        refine pf_ite ?_ ?_
        · exact ih _ _ f_s5
        · exact pf_ret f_s5
set_option maxRecDepth 100000 in
theorem fr_X3_rowTells {F : Nat} (hF : 1000 ≤ F) {x1 : Int32} {σ : Mem} : pf wf_1 (f_X3_rowTells F x1 σ) σ := by
  have f_σ : fr wf_1 σ σ := fr_rf
  rw [f_X3_rowTells_e]
  exact fl_X3_rowTells_2 hF _ _ _ f_σ
set_option maxRecDepth 100000 in
theorem fl_X3_whichLaw_30 {F : Nat} (hF : 1000 ≤ F) {τ : Mem} : ∀ (N : Nat) (x2 : Int32) (x3 : Int32) (σ : Mem), fr wf_33 τ σ → pf wf_33 (lp_X3_whichLaw_30 F N x2 x3 σ) τ := by
  intro N
  induction N with
  | zero => intro _ _ _ _; exact pf_none rfl
  | succ N ih =>
    intro x2 x3 σ f_σ
    rw [lp_X3_whichLaw_30_s]
    refine pf_ite ?_ ?_
    · exact pf_ret f_σ
    · refine pf_bnd (fr_X0_rule hF wt_h24) (fun c h => by unfold wf_7 at h; unfold wf_33; omega) f_σ (fun r1 s2 f_s2 => ?_)
      refine pf_bnd (fr_X0_reckon hF wt_h24) (fun c h => by unfold wf_8 at h; unfold wf_33; omega) f_s2 (fun r3 s4 f_s4 => ?_)
      refine pf_bnd (fr_X3_rowTells hF) (fun _ h => h.elim) f_s4 (fun r5 s6 f_s6 => ?_)
      refine pf_ite ?_ ?_
      · rw [j_X3_whichLaw_65_e]
        exact ih _ _ _ f_s6
      · refine pf_lt (fun z7 _ => ?_)
        rw [j_X3_whichLaw_65_e]
        exact ih _ _ _ f_s6
set_option maxRecDepth 100000 in
theorem fr_X3_whichLaw {F : Nat} (hF : 1000 ≤ F) {σ : Mem} : pf wf_33 (f_X3_whichLaw F σ) σ := by
  have f_σ : fr wf_33 σ σ := fr_rf
  rw [f_X3_whichLaw_e]
  refine pf_bnd (fr_X3_longRow hF) (fun _ h => h.elim) f_σ (fun r1 s2 f_s2 => ?_)
  refine pf_ite ?_ ?_
  · refine pf_bnd (fr_X0_takeFrom hF wt_h24 wt_h1) (fun c h => by unfold wf_0 at h; unfold wf_33; omega) f_s2 (fun r3 s4 f_s4 => ?_)
    exact fl_X3_whichLaw_30 hF _ _ _ _ f_s4
  · refine pf_bnd (fr_X3_refuse hF) (ww_25) f_s2 (fun r5 s6 f_s6 => ?_)
    exact pf_ret f_s6
set_option maxRecDepth 100000 in
theorem fl_X3_whichKind_64 {F : Nat} (hF : 1000 ≤ F) {x1 : Int32} {x2 : Int32} {x3 : Int32} {x6 : Int32} {τ : Mem} : ∀ (N : Nat) (x5 : Int32) (x7 : Int32) (σ : Mem), fr wf_33 τ σ → pf wf_33 (lp_X3_whichKind_64 F x1 x2 x3 x6 N x5 x7 σ) τ := by
  intro N
  induction N with
  | zero => intro _ _ _ _; exact pf_none rfl
  | succ N ih =>
    intro x5 x7 σ f_σ
    rw [lp_X3_whichKind_64_s]
    refine pf_ite ?_ ?_
    · exact pf_ret f_σ
    · refine pf_ite ?_ ?_
      · refine pf_chk (fun v1 => ?_)
        refine pf_up2 f_σ (wcid_lo (by omega) (by omega)) (Or.inl (⟨by omega, by omega⟩)) (fun s2 f_s2 => ?_)
        rw [j_X3_whichKind_100_e]
        refine pf_bnd (fr_X0_reckon hF wt_h24) (fun c h => by unfold wf_8 at h; unfold wf_33; omega) f_s2 (fun r3 s4 f_s4 => ?_)
        refine pf_bnd (fr_X3_rowTells hF) (fun _ h => h.elim) f_s4 (fun r5 s6 f_s6 => ?_)
        refine pf_ite ?_ ?_
        · rw [j_X3_whichKind_124_e]
          exact ih _ _ _ f_s6
        · refine pf_lt (fun z7 _ => ?_)
          rw [j_X3_whichKind_124_e]
          exact ih _ _ _ f_s6
      · refine pf_chk (fun v8 => ?_)
        refine pf_up2 f_σ (wcid_lo (by omega) (by omega)) (Or.inl (⟨by omega, by omega⟩)) (fun s9 f_s9 => ?_)
        rw [j_X3_whichKind_100_e]
        refine pf_bnd (fr_X0_reckon hF wt_h24) (fun c h => by unfold wf_8 at h; unfold wf_33; omega) f_s9 (fun r10 s11 f_s11 => ?_)
        refine pf_bnd (fr_X3_rowTells hF) (fun _ h => h.elim) f_s11 (fun r12 s13 f_s13 => ?_)
        refine pf_ite ?_ ?_
        · rw [j_X3_whichKind_124_e]
          exact ih _ _ _ f_s13
        · refine pf_lt (fun z14 _ => ?_)
          rw [j_X3_whichKind_124_e]
          exact ih _ _ _ f_s13
set_option maxRecDepth 100000 in
theorem fr_X3_whichKind {F : Nat} (hF : 1000 ≤ F) {x1 : Int32} {x2 : Int32} {x3 : Int32} {σ : Mem} : pf wf_33 (f_X3_whichKind F x1 x2 x3 σ) σ := by
  have f_σ : fr wf_33 σ σ := fr_rf
  rw [f_X3_whichKind_e]
  refine pf_bnd (fr_X3_noLookerFar hF) (fun _ h => h.elim) f_σ (fun r1 s2 f_s2 => ?_)
  refine pf_bnd (fr_X3_notBelow hF) (fun _ h => h.elim) f_s2 (fun r3 s4 f_s4 => ?_)
  refine pf_bnd (fr_X3_longRow hF) (fun _ h => h.elim) f_s4 (fun r5 s6 f_s6 => ?_)
  refine pf_bnd (fr_X3_firstOf hF) (fun _ h => h.elim) f_s6 (fun r7 s8 f_s8 => ?_)
  refine pf_bnd (fr_X3_firstOf hF) (fun _ h => h.elim) f_s8 (fun r9 s10 f_s10 => ?_)
  refine pf_ite ?_ ?_
  · refine pf_bnd (fr_X0_takeFrom hF wt_h24 wt_h1) (fun c h => by unfold wf_0 at h; unfold wf_33; omega) f_s10 (fun r11 s12 f_s12 => ?_)
    refine pf_ite ?_ ?_
    · rw [j_X3_whichKind_59_e]
      exact fl_X3_whichKind_64 hF _ _ _ _ f_s12
    · rw [j_X3_whichKind_59_e]
      exact fl_X3_whichKind_64 hF _ _ _ _ f_s12
  · refine pf_bnd (fr_X3_refuse hF) (ww_25) f_s10 (fun r13 s14 f_s14 => ?_)
    exact pf_ret f_s14
def wf_37 (c : Nat) : Prop := (35 ≤ c ∧ c ≤ 39) ∨ (42 ≤ c ∧ c ≤ 46)
set_option maxRecDepth 100000 in
theorem fr_X3_ownsWell {F : Nat} (hF : 1000 ≤ F) {x1 : Int32} {x2 : Int32} {x3 : Int32} {x4 : Int32} {σ : Mem} : pf wf_37 (f_X3_ownsWell F x1 x2 x3 x4 σ) σ := by
  have f_σ : fr wf_37 σ σ := fr_rf
  rw [f_X3_ownsWell_e]
  refine pf_chk (fun v1 => ?_)
  refine pf_bnd (fr_X0_behind hF wt_h1) (fun _ h => h.elim) f_σ (fun r2 s3 f_s3 => ?_)
  refine pf_chk (fun v4 => ?_)
  refine pf_up2 f_s3 (wcid_lo (by omega) (by omega)) (Or.inl (⟨by omega, by omega⟩)) (fun s5 f_s5 => ?_)
  refine pf_up2 f_s5 (wcid_lo (by omega) (by omega)) (Or.inr (⟨by omega, by omega⟩)) (fun s6 f_s6 => ?_)
  refine pf_bnd (fr_X0_holder hF wt_h24) (fun _ h => h.elim) f_s6 (fun r7 s8 f_s8 => ?_)
  refine pf_ite ?_ ?_
  · exact pf_ret f_s8
  · exact pf_ret f_s8
theorem ww_29 : ∀ c, wf_37 c → wf_31 c := fun c h => h.elim (fun a => Or.inr (Or.inr (Or.inl (⟨Nat.le_trans (by omega) (a).1, Nat.le_trans (a).2 (by omega)⟩)))) (fun b0 => Or.inr (Or.inr (Or.inr (Or.inl (b0)))))
set_option maxRecDepth 100000 in
theorem fl_X3_ill_117 {F : Nat} (hF : 1000 ≤ F) {x1 : Int32} {x2 : Int32} {x3 : Int32} {x4 : Int32} {x5 : Int32} {τ : Mem} : ∀ (N : Nat) (y7 : Int64) (y9 : Int64) (y11 : Int64) (x13 : Int32) (σ : Mem), fr wf_31 τ σ → pf wf_31 (lp_X3_ill_117 F x1 x2 x3 x4 x5 N y7 y9 y11 x13 σ) τ := by
  intro N
  induction N with
  | zero => intro _ _ _ _ _ _; exact pf_none rfl
  | succ N ih =>
    intro y7 y9 y11 x13 σ f_σ
    rw [lp_X3_ill_117_s]
    refine pf_ite ?_ ?_
    · refine pf_bnd (fr_X3_fraction hF) (fun _ h => h.elim) f_σ (fun r1 s2 f_s2 => ?_)
      exact pf_ret f_s2
    · refine pf_bnd (fr_X3_ownsWell hF) (ww_29) f_σ (fun r3 s4 f_s4 => ?_)
      refine pf_ite ?_ ?_
      · rw [j_X3_ill_142_e]
        refine pf_nzl ?_
        refine pf_lt (fun z5 _ => ?_)
        refine pf_ite ?_ ?_
        · rw [j_X3_ill_181_e]
          exact ih _ _ _ _ _ f_s4
        · rw [j_X3_ill_181_e]
          exact ih _ _ _ _ _ f_s4
      · rw [j_X3_ill_142_e]
        refine pf_nzl ?_
        refine pf_lt (fun z6 _ => ?_)
        refine pf_ite ?_ ?_
        · rw [j_X3_ill_181_e]
          exact ih _ _ _ _ _ f_s4
        · rw [j_X3_ill_181_e]
          exact ih _ _ _ _ _ f_s4
set_option maxRecDepth 100000 in
theorem fr_X3_ill {F : Nat} (hF : 1000 ≤ F) {x1 : Int32} {x2 : Int32} {x3 : Int32} {x4 : Int32} {x5 : Int32} {σ : Mem} : pf wf_31 (f_X3_ill F x1 x2 x3 x4 x5 σ) σ := by
  have f_σ : fr wf_31 σ σ := fr_rf
  rw [f_X3_ill_e]
  refine pf_bnd (fr_X3_noLooker hF) (fun _ h => h.elim) f_σ (fun r1 s2 f_s2 => ?_)
  refine pf_bnd (fr_X3_noView hF) (fun _ h => h.elim) f_s2 (fun r3 s4 f_s4 => ?_)
  refine pf_bnd (fr_X3_firstOf hF) (fun _ h => h.elim) f_s4 (fun r5 s6 f_s6 => ?_)
  refine pf_ite ?_ ?_
  · refine pf_ite ?_ ?_
    · rw [j_X3_ill_29_e]
      rw [j_X3_ill_33_e]
      refine pf_ite ?_ ?_
      · refine pf_ite ?_ ?_
        · rw [j_X3_ill_51_e]
          rw [j_X3_ill_55_e]
          refine pf_bnd (fr_X3_notBelow hF) (fun _ h => h.elim) f_s6 (fun r7 s8 f_s8 => ?_)
          refine pf_bnd (fr_X3_firstOf hF) (fun _ h => h.elim) f_s8 (fun r9 s10 f_s10 => ?_)
          refine pf_ite ?_ ?_
          · refine pf_bnd (fr_X0_reckon hF wt_h1) (fun c h => by unfold wf_8 at h; unfold wf_31; omega) f_s10 (fun r11 s12 f_s12 => ?_)
            refine pf_bnd (fr_X0_takeFrom hF wt_h24 wt_h1) (fun c h => by unfold wf_0 at h; unfold wf_31; omega) f_s12 (fun r13 s14 f_s14 => ?_)
            refine pf_bnd (fr_X0_reckon hF wt_h24) (fun c h => by unfold wf_8 at h; unfold wf_31; omega) f_s14 (fun r15 s16 f_s16 => ?_)
            exact fl_X3_ill_117 hF _ _ _ _ _ _ f_s16
          · refine pf_bnd (fr_X3_refuseLong hF) (ww_23) f_s10 (fun r17 s18 f_s18 => ?_)
            exact pf_ret f_s18
        · refine pf_ite ?_ ?_
          · rw [j_X3_ill_55_e]
            refine pf_bnd (fr_X3_notBelow hF) (fun _ h => h.elim) f_s6 (fun r19 s20 f_s20 => ?_)
            refine pf_bnd (fr_X3_firstOf hF) (fun _ h => h.elim) f_s20 (fun r21 s22 f_s22 => ?_)
            refine pf_ite ?_ ?_
            · refine pf_bnd (fr_X0_reckon hF wt_h1) (fun c h => by unfold wf_8 at h; unfold wf_31; omega) f_s22 (fun r23 s24 f_s24 => ?_)
              refine pf_bnd (fr_X0_takeFrom hF wt_h24 wt_h1) (fun c h => by unfold wf_0 at h; unfold wf_31; omega) f_s24 (fun r25 s26 f_s26 => ?_)
              refine pf_bnd (fr_X0_reckon hF wt_h24) (fun c h => by unfold wf_8 at h; unfold wf_31; omega) f_s26 (fun r27 s28 f_s28 => ?_)
              exact fl_X3_ill_117 hF _ _ _ _ _ _ f_s28
            · refine pf_bnd (fr_X3_refuseLong hF) (ww_23) f_s22 (fun r29 s30 f_s30 => ?_)
              exact pf_ret f_s30
          · rw [j_X3_ill_51_e]
            rw [j_X3_ill_55_e]
            refine pf_bnd (fr_X3_notBelow hF) (fun _ h => h.elim) f_s6 (fun r31 s32 f_s32 => ?_)
            refine pf_bnd (fr_X3_firstOf hF) (fun _ h => h.elim) f_s32 (fun r33 s34 f_s34 => ?_)
            refine pf_ite ?_ ?_
            · refine pf_bnd (fr_X0_reckon hF wt_h1) (fun c h => by unfold wf_8 at h; unfold wf_31; omega) f_s34 (fun r35 s36 f_s36 => ?_)
              refine pf_bnd (fr_X0_takeFrom hF wt_h24 wt_h1) (fun c h => by unfold wf_0 at h; unfold wf_31; omega) f_s36 (fun r37 s38 f_s38 => ?_)
              refine pf_bnd (fr_X0_reckon hF wt_h24) (fun c h => by unfold wf_8 at h; unfold wf_31; omega) f_s38 (fun r39 s40 f_s40 => ?_)
              exact fl_X3_ill_117 hF _ _ _ _ _ _ f_s40
            · refine pf_bnd (fr_X3_refuseLong hF) (ww_23) f_s34 (fun r41 s42 f_s42 => ?_)
              exact pf_ret f_s42
      · rw [j_X3_ill_55_e]
        refine pf_bnd (fr_X3_notBelow hF) (fun _ h => h.elim) f_s6 (fun r43 s44 f_s44 => ?_)
        refine pf_bnd (fr_X3_firstOf hF) (fun _ h => h.elim) f_s44 (fun r45 s46 f_s46 => ?_)
        refine pf_ite ?_ ?_
        · refine pf_bnd (fr_X0_reckon hF wt_h1) (fun c h => by unfold wf_8 at h; unfold wf_31; omega) f_s46 (fun r47 s48 f_s48 => ?_)
          refine pf_bnd (fr_X0_takeFrom hF wt_h24 wt_h1) (fun c h => by unfold wf_0 at h; unfold wf_31; omega) f_s48 (fun r49 s50 f_s50 => ?_)
          refine pf_bnd (fr_X0_reckon hF wt_h24) (fun c h => by unfold wf_8 at h; unfold wf_31; omega) f_s50 (fun r51 s52 f_s52 => ?_)
          exact fl_X3_ill_117 hF _ _ _ _ _ _ f_s52
        · refine pf_bnd (fr_X3_refuseLong hF) (ww_23) f_s46 (fun r53 s54 f_s54 => ?_)
          exact pf_ret f_s54
    · refine pf_ite ?_ ?_
      · rw [j_X3_ill_33_e]
        refine pf_ite ?_ ?_
        · refine pf_ite ?_ ?_
          · rw [j_X3_ill_51_e]
            rw [j_X3_ill_55_e]
            refine pf_bnd (fr_X3_notBelow hF) (fun _ h => h.elim) f_s6 (fun r55 s56 f_s56 => ?_)
            refine pf_bnd (fr_X3_firstOf hF) (fun _ h => h.elim) f_s56 (fun r57 s58 f_s58 => ?_)
            refine pf_ite ?_ ?_
            · refine pf_bnd (fr_X0_reckon hF wt_h1) (fun c h => by unfold wf_8 at h; unfold wf_31; omega) f_s58 (fun r59 s60 f_s60 => ?_)
              refine pf_bnd (fr_X0_takeFrom hF wt_h24 wt_h1) (fun c h => by unfold wf_0 at h; unfold wf_31; omega) f_s60 (fun r61 s62 f_s62 => ?_)
              refine pf_bnd (fr_X0_reckon hF wt_h24) (fun c h => by unfold wf_8 at h; unfold wf_31; omega) f_s62 (fun r63 s64 f_s64 => ?_)
              exact fl_X3_ill_117 hF _ _ _ _ _ _ f_s64
            · refine pf_bnd (fr_X3_refuseLong hF) (ww_23) f_s58 (fun r65 s66 f_s66 => ?_)
              exact pf_ret f_s66
          · refine pf_ite ?_ ?_
            · rw [j_X3_ill_55_e]
              refine pf_bnd (fr_X3_notBelow hF) (fun _ h => h.elim) f_s6 (fun r67 s68 f_s68 => ?_)
              refine pf_bnd (fr_X3_firstOf hF) (fun _ h => h.elim) f_s68 (fun r69 s70 f_s70 => ?_)
              refine pf_ite ?_ ?_
              · refine pf_bnd (fr_X0_reckon hF wt_h1) (fun c h => by unfold wf_8 at h; unfold wf_31; omega) f_s70 (fun r71 s72 f_s72 => ?_)
                refine pf_bnd (fr_X0_takeFrom hF wt_h24 wt_h1) (fun c h => by unfold wf_0 at h; unfold wf_31; omega) f_s72 (fun r73 s74 f_s74 => ?_)
                refine pf_bnd (fr_X0_reckon hF wt_h24) (fun c h => by unfold wf_8 at h; unfold wf_31; omega) f_s74 (fun r75 s76 f_s76 => ?_)
                exact fl_X3_ill_117 hF _ _ _ _ _ _ f_s76
              · refine pf_bnd (fr_X3_refuseLong hF) (ww_23) f_s70 (fun r77 s78 f_s78 => ?_)
                exact pf_ret f_s78
            · rw [j_X3_ill_51_e]
              rw [j_X3_ill_55_e]
              refine pf_bnd (fr_X3_notBelow hF) (fun _ h => h.elim) f_s6 (fun r79 s80 f_s80 => ?_)
              refine pf_bnd (fr_X3_firstOf hF) (fun _ h => h.elim) f_s80 (fun r81 s82 f_s82 => ?_)
              refine pf_ite ?_ ?_
              · refine pf_bnd (fr_X0_reckon hF wt_h1) (fun c h => by unfold wf_8 at h; unfold wf_31; omega) f_s82 (fun r83 s84 f_s84 => ?_)
                refine pf_bnd (fr_X0_takeFrom hF wt_h24 wt_h1) (fun c h => by unfold wf_0 at h; unfold wf_31; omega) f_s84 (fun r85 s86 f_s86 => ?_)
                refine pf_bnd (fr_X0_reckon hF wt_h24) (fun c h => by unfold wf_8 at h; unfold wf_31; omega) f_s86 (fun r87 s88 f_s88 => ?_)
                exact fl_X3_ill_117 hF _ _ _ _ _ _ f_s88
              · refine pf_bnd (fr_X3_refuseLong hF) (ww_23) f_s82 (fun r89 s90 f_s90 => ?_)
                exact pf_ret f_s90
        · rw [j_X3_ill_55_e]
          refine pf_bnd (fr_X3_notBelow hF) (fun _ h => h.elim) f_s6 (fun r91 s92 f_s92 => ?_)
          refine pf_bnd (fr_X3_firstOf hF) (fun _ h => h.elim) f_s92 (fun r93 s94 f_s94 => ?_)
          refine pf_ite ?_ ?_
          · refine pf_bnd (fr_X0_reckon hF wt_h1) (fun c h => by unfold wf_8 at h; unfold wf_31; omega) f_s94 (fun r95 s96 f_s96 => ?_)
            refine pf_bnd (fr_X0_takeFrom hF wt_h24 wt_h1) (fun c h => by unfold wf_0 at h; unfold wf_31; omega) f_s96 (fun r97 s98 f_s98 => ?_)
            refine pf_bnd (fr_X0_reckon hF wt_h24) (fun c h => by unfold wf_8 at h; unfold wf_31; omega) f_s98 (fun r99 s100 f_s100 => ?_)
            exact fl_X3_ill_117 hF _ _ _ _ _ _ f_s100
          · refine pf_bnd (fr_X3_refuseLong hF) (ww_23) f_s94 (fun r101 s102 f_s102 => ?_)
            exact pf_ret f_s102
      · rw [j_X3_ill_29_e]
        rw [j_X3_ill_33_e]
        refine pf_ite ?_ ?_
        · refine pf_ite ?_ ?_
          · rw [j_X3_ill_51_e]
            rw [j_X3_ill_55_e]
            refine pf_bnd (fr_X3_notBelow hF) (fun _ h => h.elim) f_s6 (fun r103 s104 f_s104 => ?_)
            refine pf_bnd (fr_X3_firstOf hF) (fun _ h => h.elim) f_s104 (fun r105 s106 f_s106 => ?_)
            refine pf_ite ?_ ?_
            · refine pf_bnd (fr_X0_reckon hF wt_h1) (fun c h => by unfold wf_8 at h; unfold wf_31; omega) f_s106 (fun r107 s108 f_s108 => ?_)
              refine pf_bnd (fr_X0_takeFrom hF wt_h24 wt_h1) (fun c h => by unfold wf_0 at h; unfold wf_31; omega) f_s108 (fun r109 s110 f_s110 => ?_)
              refine pf_bnd (fr_X0_reckon hF wt_h24) (fun c h => by unfold wf_8 at h; unfold wf_31; omega) f_s110 (fun r111 s112 f_s112 => ?_)
              exact fl_X3_ill_117 hF _ _ _ _ _ _ f_s112
            · refine pf_bnd (fr_X3_refuseLong hF) (ww_23) f_s106 (fun r113 s114 f_s114 => ?_)
              exact pf_ret f_s114
          · refine pf_ite ?_ ?_
            · rw [j_X3_ill_55_e]
              refine pf_bnd (fr_X3_notBelow hF) (fun _ h => h.elim) f_s6 (fun r115 s116 f_s116 => ?_)
              refine pf_bnd (fr_X3_firstOf hF) (fun _ h => h.elim) f_s116 (fun r117 s118 f_s118 => ?_)
              refine pf_ite ?_ ?_
              · refine pf_bnd (fr_X0_reckon hF wt_h1) (fun c h => by unfold wf_8 at h; unfold wf_31; omega) f_s118 (fun r119 s120 f_s120 => ?_)
                refine pf_bnd (fr_X0_takeFrom hF wt_h24 wt_h1) (fun c h => by unfold wf_0 at h; unfold wf_31; omega) f_s120 (fun r121 s122 f_s122 => ?_)
                refine pf_bnd (fr_X0_reckon hF wt_h24) (fun c h => by unfold wf_8 at h; unfold wf_31; omega) f_s122 (fun r123 s124 f_s124 => ?_)
                exact fl_X3_ill_117 hF _ _ _ _ _ _ f_s124
              · refine pf_bnd (fr_X3_refuseLong hF) (ww_23) f_s118 (fun r125 s126 f_s126 => ?_)
                exact pf_ret f_s126
            · rw [j_X3_ill_51_e]
              rw [j_X3_ill_55_e]
              refine pf_bnd (fr_X3_notBelow hF) (fun _ h => h.elim) f_s6 (fun r127 s128 f_s128 => ?_)
              refine pf_bnd (fr_X3_firstOf hF) (fun _ h => h.elim) f_s128 (fun r129 s130 f_s130 => ?_)
              refine pf_ite ?_ ?_
              · refine pf_bnd (fr_X0_reckon hF wt_h1) (fun c h => by unfold wf_8 at h; unfold wf_31; omega) f_s130 (fun r131 s132 f_s132 => ?_)
                refine pf_bnd (fr_X0_takeFrom hF wt_h24 wt_h1) (fun c h => by unfold wf_0 at h; unfold wf_31; omega) f_s132 (fun r133 s134 f_s134 => ?_)
                refine pf_bnd (fr_X0_reckon hF wt_h24) (fun c h => by unfold wf_8 at h; unfold wf_31; omega) f_s134 (fun r135 s136 f_s136 => ?_)
                exact fl_X3_ill_117 hF _ _ _ _ _ _ f_s136
              · refine pf_bnd (fr_X3_refuseLong hF) (ww_23) f_s130 (fun r137 s138 f_s138 => ?_)
                exact pf_ret f_s138
        · rw [j_X3_ill_55_e]
          refine pf_bnd (fr_X3_notBelow hF) (fun _ h => h.elim) f_s6 (fun r139 s140 f_s140 => ?_)
          refine pf_bnd (fr_X3_firstOf hF) (fun _ h => h.elim) f_s140 (fun r141 s142 f_s142 => ?_)
          refine pf_ite ?_ ?_
          · refine pf_bnd (fr_X0_reckon hF wt_h1) (fun c h => by unfold wf_8 at h; unfold wf_31; omega) f_s142 (fun r143 s144 f_s144 => ?_)
            refine pf_bnd (fr_X0_takeFrom hF wt_h24 wt_h1) (fun c h => by unfold wf_0 at h; unfold wf_31; omega) f_s144 (fun r145 s146 f_s146 => ?_)
            refine pf_bnd (fr_X0_reckon hF wt_h24) (fun c h => by unfold wf_8 at h; unfold wf_31; omega) f_s146 (fun r147 s148 f_s148 => ?_)
            exact fl_X3_ill_117 hF _ _ _ _ _ _ f_s148
          · refine pf_bnd (fr_X3_refuseLong hF) (ww_23) f_s142 (fun r149 s150 f_s150 => ?_)
            exact pf_ret f_s150
  · rw [j_X3_ill_33_e]
    refine pf_ite ?_ ?_
    · refine pf_ite ?_ ?_
      · rw [j_X3_ill_51_e]
        rw [j_X3_ill_55_e]
        refine pf_bnd (fr_X3_notBelow hF) (fun _ h => h.elim) f_s6 (fun r151 s152 f_s152 => ?_)
        refine pf_bnd (fr_X3_firstOf hF) (fun _ h => h.elim) f_s152 (fun r153 s154 f_s154 => ?_)
        refine pf_ite ?_ ?_
        · refine pf_bnd (fr_X0_reckon hF wt_h1) (fun c h => by unfold wf_8 at h; unfold wf_31; omega) f_s154 (fun r155 s156 f_s156 => ?_)
          refine pf_bnd (fr_X0_takeFrom hF wt_h24 wt_h1) (fun c h => by unfold wf_0 at h; unfold wf_31; omega) f_s156 (fun r157 s158 f_s158 => ?_)
          refine pf_bnd (fr_X0_reckon hF wt_h24) (fun c h => by unfold wf_8 at h; unfold wf_31; omega) f_s158 (fun r159 s160 f_s160 => ?_)
          exact fl_X3_ill_117 hF _ _ _ _ _ _ f_s160
        · refine pf_bnd (fr_X3_refuseLong hF) (ww_23) f_s154 (fun r161 s162 f_s162 => ?_)
          exact pf_ret f_s162
      · refine pf_ite ?_ ?_
        · rw [j_X3_ill_55_e]
          refine pf_bnd (fr_X3_notBelow hF) (fun _ h => h.elim) f_s6 (fun r163 s164 f_s164 => ?_)
          refine pf_bnd (fr_X3_firstOf hF) (fun _ h => h.elim) f_s164 (fun r165 s166 f_s166 => ?_)
          refine pf_ite ?_ ?_
          · refine pf_bnd (fr_X0_reckon hF wt_h1) (fun c h => by unfold wf_8 at h; unfold wf_31; omega) f_s166 (fun r167 s168 f_s168 => ?_)
            refine pf_bnd (fr_X0_takeFrom hF wt_h24 wt_h1) (fun c h => by unfold wf_0 at h; unfold wf_31; omega) f_s168 (fun r169 s170 f_s170 => ?_)
            refine pf_bnd (fr_X0_reckon hF wt_h24) (fun c h => by unfold wf_8 at h; unfold wf_31; omega) f_s170 (fun r171 s172 f_s172 => ?_)
            exact fl_X3_ill_117 hF _ _ _ _ _ _ f_s172
          · refine pf_bnd (fr_X3_refuseLong hF) (ww_23) f_s166 (fun r173 s174 f_s174 => ?_)
            exact pf_ret f_s174
        · rw [j_X3_ill_51_e]
          rw [j_X3_ill_55_e]
          refine pf_bnd (fr_X3_notBelow hF) (fun _ h => h.elim) f_s6 (fun r175 s176 f_s176 => ?_)
          refine pf_bnd (fr_X3_firstOf hF) (fun _ h => h.elim) f_s176 (fun r177 s178 f_s178 => ?_)
          refine pf_ite ?_ ?_
          · refine pf_bnd (fr_X0_reckon hF wt_h1) (fun c h => by unfold wf_8 at h; unfold wf_31; omega) f_s178 (fun r179 s180 f_s180 => ?_)
            refine pf_bnd (fr_X0_takeFrom hF wt_h24 wt_h1) (fun c h => by unfold wf_0 at h; unfold wf_31; omega) f_s180 (fun r181 s182 f_s182 => ?_)
            refine pf_bnd (fr_X0_reckon hF wt_h24) (fun c h => by unfold wf_8 at h; unfold wf_31; omega) f_s182 (fun r183 s184 f_s184 => ?_)
            exact fl_X3_ill_117 hF _ _ _ _ _ _ f_s184
          · refine pf_bnd (fr_X3_refuseLong hF) (ww_23) f_s178 (fun r185 s186 f_s186 => ?_)
            exact pf_ret f_s186
    · rw [j_X3_ill_55_e]
      refine pf_bnd (fr_X3_notBelow hF) (fun _ h => h.elim) f_s6 (fun r187 s188 f_s188 => ?_)
      refine pf_bnd (fr_X3_firstOf hF) (fun _ h => h.elim) f_s188 (fun r189 s190 f_s190 => ?_)
      refine pf_ite ?_ ?_
      · refine pf_bnd (fr_X0_reckon hF wt_h1) (fun c h => by unfold wf_8 at h; unfold wf_31; omega) f_s190 (fun r191 s192 f_s192 => ?_)
        refine pf_bnd (fr_X0_takeFrom hF wt_h24 wt_h1) (fun c h => by unfold wf_0 at h; unfold wf_31; omega) f_s192 (fun r193 s194 f_s194 => ?_)
        refine pf_bnd (fr_X0_reckon hF wt_h24) (fun c h => by unfold wf_8 at h; unfold wf_31; omega) f_s194 (fun r195 s196 f_s196 => ?_)
        exact fl_X3_ill_117 hF _ _ _ _ _ _ f_s196
      · refine pf_bnd (fr_X3_refuseLong hF) (ww_23) f_s190 (fun r197 s198 f_s198 => ?_)
        exact pf_ret f_s198
set_option maxRecDepth 100000 in
theorem fl_X3_busy_24 {F : Nat} (hF : 1000 ≤ F) {x1 : Int32} {τ : Mem} : ∀ (N : Nat) (x3 : Int32) (x4 : Int32) (x5 : Int32) (σ : Mem), fr wf_17 τ σ → pf wf_17 (lp_X3_busy_24 F x1 N x3 x4 x5 σ) τ := by
  intro N
  induction N with
  | zero => intro _ _ _ _ _; exact pf_none rfl
  | succ N ih =>
    intro x3 x4 x5 σ f_σ
    rw [lp_X3_busy_24_s]
    refine pf_ite ?_ ?_
    · refine pf_ite ?_ ?_
      · exact pf_ret f_σ
      · exact pf_ret f_σ
    · refine pf_bnd (fr_X0_standingIn hF wt_h1) (fun _ h => h.elim) f_σ (fun r1 s2 f_s2 => ?_)
      refine pf_ite ?_ ?_
      · rw [j_X3_busy_56_e]
        exact ih _ _ _ _ f_s2
      · rw [j_X3_busy_56_e]
        exact ih _ _ _ _ f_s2
set_option maxRecDepth 100000 in
theorem fr_X3_busy {F : Nat} (hF : 1000 ≤ F) {x1 : Int32} {σ : Mem} : pf wf_17 (f_X3_busy F x1 σ) σ := by
  have f_σ : fr wf_17 σ σ := fr_rf
  rw [f_X3_busy_e]
  refine pf_bnd (fr_X3_notBelow hF) (fun _ h => h.elim) f_σ (fun r1 s2 f_s2 => ?_)
  refine pf_ite ?_ ?_
  · exact fl_X3_busy_24 hF _ _ _ _ _ f_s2
  · refine pf_bnd (fr_X3_refuse hF) (fun _ h => h) f_s2 (fun r3 s4 f_s4 => ?_)
    exact pf_ret f_s4
set_option maxRecDepth 100000 in
theorem fl_X3_together_23 {F : Nat} (hF : 1000 ≤ F) {x1 : Int32} {x2 : Int32} {τ : Mem} : ∀ (N : Nat) (x4 : Int32) (x5 : Int32) (σ : Mem), fr wf_17 τ σ → pf wf_17 (lp_X3_together_23 F x1 x2 N x4 x5 σ) τ := by
  intro N
  induction N with
  | zero => intro _ _ _ _; exact pf_none rfl
  | succ N ih =>
    intro x4 x5 σ f_σ
    rw [lp_X3_together_23_s]
    refine pf_ite ?_ ?_
    · exact pf_ret f_σ
    · refine pf_chk (fun v1 => ?_)
      refine pf_chk (fun v2 => ?_)
      refine pf_lt (fun z3 _ => ?_)
      refine pf_ite ?_ ?_
      · rw [j_X3_together_77_e]
        exact ih _ _ _ f_σ
      · refine pf_chk (fun v4 => ?_)
        refine pf_ite ?_ ?_
        · refine pf_lt (fun z5 _ => ?_)
          rw [j_X3_together_77_e]
          exact ih _ _ _ f_σ
        · rw [j_X3_together_77_e]
          exact ih _ _ _ f_σ
set_option maxRecDepth 100000 in
theorem fr_X3_together {F : Nat} (hF : 1000 ≤ F) {x1 : Int32} {x2 : Int32} {σ : Mem} : pf wf_17 (f_X3_together F x1 x2 σ) σ := by
  have f_σ : fr wf_17 σ σ := fr_rf
  rw [f_X3_together_e]
  refine pf_bnd (fr_X3_noPair hF) (fun _ h => h.elim) f_σ (fun r1 s2 f_s2 => ?_)
  refine pf_ite ?_ ?_
  · exact fl_X3_together_23 hF _ _ _ _ f_s2
  · refine pf_bnd (fr_X3_refuse hF) (fun _ h => h) f_s2 (fun r3 s4 f_s4 => ?_)
    exact pf_ret f_s4
set_option maxRecDepth 100000 in
theorem fr_X3_wealthSwapped {F : Nat} (hF : 1000 ≤ F) {x1 : Int32} {x2 : Int32} {x3 : Int32} {σ : Mem} : pf wf_32 (f_X3_wealthSwapped F x1 x2 x3 σ) σ := by
  have f_σ : fr wf_32 σ σ := fr_rf
  rw [f_X3_wealthSwapped_e]
  refine pf_bnd (fr_X0_tradeRosters hF wt_h24) (fun c h => by unfold wf_4 at h; unfold wf_32; omega) f_σ (fun r1 s2 f_s2 => ?_)
  refine pf_bnd (fr_X0_reckon hF wt_h24) (fun c h => by unfold wf_8 at h; unfold wf_32; omega) f_s2 (fun r3 s4 f_s4 => ?_)
  refine pf_bnd (fr_X0_wealth hF wt_h24) (fun _ h => h.elim) f_s4 (fun r5 s6 f_s6 => ?_)
  refine pf_bnd (fr_X0_wealth hF wt_h24) (fun _ h => h.elim) f_s6 (fun r7 s8 f_s8 => ?_)
  refine pf_bnd (fr_X0_tradeRosters hF wt_h24) (fun c h => by unfold wf_4 at h; unfold wf_32; omega) f_s8 (fun r9 s10 f_s10 => ?_)
  exact pf_ret f_s10
theorem ww_30 : ∀ c, wf_32 c → wf_31 c := fun c h => h.elim (fun a => Or.inr (Or.inl (a))) (fun b0 => Or.inr (Or.inr (Or.inr (Or.inl (b0)))))
set_option maxRecDepth 100000 in
theorem fl_X3_swap_64 {F : Nat} (hF : 1000 ≤ F) {x1 : Int32} {x5 : Int32} {k46 : Int32 → Int32 → Int32 → Mem → Option (Int32 × Mem)} {τ : Mem} (hk46 : ∀ (x3 : Int32) (x4 : Int32) (x5 : Int32) (σ : Mem), fr wf_31 τ σ → pf wf_31 (k46 x3 x4 x5 σ) τ) : ∀ (N : Nat) (x3 : Int32) (x4 : Int32) (x6 : Int32) (σ : Mem), fr wf_31 τ σ → pf wf_31 (lp_X3_swap_64 F k46 x1 x5 N x3 x4 x6 σ) τ := by
  intro N
  induction N with
  | zero => intro _ _ _ _ _; exact pf_none rfl
  | succ N ih =>
    intro x3 x4 x6 σ f_σ
    rw [lp_X3_swap_64_s]
    refine pf_ite ?_ ?_
    · exact hk46 _ _ _ _ f_σ
    · refine pf_bnd (fr_X3_wealthSwapped hF) (ww_30) f_σ (fun r1 s2 f_s2 => ?_)
      refine pf_bnd (fr_X0_wealth hF wt_h1) (fun _ h => h.elim) f_s2 (fun r3 s4 f_s4 => ?_)
      refine pf_bnd (fr_X0_wealth hF wt_h1) (fun _ h => h.elim) f_s4 (fun r5 s6 f_s6 => ?_)
      refine pf_ite ?_ ?_
      · rw [j_X3_swap_137_e]
        exact ih _ _ _ _ f_s6
      · refine pf_ite ?_ ?_
        · rw [j_X3_swap_137_e]
          exact ih _ _ _ _ f_s6
        · refine pf_lt (fun z7 _ => ?_)
          rw [j_X3_swap_137_e]
          exact ih _ _ _ _ f_s6
set_option maxRecDepth 100000 in
theorem fl_X3_swap_46 {F : Nat} (hF : 1000 ≤ F) {x1 : Int32} {τ : Mem} : ∀ (N : Nat) (x3 : Int32) (x4 : Int32) (x5 : Int32) (σ : Mem), fr wf_31 τ σ → pf wf_31 (lp_X3_swap_46 F x1 N x3 x4 x5 σ) τ := by
  intro N
  induction N with
  | zero => intro _ _ _ _ _; exact pf_none rfl
  | succ N ih =>
    intro x3 x4 x5 σ f_σ
    rw [lp_X3_swap_46_s]
    refine pf_ite ?_ ?_
    · exact pf_ret f_σ
    · exact fl_X3_swap_64 hF ih _ _ _ _ _ f_σ
set_option maxRecDepth 100000 in
theorem fr_X3_swap {F : Nat} (hF : 1000 ≤ F) {x1 : Int32} {σ : Mem} : pf wf_31 (f_X3_swap F x1 σ) σ := by
  have f_σ : fr wf_31 σ σ := fr_rf
  rw [f_X3_swap_e]
  refine pf_bnd (fr_X3_outside hF) (fun _ h => h.elim) f_σ (fun r1 s2 f_s2 => ?_)
  refine pf_ite ?_ ?_
  · refine pf_bnd (fr_X0_reckon hF wt_h1) (fun c h => by unfold wf_8 at h; unfold wf_31; omega) f_s2 (fun r3 s4 f_s4 => ?_)
    refine pf_bnd (fr_X0_takeFrom hF wt_h24 wt_h1) (fun c h => by unfold wf_0 at h; unfold wf_31; omega) f_s4 (fun r5 s6 f_s6 => ?_)
    exact fl_X3_swap_46 hF _ _ _ _ _ f_s6
  · refine pf_bnd (fr_X3_refuse hF) (ww_23) f_s2 (fun r7 s8 f_s8 => ?_)
    exact pf_ret f_s8
set_option maxRecDepth 100000 in
theorem fl_X3_heir_65 {F : Nat} (hF : 1000 ≤ F) {x1 : Int32} {x2 : Int32} {x3 : Int32} {τ : Mem} : ∀ (N : Nat) (x5 : Int32) (σ : Mem), fr wf_33 τ σ → pf wf_33 (lp_X3_heir_65 F x1 x2 x3 N x5 σ) τ := by
  intro N
  induction N with
  | zero => intro _ _ _; exact pf_none rfl
  | succ N ih =>
    intro x5 σ f_σ
    rw [lp_X3_heir_65_s]
    refine pf_ite ?_ ?_
    · refine pf_bnd (fr_X0_reckon hF wt_h24) (fun c h => by unfold wf_8 at h; unfold wf_33; omega) f_σ (fun r1 s2 f_s2 => ?_)
      refine pf_bnd (fr_X0_holder hF wt_h24) (fun _ h => h.elim) f_s2 (fun r3 s4 f_s4 => ?_)
      exact pf_ret f_s4
    · refine pf_chk (fun v5 => ?_)
      refine pf_chk (fun v6 => ?_)
      refine pf_up2 f_σ (wcid_lo (by omega) (by omega)) (Or.inr (Or.inr (Or.inl (⟨by omega, by omega⟩)))) (fun s7 f_s7 => ?_)
      exact ih _ _ f_s7
set_option maxRecDepth 100000 in
theorem fr_X3_heir {F : Nat} (hF : 1000 ≤ F) {x1 : Int32} {x2 : Int32} {x3 : Int32} {σ : Mem} : pf wf_33 (f_X3_heir F x1 x2 x3 σ) σ := by
  have f_σ : fr wf_33 σ σ := fr_rf
  rw [f_X3_heir_e]
  refine pf_bnd (fr_X3_noLooker hF) (fun _ h => h.elim) f_σ (fun r1 s2 f_s2 => ?_)
  refine pf_bnd (fr_X3_noView hF) (fun _ h => h.elim) f_s2 (fun r3 s4 f_s4 => ?_)
  refine pf_bnd (fr_X3_firstOf hF) (fun _ h => h.elim) f_s4 (fun r5 s6 f_s6 => ?_)
  refine pf_bnd (fr_X3_outside hF) (fun _ h => h.elim) f_s6 (fun r7 s8 f_s8 => ?_)
  refine pf_bnd (fr_X3_firstOf hF) (fun _ h => h.elim) f_s8 (fun r9 s10 f_s10 => ?_)
  refine pf_ite ?_ ?_
  · refine pf_bnd (fr_X0_takeFrom hF wt_h24 wt_h1) (fun c h => by unfold wf_0 at h; unfold wf_33; omega) f_s10 (fun r11 s12 f_s12 => ?_)
    refine pf_bnd (fr_X0_post hF wt_h24) (fun c h => by unfold wf_4 at h; unfold wf_33; omega) f_s12 (fun r13 s14 f_s14 => ?_)
    exact fl_X3_heir_65 hF _ _ _ f_s14
  · refine pf_bnd (fr_X3_refuse hF) (ww_25) f_s10 (fun r15 s16 f_s16 => ?_)
    exact pf_ret f_s16
set_option maxRecDepth 100000 in
theorem fl_X3_even_49 {F : Nat} (hF : 1000 ≤ F) {x1 : Int32} {x4 : Int32} {k31 : Int32 → Int32 → Mem → Option (Int32 × Mem)} {τ : Mem} (hk31 : ∀ (x3 : Int32) (x4 : Int32) (σ : Mem), fr wf_21 τ σ → pf wf_21 (k31 x3 x4 σ) τ) : ∀ (N : Nat) (x3 : Int32) (x5 : Int32) (σ : Mem), fr wf_21 τ σ → pf wf_21 (lp_X3_even_49 F k31 x1 x4 N x3 x5 σ) τ := by
  intro N
  induction N with
  | zero => intro _ _ _ _; exact pf_none rfl
  | succ N ih =>
    intro x3 x5 σ f_σ
    rw [lp_X3_even_49_s]
    refine pf_ite ?_ ?_
    · exact hk31 _ _ _ f_σ
    · refine pf_bnd (fr_X0_lead hF wt_h1) (fun _ h => h.elim) f_σ (fun r1 s2 f_s2 => ?_)
      refine pf_ite ?_ ?_
      · rw [j_X3_even_79_e]
        exact ih _ _ _ f_s2
      · rw [j_X3_even_79_e]
        exact ih _ _ _ f_s2
set_option maxRecDepth 100000 in
theorem fl_X3_even_31 {F : Nat} (hF : 1000 ≤ F) {x1 : Int32} {τ : Mem} : ∀ (N : Nat) (x3 : Int32) (x4 : Int32) (σ : Mem), fr wf_21 τ σ → pf wf_21 (lp_X3_even_31 F x1 N x3 x4 σ) τ := by
  intro N
  induction N with
  | zero => intro _ _ _ _; exact pf_none rfl
  | succ N ih =>
    intro x3 x4 σ f_σ
    rw [lp_X3_even_31_s]
    refine pf_ite ?_ ?_
    · exact pf_ret f_σ
    · exact fl_X3_even_49 hF ih _ _ _ _ f_σ
set_option maxRecDepth 100000 in
theorem fr_X3_even {F : Nat} (hF : 1000 ≤ F) {x1 : Int32} {σ : Mem} : pf wf_21 (f_X3_even F x1 σ) σ := by
  have f_σ : fr wf_21 σ σ := fr_rf
  rw [f_X3_even_e]
  refine pf_bnd (fr_X3_outside hF) (fun _ h => h.elim) f_σ (fun r1 s2 f_s2 => ?_)
  refine pf_ite ?_ ?_
  · refine pf_bnd (fr_X0_reckon hF wt_h1) (fun c h => by unfold wf_8 at h; unfold wf_21; omega) f_s2 (fun r3 s4 f_s4 => ?_)
    exact fl_X3_even_31 hF _ _ _ _ f_s4
  · refine pf_bnd (fr_X3_refuse hF) (ww_6) f_s2 (fun r5 s6 f_s6 => ?_)
    exact pf_ret f_s6
def wf_38 (c : Nat) : Prop := (19 ≤ c ∧ c ≤ 23)
set_option maxRecDepth 100000 in
theorem fl_X3_last_34 {F : Nat} (hF : 1000 ≤ F) {x1 : Int32} {x2 : Int32} {x3 : Int32} {k11 : Int32 → Int32 → Mem → Option (Int32 × Mem)} {τ : Mem} (hk11 : ∀ (x1 : Int32) (x2 : Int32) (σ : Mem), fr wf_38 τ σ → pf wf_38 (k11 x1 x2 σ) τ) : ∀ (N : Nat) (x4 : Int32) (σ : Mem), fr wf_38 τ σ → pf wf_38 (lp_X3_last_34 F k11 x1 x2 x3 N x4 σ) τ := by
  intro N
  induction N with
  | zero => intro _ _ _; exact pf_none rfl
  | succ N ih =>
    intro x4 σ f_σ
    rw [lp_X3_last_34_s]
    refine pf_ite ?_ ?_
    · rw [j_X3_last_62_e]
      exact hk11 _ _ _ f_σ
    · refine pf_bnd (fr_X0_holder hF wt_h1) (fun _ h => h.elim) f_σ (fun r1 s2 f_s2 => ?_)
      refine pf_ite ?_ ?_
      · exact ih _ _ f_s2
      · rw [j_X3_last_62_e]
        exact hk11 _ _ _ f_s2
set_option maxRecDepth 100000 in
theorem fl_X3_last_11 {F : Nat} (hF : 1000 ≤ F) {τ : Mem} : ∀ (N : Nat) (x1 : Int32) (x2 : Int32) (σ : Mem), fr wf_38 τ σ → pf wf_38 (lp_X3_last_11 F N x1 x2 σ) τ := by
  intro N
  induction N with
  | zero => intro _ _ _ _; exact pf_none rfl
  | succ N ih =>
    intro x1 x2 σ f_σ
    rw [lp_X3_last_11_s]
    refine pf_ite ?_ ?_
    · exact pf_ret f_σ
    · refine pf_bnd (fr_X0_holder hF wt_h1) (fun _ h => h.elim) f_σ (fun r1 s2 f_s2 => ?_)
      exact fl_X3_last_34 hF ih _ _ _ f_s2
set_option maxRecDepth 100000 in
theorem fr_X3_last {F : Nat} (hF : 1000 ≤ F) {σ : Mem} : pf wf_38 (f_X3_last F σ) σ := by
  have f_σ : fr wf_38 σ σ := fr_rf
  rw [f_X3_last_e]
  refine pf_bnd (fr_X0_reckon hF wt_h1) (fun c h => by unfold wf_8 at h; unfold wf_38; omega) f_σ (fun r1 s2 f_s2 => ?_)
  exact fl_X3_last_11 hF _ _ _ _ f_s2
set_option maxRecDepth 100000 in
theorem fl_X3_joint_34 {F : Nat} (hF : 1000 ≤ F) {x1 : Int32} {x2 : Int32} {x3 : Int32} {τ : Mem} : ∀ (N : Nat) (x5 : Int32) (x6 : Int32) (σ : Mem), fr wf_21 τ σ → pf wf_21 (lp_X3_joint_34 F x1 x2 x3 N x5 x6 σ) τ := by
  intro N
  induction N with
  | zero => intro _ _ _ _; exact pf_none rfl
  | succ N ih =>
    intro x5 x6 σ f_σ
    rw [lp_X3_joint_34_s]
    refine pf_ite ?_ ?_
    · exact pf_ret f_σ
    · refine pf_bnd (fr_X0_outdo hF wt_h1) (fun _ h => h.elim) f_σ (fun r1 s2 f_s2 => ?_)
      refine pf_ite ?_ ?_
      · rw [j_X3_joint_65_e]
        exact ih _ _ _ f_s2
      · refine pf_lt (fun z3 _ => ?_)
        rw [j_X3_joint_65_e]
        exact ih _ _ _ f_s2
set_option maxRecDepth 100000 in
theorem fr_X3_joint {F : Nat} (hF : 1000 ≤ F) {x1 : Int32} {x2 : Int32} {x3 : Int32} {σ : Mem} : pf wf_21 (f_X3_joint F x1 x2 x3 σ) σ := by
  have f_σ : fr wf_21 σ σ := fr_rf
  rw [f_X3_joint_e]
  refine pf_bnd (fr_X3_noPairFar hF) (fun _ h => h.elim) f_σ (fun r1 s2 f_s2 => ?_)
  refine pf_ite ?_ ?_
  · refine pf_bnd (fr_X0_reckon hF wt_h1) (fun c h => by unfold wf_8 at h; unfold wf_21; omega) f_s2 (fun r3 s4 f_s4 => ?_)
    exact fl_X3_joint_34 hF _ _ _ _ f_s4
  · refine pf_bnd (fr_X3_refuse hF) (ww_6) f_s2 (fun r5 s6 f_s6 => ?_)
    exact pf_ret f_s6
set_option maxRecDepth 100000 in
theorem fl_X3_rank_29 {F : Nat} (hF : 1000 ≤ F) {x1 : Int32} {x2 : Int32} {τ : Mem} : ∀ (N : Nat) (x4 : Int32) (σ : Mem), fr wf_17 τ σ → pf wf_17 (lp_X3_rank_29 F x1 x2 N x4 σ) τ := by
  intro N
  induction N with
  | zero => intro _ _ _; exact pf_none rfl
  | succ N ih =>
    intro x4 σ f_σ
    rw [lp_X3_rank_29_s]
    refine pf_ite ?_ ?_
    · exact pf_ret f_σ
    · refine pf_bnd (fr_X0_placeOf hF wt_h1) (fun _ h => h.elim) f_σ (fun r1 s2 f_s2 => ?_)
      refine pf_ite ?_ ?_
      · exact pf_ret f_s2
      · exact ih _ _ f_s2
set_option maxRecDepth 100000 in
theorem fr_X3_rank {F : Nat} (hF : 1000 ≤ F) {x1 : Int32} {x2 : Int32} {σ : Mem} : pf wf_17 (f_X3_rank F x1 x2 σ) σ := by
  have f_σ : fr wf_17 σ σ := fr_rf
  rw [f_X3_rank_e]
  refine pf_bnd (fr_X3_noView hF) (fun _ h => h.elim) f_σ (fun r1 s2 f_s2 => ?_)
  refine pf_ite ?_ ?_
  · refine pf_ite ?_ ?_
    · rw [j_X3_rank_16_e]
      refine pf_ite ?_ ?_
      · exact fl_X3_rank_29 hF _ _ _ f_s2
      · refine pf_bnd (fr_X3_refuse hF) (fun _ h => h) f_s2 (fun r3 s4 f_s4 => ?_)
        exact pf_ret f_s4
    · rw [j_X3_rank_16_e]
      refine pf_ite ?_ ?_
      · exact fl_X3_rank_29 hF _ _ _ f_s2
      · refine pf_bnd (fr_X3_refuse hF) (fun _ h => h) f_s2 (fun r5 s6 f_s6 => ?_)
        exact pf_ret f_s6
  · rw [j_X3_rank_16_e]
    refine pf_ite ?_ ?_
    · exact fl_X3_rank_29 hF _ _ _ f_s2
    · refine pf_bnd (fr_X3_refuse hF) (fun _ h => h) f_s2 (fun r7 s8 f_s8 => ?_)
      exact pf_ret f_s8
set_option maxRecDepth 100000 in
theorem fl_X3_gap_42 {F : Nat} (hF : 1000 ≤ F) {x1 : Int32} {x2 : Int32} {τ : Mem} : ∀ (N : Nat) (x4 : Int32) (x5 : Int32) (x6 : Int32) (σ : Mem), fr wf_21 τ σ → pf wf_21 (lp_X3_gap_42 F x1 x2 N x4 x5 x6 σ) τ := by
  intro N
  induction N with
  | zero => intro _ _ _ _ _; exact pf_none rfl
  | succ N ih =>
    intro x4 x5 x6 σ f_σ
    rw [lp_X3_gap_42_s]
    refine pf_ite ?_ ?_
    · exact pf_ret f_σ
    · refine pf_bnd (fr_X0_behind hF wt_h1) (fun _ h => h.elim) f_σ (fun r1 s2 f_s2 => ?_)
      refine pf_ite ?_ ?_
      · refine pf_ite ?_ ?_
        · rw [j_X3_gap_96_e]
          exact ih _ _ _ _ f_s2
        · rw [j_X3_gap_96_e]
          exact ih _ _ _ _ f_s2
      · rw [j_X3_gap_96_e]
        exact ih _ _ _ _ f_s2
set_option maxRecDepth 100000 in
theorem fr_X3_gap {F : Nat} (hF : 1000 ≤ F) {x1 : Int32} {x2 : Int32} {σ : Mem} : pf wf_21 (f_X3_gap F x1 x2 σ) σ := by
  have f_σ : fr wf_21 σ σ := fr_rf
  rw [f_X3_gap_e]
  refine pf_bnd (fr_X3_noView hF) (fun _ h => h.elim) f_σ (fun r1 s2 f_s2 => ?_)
  refine pf_bnd (fr_X3_outside hF) (fun _ h => h.elim) f_s2 (fun r3 s4 f_s4 => ?_)
  refine pf_bnd (fr_X3_firstOf hF) (fun _ h => h.elim) f_s4 (fun r5 s6 f_s6 => ?_)
  refine pf_ite ?_ ?_
  · refine pf_bnd (fr_X0_reckon hF wt_h1) (fun c h => by unfold wf_8 at h; unfold wf_21; omega) f_s6 (fun r7 s8 f_s8 => ?_)
    exact fl_X3_gap_42 hF _ _ _ _ _ f_s8
  · refine pf_bnd (fr_X3_refuse hF) (ww_6) f_s6 (fun r9 s10 f_s10 => ?_)
    exact pf_ret f_s10
set_option maxRecDepth 100000 in
theorem fl_X3_wasted_30 {F : Nat} (hF : 1000 ≤ F) {x1 : Int32} {x2 : Int32} {τ : Mem} : ∀ (N : Nat) (x4 : Int32) (x5 : Int32) (σ : Mem), fr wf_17 τ σ → pf wf_17 (lp_X3_wasted_30 F x1 x2 N x4 x5 σ) τ := by
  intro N
  induction N with
  | zero => intro _ _ _ _; exact pf_none rfl
  | succ N ih =>
    intro x4 x5 σ f_σ
    rw [lp_X3_wasted_30_s]
    refine pf_ite ?_ ?_
    · exact pf_ret f_σ
    · refine pf_chk (fun v1 => ?_)
      refine pf_chk (fun v2 => ?_)
      refine pf_ite ?_ ?_
      · rw [j_X3_wasted_59_e]
        refine pf_bnd (fr_X0_pull hF wt_h1) (fun _ h => h.elim) f_σ (fun r3 s4 f_s4 => ?_)
        refine pf_ite ?_ ?_
        · rw [j_X3_wasted_79_e]
          refine pf_ite ?_ ?_
          · refine pf_ite ?_ ?_
            · rw [j_X3_wasted_117_e]
              exact ih _ _ _ f_s4
            · refine pf_ite ?_ ?_
              · rw [j_X3_wasted_108_e]
                refine pf_lt (fun z5 _ => ?_)
                rw [j_X3_wasted_117_e]
                exact ih _ _ _ f_s4
              · rw [j_X3_wasted_117_e]
                exact ih _ _ _ f_s4
          · refine pf_ite ?_ ?_
            · refine pf_ite ?_ ?_
              · rw [j_X3_wasted_117_e]
                exact ih _ _ _ f_s4
              · rw [j_X3_wasted_108_e]
                refine pf_lt (fun z6 _ => ?_)
                rw [j_X3_wasted_117_e]
                exact ih _ _ _ f_s4
            · rw [j_X3_wasted_117_e]
              exact ih _ _ _ f_s4
        · rw [j_X3_wasted_79_e]
          refine pf_ite ?_ ?_
          · refine pf_ite ?_ ?_
            · rw [j_X3_wasted_117_e]
              exact ih _ _ _ f_s4
            · refine pf_ite ?_ ?_
              · rw [j_X3_wasted_108_e]
                refine pf_lt (fun z7 _ => ?_)
                rw [j_X3_wasted_117_e]
                exact ih _ _ _ f_s4
              · rw [j_X3_wasted_117_e]
                exact ih _ _ _ f_s4
          · refine pf_ite ?_ ?_
            · refine pf_ite ?_ ?_
              · rw [j_X3_wasted_117_e]
                exact ih _ _ _ f_s4
              · rw [j_X3_wasted_108_e]
                refine pf_lt (fun z8 _ => ?_)
                rw [j_X3_wasted_117_e]
                exact ih _ _ _ f_s4
            · rw [j_X3_wasted_117_e]
              exact ih _ _ _ f_s4
      · rw [j_X3_wasted_59_e]
        refine pf_bnd (fr_X0_pull hF wt_h1) (fun _ h => h.elim) f_σ (fun r9 s10 f_s10 => ?_)
        refine pf_ite ?_ ?_
        · rw [j_X3_wasted_79_e]
          refine pf_ite ?_ ?_
          · refine pf_ite ?_ ?_
            · rw [j_X3_wasted_117_e]
              exact ih _ _ _ f_s10
            · refine pf_ite ?_ ?_
              · rw [j_X3_wasted_108_e]
                refine pf_lt (fun z11 _ => ?_)
                rw [j_X3_wasted_117_e]
                exact ih _ _ _ f_s10
              · rw [j_X3_wasted_117_e]
                exact ih _ _ _ f_s10
          · refine pf_ite ?_ ?_
            · refine pf_ite ?_ ?_
              · rw [j_X3_wasted_117_e]
                exact ih _ _ _ f_s10
              · rw [j_X3_wasted_108_e]
                refine pf_lt (fun z12 _ => ?_)
                rw [j_X3_wasted_117_e]
                exact ih _ _ _ f_s10
            · rw [j_X3_wasted_117_e]
              exact ih _ _ _ f_s10
        · rw [j_X3_wasted_79_e]
          refine pf_ite ?_ ?_
          · refine pf_ite ?_ ?_
            · rw [j_X3_wasted_117_e]
              exact ih _ _ _ f_s10
            · refine pf_ite ?_ ?_
              · rw [j_X3_wasted_108_e]
                refine pf_lt (fun z13 _ => ?_)
                rw [j_X3_wasted_117_e]
                exact ih _ _ _ f_s10
              · rw [j_X3_wasted_117_e]
                exact ih _ _ _ f_s10
          · refine pf_ite ?_ ?_
            · refine pf_ite ?_ ?_
              · rw [j_X3_wasted_117_e]
                exact ih _ _ _ f_s10
              · rw [j_X3_wasted_108_e]
                refine pf_lt (fun z14 _ => ?_)
                rw [j_X3_wasted_117_e]
                exact ih _ _ _ f_s10
            · rw [j_X3_wasted_117_e]
              exact ih _ _ _ f_s10
set_option maxRecDepth 100000 in
theorem fr_X3_wasted {F : Nat} (hF : 1000 ≤ F) {x1 : Int32} {x2 : Int32} {σ : Mem} : pf wf_17 (f_X3_wasted F x1 x2 σ) σ := by
  have f_σ : fr wf_17 σ σ := fr_rf
  rw [f_X3_wasted_e]
  refine pf_bnd (fr_X3_noLooker hF) (fun _ h => h.elim) f_σ (fun r1 s2 f_s2 => ?_)
  refine pf_bnd (fr_X3_notBelow hF) (fun _ h => h.elim) f_s2 (fun r3 s4 f_s4 => ?_)
  refine pf_bnd (fr_X3_firstOf hF) (fun _ h => h.elim) f_s4 (fun r5 s6 f_s6 => ?_)
  refine pf_ite ?_ ?_
  · exact fl_X3_wasted_30 hF _ _ _ _ f_s6
  · refine pf_bnd (fr_X3_refuse hF) (fun _ h => h) f_s6 (fun r7 s8 f_s8 => ?_)
    exact pf_ret f_s8
set_option maxRecDepth 100000 in
theorem fl_X3_ahead_27 {F : Nat} (hF : 1000 ≤ F) {x1 : Int32} {x2 : Int32} {τ : Mem} : ∀ (N : Nat) (x4 : Int32) (σ : Mem), fr wf_21 τ σ → pf wf_21 (lp_X3_ahead_27 F x1 x2 N x4 σ) τ := by
  intro N
  induction N with
  | zero => intro _ _ _; exact pf_none rfl
  | succ N ih =>
    intro x4 σ f_σ
    rw [lp_X3_ahead_27_s]
    refine pf_ite ?_ ?_
    · exact pf_ret f_σ
    · refine pf_bnd (fr_X0_lead hF wt_h1) (fun _ h => h.elim) f_σ (fun r1 s2 f_s2 => ?_)
      refine pf_ite ?_ ?_
      · exact ih _ _ f_s2
      · exact pf_ret f_s2
set_option maxRecDepth 100000 in
theorem fr_X3_ahead {F : Nat} (hF : 1000 ≤ F) {x1 : Int32} {x2 : Int32} {σ : Mem} : pf wf_21 (f_X3_ahead F x1 x2 σ) σ := by
  have f_σ : fr wf_21 σ σ := fr_rf
  rw [f_X3_ahead_e]
  refine pf_bnd (fr_X3_noPair hF) (fun _ h => h.elim) f_σ (fun r1 s2 f_s2 => ?_)
  refine pf_ite ?_ ?_
  · refine pf_bnd (fr_X0_reckon hF wt_h1) (fun c h => by unfold wf_8 at h; unfold wf_21; omega) f_s2 (fun r3 s4 f_s4 => ?_)
    exact fl_X3_ahead_27 hF _ _ _ f_s4
  · refine pf_bnd (fr_X3_refuse hF) (ww_6) f_s2 (fun r5 s6 f_s6 => ?_)
    exact pf_ret f_s6
set_option maxRecDepth 100000 in
theorem fl_X3_bestLaw_44 {F : Nat} (hF : 1000 ≤ F) {x1 : Int32} {x2 : Int32} {τ : Mem} : ∀ (N : Nat) (x4 : Int32) (x5 : Int32) (x6 : Int32) (σ : Mem), fr wf_33 τ σ → pf wf_33 (lp_X3_bestLaw_44 F x1 x2 N x4 x5 x6 σ) τ := by
  intro N
  induction N with
  | zero => intro _ _ _ _ _; exact pf_none rfl
  | succ N ih =>
    intro x4 x5 x6 σ f_σ
    rw [lp_X3_bestLaw_44_s]
    refine pf_ite ?_ ?_
    · exact pf_ret f_σ
    · refine pf_bnd (fr_X0_rule hF wt_h24) (fun c h => by unfold wf_7 at h; unfold wf_33; omega) f_σ (fun r1 s2 f_s2 => ?_)
      refine pf_bnd (fr_X0_wealth hF wt_h24) (fun _ h => h.elim) f_s2 (fun r3 s4 f_s4 => ?_)
      refine pf_ite ?_ ?_
      · rw [j_X3_bestLaw_86_e]
        exact ih _ _ _ _ f_s4
      · rw [j_X3_bestLaw_86_e]
        exact ih _ _ _ _ f_s4
set_option maxRecDepth 100000 in
theorem fr_X3_bestLaw {F : Nat} (hF : 1000 ≤ F) {x1 : Int32} {x2 : Int32} {σ : Mem} : pf wf_33 (f_X3_bestLaw F x1 x2 σ) σ := by
  have f_σ : fr wf_33 σ σ := fr_rf
  rw [f_X3_bestLaw_e]
  refine pf_bnd (fr_X3_noLookerFar hF) (fun _ h => h.elim) f_σ (fun r1 s2 f_s2 => ?_)
  refine pf_ite ?_ ?_
  · refine pf_bnd (fr_X0_takeFrom hF wt_h24 wt_h1) (fun c h => by unfold wf_0 at h; unfold wf_33; omega) f_s2 (fun r3 s4 f_s4 => ?_)
    refine pf_bnd (fr_X0_reckon hF wt_h24) (fun c h => by unfold wf_8 at h; unfold wf_33; omega) f_s4 (fun r5 s6 f_s6 => ?_)
    exact fl_X3_bestLaw_44 hF _ _ _ _ _ f_s6
  · refine pf_bnd (fr_X3_refuse hF) (ww_25) f_s2 (fun r7 s8 f_s8 => ?_)
    exact pf_ret f_s8
set_option maxRecDepth 100000 in
theorem fl_X3_newcomer_112 {F : Nat} (hF : 1000 ≤ F) {x3 : Int32} {x5 : Int32} {τ : Mem} : ∀ (N : Nat) (x6 : Int32) (σ : Mem), fr wf_33 τ σ → pf wf_33 (lp_X3_newcomer_112 F x3 x5 N x6 σ) τ := by
  intro N
  induction N with
  | zero => intro _ _ _; exact pf_none rfl
  | succ N ih =>
    intro x6 σ f_σ
    rw [lp_X3_newcomer_112_s]
    refine pf_ite ?_ ?_
    · exact pf_ret f_σ
    · refine pf_bnd (fr_X0_firstHolding hF wt_h24) (fun _ h => h.elim) f_σ (fun r1 s2 f_s2 => ?_)
      refine pf_ite ?_ ?_
      · exact ih _ _ f_s2
      · refine pf_ite ?_ ?_
        · exact pf_ret f_s2
        · exact pf_ret f_s2
set_option maxRecDepth 100000 in
theorem fr_X3_newcomer {F : Nat} (hF : 1000 ≤ F) {x1 : Int32} {x2 : Int32} {x3 : Int32} {σ : Mem} : pf wf_33 (f_X3_newcomer F x1 x2 x3 σ) σ := by
  have f_σ : fr wf_33 σ σ := fr_rf
  rw [f_X3_newcomer_e]
  refine pf_bnd (fr_X3_noPane hF) (fun _ h => h.elim) f_σ (fun r1 s2 f_s2 => ?_)
  refine pf_bnd (fr_X3_notBelow hF) (fun _ h => h.elim) f_s2 (fun r3 s4 f_s4 => ?_)
  refine pf_bnd (fr_X3_notBelow hF) (fun _ h => h.elim) f_s4 (fun r5 s6 f_s6 => ?_)
  refine pf_bnd (fr_X3_firstOf hF) (fun _ h => h.elim) f_s6 (fun r7 s8 f_s8 => ?_)
  refine pf_bnd (fr_X3_firstOf hF) (fun _ h => h.elim) f_s8 (fun r9 s10 f_s10 => ?_)
  refine pf_ite ?_ ?_
  · refine pf_ite ?_ ?_
    · rw [j_X3_newcomer_44_e]
      refine pf_ite ?_ ?_
      · refine pf_bnd (fr_X0_takeFrom hF wt_h24 wt_h1) (fun c h => by unfold wf_0 at h; unfold wf_33; omega) f_s10 (fun r11 s12 f_s12 => ?_)
        refine pf_bnd (fr_X0_addLooker hF wt_h24) (fun c h => by unfold wf_3 at h; unfold wf_33; omega) f_s12 (fun r13 s14 f_s14 => ?_)
        refine pf_lt (fun z15 _ => ?_)
        refine pf_bnd (fr_X0_post hF wt_h24) (fun c h => by unfold wf_4 at h; unfold wf_33; omega) f_s14 (fun r16 s17 f_s17 => ?_)
        refine pf_bnd (fr_X0_reckon hF wt_h24) (fun c h => by unfold wf_8 at h; unfold wf_33; omega) f_s17 (fun r18 s19 f_s19 => ?_)
        exact fl_X3_newcomer_112 hF _ _ _ f_s19
      · refine pf_bnd (fr_X3_refuse hF) (ww_25) f_s10 (fun r20 s21 f_s21 => ?_)
        exact pf_ret f_s21
    · rw [j_X3_newcomer_44_e]
      refine pf_ite ?_ ?_
      · refine pf_bnd (fr_X0_takeFrom hF wt_h24 wt_h1) (fun c h => by unfold wf_0 at h; unfold wf_33; omega) f_s10 (fun r22 s23 f_s23 => ?_)
        refine pf_bnd (fr_X0_addLooker hF wt_h24) (fun c h => by unfold wf_3 at h; unfold wf_33; omega) f_s23 (fun r24 s25 f_s25 => ?_)
        refine pf_lt (fun z26 _ => ?_)
        refine pf_bnd (fr_X0_post hF wt_h24) (fun c h => by unfold wf_4 at h; unfold wf_33; omega) f_s25 (fun r27 s28 f_s28 => ?_)
        refine pf_bnd (fr_X0_reckon hF wt_h24) (fun c h => by unfold wf_8 at h; unfold wf_33; omega) f_s28 (fun r29 s30 f_s30 => ?_)
        exact fl_X3_newcomer_112 hF _ _ _ f_s30
      · refine pf_bnd (fr_X3_refuse hF) (ww_25) f_s10 (fun r31 s32 f_s32 => ?_)
        exact pf_ret f_s32
  · rw [j_X3_newcomer_44_e]
    refine pf_ite ?_ ?_
    · refine pf_bnd (fr_X0_takeFrom hF wt_h24 wt_h1) (fun c h => by unfold wf_0 at h; unfold wf_33; omega) f_s10 (fun r33 s34 f_s34 => ?_)
      refine pf_bnd (fr_X0_addLooker hF wt_h24) (fun c h => by unfold wf_3 at h; unfold wf_33; omega) f_s34 (fun r35 s36 f_s36 => ?_)
      refine pf_lt (fun z37 _ => ?_)
      refine pf_bnd (fr_X0_post hF wt_h24) (fun c h => by unfold wf_4 at h; unfold wf_33; omega) f_s36 (fun r38 s39 f_s39 => ?_)
      refine pf_bnd (fr_X0_reckon hF wt_h24) (fun c h => by unfold wf_8 at h; unfold wf_33; omega) f_s39 (fun r40 s41 f_s41 => ?_)
      exact fl_X3_newcomer_112 hF _ _ _ f_s41
    · refine pf_bnd (fr_X3_refuse hF) (ww_25) f_s10 (fun r42 s43 f_s43 => ?_)
      exact pf_ret f_s43
set_option maxRecDepth 100000 in
theorem fl_X3_mostSeen_31 {F : Nat} (hF : 1000 ≤ F) {x1 : Int32} {τ : Mem} : ∀ (N : Nat) (x3 : Int32) (x4 : Int32) (x5 : Int32) (σ : Mem), fr wf_21 τ σ → pf wf_21 (lp_X3_mostSeen_31 F x1 N x3 x4 x5 σ) τ := by
  intro N
  induction N with
  | zero => intro _ _ _ _ _; exact pf_none rfl
  | succ N ih =>
    intro x3 x4 x5 σ f_σ
    rw [lp_X3_mostSeen_31_s]
    refine pf_ite ?_ ?_
    · refine pf_ite ?_ ?_
      · exact pf_ret f_σ
      · exact pf_ret f_σ
    · refine pf_bnd (fr_X0_gainOfAll hF wt_h1) (fun _ h => h.elim) f_σ (fun r1 s2 f_s2 => ?_)
      refine pf_ite ?_ ?_
      · rw [j_X3_mostSeen_63_e]
        exact ih _ _ _ _ f_s2
      · rw [j_X3_mostSeen_63_e]
        exact ih _ _ _ _ f_s2
set_option maxRecDepth 100000 in
theorem fr_X3_mostSeen {F : Nat} (hF : 1000 ≤ F) {x1 : Int32} {σ : Mem} : pf wf_21 (f_X3_mostSeen F x1 σ) σ := by
  have f_σ : fr wf_21 σ σ := fr_rf
  rw [f_X3_mostSeen_e]
  refine pf_bnd (fr_X3_notBelow hF) (fun _ h => h.elim) f_σ (fun r1 s2 f_s2 => ?_)
  refine pf_ite ?_ ?_
  · refine pf_bnd (fr_X0_reckon hF wt_h1) (fun c h => by unfold wf_8 at h; unfold wf_21; omega) f_s2 (fun r3 s4 f_s4 => ?_)
    exact fl_X3_mostSeen_31 hF _ _ _ _ _ f_s4
  · refine pf_bnd (fr_X3_refuse hF) (ww_6) f_s2 (fun r5 s6 f_s6 => ?_)
    exact pf_ret f_s6
set_option maxRecDepth 100000 in
theorem fl_X3_duels_30 {F : Nat} (hF : 1000 ≤ F) {x1 : Int32} {x2 : Int32} {τ : Mem} : ∀ (N : Nat) (x4 : Int32) (x5 : Int32) (σ : Mem), fr wf_21 τ σ → pf wf_21 (lp_X3_duels_30 F x1 x2 N x4 x5 σ) τ := by
  intro N
  induction N with
  | zero => intro _ _ _ _; exact pf_none rfl
  | succ N ih =>
    intro x4 x5 σ f_σ
    rw [lp_X3_duels_30_s]
    refine pf_ite ?_ ?_
    · exact pf_ret f_σ
    · refine pf_chk (fun v1 => ?_)
      refine pf_chk (fun v2 => ?_)
      refine pf_ite ?_ ?_
      · rw [j_X3_duels_70_e]
        exact ih _ _ _ f_σ
      · refine pf_chk (fun v3 => ?_)
        refine pf_ite ?_ ?_
        · rw [j_X3_duels_70_e]
          exact ih _ _ _ f_σ
        · rw [j_X3_duels_70_e]
          exact ih _ _ _ f_σ
set_option maxRecDepth 100000 in
theorem fr_X3_duels {F : Nat} (hF : 1000 ≤ F) {x1 : Int32} {x2 : Int32} {σ : Mem} : pf wf_21 (f_X3_duels F x1 x2 σ) σ := by
  have f_σ : fr wf_21 σ σ := fr_rf
  rw [f_X3_duels_e]
  refine pf_bnd (fr_X3_noPair hF) (fun _ h => h.elim) f_σ (fun r1 s2 f_s2 => ?_)
  refine pf_ite ?_ ?_
  · refine pf_bnd (fr_X0_reckon hF wt_h1) (fun c h => by unfold wf_8 at h; unfold wf_21; omega) f_s2 (fun r3 s4 f_s4 => ?_)
    exact fl_X3_duels_30 hF _ _ _ _ f_s4
  · refine pf_bnd (fr_X3_refuse hF) (ww_6) f_s2 (fun r5 s6 f_s6 => ?_)
    exact pf_ret f_s6
def wf_39 (c : Nat) : Prop := (85 ≤ c ∧ c ≤ 86) ∨ (2007 ≤ c ∧ c ≤ 2007)
theorem ww_31 : ∀ c, wf_17 c → wf_39 c := fun c h => Or.inl (⟨Nat.le_trans (by omega) (h).1, Nat.le_trans (h).2 (by omega)⟩)
set_option maxRecDepth 100000 in
theorem fr_X3_row {F : Nat} (hF : 1000 ≤ F) {x1 : Int32} {σ : Mem} : pf wf_39 (f_X3_row F x1 σ) σ := by
  have f_σ : fr wf_39 σ σ := fr_rf
  rw [f_X3_row_e]
  refine pf_bnd (fr_X3_outside hF) (fun _ h => h.elim) f_σ (fun r1 s2 f_s2 => ?_)
  refine pf_ite ?_ ?_
  · refine pf_ite ?_ ?_
    · rw [j_X3_row_24_e]
      refine pf_ite ?_ ?_
      · refine pf_chk (fun v3 => ?_)
        refine pf_up2 (c := 85) f_s2 (rfl) (Or.inl (⟨by omega, by omega⟩)) (fun s4 f_s4 => ?_)
        refine pf_up2 (c := 2007) f_s4 (rfl) (Or.inr (⟨by omega, by omega⟩)) (fun s5 f_s5 => ?_)
        exact pf_ret f_s5
      · refine pf_bnd (fr_X3_refuse hF) (ww_31) f_s2 (fun r6 s7 f_s7 => ?_)
        exact pf_ret f_s7
    · rw [j_X3_row_24_e]
      refine pf_ite ?_ ?_
      · refine pf_chk (fun v8 => ?_)
        refine pf_up2 (c := 85) f_s2 (rfl) (Or.inl (⟨by omega, by omega⟩)) (fun s9 f_s9 => ?_)
        refine pf_up2 (c := 2007) f_s9 (rfl) (Or.inr (⟨by omega, by omega⟩)) (fun s10 f_s10 => ?_)
        exact pf_ret f_s10
      · refine pf_bnd (fr_X3_refuse hF) (ww_31) f_s2 (fun r11 s12 f_s12 => ?_)
        exact pf_ret f_s12
  · rw [j_X3_row_24_e]
    refine pf_ite ?_ ?_
    · refine pf_chk (fun v13 => ?_)
      refine pf_up2 (c := 85) f_s2 (rfl) (Or.inl (⟨by omega, by omega⟩)) (fun s14 f_s14 => ?_)
      refine pf_up2 (c := 2007) f_s14 (rfl) (Or.inr (⟨by omega, by omega⟩)) (fun s15 f_s15 => ?_)
      exact pf_ret f_s15
    · refine pf_bnd (fr_X3_refuse hF) (ww_31) f_s2 (fun r16 s17 f_s17 => ?_)
      exact pf_ret f_s17
def wf_40 (c : Nat) : Prop := (19 ≤ c ∧ c ≤ 23) ∨ (86 ≤ c ∧ c ≤ 86) ∨ (2007 ≤ c ∧ c ≤ 2007)
theorem ww_32 : ∀ c, wf_17 c → wf_40 c := fun c h => Or.inr (Or.inl (h))
set_option maxRecDepth 100000 in
theorem fl_X3_judge_25 {F : Nat} (hF : 1000 ≤ F) {x1 : Int32} {τ : Mem} : ∀ (N : Nat) (x2 : Int32) (x3 : Int32) (σ : Mem), fr wf_40 τ σ → pf wf_40 (lp_X3_judge_25 F x1 N x2 x3 σ) τ := by
  intro N
  induction N with
  | zero => intro _ _ _ _; exact pf_none rfl
  | succ N ih =>
    intro x2 x3 σ f_σ
    rw [lp_X3_judge_25_s]
    refine pf_ite ?_ ?_
    · rw [j_X3_judge_68_e]
      refine pf_up2 (c := 2007) f_σ (rfl) (Or.inr (Or.inr (⟨by omega, by omega⟩))) (fun s1 f_s1 => ?_)
      exact pf_ret f_s1
    · refine pf_ite ?_ ?_
      · refine pf_chk (fun v2 => ?_)
        refine pf_bnd (fr_X0_holder hF wt_h1) (fun _ h => h.elim) f_σ (fun r3 s4 f_s4 => ?_)
        refine pf_bnd (fr_X3_inRow hF) (fun _ h => h.elim) f_s4 (fun r5 s6 f_s6 => ?_)
        refine pf_ite ?_ ?_
        · rw [j_X3_judge_62_e]
          exact ih _ _ _ f_s6
        · rw [j_X3_judge_62_e]
          exact ih _ _ _ f_s6
      · rw [j_X3_judge_68_e]
        refine pf_up2 (c := 2007) f_σ (rfl) (Or.inr (Or.inr (⟨by omega, by omega⟩))) (fun s7 f_s7 => ?_)
        exact pf_ret f_s7
set_option maxRecDepth 100000 in
theorem fr_X3_judge {F : Nat} (hF : 1000 ≤ F) {x1 : Int32} {σ : Mem} : pf wf_40 (f_X3_judge F x1 σ) σ := by
  have f_σ : fr wf_40 σ σ := fr_rf
  rw [f_X3_judge_e]
  refine pf_bnd (fr_X0_isView hF) (fun _ h => h.elim) f_σ (fun r1 s2 f_s2 => ?_)
  refine pf_ite ?_ ?_
  · refine pf_bnd (fr_X3_refuse hF) (ww_32) f_s2 (fun r3 s4 f_s4 => ?_)
    exact pf_ret f_s4
  · refine pf_bnd (fr_X0_reckon hF wt_h1) (fun c h => by unfold wf_8 at h; unfold wf_40; omega) f_s2 (fun r5 s6 f_s6 => ?_)
    exact fl_X3_judge_25 hF _ _ _ _ f_s6
def wf_41 (c : Nat) : Prop := (2007 ≤ c ∧ c ≤ 2007)
set_option maxRecDepth 100000 in
theorem fr_X3_clear {F : Nat} (hF : 1000 ≤ F) {σ : Mem} : pf wf_41 (f_X3_clear F σ) σ := by
  have f_σ : fr wf_41 σ σ := fr_rf
  rw [f_X3_clear_e]
  refine pf_up2 (c := 2007) f_σ (rfl) (⟨by omega, by omega⟩) (fun s1 f_s1 => ?_)
  exact pf_ret f_s1
set_option maxRecDepth 100000 in
theorem fr_X3_nextSeed {F : Nat} (hF : 1000 ≤ F) {x0 : Int32} {σ : Mem} : pf wf_1 (f_X3_nextSeed F x0 σ) σ := by
  have f_σ : fr wf_1 σ σ := fr_rf
  rw [f_X3_nextSeed_e]
  exact pf_ret f_σ
set_option maxRecDepth 100000 in
theorem fr_X3_drawBelow {F : Nat} (hF : 1000 ≤ F) {x0 : Int32} {x1 : Int32} {σ : Mem} : pf wf_1 (f_X3_drawBelow F x0 x1 σ) σ := by
  have f_σ : fr wf_1 σ σ := fr_rf
  rw [f_X3_drawBelow_e]
  refine pf_ite ?_ ?_
  · refine pf_nz ?_
    exact pf_ret f_σ
  · exact pf_ret f_σ
def wf_42 (c : Nat) : Prop := (29 ≤ c ∧ c ≤ 33)
set_option maxRecDepth 100000 in
theorem fl_X3_castRosters_32 {F : Nat} (hF : 1000 ≤ F) {x3 : Int32} {k4 : Int32 → Int32 → Mem → Option (Int32 × Mem)} {τ : Mem} (hk4 : ∀ (x2 : Int32) (x3 : Int32) (σ : Mem), fr wf_42 τ σ → pf wf_42 (k4 x2 x3 σ) τ) : ∀ (N : Nat) (x2 : Int32) (x4 : Int32) (σ : Mem), fr wf_42 τ σ → pf wf_42 (lp_X3_castRosters_32 F k4 x3 N x2 x4 σ) τ := by
  intro N
  induction N with
  | zero => intro _ _ _ _; exact pf_none rfl
  | succ N ih =>
    intro x2 x4 σ f_σ
    rw [lp_X3_castRosters_32_s]
    refine pf_ite ?_ ?_
    · exact hk4 _ _ _ f_σ
    · refine pf_bnd (fr_X3_nextSeed hF) (fun _ h => h.elim) f_σ (fun r1 s2 f_s2 => ?_)
      refine pf_bnd (fr_X3_drawBelow hF) (fun _ h => h.elim) f_s2 (fun r3 s4 f_s4 => ?_)
      refine pf_bnd (fr_X3_nextSeed hF) (fun _ h => h.elim) f_s4 (fun r5 s6 f_s6 => ?_)
      refine pf_lt (fun z7 _ => ?_)
      refine pf_bnd (fr_X3_drawBelow hF) (fun _ h => h.elim) f_s6 (fun r8 s9 f_s9 => ?_)
      refine pf_bnd (fr_X0_post hF wt_h24) (fun c h => by unfold wf_4 at h; unfold wf_42; omega) f_s9 (fun r10 s11 f_s11 => ?_)
      exact ih _ _ _ f_s11
set_option maxRecDepth 100000 in
theorem fl_X3_castRosters_4 {F : Nat} (hF : 1000 ≤ F) {τ : Mem} : ∀ (N : Nat) (x2 : Int32) (x3 : Int32) (σ : Mem), fr wf_42 τ σ → pf wf_42 (lp_X3_castRosters_4 F N x2 x3 σ) τ := by
  intro N
  induction N with
  | zero => intro _ _ _ _; exact pf_none rfl
  | succ N ih =>
    intro x2 x3 σ f_σ
    rw [lp_X3_castRosters_4_s]
    refine pf_ite ?_ ?_
    · exact pf_ret f_σ
    · refine pf_bnd (fr_X0_post hF wt_h24) (fun c h => by unfold wf_4 at h; unfold wf_42; omega) f_σ (fun r1 s2 f_s2 => ?_)
      exact fl_X3_castRosters_32 hF ih _ _ _ _ f_s2
set_option maxRecDepth 100000 in
theorem fr_X3_castRosters {F : Nat} (hF : 1000 ≤ F) {x1 : Int32} {σ : Mem} : pf wf_42 (f_X3_castRosters F x1 σ) σ := by
  have f_σ : fr wf_42 σ σ := fr_rf
  rw [f_X3_castRosters_e]
  exact fl_X3_castRosters_4 hF _ _ _ _ f_σ
theorem ww_33 : ∀ c, wf_42 c → wf_33 c := fun c h => Or.inr (Or.inl (h))
set_option maxRecDepth 100000 in
theorem fl_X3_lots_61 {F : Nat} (hF : 1000 ≤ F) {x1 : Int32} {x3 : Int32} {τ : Mem} : ∀ (N : Nat) (x5 : Int32) (x6 : Int32) (x7 : Int32) (σ : Mem), fr wf_33 τ σ → pf wf_33 (lp_X3_lots_61 F x1 x3 N x5 x6 x7 σ) τ := by
  intro N
  induction N with
  | zero => intro _ _ _ _ _; exact pf_none rfl
  | succ N ih =>
    intro x5 x6 x7 σ f_σ
    rw [lp_X3_lots_61_s]
    refine pf_ite ?_ ?_
    · exact pf_ret f_σ
    · refine pf_bnd (fr_X3_castRosters hF) (ww_33) f_σ (fun r1 s2 f_s2 => ?_)
      refine pf_bnd (fr_X0_reckon hF wt_h24) (fun c h => by unfold wf_8 at h; unfold wf_33; omega) f_s2 (fun r3 s4 f_s4 => ?_)
      refine pf_bnd (fr_X0_wealthiest hF wt_h24) (fun _ h => h.elim) f_s4 (fun r5 s6 f_s6 => ?_)
      refine pf_ite ?_ ?_
      · refine pf_bnd (fr_X0_held hF wt_h24) (fun _ h => h.elim) f_s6 (fun r7 s8 f_s8 => ?_)
        refine pf_bnd (fr_J6_bitCount_0f7a4 hF) (fun _ h => h.elim) f_s8 (fun r9 s10 f_s10 => ?_)
        rw [j_X3_lots_140_e]
        exact ih _ _ _ _ f_s10
      · refine pf_ite ?_ ?_
        · rw [j_X3_lots_140_e]
          exact ih _ _ _ _ f_s6
        · refine pf_bnd (fr_X0_wealth hF wt_h24) (fun _ h => h.elim) f_s6 (fun r11 s12 f_s12 => ?_)
          rw [j_X3_lots_140_e]
          exact ih _ _ _ _ f_s12
set_option maxRecDepth 100000 in
theorem fr_X3_lots {F : Nat} (hF : 1000 ≤ F) {x1 : Int32} {x2 : Int32} {x3 : Int32} {σ : Mem} : pf wf_33 (f_X3_lots F x1 x2 x3 σ) σ := by
  have f_σ : fr wf_33 σ σ := fr_rf
  rw [f_X3_lots_e]
  refine pf_bnd (fr_X3_outside hF) (fun _ h => h.elim) f_σ (fun r1 s2 f_s2 => ?_)
  refine pf_bnd (fr_X3_notBelow hF) (fun _ h => h.elim) f_s2 (fun r3 s4 f_s4 => ?_)
  refine pf_bnd (fr_X3_firstOf hF) (fun _ h => h.elim) f_s4 (fun r5 s6 f_s6 => ?_)
  refine pf_ite ?_ ?_
  · refine pf_ite ?_ ?_
    · exact pf_ret f_s6
    · refine pf_bnd (fr_X0_takeFrom hF wt_h24 wt_h1) (fun c h => by unfold wf_0 at h; unfold wf_33; omega) f_s6 (fun r7 s8 f_s8 => ?_)
      exact fl_X3_lots_61 hF _ _ _ _ _ f_s8
  · refine pf_bnd (fr_X3_refuse hF) (ww_25) f_s6 (fun r9 s10 f_s10 => ?_)
    exact pf_ret f_s10
def wf_43 (c : Nat) : Prop := (47 ≤ c ∧ c ≤ 50) ∨ (52 ≤ c ∧ c ≤ 56) ∨ (58 ≤ c ∧ c ≤ 63) ∨ (2003 ≤ c ∧ c ≤ 2003)
set_option maxRecDepth 100000 in
theorem fr_X3_image {F : Nat} (hF : 1000 ≤ F) {σ : Mem} : pf wf_43 (f_X3_image F σ) σ := by
  have f_σ : fr wf_43 σ σ := fr_rf
  rw [f_X3_image_e]
  refine pf_bnd (fr_X0_takeFrom hF wt_h47 wt_h1) (fun c h => by unfold wf_0 at h; unfold wf_43; omega) f_σ (fun r1 s2 f_s2 => ?_)
  refine pf_up2 (c := 2003) f_s2 (rfl) (Or.inr (Or.inr (Or.inr (⟨by omega, by omega⟩)))) (fun s3 f_s3 => ?_)
  exact pf_ret f_s3
def wf_44 (c : Nat) : Prop := (1 ≤ c ∧ c ≤ 4) ∨ (6 ≤ c ∧ c ≤ 10) ∨ (12 ≤ c ∧ c ≤ 17) ∨ (86 ≤ c ∧ c ≤ 86) ∨ (3005 ≤ c ∧ c ≤ 3005)
theorem ww_34 : ∀ c, wf_17 c → wf_44 c := fun c h => Or.inr (Or.inr (Or.inr (Or.inl (h))))
theorem ww_35 : ∀ c, wf_12 c → wf_44 c := fun c h => Or.inr (Or.inr (Or.inr (Or.inr (h))))
set_option maxRecDepth 100000 in
theorem fr_X3_restore {F : Nat} (hF : 1000 ≤ F) {σ : Mem} : pf wf_44 (f_X3_restore F σ) σ := by
  have f_σ : fr wf_44 σ σ := fr_rf
  rw [f_X3_restore_e]
  refine pf_ite ?_ ?_
  · refine pf_bnd (fr_X3_refuse hF) (ww_34) f_σ (fun r1 s2 f_s2 => ?_)
    exact pf_ret f_s2
  · refine pf_bnd (fr_X0_takeFrom hF wt_h1 wt_h47) (fun c h => by unfold wf_0 at h; unfold wf_44; omega) f_σ (fun r3 s4 f_s4 => ?_)
    refine pf_bnd (fr_X2_forget hF) (ww_35) f_s4 (fun r5 s6 f_s6 => ?_)
    exact pf_ret f_s6
set_option maxRecDepth 100000 in
theorem fr_X3_count {F : Nat} (hF : 1000 ≤ F) {x1 : Int32} {σ : Mem} : pf wf_38 (f_X3_count F x1 σ) σ := by
  have f_σ : fr wf_38 σ σ := fr_rf
  rw [f_X3_count_e]
  refine pf_ite ?_ ?_
  · rw [j_X3_count_22_e]
    refine pf_ite ?_ ?_
    · exact pf_ret f_σ
    · refine pf_ite ?_ ?_
      · exact pf_ret f_σ
      · refine pf_ite ?_ ?_
        · exact pf_ret f_σ
        · refine pf_ite ?_ ?_
          · exact pf_ret f_σ
          · refine pf_ite ?_ ?_
            · refine pf_bnd (fr_X0_reckon hF wt_h1) (fun c h => by unfold wf_8 at h; unfold wf_38; omega) f_σ (fun r1 s2 f_s2 => ?_)
              refine pf_bnd (fr_X0_held hF wt_h1) (fun _ h => h.elim) f_s2 (fun r3 s4 f_s4 => ?_)
              refine pf_bnd (fr_J6_bitCount_0f7a4 hF) (fun _ h => h.elim) f_s4 (fun r5 s6 f_s6 => ?_)
              exact pf_ret f_s6
            · refine pf_ite ?_ ?_
              · refine pf_bnd (fr_X0_allShown hF wt_h1) (fun _ h => h.elim) f_σ (fun r7 s8 f_s8 => ?_)
                refine pf_bnd (fr_J6_bitCount_0f7a4 hF) (fun _ h => h.elim) f_s8 (fun r9 s10 f_s10 => ?_)
                exact pf_ret f_s10
              · refine pf_ite ?_ ?_
                · refine pf_bnd (fr_X0_hoursOfAll hF wt_h1) (fun _ h => h.elim) f_σ (fun r11 s12 f_s12 => ?_)
                  exact pf_ret f_s12
                · refine pf_ite ?_ ?_
                  · exact pf_ret f_σ
                  · refine pf_ite ?_ ?_
                    · exact pf_ret f_σ
                    · refine pf_ite ?_ ?_
                      · exact pf_ret f_σ
                      · exact pf_ret f_σ
  · refine pf_ite ?_ ?_
    · rw [j_X3_count_22_e]
      refine pf_ite ?_ ?_
      · exact pf_ret f_σ
      · refine pf_ite ?_ ?_
        · exact pf_ret f_σ
        · refine pf_ite ?_ ?_
          · exact pf_ret f_σ
          · refine pf_ite ?_ ?_
            · exact pf_ret f_σ
            · refine pf_ite ?_ ?_
              · refine pf_bnd (fr_X0_reckon hF wt_h1) (fun c h => by unfold wf_8 at h; unfold wf_38; omega) f_σ (fun r13 s14 f_s14 => ?_)
                refine pf_bnd (fr_X0_held hF wt_h1) (fun _ h => h.elim) f_s14 (fun r15 s16 f_s16 => ?_)
                refine pf_bnd (fr_J6_bitCount_0f7a4 hF) (fun _ h => h.elim) f_s16 (fun r17 s18 f_s18 => ?_)
                exact pf_ret f_s18
              · refine pf_ite ?_ ?_
                · refine pf_bnd (fr_X0_allShown hF wt_h1) (fun _ h => h.elim) f_σ (fun r19 s20 f_s20 => ?_)
                  refine pf_bnd (fr_J6_bitCount_0f7a4 hF) (fun _ h => h.elim) f_s20 (fun r21 s22 f_s22 => ?_)
                  exact pf_ret f_s22
                · refine pf_ite ?_ ?_
                  · refine pf_bnd (fr_X0_hoursOfAll hF wt_h1) (fun _ h => h.elim) f_σ (fun r23 s24 f_s24 => ?_)
                    exact pf_ret f_s24
                  · refine pf_ite ?_ ?_
                    · exact pf_ret f_σ
                    · refine pf_ite ?_ ?_
                      · exact pf_ret f_σ
                      · refine pf_ite ?_ ?_
                        · exact pf_ret f_σ
                        · exact pf_ret f_σ
    · refine pf_chk (fun v25 => ?_)
      exact pf_ret f_σ
set_option maxRecDepth 100000 in
theorem fr_X4_in {F : Nat} (hF : 1000 ≤ F) {y0 : Int64} {y2 : Int64} {y4 : Int64} {σ : Mem} : pf wf_1 (f_X4_in F y0 y2 y4 σ) σ := by
  have f_σ : fr wf_1 σ σ := fr_rf
  rw [f_X4_in_e]
  refine pf_ite ?_ ?_
  · rw [j_X4_in_17_e]
    exact pf_ret f_σ
  · refine pf_ite ?_ ?_
    · rw [j_X4_in_17_e]
      exact pf_ret f_σ
    · exact pf_ret f_σ
def wf_45 (c : Nat) : Prop := (108 ≤ c ∧ c ≤ 108)
set_option maxRecDepth 100000 in
theorem fr_X4_refuse {F : Nat} (hF : 1000 ≤ F) {x1 : Int32} {σ : Mem} : pf wf_45 (f_X4_refuse F x1 σ) σ := by
  have f_σ : fr wf_45 σ σ := fr_rf
  rw [f_X4_refuse_e]
  refine pf_chk (fun v1 => ?_)
  refine pf_up2 (c := 108) f_σ (rfl) (⟨by omega, by omega⟩) (fun s2 f_s2 => ?_)
  exact pf_ret f_s2
set_option maxRecDepth 100000 in
theorem fr_X4_isLooker {F : Nat} (hF : 1000 ≤ F) {x1 : Int32} {σ : Mem} : pf wf_1 (f_X4_isLooker F x1 σ) σ := by
  have f_σ : fr wf_1 σ σ := fr_rf
  rw [f_X4_isLooker_e]
  refine pf_bnd (fr_X4_in hF) (fun _ h => h.elim) f_σ (fun r1 s2 f_s2 => ?_)
  refine pf_bz ?_
  exact pf_ret f_s2
set_option maxRecDepth 100000 in
theorem fr_X4_isPane {F : Nat} (hF : 1000 ≤ F) {x1 : Int32} {σ : Mem} : pf wf_1 (f_X4_isPane F x1 σ) σ := by
  have f_σ : fr wf_1 σ σ := fr_rf
  rw [f_X4_isPane_e]
  refine pf_bnd (fr_X4_in hF) (fun _ h => h.elim) f_σ (fun r1 s2 f_s2 => ?_)
  refine pf_bz ?_
  exact pf_ret f_s2
set_option maxRecDepth 100000 in
theorem fr_X4_isView {F : Nat} (hF : 1000 ≤ F) {x0 : Int32} {σ : Mem} : pf wf_1 (f_X4_isView F x0 σ) σ := by
  have f_σ : fr wf_1 σ σ := fr_rf
  rw [f_X4_isView_e]
  refine pf_bnd (fr_X4_in hF) (fun _ h => h.elim) f_σ (fun r1 s2 f_s2 => ?_)
  refine pf_bz ?_
  exact pf_ret f_s2
set_option maxRecDepth 100000 in
theorem fr_X4_isHour {F : Nat} (hF : 1000 ≤ F) {x0 : Int32} {σ : Mem} : pf wf_1 (f_X4_isHour F x0 σ) σ := by
  have f_σ : fr wf_1 σ σ := fr_rf
  rw [f_X4_isHour_e]
  refine pf_bnd (fr_X4_in hF) (fun _ h => h.elim) f_σ (fun r1 s2 f_s2 => ?_)
  refine pf_bz ?_
  exact pf_ret f_s2
set_option maxRecDepth 100000 in
theorem fr_X4_areTwo {F : Nat} (hF : 1000 ≤ F) {x1 : Int32} {x2 : Int32} {σ : Mem} : pf wf_1 (f_X4_areTwo F x1 x2 σ) σ := by
  have f_σ : fr wf_1 σ σ := fr_rf
  rw [f_X4_areTwo_e]
  refine pf_bnd (fr_X4_isLooker hF) (fun _ h => h.elim) f_σ (fun r1 s2 f_s2 => ?_)
  refine pf_ite ?_ ?_
  · rw [j_X4_areTwo_25_e]
    exact pf_ret f_s2
  · refine pf_bnd (fr_X4_isLooker hF) (fun _ h => h.elim) f_s2 (fun r3 s4 f_s4 => ?_)
    refine pf_ite ?_ ?_
    · rw [j_X4_areTwo_25_e]
      exact pf_ret f_s4
    · refine pf_ite ?_ ?_
      · rw [j_X4_areTwo_25_e]
        exact pf_ret f_s4
      · exact pf_ret f_s4
set_option maxRecDepth 100000 in
theorem fr_X4_wrongNumber {F : Nat} (hF : 1000 ≤ F) {x0 : Int32} {x1 : Int32} {x2 : Int32} {σ : Mem} : pf wf_1 (f_X4_wrongNumber F x0 x1 x2 σ) σ := by
  have f_σ : fr wf_1 σ σ := fr_rf
  rw [f_X4_wrongNumber_e]
  refine pf_ite ?_ ?_
  · refine pf_ite ?_ ?_
    · exact pf_ret f_σ
    · exact pf_ret f_σ
  · exact pf_ret f_σ
set_option maxRecDepth 100000 in
theorem fr_X4_wrongBit {F : Nat} (hF : 1000 ≤ F) {x0 : Int32} {x1 : Int32} {x2 : Int32} {σ : Mem} : pf wf_1 (f_X4_wrongBit F x0 x1 x2 σ) σ := by
  have f_σ : fr wf_1 σ σ := fr_rf
  rw [f_X4_wrongBit_e]
  refine pf_ite ?_ ?_
  · refine pf_bnd (fr_X4_in hF) (fun _ h => h.elim) f_σ (fun r1 s2 f_s2 => ?_)
    refine pf_ite ?_ ?_
    · exact pf_ret f_s2
    · rw [j_X4_wrongBit_20_e]
      exact pf_ret f_s2
  · rw [j_X4_wrongBit_20_e]
    exact pf_ret f_σ
set_option maxRecDepth 100000 in
theorem fr_X4_hasBit {F : Nat} (hF : 1000 ≤ F) {x0 : Int32} {x1 : Int32} {σ : Mem} : pf wf_1 (f_X4_hasBit F x0 x1 σ) σ := by
  have f_σ : fr wf_1 σ σ := fr_rf
  rw [f_X4_hasBit_e]
  refine pf_ite ?_ ?_
  · exact pf_ret f_σ
  · exact pf_ret f_σ
set_option maxRecDepth 100000 in
theorem fl_X4_onesOf_4 {F : Nat} (hF : 1000 ≤ F) {τ : Mem} : ∀ (N : Nat) (x1 : Int32) (x2 : Int32) (σ : Mem), fr wf_1 τ σ → pf wf_1 (lp_X4_onesOf_4 F N x1 x2 σ) τ := by
  intro N
  induction N with
  | zero => intro _ _ _ _; exact pf_none rfl
  | succ N ih =>
    intro x1 x2 σ f_σ
    rw [lp_X4_onesOf_4_s]
    refine pf_ite ?_ ?_
    · exact pf_ret f_σ
    · refine pf_lt (fun z1 _ => ?_)
      exact ih _ _ _ f_σ
set_option maxRecDepth 100000 in
theorem fr_X4_onesOf {F : Nat} (hF : 1000 ≤ F) {x0 : Int32} {σ : Mem} : pf wf_1 (f_X4_onesOf F x0 σ) σ := by
  have f_σ : fr wf_1 σ σ := fr_rf
  rw [f_X4_onesOf_e]
  exact fl_X4_onesOf_4 hF _ _ _ _ f_σ
set_option maxRecDepth 100000 in
theorem fr_X4_pullOf {F : Nat} (hF : 1000 ≤ F) {x1 : Int32} {x2 : Int32} {σ : Mem} : pf wf_1 (f_X4_pullOf F x1 x2 σ) σ := by
  have f_σ : fr wf_1 σ σ := fr_rf
  rw [f_X4_pullOf_e]
  refine pf_bnd (fr_X4_in hF) (fun _ h => h.elim) f_σ (fun r1 s2 f_s2 => ?_)
  refine pf_ite ?_ ?_
  · rw [j_X4_pullOf_19_e]
    refine pf_chk (fun v3 => ?_)
    refine pf_lt (fun z4 _ => ?_)
    refine pf_ite ?_ ?_
    · exact pf_ret f_s2
    · refine pf_ite ?_ ?_
      · refine pf_ite ?_ ?_
        · exact pf_ret f_s2
        · exact pf_ret f_s2
      · refine pf_ite ?_ ?_
        · refine pf_ite ?_ ?_
          · exact pf_ret f_s2
          · exact pf_ret f_s2
        · refine pf_ite ?_ ?_
          · exact pf_ret f_s2
          · refine pf_ite ?_ ?_
            · refine pf_ite ?_ ?_
              · exact pf_ret f_s2
              · exact pf_ret f_s2
            · exact pf_ret f_s2
  · rw [j_X4_pullOf_19_e]
    refine pf_chk (fun v5 => ?_)
    refine pf_lt (fun z6 _ => ?_)
    refine pf_ite ?_ ?_
    · exact pf_ret f_s2
    · refine pf_ite ?_ ?_
      · refine pf_ite ?_ ?_
        · exact pf_ret f_s2
        · exact pf_ret f_s2
      · refine pf_ite ?_ ?_
        · refine pf_ite ?_ ?_
          · exact pf_ret f_s2
          · exact pf_ret f_s2
        · refine pf_ite ?_ ?_
          · exact pf_ret f_s2
          · refine pf_ite ?_ ?_
            · refine pf_ite ?_ ?_
              · exact pf_ret f_s2
              · exact pf_ret f_s2
            · exact pf_ret f_s2
set_option maxRecDepth 100000 in
theorem fl_X4_allShown_4 {F : Nat} (hF : 1000 ≤ F) {τ : Mem} : ∀ (N : Nat) (x1 : Int32) (x2 : Int32) (σ : Mem), fr wf_1 τ σ → pf wf_1 (lp_X4_allShown_4 F N x1 x2 σ) τ := by
  intro N
  induction N with
  | zero => intro _ _ _ _; exact pf_none rfl
  | succ N ih =>
    intro x1 x2 σ f_σ
    rw [lp_X4_allShown_4_s]
    refine pf_ite ?_ ?_
    · exact pf_ret f_σ
    · refine pf_chk (fun v1 => ?_)
      refine pf_lt (fun z2 _ => ?_)
      exact ih _ _ _ f_σ
set_option maxRecDepth 100000 in
theorem fr_X4_allShown {F : Nat} (hF : 1000 ≤ F) {σ : Mem} : pf wf_1 (f_X4_allShown F σ) σ := by
  have f_σ : fr wf_1 σ σ := fr_rf
  rw [f_X4_allShown_e]
  exact fl_X4_allShown_4 hF _ _ _ _ f_σ
set_option maxRecDepth 100000 in
theorem fr_X4_seesIn {F : Nat} (hF : 1000 ≤ F) {x1 : Int32} {x2 : Int32} {σ : Mem} : pf wf_1 (f_X4_seesIn F x1 x2 σ) σ := by
  have f_σ : fr wf_1 σ σ := fr_rf
  rw [f_X4_seesIn_e]
  refine pf_chk (fun v1 => ?_)
  refine pf_lt (fun z2 _ => ?_)
  refine pf_chk (fun v3 => ?_)
  refine pf_ite ?_ ?_
  · refine pf_bnd (fr_X4_allShown hF) (fun _ h => h.elim) f_σ (fun r4 s5 f_s5 => ?_)
    exact pf_ret f_s5
  · refine pf_ite ?_ ?_
    · refine pf_chk (fun v6 => ?_)
      exact pf_ret f_σ
    · exact pf_ret f_σ
set_option maxRecDepth 100000 in
theorem fl_X4_bringsOf_5 {F : Nat} (hF : 1000 ≤ F) {x1 : Int32} {x2 : Int32} {τ : Mem} : ∀ (N : Nat) (x3 : Int32) (x4 : Int32) (σ : Mem), fr wf_1 τ σ → pf wf_1 (lp_X4_bringsOf_5 F x1 x2 N x3 x4 σ) τ := by
  intro N
  induction N with
  | zero => intro _ _ _ _; exact pf_none rfl
  | succ N ih =>
    intro x3 x4 σ f_σ
    rw [lp_X4_bringsOf_5_s]
    refine pf_ite ?_ ?_
    · exact pf_ret f_σ
    · refine pf_bnd (fr_X4_seesIn hF) (fun _ h => h.elim) f_σ (fun r1 s2 f_s2 => ?_)
      refine pf_bnd (fr_X4_hasBit hF) (fun _ h => h.elim) f_s2 (fun r3 s4 f_s4 => ?_)
      refine pf_ite ?_ ?_
      · rw [j_X4_bringsOf_38_e]
        exact ih _ _ _ f_s4
      · refine pf_bnd (fr_X4_pullOf hF) (fun _ h => h.elim) f_s4 (fun r5 s6 f_s6 => ?_)
        rw [j_X4_bringsOf_38_e]
        exact ih _ _ _ f_s6
set_option maxRecDepth 100000 in
theorem fr_X4_bringsOf {F : Nat} (hF : 1000 ≤ F) {x1 : Int32} {x2 : Int32} {σ : Mem} : pf wf_1 (f_X4_bringsOf F x1 x2 σ) σ := by
  have f_σ : fr wf_1 σ σ := fr_rf
  rw [f_X4_bringsOf_e]
  exact fl_X4_bringsOf_5 hF _ _ _ _ f_σ
def wf_46 (c : Nat) : Prop := (109 ≤ c ∧ c ≤ 109)
set_option maxRecDepth 100000 in
theorem fl_X4_layBrings_12 {F : Nat} (hF : 1000 ≤ F) {x1 : Int32} {k2 : Int32 → Mem → Option (Unit × Mem)} {τ : Mem} (hk2 : ∀ (x1 : Int32) (σ : Mem), fr wf_46 τ σ → pf wf_46 (k2 x1 σ) τ) : ∀ (N : Nat) (x2 : Int32) (σ : Mem), fr wf_46 τ σ → pf wf_46 (lp_X4_layBrings_12 F k2 x1 N x2 σ) τ := by
  intro N
  induction N with
  | zero => intro _ _ _; exact pf_none rfl
  | succ N ih =>
    intro x2 σ f_σ
    rw [lp_X4_layBrings_12_s]
    refine pf_ite ?_ ?_
    · exact hk2 _ _ f_σ
    · refine pf_bnd (fr_X4_bringsOf hF) (fun _ h => h.elim) f_σ (fun r1 s2 f_s2 => ?_)
      refine pf_chk (fun v3 => ?_)
      refine pf_up2 (c := 109) f_s2 (rfl) (⟨by omega, by omega⟩) (fun s4 f_s4 => ?_)
      exact ih _ _ f_s4
set_option maxRecDepth 100000 in
theorem fl_X4_layBrings_2 {F : Nat} (hF : 1000 ≤ F) {τ : Mem} : ∀ (N : Nat) (x1 : Int32) (σ : Mem), fr wf_46 τ σ → pf wf_46 (lp_X4_layBrings_2 F N x1 σ) τ := by
  intro N
  induction N with
  | zero => intro _ _ _; exact pf_none rfl
  | succ N ih =>
    intro x1 σ f_σ
    rw [lp_X4_layBrings_2_s]
    refine pf_ite ?_ ?_
    · exact pf_ret f_σ
    · exact fl_X4_layBrings_12 hF ih _ _ _ f_σ
set_option maxRecDepth 100000 in
theorem fr_X4_layBrings {F : Nat} (hF : 1000 ≤ F) {σ : Mem} : pf wf_46 (f_X4_layBrings F σ) σ := by
  have f_σ : fr wf_46 σ σ := fr_rf
  rw [f_X4_layBrings_e]
  exact fl_X4_layBrings_2 hF _ _ _ f_σ
set_option maxRecDepth 100000 in
theorem fr_X4_held {F : Nat} (hF : 1000 ≤ F) {x0 : Int32} {σ : Mem} : pf wf_1 (f_X4_held F x0 σ) σ := by
  have f_σ : fr wf_1 σ σ := fr_rf
  rw [f_X4_held_e]
  refine pf_ite ?_ ?_
  · exact pf_ret f_σ
  · exact pf_ret f_σ
set_option maxRecDepth 100000 in
theorem fl_X4_ownerLooked_13 {F : Nat} (hF : 1000 ≤ F) {τ : Mem} : ∀ (N : Nat) (x1 : Int32) (x2 : Int32) (x3 : Int32) (x4 : Int32) (x5 : Int32) (σ : Mem), fr wf_1 τ σ → pf wf_1 (lp_X4_ownerLooked_13 F N x1 x2 x3 x4 x5 σ) τ := by
  intro N
  induction N with
  | zero => intro _ _ _ _ _ _ _; exact pf_none rfl
  | succ N ih =>
    intro x1 x2 x3 x4 x5 σ f_σ
    rw [lp_X4_ownerLooked_13_s]
    refine pf_ite ?_ ?_
    · refine pf_ite ?_ ?_
      · rw [j_X4_ownerLooked_156_e]
        rw [j_X4_ownerLooked_157_e]
        refine pf_ite ?_ ?_
        · exact pf_ret f_σ
        · exact pf_ret f_σ
      · refine pf_ite ?_ ?_
        · rw [j_X4_ownerLooked_152_e]
          rw [j_X4_ownerLooked_157_e]
          refine pf_ite ?_ ?_
          · exact pf_ret f_σ
          · exact pf_ret f_σ
        · refine pf_ite ?_ ?_
          · refine pf_ite ?_ ?_
            · rw [j_X4_ownerLooked_137_e]
              refine pf_ite ?_ ?_
              · refine pf_ite ?_ ?_
                · rw [j_X4_ownerLooked_156_e]
                  rw [j_X4_ownerLooked_157_e]
                  refine pf_ite ?_ ?_
                  · exact pf_ret f_σ
                  · exact pf_ret f_σ
                · rw [j_X4_ownerLooked_152_e]
                  rw [j_X4_ownerLooked_157_e]
                  refine pf_ite ?_ ?_
                  · exact pf_ret f_σ
                  · exact pf_ret f_σ
              · rw [j_X4_ownerLooked_156_e]
                rw [j_X4_ownerLooked_157_e]
                refine pf_ite ?_ ?_
                · exact pf_ret f_σ
                · exact pf_ret f_σ
            · rw [j_X4_ownerLooked_152_e]
              rw [j_X4_ownerLooked_157_e]
              refine pf_ite ?_ ?_
              · exact pf_ret f_σ
              · exact pf_ret f_σ
          · rw [j_X4_ownerLooked_137_e]
            refine pf_ite ?_ ?_
            · refine pf_ite ?_ ?_
              · rw [j_X4_ownerLooked_156_e]
                rw [j_X4_ownerLooked_157_e]
                refine pf_ite ?_ ?_
                · exact pf_ret f_σ
                · exact pf_ret f_σ
              · rw [j_X4_ownerLooked_152_e]
                rw [j_X4_ownerLooked_157_e]
                refine pf_ite ?_ ?_
                · exact pf_ret f_σ
                · exact pf_ret f_σ
            · rw [j_X4_ownerLooked_156_e]
              rw [j_X4_ownerLooked_157_e]
              refine pf_ite ?_ ?_
              · exact pf_ret f_σ
              · exact pf_ret f_σ
    · refine pf_chk (fun v1 => ?_)
      refine pf_ite ?_ ?_
      · rw [j_X4_ownerLooked_49_e]
        rw [j_X4_ownerLooked_54_e]
        refine pf_chk (fun v2 => ?_)
        refine pf_ite ?_ ?_
        · rw [j_X4_ownerLooked_73_e]
          refine pf_chk (fun v3 => ?_)
          refine pf_ite ?_ ?_
          · rw [j_X4_ownerLooked_96_e]
            refine pf_chk (fun v4 => ?_)
            refine pf_lt (fun z5 _ => ?_)
            exact ih _ _ _ _ _ _ f_σ
          · rw [j_X4_ownerLooked_96_e]
            refine pf_chk (fun v6 => ?_)
            refine pf_lt (fun z7 _ => ?_)
            exact ih _ _ _ _ _ _ f_σ
        · rw [j_X4_ownerLooked_73_e]
          refine pf_chk (fun v8 => ?_)
          refine pf_ite ?_ ?_
          · rw [j_X4_ownerLooked_96_e]
            refine pf_chk (fun v9 => ?_)
            refine pf_lt (fun z10 _ => ?_)
            exact ih _ _ _ _ _ _ f_σ
          · rw [j_X4_ownerLooked_96_e]
            refine pf_chk (fun v11 => ?_)
            refine pf_lt (fun z12 _ => ?_)
            exact ih _ _ _ _ _ _ f_σ
      · refine pf_ite ?_ ?_
        · rw [j_X4_ownerLooked_53_e]
          rw [j_X4_ownerLooked_54_e]
          refine pf_chk (fun v13 => ?_)
          refine pf_ite ?_ ?_
          · rw [j_X4_ownerLooked_73_e]
            refine pf_chk (fun v14 => ?_)
            refine pf_ite ?_ ?_
            · rw [j_X4_ownerLooked_96_e]
              refine pf_chk (fun v15 => ?_)
              refine pf_lt (fun z16 _ => ?_)
              exact ih _ _ _ _ _ _ f_σ
            · rw [j_X4_ownerLooked_96_e]
              refine pf_chk (fun v17 => ?_)
              refine pf_lt (fun z18 _ => ?_)
              exact ih _ _ _ _ _ _ f_σ
          · rw [j_X4_ownerLooked_73_e]
            refine pf_chk (fun v19 => ?_)
            refine pf_ite ?_ ?_
            · rw [j_X4_ownerLooked_96_e]
              refine pf_chk (fun v20 => ?_)
              refine pf_lt (fun z21 _ => ?_)
              exact ih _ _ _ _ _ _ f_σ
            · rw [j_X4_ownerLooked_96_e]
              refine pf_chk (fun v22 => ?_)
              refine pf_lt (fun z23 _ => ?_)
              exact ih _ _ _ _ _ _ f_σ
        · refine pf_ite ?_ ?_
          · rw [j_X4_ownerLooked_53_e]
            rw [j_X4_ownerLooked_54_e]
            refine pf_chk (fun v24 => ?_)
            refine pf_ite ?_ ?_
            · rw [j_X4_ownerLooked_73_e]
              refine pf_chk (fun v25 => ?_)
              refine pf_ite ?_ ?_
              · rw [j_X4_ownerLooked_96_e]
                refine pf_chk (fun v26 => ?_)
                refine pf_lt (fun z27 _ => ?_)
                exact ih _ _ _ _ _ _ f_σ
              · rw [j_X4_ownerLooked_96_e]
                refine pf_chk (fun v28 => ?_)
                refine pf_lt (fun z29 _ => ?_)
                exact ih _ _ _ _ _ _ f_σ
            · rw [j_X4_ownerLooked_73_e]
              refine pf_chk (fun v30 => ?_)
              refine pf_ite ?_ ?_
              · rw [j_X4_ownerLooked_96_e]
                refine pf_chk (fun v31 => ?_)
                refine pf_lt (fun z32 _ => ?_)
                exact ih _ _ _ _ _ _ f_σ
              · rw [j_X4_ownerLooked_96_e]
                refine pf_chk (fun v33 => ?_)
                refine pf_lt (fun z34 _ => ?_)
                exact ih _ _ _ _ _ _ f_σ
          · rw [j_X4_ownerLooked_49_e]
            rw [j_X4_ownerLooked_54_e]
            refine pf_chk (fun v35 => ?_)
            refine pf_ite ?_ ?_
            · rw [j_X4_ownerLooked_73_e]
              refine pf_chk (fun v36 => ?_)
              refine pf_ite ?_ ?_
              · rw [j_X4_ownerLooked_96_e]
                refine pf_chk (fun v37 => ?_)
                refine pf_lt (fun z38 _ => ?_)
                exact ih _ _ _ _ _ _ f_σ
              · rw [j_X4_ownerLooked_96_e]
                refine pf_chk (fun v39 => ?_)
                refine pf_lt (fun z40 _ => ?_)
                exact ih _ _ _ _ _ _ f_σ
            · rw [j_X4_ownerLooked_73_e]
              refine pf_chk (fun v41 => ?_)
              refine pf_ite ?_ ?_
              · rw [j_X4_ownerLooked_96_e]
                refine pf_chk (fun v42 => ?_)
                refine pf_lt (fun z43 _ => ?_)
                exact ih _ _ _ _ _ _ f_σ
              · rw [j_X4_ownerLooked_96_e]
                refine pf_chk (fun v44 => ?_)
                refine pf_lt (fun z45 _ => ?_)
                exact ih _ _ _ _ _ _ f_σ
set_option maxRecDepth 100000 in
theorem fr_X4_ownerLooked {F : Nat} (hF : 1000 ≤ F) {σ : Mem} : pf wf_1 (f_X4_ownerLooked F σ) σ := by
  have f_σ : fr wf_1 σ σ := fr_rf
  rw [f_X4_ownerLooked_e]
  exact fl_X4_ownerLooked_13 hF _ _ _ _ _ _ _ f_σ
def wf_47 (c : Nat) : Prop := (110 ≤ c ∧ c ≤ 110)
set_option maxRecDepth 100000 in
theorem fl_X4_ownerIn_2 {F : Nat} (hF : 1000 ≤ F) {x1 : Int32} {x2 : Int32} {τ : Mem} : ∀ (N : Nat) (x3 : Int32) (σ : Mem), fr wf_47 τ σ → pf wf_47 (lp_X4_ownerIn_2 F x1 x2 N x3 σ) τ := by
  intro N
  induction N with
  | zero => intro _ _ _; exact pf_none rfl
  | succ N ih =>
    intro x3 σ f_σ
    rw [lp_X4_ownerIn_2_s]
    refine pf_ite ?_ ?_
    · refine pf_bnd (fr_X4_ownerLooked hF) (fun _ h => h.elim) f_σ (fun r1 s2 f_s2 => ?_)
      exact pf_ret f_s2
    · refine pf_chk (fun v3 => ?_)
      refine pf_bnd (fr_X4_held hF) (fun _ h => h.elim) f_σ (fun r4 s5 f_s5 => ?_)
      refine pf_chk (fun v6 => ?_)
      refine pf_up2 (c := 110) f_s5 (rfl) (⟨by omega, by omega⟩) (fun s7 f_s7 => ?_)
      exact ih _ _ f_s7
set_option maxRecDepth 100000 in
theorem fr_X4_ownerIn {F : Nat} (hF : 1000 ≤ F) {x1 : Int32} {x2 : Int32} {σ : Mem} : pf wf_47 (f_X4_ownerIn F x1 x2 σ) σ := by
  have f_σ : fr wf_47 σ σ := fr_rf
  rw [f_X4_ownerIn_e]
  exact fl_X4_ownerIn_2 hF _ _ _ f_σ
set_option maxRecDepth 100000 in
theorem fl_X4_viewsIn_5 {F : Nat} (hF : 1000 ≤ F) {x1 : Int32} {x2 : Int32} {τ : Mem} : ∀ (N : Nat) (x3 : Int32) (x4 : Int32) (σ : Mem), fr wf_47 τ σ → pf wf_47 (lp_X4_viewsIn_5 F x1 x2 N x3 x4 σ) τ := by
  intro N
  induction N with
  | zero => intro _ _ _ _; exact pf_none rfl
  | succ N ih =>
    intro x3 x4 σ f_σ
    rw [lp_X4_viewsIn_5_s]
    refine pf_ite ?_ ?_
    · exact pf_ret f_σ
    · refine pf_bnd (fr_X4_ownerIn hF) (fun _ h => h) f_σ (fun r1 s2 f_s2 => ?_)
      refine pf_ite ?_ ?_
      · rw [j_X4_viewsIn_32_e]
        exact ih _ _ _ f_s2
      · rw [j_X4_viewsIn_32_e]
        exact ih _ _ _ f_s2
set_option maxRecDepth 100000 in
theorem fr_X4_viewsIn {F : Nat} (hF : 1000 ≤ F) {x1 : Int32} {x2 : Int32} {σ : Mem} : pf wf_47 (f_X4_viewsIn F x1 x2 σ) σ := by
  have f_σ : fr wf_47 σ σ := fr_rf
  rw [f_X4_viewsIn_e]
  exact fl_X4_viewsIn_5 hF _ _ _ _ f_σ
set_option maxRecDepth 100000 in
theorem fl_X4_worthBy_4 {F : Nat} (hF : 1000 ≤ F) {x1 : Int32} {τ : Mem} : ∀ (N : Nat) (x2 : Int32) (x3 : Int32) (σ : Mem), fr wf_1 τ σ → pf wf_1 (lp_X4_worthBy_4 F x1 N x2 x3 σ) τ := by
  intro N
  induction N with
  | zero => intro _ _ _ _; exact pf_none rfl
  | succ N ih =>
    intro x2 x3 σ f_σ
    rw [lp_X4_worthBy_4_s]
    refine pf_ite ?_ ?_
    · exact pf_ret f_σ
    · refine pf_bnd (fr_X4_hasBit hF) (fun _ h => h.elim) f_σ (fun r1 s2 f_s2 => ?_)
      refine pf_ite ?_ ?_
      · rw [j_X4_worthBy_29_e]
        exact ih _ _ _ f_s2
      · refine pf_chk (fun v3 => ?_)
        rw [j_X4_worthBy_29_e]
        exact ih _ _ _ f_s2
set_option maxRecDepth 100000 in
theorem fr_X4_worthBy {F : Nat} (hF : 1000 ≤ F) {x1 : Int32} {σ : Mem} : pf wf_1 (f_X4_worthBy F x1 σ) σ := by
  have f_σ : fr wf_1 σ σ := fr_rf
  rw [f_X4_worthBy_e]
  exact fl_X4_worthBy_4 hF _ _ _ _ f_σ
set_option maxRecDepth 100000 in
theorem fr_X4_worthIn {F : Nat} (hF : 1000 ≤ F) {x1 : Int32} {x2 : Int32} {σ : Mem} : pf wf_47 (f_X4_worthIn F x1 x2 σ) σ := by
  have f_σ : fr wf_47 σ σ := fr_rf
  rw [f_X4_worthIn_e]
  refine pf_bnd (fr_X4_viewsIn hF) (fun _ h => h) f_σ (fun r1 s2 f_s2 => ?_)
  refine pf_bnd (fr_X4_worthBy hF) (fun _ h => h.elim) f_s2 (fun r3 s4 f_s4 => ?_)
  exact pf_ret f_s4
def wf_48 (c : Nat) : Prop := (109 ≤ c ∧ c ≤ 110)
theorem ww_36 : ∀ c, wf_46 c → wf_48 c := fun c h => ⟨Nat.le_trans (by omega) (h).1, Nat.le_trans (h).2 (by omega)⟩
theorem ww_37 : ∀ c, wf_47 c → wf_48 c := fun c h => ⟨Nat.le_trans (by omega) (h).1, Nat.le_trans (h).2 (by omega)⟩
set_option maxRecDepth 100000 in
theorem fr_X4_worthAnew {F : Nat} (hF : 1000 ≤ F) {x1 : Int32} {x2 : Int32} {σ : Mem} : pf wf_48 (f_X4_worthAnew F x1 x2 σ) σ := by
  have f_σ : fr wf_48 σ σ := fr_rf
  rw [f_X4_worthAnew_e]
  refine pf_bnd (fr_X4_layBrings hF) (ww_36) f_σ (fun r1 s2 f_s2 => ?_)
  refine pf_bnd (fr_X4_worthIn hF) (ww_37) f_s2 (fun r3 s4 f_s4 => ?_)
  exact pf_ret f_s4
set_option maxRecDepth 100000 in
theorem fl_X4_hoursOf_4 {F : Nat} (hF : 1000 ≤ F) {x1 : Int32} {τ : Mem} : ∀ (N : Nat) (x2 : Int32) (x3 : Int32) (σ : Mem), fr wf_1 τ σ → pf wf_1 (lp_X4_hoursOf_4 F x1 N x2 x3 σ) τ := by
  intro N
  induction N with
  | zero => intro _ _ _ _; exact pf_none rfl
  | succ N ih =>
    intro x2 x3 σ f_σ
    rw [lp_X4_hoursOf_4_s]
    refine pf_ite ?_ ?_
    · exact pf_ret f_σ
    · refine pf_chk (fun v1 => ?_)
      refine pf_ite ?_ ?_
      · rw [j_X4_hoursOf_30_e]
        exact ih _ _ _ f_σ
      · rw [j_X4_hoursOf_30_e]
        exact ih _ _ _ f_σ
set_option maxRecDepth 100000 in
theorem fr_X4_hoursOf {F : Nat} (hF : 1000 ≤ F) {x1 : Int32} {σ : Mem} : pf wf_1 (f_X4_hoursOf F x1 σ) σ := by
  have f_σ : fr wf_1 σ σ := fr_rf
  rw [f_X4_hoursOf_e]
  exact fl_X4_hoursOf_4 hF _ _ _ _ f_σ
def wf_49 (c : Nat) : Prop := (107 ≤ c ∧ c ≤ 107) ∨ (109 ≤ c ∧ c ≤ 109) ∨ (1009 ≤ c ∧ c ≤ 1009)
theorem ww_38 : ∀ c, wf_46 c → wf_49 c := fun c h => Or.inr (Or.inl (h))
set_option maxRecDepth 100000 in
theorem fl_X4_goDays_6 {F : Nat} (hF : 1000 ≤ F) {x1 : Int32} {τ : Mem} : ∀ (N : Nat) (x2 : Int32) (σ : Mem), fr wf_49 τ σ → pf wf_49 (lp_X4_goDays_6 F x1 N x2 σ) τ := by
  intro N
  induction N with
  | zero => intro _ _ _; exact pf_none rfl
  | succ N ih =>
    intro x2 σ f_σ
    rw [lp_X4_goDays_6_s]
    refine pf_ite ?_ ?_
    · refine pf_up2 (c := 1009) f_σ (rfl) (Or.inr (Or.inr (⟨by omega, by omega⟩))) (fun s1 f_s1 => ?_)
      exact pf_ret f_s1
    · refine pf_chk (fun v2 => ?_)
      refine pf_bnd (fr_X4_held hF) (fun _ h => h.elim) f_σ (fun r3 s4 f_s4 => ?_)
      refine pf_up2 (c := 107) f_s4 (rfl) (Or.inl (⟨by omega, by omega⟩)) (fun s5 f_s5 => ?_)
      exact ih _ _ f_s5
set_option maxRecDepth 100000 in
theorem fr_X4_goDays {F : Nat} (hF : 1000 ≤ F) {x1 : Int32} {σ : Mem} : pf wf_49 (f_X4_goDays F x1 σ) σ := by
  have f_σ : fr wf_49 σ σ := fr_rf
  rw [f_X4_goDays_e]
  refine pf_bnd (fr_X4_layBrings hF) (ww_38) f_σ (fun r1 s2 f_s2 => ?_)
  exact fl_X4_goDays_6 hF _ _ _ f_s2
set_option maxRecDepth 100000 in
theorem fl_X4_owned_8 {F : Nat} (hF : 1000 ≤ F) {τ : Mem} : ∀ (N : Nat) (x1 : Int32) (x2 : Int32) (σ : Mem), fr wf_48 τ σ → pf wf_48 (lp_X4_owned_8 F N x1 x2 σ) τ := by
  intro N
  induction N with
  | zero => intro _ _ _ _; exact pf_none rfl
  | succ N ih =>
    intro x1 x2 σ f_σ
    rw [lp_X4_owned_8_s]
    refine pf_ite ?_ ?_
    · exact pf_ret f_σ
    · refine pf_bnd (fr_X4_ownerIn hF) (ww_37) f_σ (fun r1 s2 f_s2 => ?_)
      refine pf_ite ?_ ?_
      · rw [j_X4_owned_29_e]
        exact ih _ _ _ f_s2
      · rw [j_X4_owned_29_e]
        exact ih _ _ _ f_s2
set_option maxRecDepth 100000 in
theorem fr_X4_owned {F : Nat} (hF : 1000 ≤ F) {σ : Mem} : pf wf_48 (f_X4_owned F σ) σ := by
  have f_σ : fr wf_48 σ σ := fr_rf
  rw [f_X4_owned_e]
  refine pf_bnd (fr_X4_layBrings hF) (ww_36) f_σ (fun r1 s2 f_s2 => ?_)
  exact fl_X4_owned_8 hF _ _ _ _ f_s2
def wf_50 (c : Nat) : Prop := (108 ≤ c ∧ c ≤ 108) ∨ (111 ≤ c ∧ c ≤ 111) ∨ (1010 ≤ c ∧ c ≤ 1010) ∨ (1015 ≤ c ∧ c ≤ 1015)
theorem ww_39 : ∀ c, wf_45 c → wf_50 c := fun c h => Or.inl (h)
set_option maxRecDepth 100000 in
theorem fr_X4_feed {F : Nat} (hF : 1000 ≤ F) {x1 : Int32} {σ : Mem} : pf wf_50 (f_X4_feed F x1 σ) σ := by
  have f_σ : fr wf_50 σ σ := fr_rf
  rw [f_X4_feed_e]
  refine pf_up2 (c := 1010) f_σ (rfl) (Or.inr (Or.inr (Or.inl (⟨by omega, by omega⟩)))) (fun s1 f_s1 => ?_)
  refine pf_ite ?_ ?_
  · refine pf_ite ?_ ?_
    · rw [j_X4_feed_32_e]
      refine pf_bnd (fr_X4_refuse hF) (ww_39) f_s1 (fun r2 s3 f_s3 => ?_)
      exact pf_ret f_s3
    · refine pf_ite ?_ ?_
      · rw [j_X4_feed_32_e]
        refine pf_bnd (fr_X4_refuse hF) (ww_39) f_s1 (fun r4 s5 f_s5 => ?_)
        exact pf_ret f_s5
      · refine pf_chk (fun v6 => ?_)
        refine pf_up2 (c := 111) f_s1 (rfl) (Or.inr (Or.inl (⟨by omega, by omega⟩))) (fun s7 f_s7 => ?_)
        refine pf_up2 (c := 1015) f_s7 (rfl) (Or.inr (Or.inr (Or.inr (⟨by omega, by omega⟩)))) (fun s8 f_s8 => ?_)
        exact pf_ret f_s8
  · refine pf_bnd (fr_X4_refuse hF) (ww_39) f_s1 (fun r9 s10 f_s10 => ?_)
    exact pf_ret f_s10
set_option maxRecDepth 100000 in
theorem fr_X4_here {F : Nat} (hF : 1000 ≤ F) {σ : Mem} : pf wf_1 (f_X4_here F σ) σ := by
  have f_σ : fr wf_1 σ σ := fr_rf
  rw [f_X4_here_e]
  refine pf_ite ?_ ?_
  · exact pf_ret f_σ
  · refine pf_chk (fun v1 => ?_)
    exact pf_ret f_σ
def wf_51 (c : Nat) : Prop := (1016 ≤ c ∧ c ≤ 1017)
set_option maxRecDepth 100000 in
theorem fl_X4_readDigits_4 {F : Nat} (hF : 1000 ≤ F) {x1 : Int32} {τ : Mem} : ∀ (N : Nat) (x2 : Int32) (x3 : Int32) (σ : Mem), fr wf_51 τ σ → pf wf_51 (lp_X4_readDigits_4 F x1 N x2 x3 σ) τ := by
  intro N
  induction N with
  | zero => intro _ _ _ _; exact pf_none rfl
  | succ N ih =>
    intro x2 x3 σ f_σ
    rw [lp_X4_readDigits_4_s]
    refine pf_ite ?_ ?_
    · exact pf_ret f_σ
    · refine pf_ite ?_ ?_
      · refine pf_bnd (fr_X4_here hF) (fun _ h => h.elim) f_σ (fun r1 s2 f_s2 => ?_)
        refine pf_bnd (fr_X4_in hF) (fun _ h => h.elim) f_s2 (fun r3 s4 f_s4 => ?_)
        refine pf_ite ?_ ?_
        · rw [j_X4_readDigits_34_e]
          rw [j_X4_readDigits_39_e]
          refine pf_bz ?_
          refine pf_up2 (c := 1017) f_s4 (rfl) (⟨by omega, by omega⟩) (fun s5 f_s5 => ?_)
          refine pf_ite ?_ ?_
          · refine pf_chk (fun v6 => ?_)
            rw [j_X4_readDigits_70_e]
            refine pf_ite ?_ ?_
            · rw [j_X4_readDigits_88_e]
              refine pf_up2 (c := 1016) f_s5 (rfl) (⟨by omega, by omega⟩) (fun s7 f_s7 => ?_)
              exact ih _ _ _ f_s7
            · rw [j_X4_readDigits_88_e]
              refine pf_up2 (c := 1016) f_s5 (rfl) (⟨by omega, by omega⟩) (fun s8 f_s8 => ?_)
              exact ih _ _ _ f_s8
          · rw [j_X4_readDigits_70_e]
            refine pf_ite ?_ ?_
            · rw [j_X4_readDigits_88_e]
              refine pf_up2 (c := 1016) f_s5 (rfl) (⟨by omega, by omega⟩) (fun s9 f_s9 => ?_)
              exact ih _ _ _ f_s9
            · rw [j_X4_readDigits_88_e]
              refine pf_up2 (c := 1016) f_s5 (rfl) (⟨by omega, by omega⟩) (fun s10 f_s10 => ?_)
              exact ih _ _ _ f_s10
        · rw [j_X4_readDigits_39_e]
          refine pf_bz ?_
          refine pf_up2 (c := 1017) f_s4 (rfl) (⟨by omega, by omega⟩) (fun s11 f_s11 => ?_)
          refine pf_ite ?_ ?_
          · refine pf_chk (fun v12 => ?_)
            rw [j_X4_readDigits_70_e]
            refine pf_ite ?_ ?_
            · rw [j_X4_readDigits_88_e]
              refine pf_up2 (c := 1016) f_s11 (rfl) (⟨by omega, by omega⟩) (fun s13 f_s13 => ?_)
              exact ih _ _ _ f_s13
            · rw [j_X4_readDigits_88_e]
              refine pf_up2 (c := 1016) f_s11 (rfl) (⟨by omega, by omega⟩) (fun s14 f_s14 => ?_)
              exact ih _ _ _ f_s14
          · rw [j_X4_readDigits_70_e]
            refine pf_ite ?_ ?_
            · rw [j_X4_readDigits_88_e]
              refine pf_up2 (c := 1016) f_s11 (rfl) (⟨by omega, by omega⟩) (fun s15 f_s15 => ?_)
              exact ih _ _ _ f_s15
            · rw [j_X4_readDigits_88_e]
              refine pf_up2 (c := 1016) f_s11 (rfl) (⟨by omega, by omega⟩) (fun s16 f_s16 => ?_)
              exact ih _ _ _ f_s16
      · rw [j_X4_readDigits_34_e]
        rw [j_X4_readDigits_39_e]
        refine pf_bz ?_
        refine pf_up2 (c := 1017) f_σ (rfl) (⟨by omega, by omega⟩) (fun s17 f_s17 => ?_)
        refine pf_ite ?_ ?_
        · refine pf_chk (fun v18 => ?_)
          rw [j_X4_readDigits_70_e]
          refine pf_ite ?_ ?_
          · rw [j_X4_readDigits_88_e]
            refine pf_up2 (c := 1016) f_s17 (rfl) (⟨by omega, by omega⟩) (fun s19 f_s19 => ?_)
            exact ih _ _ _ f_s19
          · rw [j_X4_readDigits_88_e]
            refine pf_up2 (c := 1016) f_s17 (rfl) (⟨by omega, by omega⟩) (fun s20 f_s20 => ?_)
            exact ih _ _ _ f_s20
        · rw [j_X4_readDigits_70_e]
          refine pf_ite ?_ ?_
          · rw [j_X4_readDigits_88_e]
            refine pf_up2 (c := 1016) f_s17 (rfl) (⟨by omega, by omega⟩) (fun s21 f_s21 => ?_)
            exact ih _ _ _ f_s21
          · rw [j_X4_readDigits_88_e]
            refine pf_up2 (c := 1016) f_s17 (rfl) (⟨by omega, by omega⟩) (fun s22 f_s22 => ?_)
            exact ih _ _ _ f_s22
set_option maxRecDepth 100000 in
theorem fr_X4_readDigits {F : Nat} (hF : 1000 ≤ F) {x1 : Int32} {σ : Mem} : pf wf_51 (f_X4_readDigits F x1 σ) σ := by
  have f_σ : fr wf_51 σ σ := fr_rf
  rw [f_X4_readDigits_e]
  exact fl_X4_readDigits_4 hF _ _ _ _ f_σ
set_option maxRecDepth 100000 in
theorem fr_X4_isLetter {F : Nat} (hF : 1000 ≤ F) {x0 : Int32} {σ : Mem} : pf wf_1 (f_X4_isLetter F x0 σ) σ := by
  have f_σ : fr wf_1 σ σ := fr_rf
  rw [f_X4_isLetter_e]
  refine pf_ite ?_ ?_
  · rw [j_X4_isLetter_42_e]
    exact pf_ret f_σ
  · refine pf_ite ?_ ?_
    · rw [j_X4_isLetter_42_e]
      exact pf_ret f_σ
    · refine pf_ite ?_ ?_
      · rw [j_X4_isLetter_42_e]
        exact pf_ret f_σ
      · refine pf_ite ?_ ?_
        · rw [j_X4_isLetter_42_e]
          exact pf_ret f_σ
        · refine pf_ite ?_ ?_
          · rw [j_X4_isLetter_42_e]
            exact pf_ret f_σ
          · refine pf_ite ?_ ?_
            · rw [j_X4_isLetter_42_e]
              exact pf_ret f_σ
            · refine pf_ite ?_ ?_
              · rw [j_X4_isLetter_42_e]
                exact pf_ret f_σ
              · exact pf_ret f_σ
def wf_52 (c : Nat) : Prop := (114 ≤ c ∧ c ≤ 114) ∨ (1016 ≤ c ∧ c ≤ 1017)
theorem ww_40 : ∀ c, wf_51 c → wf_52 c := fun c h => Or.inr (h)
set_option maxRecDepth 100000 in
theorem fr_X4_readNumbers {F : Nat} (hF : 1000 ≤ F) {x1 : Int32} {x2 : Int32} {σ : Mem} : pf wf_52 (f_X4_readNumbers F x1 x2 σ) σ := by
  have f_σ : fr wf_52 σ σ := fr_rf
  rw [f_X4_readNumbers_e]
  refine pf_ite ?_ ?_
  · refine pf_bnd (fr_X4_readDigits hF) (ww_40) f_σ (fun r1 s2 f_s2 => ?_)
    refine pf_chk (fun v3 => ?_)
    refine pf_up2 (c := 114) f_s2 (rfl) (Or.inl (⟨by omega, by omega⟩)) (fun s4 f_s4 => ?_)
    exact pf_ret f_s4
  · refine pf_ite ?_ ?_
    · refine pf_bnd (fr_X4_readDigits hF) (ww_40) f_σ (fun r5 s6 f_s6 => ?_)
      refine pf_chk (fun v7 => ?_)
      refine pf_up2 (c := 114) f_s6 (rfl) (Or.inl (⟨by omega, by omega⟩)) (fun s8 f_s8 => ?_)
      exact pf_ret f_s8
    · refine pf_ite ?_ ?_
      · refine pf_bnd (fr_X4_readDigits hF) (ww_40) f_σ (fun r9 s10 f_s10 => ?_)
        refine pf_chk (fun v11 => ?_)
        refine pf_up2 (c := 114) f_s10 (rfl) (Or.inl (⟨by omega, by omega⟩)) (fun s12 f_s12 => ?_)
        refine pf_bnd (fr_X4_readDigits hF) (ww_40) f_s12 (fun r13 s14 f_s14 => ?_)
        refine pf_chk (fun v15 => ?_)
        refine pf_up2 (c := 114) f_s14 (rfl) (Or.inl (⟨by omega, by omega⟩)) (fun s16 f_s16 => ?_)
        refine pf_bnd (fr_X4_readDigits hF) (ww_40) f_s16 (fun r17 s18 f_s18 => ?_)
        refine pf_chk (fun v19 => ?_)
        refine pf_up2 (c := 114) f_s18 (rfl) (Or.inl (⟨by omega, by omega⟩)) (fun s20 f_s20 => ?_)
        refine pf_bnd (fr_X4_readDigits hF) (ww_40) f_s20 (fun r21 s22 f_s22 => ?_)
        refine pf_chk (fun v23 => ?_)
        refine pf_up2 (c := 114) f_s22 (rfl) (Or.inl (⟨by omega, by omega⟩)) (fun s24 f_s24 => ?_)
        exact pf_ret f_s24
      · refine pf_ite ?_ ?_
        · refine pf_bnd (fr_X4_readDigits hF) (ww_40) f_σ (fun r25 s26 f_s26 => ?_)
          refine pf_chk (fun v27 => ?_)
          refine pf_up2 (c := 114) f_s26 (rfl) (Or.inl (⟨by omega, by omega⟩)) (fun s28 f_s28 => ?_)
          exact pf_ret f_s28
        · refine pf_bnd (fr_X4_readDigits hF) (ww_40) f_σ (fun r29 s30 f_s30 => ?_)
          refine pf_chk (fun v31 => ?_)
          refine pf_up2 (c := 114) f_s30 (rfl) (Or.inl (⟨by omega, by omega⟩)) (fun s32 f_s32 => ?_)
          refine pf_bnd (fr_X4_readDigits hF) (ww_40) f_s32 (fun r33 s34 f_s34 => ?_)
          refine pf_chk (fun v35 => ?_)
          refine pf_up2 (c := 114) f_s34 (rfl) (Or.inl (⟨by omega, by omega⟩)) (fun s36 f_s36 => ?_)
          exact pf_ret f_s36
def wf_53 (c : Nat) : Prop := (112 ≤ c ∧ c ≤ 114) ∨ (1016 ≤ c ∧ c ≤ 1018)
theorem ww_41 : ∀ c, wf_52 c → wf_53 c := fun c h => h.elim (fun a => Or.inl (⟨Nat.le_trans (by omega) (a).1, Nat.le_trans (a).2 (by omega)⟩)) (fun b0 => Or.inr (⟨Nat.le_trans (by omega) (b0).1, Nat.le_trans (b0).2 (by omega)⟩))
set_option maxRecDepth 100000 in
theorem fr_X4_readStatement {F : Nat} (hF : 1000 ≤ F) {σ : Mem} : pf wf_53 (f_X4_readStatement F σ) σ := by
  have f_σ : fr wf_53 σ σ := fr_rf
  rw [f_X4_readStatement_e]
  refine pf_bnd (fr_X4_here hF) (fun _ h => h.elim) f_σ (fun r1 s2 f_s2 => ?_)
  refine pf_chk (fun v3 => ?_)
  refine pf_up2 (c := 112) f_s2 (rfl) (Or.inl (⟨by omega, by omega⟩)) (fun s4 f_s4 => ?_)
  refine pf_up2 (c := 113) f_s4 (rfl) (Or.inl (⟨by omega, by omega⟩)) (fun s5 f_s5 => ?_)
  refine pf_ite ?_ ?_
  · refine pf_bnd (fr_X4_isLetter hF) (fun _ h => h.elim) f_s5 (fun r6 s7 f_s7 => ?_)
    refine pf_ite ?_ ?_
    · rw [j_X4_readStatement_42_e]
      rw [j_X4_readStatement_47_e]
      refine pf_bz ?_
      refine pf_up2 (c := 1017) f_s7 (rfl) (Or.inr (⟨by omega, by omega⟩)) (fun s8 f_s8 => ?_)
      refine pf_ite ?_ ?_
      · rw [j_X4_readStatement_67_e]
        refine pf_up2 (c := 1016) f_s8 (rfl) (Or.inr (⟨by omega, by omega⟩)) (fun s9 f_s9 => ?_)
        refine pf_ite ?_ ?_
        · refine pf_bnd (fr_X4_readNumbers hF) (ww_41) f_s9 (fun r10 s11 f_s11 => ?_)
          rw [j_X4_readStatement_86_e]
          refine pf_ite ?_ ?_
          · refine pf_bnd (fr_X4_here hF) (fun _ h => h.elim) f_s11 (fun r12 s13 f_s13 => ?_)
            refine pf_ite ?_ ?_
            · rw [j_X4_readStatement_108_e]
              refine pf_bz ?_
              refine pf_up2 (c := 1017) f_s13 (rfl) (Or.inr (⟨by omega, by omega⟩)) (fun s14 f_s14 => ?_)
              refine pf_ite ?_ ?_
              · rw [j_X4_readStatement_128_e]
                refine pf_up2 (c := 1016) f_s14 (rfl) (Or.inr (⟨by omega, by omega⟩)) (fun s15 f_s15 => ?_)
                refine pf_up2 (c := 1018) f_s15 (rfl) (Or.inr (⟨by omega, by omega⟩)) (fun s16 f_s16 => ?_)
                exact pf_ret f_s16
              · rw [j_X4_readStatement_128_e]
                refine pf_up2 (c := 1016) f_s14 (rfl) (Or.inr (⟨by omega, by omega⟩)) (fun s17 f_s17 => ?_)
                refine pf_up2 (c := 1018) f_s17 (rfl) (Or.inr (⟨by omega, by omega⟩)) (fun s18 f_s18 => ?_)
                exact pf_ret f_s18
            · rw [j_X4_readStatement_103_e]
              rw [j_X4_readStatement_108_e]
              refine pf_bz ?_
              refine pf_up2 (c := 1017) f_s13 (rfl) (Or.inr (⟨by omega, by omega⟩)) (fun s19 f_s19 => ?_)
              refine pf_ite ?_ ?_
              · rw [j_X4_readStatement_128_e]
                refine pf_up2 (c := 1016) f_s19 (rfl) (Or.inr (⟨by omega, by omega⟩)) (fun s20 f_s20 => ?_)
                refine pf_up2 (c := 1018) f_s20 (rfl) (Or.inr (⟨by omega, by omega⟩)) (fun s21 f_s21 => ?_)
                exact pf_ret f_s21
              · rw [j_X4_readStatement_128_e]
                refine pf_up2 (c := 1016) f_s19 (rfl) (Or.inr (⟨by omega, by omega⟩)) (fun s22 f_s22 => ?_)
                refine pf_up2 (c := 1018) f_s22 (rfl) (Or.inr (⟨by omega, by omega⟩)) (fun s23 f_s23 => ?_)
                exact pf_ret f_s23
          · rw [j_X4_readStatement_103_e]
            rw [j_X4_readStatement_108_e]
            refine pf_bz ?_
            refine pf_up2 (c := 1017) f_s11 (rfl) (Or.inr (⟨by omega, by omega⟩)) (fun s24 f_s24 => ?_)
            refine pf_ite ?_ ?_
            · rw [j_X4_readStatement_128_e]
              refine pf_up2 (c := 1016) f_s24 (rfl) (Or.inr (⟨by omega, by omega⟩)) (fun s25 f_s25 => ?_)
              refine pf_up2 (c := 1018) f_s25 (rfl) (Or.inr (⟨by omega, by omega⟩)) (fun s26 f_s26 => ?_)
              exact pf_ret f_s26
            · rw [j_X4_readStatement_128_e]
              refine pf_up2 (c := 1016) f_s24 (rfl) (Or.inr (⟨by omega, by omega⟩)) (fun s27 f_s27 => ?_)
              refine pf_up2 (c := 1018) f_s27 (rfl) (Or.inr (⟨by omega, by omega⟩)) (fun s28 f_s28 => ?_)
              exact pf_ret f_s28
        · rw [j_X4_readStatement_86_e]
          refine pf_ite ?_ ?_
          · refine pf_bnd (fr_X4_here hF) (fun _ h => h.elim) f_s9 (fun r29 s30 f_s30 => ?_)
            refine pf_ite ?_ ?_
            · rw [j_X4_readStatement_108_e]
              refine pf_bz ?_
              refine pf_up2 (c := 1017) f_s30 (rfl) (Or.inr (⟨by omega, by omega⟩)) (fun s31 f_s31 => ?_)
              refine pf_ite ?_ ?_
              · rw [j_X4_readStatement_128_e]
                refine pf_up2 (c := 1016) f_s31 (rfl) (Or.inr (⟨by omega, by omega⟩)) (fun s32 f_s32 => ?_)
                refine pf_up2 (c := 1018) f_s32 (rfl) (Or.inr (⟨by omega, by omega⟩)) (fun s33 f_s33 => ?_)
                exact pf_ret f_s33
              · rw [j_X4_readStatement_128_e]
                refine pf_up2 (c := 1016) f_s31 (rfl) (Or.inr (⟨by omega, by omega⟩)) (fun s34 f_s34 => ?_)
                refine pf_up2 (c := 1018) f_s34 (rfl) (Or.inr (⟨by omega, by omega⟩)) (fun s35 f_s35 => ?_)
                exact pf_ret f_s35
            · rw [j_X4_readStatement_103_e]
              rw [j_X4_readStatement_108_e]
              refine pf_bz ?_
              refine pf_up2 (c := 1017) f_s30 (rfl) (Or.inr (⟨by omega, by omega⟩)) (fun s36 f_s36 => ?_)
              refine pf_ite ?_ ?_
              · rw [j_X4_readStatement_128_e]
                refine pf_up2 (c := 1016) f_s36 (rfl) (Or.inr (⟨by omega, by omega⟩)) (fun s37 f_s37 => ?_)
                refine pf_up2 (c := 1018) f_s37 (rfl) (Or.inr (⟨by omega, by omega⟩)) (fun s38 f_s38 => ?_)
                exact pf_ret f_s38
              · rw [j_X4_readStatement_128_e]
                refine pf_up2 (c := 1016) f_s36 (rfl) (Or.inr (⟨by omega, by omega⟩)) (fun s39 f_s39 => ?_)
                refine pf_up2 (c := 1018) f_s39 (rfl) (Or.inr (⟨by omega, by omega⟩)) (fun s40 f_s40 => ?_)
                exact pf_ret f_s40
          · rw [j_X4_readStatement_103_e]
            rw [j_X4_readStatement_108_e]
            refine pf_bz ?_
            refine pf_up2 (c := 1017) f_s9 (rfl) (Or.inr (⟨by omega, by omega⟩)) (fun s41 f_s41 => ?_)
            refine pf_ite ?_ ?_
            · rw [j_X4_readStatement_128_e]
              refine pf_up2 (c := 1016) f_s41 (rfl) (Or.inr (⟨by omega, by omega⟩)) (fun s42 f_s42 => ?_)
              refine pf_up2 (c := 1018) f_s42 (rfl) (Or.inr (⟨by omega, by omega⟩)) (fun s43 f_s43 => ?_)
              exact pf_ret f_s43
            · rw [j_X4_readStatement_128_e]
              refine pf_up2 (c := 1016) f_s41 (rfl) (Or.inr (⟨by omega, by omega⟩)) (fun s44 f_s44 => ?_)
              refine pf_up2 (c := 1018) f_s44 (rfl) (Or.inr (⟨by omega, by omega⟩)) (fun s45 f_s45 => ?_)
              exact pf_ret f_s45
      · rw [j_X4_readStatement_67_e]
        refine pf_up2 (c := 1016) f_s8 (rfl) (Or.inr (⟨by omega, by omega⟩)) (fun s46 f_s46 => ?_)
        refine pf_ite ?_ ?_
        · refine pf_bnd (fr_X4_readNumbers hF) (ww_41) f_s46 (fun r47 s48 f_s48 => ?_)
          rw [j_X4_readStatement_86_e]
          refine pf_ite ?_ ?_
          · refine pf_bnd (fr_X4_here hF) (fun _ h => h.elim) f_s48 (fun r49 s50 f_s50 => ?_)
            refine pf_ite ?_ ?_
            · rw [j_X4_readStatement_108_e]
              refine pf_bz ?_
              refine pf_up2 (c := 1017) f_s50 (rfl) (Or.inr (⟨by omega, by omega⟩)) (fun s51 f_s51 => ?_)
              refine pf_ite ?_ ?_
              · rw [j_X4_readStatement_128_e]
                refine pf_up2 (c := 1016) f_s51 (rfl) (Or.inr (⟨by omega, by omega⟩)) (fun s52 f_s52 => ?_)
                refine pf_up2 (c := 1018) f_s52 (rfl) (Or.inr (⟨by omega, by omega⟩)) (fun s53 f_s53 => ?_)
                exact pf_ret f_s53
              · rw [j_X4_readStatement_128_e]
                refine pf_up2 (c := 1016) f_s51 (rfl) (Or.inr (⟨by omega, by omega⟩)) (fun s54 f_s54 => ?_)
                refine pf_up2 (c := 1018) f_s54 (rfl) (Or.inr (⟨by omega, by omega⟩)) (fun s55 f_s55 => ?_)
                exact pf_ret f_s55
            · rw [j_X4_readStatement_103_e]
              rw [j_X4_readStatement_108_e]
              refine pf_bz ?_
              refine pf_up2 (c := 1017) f_s50 (rfl) (Or.inr (⟨by omega, by omega⟩)) (fun s56 f_s56 => ?_)
              refine pf_ite ?_ ?_
              · rw [j_X4_readStatement_128_e]
                refine pf_up2 (c := 1016) f_s56 (rfl) (Or.inr (⟨by omega, by omega⟩)) (fun s57 f_s57 => ?_)
                refine pf_up2 (c := 1018) f_s57 (rfl) (Or.inr (⟨by omega, by omega⟩)) (fun s58 f_s58 => ?_)
                exact pf_ret f_s58
              · rw [j_X4_readStatement_128_e]
                refine pf_up2 (c := 1016) f_s56 (rfl) (Or.inr (⟨by omega, by omega⟩)) (fun s59 f_s59 => ?_)
                refine pf_up2 (c := 1018) f_s59 (rfl) (Or.inr (⟨by omega, by omega⟩)) (fun s60 f_s60 => ?_)
                exact pf_ret f_s60
          · rw [j_X4_readStatement_103_e]
            rw [j_X4_readStatement_108_e]
            refine pf_bz ?_
            refine pf_up2 (c := 1017) f_s48 (rfl) (Or.inr (⟨by omega, by omega⟩)) (fun s61 f_s61 => ?_)
            refine pf_ite ?_ ?_
            · rw [j_X4_readStatement_128_e]
              refine pf_up2 (c := 1016) f_s61 (rfl) (Or.inr (⟨by omega, by omega⟩)) (fun s62 f_s62 => ?_)
              refine pf_up2 (c := 1018) f_s62 (rfl) (Or.inr (⟨by omega, by omega⟩)) (fun s63 f_s63 => ?_)
              exact pf_ret f_s63
            · rw [j_X4_readStatement_128_e]
              refine pf_up2 (c := 1016) f_s61 (rfl) (Or.inr (⟨by omega, by omega⟩)) (fun s64 f_s64 => ?_)
              refine pf_up2 (c := 1018) f_s64 (rfl) (Or.inr (⟨by omega, by omega⟩)) (fun s65 f_s65 => ?_)
              exact pf_ret f_s65
        · rw [j_X4_readStatement_86_e]
          refine pf_ite ?_ ?_
          · refine pf_bnd (fr_X4_here hF) (fun _ h => h.elim) f_s46 (fun r66 s67 f_s67 => ?_)
            refine pf_ite ?_ ?_
            · rw [j_X4_readStatement_108_e]
              refine pf_bz ?_
              refine pf_up2 (c := 1017) f_s67 (rfl) (Or.inr (⟨by omega, by omega⟩)) (fun s68 f_s68 => ?_)
              refine pf_ite ?_ ?_
              · rw [j_X4_readStatement_128_e]
                refine pf_up2 (c := 1016) f_s68 (rfl) (Or.inr (⟨by omega, by omega⟩)) (fun s69 f_s69 => ?_)
                refine pf_up2 (c := 1018) f_s69 (rfl) (Or.inr (⟨by omega, by omega⟩)) (fun s70 f_s70 => ?_)
                exact pf_ret f_s70
              · rw [j_X4_readStatement_128_e]
                refine pf_up2 (c := 1016) f_s68 (rfl) (Or.inr (⟨by omega, by omega⟩)) (fun s71 f_s71 => ?_)
                refine pf_up2 (c := 1018) f_s71 (rfl) (Or.inr (⟨by omega, by omega⟩)) (fun s72 f_s72 => ?_)
                exact pf_ret f_s72
            · rw [j_X4_readStatement_103_e]
              rw [j_X4_readStatement_108_e]
              refine pf_bz ?_
              refine pf_up2 (c := 1017) f_s67 (rfl) (Or.inr (⟨by omega, by omega⟩)) (fun s73 f_s73 => ?_)
              refine pf_ite ?_ ?_
              · rw [j_X4_readStatement_128_e]
                refine pf_up2 (c := 1016) f_s73 (rfl) (Or.inr (⟨by omega, by omega⟩)) (fun s74 f_s74 => ?_)
                refine pf_up2 (c := 1018) f_s74 (rfl) (Or.inr (⟨by omega, by omega⟩)) (fun s75 f_s75 => ?_)
                exact pf_ret f_s75
              · rw [j_X4_readStatement_128_e]
                refine pf_up2 (c := 1016) f_s73 (rfl) (Or.inr (⟨by omega, by omega⟩)) (fun s76 f_s76 => ?_)
                refine pf_up2 (c := 1018) f_s76 (rfl) (Or.inr (⟨by omega, by omega⟩)) (fun s77 f_s77 => ?_)
                exact pf_ret f_s77
          · rw [j_X4_readStatement_103_e]
            rw [j_X4_readStatement_108_e]
            refine pf_bz ?_
            refine pf_up2 (c := 1017) f_s46 (rfl) (Or.inr (⟨by omega, by omega⟩)) (fun s78 f_s78 => ?_)
            refine pf_ite ?_ ?_
            · rw [j_X4_readStatement_128_e]
              refine pf_up2 (c := 1016) f_s78 (rfl) (Or.inr (⟨by omega, by omega⟩)) (fun s79 f_s79 => ?_)
              refine pf_up2 (c := 1018) f_s79 (rfl) (Or.inr (⟨by omega, by omega⟩)) (fun s80 f_s80 => ?_)
              exact pf_ret f_s80
            · rw [j_X4_readStatement_128_e]
              refine pf_up2 (c := 1016) f_s78 (rfl) (Or.inr (⟨by omega, by omega⟩)) (fun s81 f_s81 => ?_)
              refine pf_up2 (c := 1018) f_s81 (rfl) (Or.inr (⟨by omega, by omega⟩)) (fun s82 f_s82 => ?_)
              exact pf_ret f_s82
    · rw [j_X4_readStatement_47_e]
      refine pf_bz ?_
      refine pf_up2 (c := 1017) f_s7 (rfl) (Or.inr (⟨by omega, by omega⟩)) (fun s83 f_s83 => ?_)
      refine pf_ite ?_ ?_
      · rw [j_X4_readStatement_67_e]
        refine pf_up2 (c := 1016) f_s83 (rfl) (Or.inr (⟨by omega, by omega⟩)) (fun s84 f_s84 => ?_)
        refine pf_ite ?_ ?_
        · refine pf_bnd (fr_X4_readNumbers hF) (ww_41) f_s84 (fun r85 s86 f_s86 => ?_)
          rw [j_X4_readStatement_86_e]
          refine pf_ite ?_ ?_
          · refine pf_bnd (fr_X4_here hF) (fun _ h => h.elim) f_s86 (fun r87 s88 f_s88 => ?_)
            refine pf_ite ?_ ?_
            · rw [j_X4_readStatement_108_e]
              refine pf_bz ?_
              refine pf_up2 (c := 1017) f_s88 (rfl) (Or.inr (⟨by omega, by omega⟩)) (fun s89 f_s89 => ?_)
              refine pf_ite ?_ ?_
              · rw [j_X4_readStatement_128_e]
                refine pf_up2 (c := 1016) f_s89 (rfl) (Or.inr (⟨by omega, by omega⟩)) (fun s90 f_s90 => ?_)
                refine pf_up2 (c := 1018) f_s90 (rfl) (Or.inr (⟨by omega, by omega⟩)) (fun s91 f_s91 => ?_)
                exact pf_ret f_s91
              · rw [j_X4_readStatement_128_e]
                refine pf_up2 (c := 1016) f_s89 (rfl) (Or.inr (⟨by omega, by omega⟩)) (fun s92 f_s92 => ?_)
                refine pf_up2 (c := 1018) f_s92 (rfl) (Or.inr (⟨by omega, by omega⟩)) (fun s93 f_s93 => ?_)
                exact pf_ret f_s93
            · rw [j_X4_readStatement_103_e]
              rw [j_X4_readStatement_108_e]
              refine pf_bz ?_
              refine pf_up2 (c := 1017) f_s88 (rfl) (Or.inr (⟨by omega, by omega⟩)) (fun s94 f_s94 => ?_)
              refine pf_ite ?_ ?_
              · rw [j_X4_readStatement_128_e]
                refine pf_up2 (c := 1016) f_s94 (rfl) (Or.inr (⟨by omega, by omega⟩)) (fun s95 f_s95 => ?_)
                refine pf_up2 (c := 1018) f_s95 (rfl) (Or.inr (⟨by omega, by omega⟩)) (fun s96 f_s96 => ?_)
                exact pf_ret f_s96
              · rw [j_X4_readStatement_128_e]
                refine pf_up2 (c := 1016) f_s94 (rfl) (Or.inr (⟨by omega, by omega⟩)) (fun s97 f_s97 => ?_)
                refine pf_up2 (c := 1018) f_s97 (rfl) (Or.inr (⟨by omega, by omega⟩)) (fun s98 f_s98 => ?_)
                exact pf_ret f_s98
          · rw [j_X4_readStatement_103_e]
            rw [j_X4_readStatement_108_e]
            refine pf_bz ?_
            refine pf_up2 (c := 1017) f_s86 (rfl) (Or.inr (⟨by omega, by omega⟩)) (fun s99 f_s99 => ?_)
            refine pf_ite ?_ ?_
            · rw [j_X4_readStatement_128_e]
              refine pf_up2 (c := 1016) f_s99 (rfl) (Or.inr (⟨by omega, by omega⟩)) (fun s100 f_s100 => ?_)
              refine pf_up2 (c := 1018) f_s100 (rfl) (Or.inr (⟨by omega, by omega⟩)) (fun s101 f_s101 => ?_)
              exact pf_ret f_s101
            · rw [j_X4_readStatement_128_e]
              refine pf_up2 (c := 1016) f_s99 (rfl) (Or.inr (⟨by omega, by omega⟩)) (fun s102 f_s102 => ?_)
              refine pf_up2 (c := 1018) f_s102 (rfl) (Or.inr (⟨by omega, by omega⟩)) (fun s103 f_s103 => ?_)
              exact pf_ret f_s103
        · rw [j_X4_readStatement_86_e]
          refine pf_ite ?_ ?_
          · refine pf_bnd (fr_X4_here hF) (fun _ h => h.elim) f_s84 (fun r104 s105 f_s105 => ?_)
            refine pf_ite ?_ ?_
            · rw [j_X4_readStatement_108_e]
              refine pf_bz ?_
              refine pf_up2 (c := 1017) f_s105 (rfl) (Or.inr (⟨by omega, by omega⟩)) (fun s106 f_s106 => ?_)
              refine pf_ite ?_ ?_
              · rw [j_X4_readStatement_128_e]
                refine pf_up2 (c := 1016) f_s106 (rfl) (Or.inr (⟨by omega, by omega⟩)) (fun s107 f_s107 => ?_)
                refine pf_up2 (c := 1018) f_s107 (rfl) (Or.inr (⟨by omega, by omega⟩)) (fun s108 f_s108 => ?_)
                exact pf_ret f_s108
              · rw [j_X4_readStatement_128_e]
                refine pf_up2 (c := 1016) f_s106 (rfl) (Or.inr (⟨by omega, by omega⟩)) (fun s109 f_s109 => ?_)
                refine pf_up2 (c := 1018) f_s109 (rfl) (Or.inr (⟨by omega, by omega⟩)) (fun s110 f_s110 => ?_)
                exact pf_ret f_s110
            · rw [j_X4_readStatement_103_e]
              rw [j_X4_readStatement_108_e]
              refine pf_bz ?_
              refine pf_up2 (c := 1017) f_s105 (rfl) (Or.inr (⟨by omega, by omega⟩)) (fun s111 f_s111 => ?_)
              refine pf_ite ?_ ?_
              · rw [j_X4_readStatement_128_e]
                refine pf_up2 (c := 1016) f_s111 (rfl) (Or.inr (⟨by omega, by omega⟩)) (fun s112 f_s112 => ?_)
                refine pf_up2 (c := 1018) f_s112 (rfl) (Or.inr (⟨by omega, by omega⟩)) (fun s113 f_s113 => ?_)
                exact pf_ret f_s113
              · rw [j_X4_readStatement_128_e]
                refine pf_up2 (c := 1016) f_s111 (rfl) (Or.inr (⟨by omega, by omega⟩)) (fun s114 f_s114 => ?_)
                refine pf_up2 (c := 1018) f_s114 (rfl) (Or.inr (⟨by omega, by omega⟩)) (fun s115 f_s115 => ?_)
                exact pf_ret f_s115
          · rw [j_X4_readStatement_103_e]
            rw [j_X4_readStatement_108_e]
            refine pf_bz ?_
            refine pf_up2 (c := 1017) f_s84 (rfl) (Or.inr (⟨by omega, by omega⟩)) (fun s116 f_s116 => ?_)
            refine pf_ite ?_ ?_
            · rw [j_X4_readStatement_128_e]
              refine pf_up2 (c := 1016) f_s116 (rfl) (Or.inr (⟨by omega, by omega⟩)) (fun s117 f_s117 => ?_)
              refine pf_up2 (c := 1018) f_s117 (rfl) (Or.inr (⟨by omega, by omega⟩)) (fun s118 f_s118 => ?_)
              exact pf_ret f_s118
            · rw [j_X4_readStatement_128_e]
              refine pf_up2 (c := 1016) f_s116 (rfl) (Or.inr (⟨by omega, by omega⟩)) (fun s119 f_s119 => ?_)
              refine pf_up2 (c := 1018) f_s119 (rfl) (Or.inr (⟨by omega, by omega⟩)) (fun s120 f_s120 => ?_)
              exact pf_ret f_s120
      · rw [j_X4_readStatement_67_e]
        refine pf_up2 (c := 1016) f_s83 (rfl) (Or.inr (⟨by omega, by omega⟩)) (fun s121 f_s121 => ?_)
        refine pf_ite ?_ ?_
        · refine pf_bnd (fr_X4_readNumbers hF) (ww_41) f_s121 (fun r122 s123 f_s123 => ?_)
          rw [j_X4_readStatement_86_e]
          refine pf_ite ?_ ?_
          · refine pf_bnd (fr_X4_here hF) (fun _ h => h.elim) f_s123 (fun r124 s125 f_s125 => ?_)
            refine pf_ite ?_ ?_
            · rw [j_X4_readStatement_108_e]
              refine pf_bz ?_
              refine pf_up2 (c := 1017) f_s125 (rfl) (Or.inr (⟨by omega, by omega⟩)) (fun s126 f_s126 => ?_)
              refine pf_ite ?_ ?_
              · rw [j_X4_readStatement_128_e]
                refine pf_up2 (c := 1016) f_s126 (rfl) (Or.inr (⟨by omega, by omega⟩)) (fun s127 f_s127 => ?_)
                refine pf_up2 (c := 1018) f_s127 (rfl) (Or.inr (⟨by omega, by omega⟩)) (fun s128 f_s128 => ?_)
                exact pf_ret f_s128
              · rw [j_X4_readStatement_128_e]
                refine pf_up2 (c := 1016) f_s126 (rfl) (Or.inr (⟨by omega, by omega⟩)) (fun s129 f_s129 => ?_)
                refine pf_up2 (c := 1018) f_s129 (rfl) (Or.inr (⟨by omega, by omega⟩)) (fun s130 f_s130 => ?_)
                exact pf_ret f_s130
            · rw [j_X4_readStatement_103_e]
              rw [j_X4_readStatement_108_e]
              refine pf_bz ?_
              refine pf_up2 (c := 1017) f_s125 (rfl) (Or.inr (⟨by omega, by omega⟩)) (fun s131 f_s131 => ?_)
              refine pf_ite ?_ ?_
              · rw [j_X4_readStatement_128_e]
                refine pf_up2 (c := 1016) f_s131 (rfl) (Or.inr (⟨by omega, by omega⟩)) (fun s132 f_s132 => ?_)
                refine pf_up2 (c := 1018) f_s132 (rfl) (Or.inr (⟨by omega, by omega⟩)) (fun s133 f_s133 => ?_)
                exact pf_ret f_s133
              · rw [j_X4_readStatement_128_e]
                refine pf_up2 (c := 1016) f_s131 (rfl) (Or.inr (⟨by omega, by omega⟩)) (fun s134 f_s134 => ?_)
                refine pf_up2 (c := 1018) f_s134 (rfl) (Or.inr (⟨by omega, by omega⟩)) (fun s135 f_s135 => ?_)
                exact pf_ret f_s135
          · rw [j_X4_readStatement_103_e]
            rw [j_X4_readStatement_108_e]
            refine pf_bz ?_
            refine pf_up2 (c := 1017) f_s123 (rfl) (Or.inr (⟨by omega, by omega⟩)) (fun s136 f_s136 => ?_)
            refine pf_ite ?_ ?_
            · rw [j_X4_readStatement_128_e]
              refine pf_up2 (c := 1016) f_s136 (rfl) (Or.inr (⟨by omega, by omega⟩)) (fun s137 f_s137 => ?_)
              refine pf_up2 (c := 1018) f_s137 (rfl) (Or.inr (⟨by omega, by omega⟩)) (fun s138 f_s138 => ?_)
              exact pf_ret f_s138
            · rw [j_X4_readStatement_128_e]
              refine pf_up2 (c := 1016) f_s136 (rfl) (Or.inr (⟨by omega, by omega⟩)) (fun s139 f_s139 => ?_)
              refine pf_up2 (c := 1018) f_s139 (rfl) (Or.inr (⟨by omega, by omega⟩)) (fun s140 f_s140 => ?_)
              exact pf_ret f_s140
        · rw [j_X4_readStatement_86_e]
          refine pf_ite ?_ ?_
          · refine pf_bnd (fr_X4_here hF) (fun _ h => h.elim) f_s121 (fun r141 s142 f_s142 => ?_)
            refine pf_ite ?_ ?_
            · rw [j_X4_readStatement_108_e]
              refine pf_bz ?_
              refine pf_up2 (c := 1017) f_s142 (rfl) (Or.inr (⟨by omega, by omega⟩)) (fun s143 f_s143 => ?_)
              refine pf_ite ?_ ?_
              · rw [j_X4_readStatement_128_e]
                refine pf_up2 (c := 1016) f_s143 (rfl) (Or.inr (⟨by omega, by omega⟩)) (fun s144 f_s144 => ?_)
                refine pf_up2 (c := 1018) f_s144 (rfl) (Or.inr (⟨by omega, by omega⟩)) (fun s145 f_s145 => ?_)
                exact pf_ret f_s145
              · rw [j_X4_readStatement_128_e]
                refine pf_up2 (c := 1016) f_s143 (rfl) (Or.inr (⟨by omega, by omega⟩)) (fun s146 f_s146 => ?_)
                refine pf_up2 (c := 1018) f_s146 (rfl) (Or.inr (⟨by omega, by omega⟩)) (fun s147 f_s147 => ?_)
                exact pf_ret f_s147
            · rw [j_X4_readStatement_103_e]
              rw [j_X4_readStatement_108_e]
              refine pf_bz ?_
              refine pf_up2 (c := 1017) f_s142 (rfl) (Or.inr (⟨by omega, by omega⟩)) (fun s148 f_s148 => ?_)
              refine pf_ite ?_ ?_
              · rw [j_X4_readStatement_128_e]
                refine pf_up2 (c := 1016) f_s148 (rfl) (Or.inr (⟨by omega, by omega⟩)) (fun s149 f_s149 => ?_)
                refine pf_up2 (c := 1018) f_s149 (rfl) (Or.inr (⟨by omega, by omega⟩)) (fun s150 f_s150 => ?_)
                exact pf_ret f_s150
              · rw [j_X4_readStatement_128_e]
                refine pf_up2 (c := 1016) f_s148 (rfl) (Or.inr (⟨by omega, by omega⟩)) (fun s151 f_s151 => ?_)
                refine pf_up2 (c := 1018) f_s151 (rfl) (Or.inr (⟨by omega, by omega⟩)) (fun s152 f_s152 => ?_)
                exact pf_ret f_s152
          · rw [j_X4_readStatement_103_e]
            rw [j_X4_readStatement_108_e]
            refine pf_bz ?_
            refine pf_up2 (c := 1017) f_s121 (rfl) (Or.inr (⟨by omega, by omega⟩)) (fun s153 f_s153 => ?_)
            refine pf_ite ?_ ?_
            · rw [j_X4_readStatement_128_e]
              refine pf_up2 (c := 1016) f_s153 (rfl) (Or.inr (⟨by omega, by omega⟩)) (fun s154 f_s154 => ?_)
              refine pf_up2 (c := 1018) f_s154 (rfl) (Or.inr (⟨by omega, by omega⟩)) (fun s155 f_s155 => ?_)
              exact pf_ret f_s155
            · rw [j_X4_readStatement_128_e]
              refine pf_up2 (c := 1016) f_s153 (rfl) (Or.inr (⟨by omega, by omega⟩)) (fun s156 f_s156 => ?_)
              refine pf_up2 (c := 1018) f_s156 (rfl) (Or.inr (⟨by omega, by omega⟩)) (fun s157 f_s157 => ?_)
              exact pf_ret f_s157
  · rw [j_X4_readStatement_42_e]
    rw [j_X4_readStatement_47_e]
    refine pf_bz ?_
    refine pf_up2 (c := 1017) f_s5 (rfl) (Or.inr (⟨by omega, by omega⟩)) (fun s158 f_s158 => ?_)
    refine pf_ite ?_ ?_
    · rw [j_X4_readStatement_67_e]
      refine pf_up2 (c := 1016) f_s158 (rfl) (Or.inr (⟨by omega, by omega⟩)) (fun s159 f_s159 => ?_)
      refine pf_ite ?_ ?_
      · refine pf_bnd (fr_X4_readNumbers hF) (ww_41) f_s159 (fun r160 s161 f_s161 => ?_)
        rw [j_X4_readStatement_86_e]
        refine pf_ite ?_ ?_
        · refine pf_bnd (fr_X4_here hF) (fun _ h => h.elim) f_s161 (fun r162 s163 f_s163 => ?_)
          refine pf_ite ?_ ?_
          · rw [j_X4_readStatement_108_e]
            refine pf_bz ?_
            refine pf_up2 (c := 1017) f_s163 (rfl) (Or.inr (⟨by omega, by omega⟩)) (fun s164 f_s164 => ?_)
            refine pf_ite ?_ ?_
            · rw [j_X4_readStatement_128_e]
              refine pf_up2 (c := 1016) f_s164 (rfl) (Or.inr (⟨by omega, by omega⟩)) (fun s165 f_s165 => ?_)
              refine pf_up2 (c := 1018) f_s165 (rfl) (Or.inr (⟨by omega, by omega⟩)) (fun s166 f_s166 => ?_)
              exact pf_ret f_s166
            · rw [j_X4_readStatement_128_e]
              refine pf_up2 (c := 1016) f_s164 (rfl) (Or.inr (⟨by omega, by omega⟩)) (fun s167 f_s167 => ?_)
              refine pf_up2 (c := 1018) f_s167 (rfl) (Or.inr (⟨by omega, by omega⟩)) (fun s168 f_s168 => ?_)
              exact pf_ret f_s168
          · rw [j_X4_readStatement_103_e]
            rw [j_X4_readStatement_108_e]
            refine pf_bz ?_
            refine pf_up2 (c := 1017) f_s163 (rfl) (Or.inr (⟨by omega, by omega⟩)) (fun s169 f_s169 => ?_)
            refine pf_ite ?_ ?_
            · rw [j_X4_readStatement_128_e]
              refine pf_up2 (c := 1016) f_s169 (rfl) (Or.inr (⟨by omega, by omega⟩)) (fun s170 f_s170 => ?_)
              refine pf_up2 (c := 1018) f_s170 (rfl) (Or.inr (⟨by omega, by omega⟩)) (fun s171 f_s171 => ?_)
              exact pf_ret f_s171
            · rw [j_X4_readStatement_128_e]
              refine pf_up2 (c := 1016) f_s169 (rfl) (Or.inr (⟨by omega, by omega⟩)) (fun s172 f_s172 => ?_)
              refine pf_up2 (c := 1018) f_s172 (rfl) (Or.inr (⟨by omega, by omega⟩)) (fun s173 f_s173 => ?_)
              exact pf_ret f_s173
        · rw [j_X4_readStatement_103_e]
          rw [j_X4_readStatement_108_e]
          refine pf_bz ?_
          refine pf_up2 (c := 1017) f_s161 (rfl) (Or.inr (⟨by omega, by omega⟩)) (fun s174 f_s174 => ?_)
          refine pf_ite ?_ ?_
          · rw [j_X4_readStatement_128_e]
            refine pf_up2 (c := 1016) f_s174 (rfl) (Or.inr (⟨by omega, by omega⟩)) (fun s175 f_s175 => ?_)
            refine pf_up2 (c := 1018) f_s175 (rfl) (Or.inr (⟨by omega, by omega⟩)) (fun s176 f_s176 => ?_)
            exact pf_ret f_s176
          · rw [j_X4_readStatement_128_e]
            refine pf_up2 (c := 1016) f_s174 (rfl) (Or.inr (⟨by omega, by omega⟩)) (fun s177 f_s177 => ?_)
            refine pf_up2 (c := 1018) f_s177 (rfl) (Or.inr (⟨by omega, by omega⟩)) (fun s178 f_s178 => ?_)
            exact pf_ret f_s178
      · rw [j_X4_readStatement_86_e]
        refine pf_ite ?_ ?_
        · refine pf_bnd (fr_X4_here hF) (fun _ h => h.elim) f_s159 (fun r179 s180 f_s180 => ?_)
          refine pf_ite ?_ ?_
          · rw [j_X4_readStatement_108_e]
            refine pf_bz ?_
            refine pf_up2 (c := 1017) f_s180 (rfl) (Or.inr (⟨by omega, by omega⟩)) (fun s181 f_s181 => ?_)
            refine pf_ite ?_ ?_
            · rw [j_X4_readStatement_128_e]
              refine pf_up2 (c := 1016) f_s181 (rfl) (Or.inr (⟨by omega, by omega⟩)) (fun s182 f_s182 => ?_)
              refine pf_up2 (c := 1018) f_s182 (rfl) (Or.inr (⟨by omega, by omega⟩)) (fun s183 f_s183 => ?_)
              exact pf_ret f_s183
            · rw [j_X4_readStatement_128_e]
              refine pf_up2 (c := 1016) f_s181 (rfl) (Or.inr (⟨by omega, by omega⟩)) (fun s184 f_s184 => ?_)
              refine pf_up2 (c := 1018) f_s184 (rfl) (Or.inr (⟨by omega, by omega⟩)) (fun s185 f_s185 => ?_)
              exact pf_ret f_s185
          · rw [j_X4_readStatement_103_e]
            rw [j_X4_readStatement_108_e]
            refine pf_bz ?_
            refine pf_up2 (c := 1017) f_s180 (rfl) (Or.inr (⟨by omega, by omega⟩)) (fun s186 f_s186 => ?_)
            refine pf_ite ?_ ?_
            · rw [j_X4_readStatement_128_e]
              refine pf_up2 (c := 1016) f_s186 (rfl) (Or.inr (⟨by omega, by omega⟩)) (fun s187 f_s187 => ?_)
              refine pf_up2 (c := 1018) f_s187 (rfl) (Or.inr (⟨by omega, by omega⟩)) (fun s188 f_s188 => ?_)
              exact pf_ret f_s188
            · rw [j_X4_readStatement_128_e]
              refine pf_up2 (c := 1016) f_s186 (rfl) (Or.inr (⟨by omega, by omega⟩)) (fun s189 f_s189 => ?_)
              refine pf_up2 (c := 1018) f_s189 (rfl) (Or.inr (⟨by omega, by omega⟩)) (fun s190 f_s190 => ?_)
              exact pf_ret f_s190
        · rw [j_X4_readStatement_103_e]
          rw [j_X4_readStatement_108_e]
          refine pf_bz ?_
          refine pf_up2 (c := 1017) f_s159 (rfl) (Or.inr (⟨by omega, by omega⟩)) (fun s191 f_s191 => ?_)
          refine pf_ite ?_ ?_
          · rw [j_X4_readStatement_128_e]
            refine pf_up2 (c := 1016) f_s191 (rfl) (Or.inr (⟨by omega, by omega⟩)) (fun s192 f_s192 => ?_)
            refine pf_up2 (c := 1018) f_s192 (rfl) (Or.inr (⟨by omega, by omega⟩)) (fun s193 f_s193 => ?_)
            exact pf_ret f_s193
          · rw [j_X4_readStatement_128_e]
            refine pf_up2 (c := 1016) f_s191 (rfl) (Or.inr (⟨by omega, by omega⟩)) (fun s194 f_s194 => ?_)
            refine pf_up2 (c := 1018) f_s194 (rfl) (Or.inr (⟨by omega, by omega⟩)) (fun s195 f_s195 => ?_)
            exact pf_ret f_s195
    · rw [j_X4_readStatement_67_e]
      refine pf_up2 (c := 1016) f_s158 (rfl) (Or.inr (⟨by omega, by omega⟩)) (fun s196 f_s196 => ?_)
      refine pf_ite ?_ ?_
      · refine pf_bnd (fr_X4_readNumbers hF) (ww_41) f_s196 (fun r197 s198 f_s198 => ?_)
        rw [j_X4_readStatement_86_e]
        refine pf_ite ?_ ?_
        · refine pf_bnd (fr_X4_here hF) (fun _ h => h.elim) f_s198 (fun r199 s200 f_s200 => ?_)
          refine pf_ite ?_ ?_
          · rw [j_X4_readStatement_108_e]
            refine pf_bz ?_
            refine pf_up2 (c := 1017) f_s200 (rfl) (Or.inr (⟨by omega, by omega⟩)) (fun s201 f_s201 => ?_)
            refine pf_ite ?_ ?_
            · rw [j_X4_readStatement_128_e]
              refine pf_up2 (c := 1016) f_s201 (rfl) (Or.inr (⟨by omega, by omega⟩)) (fun s202 f_s202 => ?_)
              refine pf_up2 (c := 1018) f_s202 (rfl) (Or.inr (⟨by omega, by omega⟩)) (fun s203 f_s203 => ?_)
              exact pf_ret f_s203
            · rw [j_X4_readStatement_128_e]
              refine pf_up2 (c := 1016) f_s201 (rfl) (Or.inr (⟨by omega, by omega⟩)) (fun s204 f_s204 => ?_)
              refine pf_up2 (c := 1018) f_s204 (rfl) (Or.inr (⟨by omega, by omega⟩)) (fun s205 f_s205 => ?_)
              exact pf_ret f_s205
          · rw [j_X4_readStatement_103_e]
            rw [j_X4_readStatement_108_e]
            refine pf_bz ?_
            refine pf_up2 (c := 1017) f_s200 (rfl) (Or.inr (⟨by omega, by omega⟩)) (fun s206 f_s206 => ?_)
            refine pf_ite ?_ ?_
            · rw [j_X4_readStatement_128_e]
              refine pf_up2 (c := 1016) f_s206 (rfl) (Or.inr (⟨by omega, by omega⟩)) (fun s207 f_s207 => ?_)
              refine pf_up2 (c := 1018) f_s207 (rfl) (Or.inr (⟨by omega, by omega⟩)) (fun s208 f_s208 => ?_)
              exact pf_ret f_s208
            · rw [j_X4_readStatement_128_e]
              refine pf_up2 (c := 1016) f_s206 (rfl) (Or.inr (⟨by omega, by omega⟩)) (fun s209 f_s209 => ?_)
              refine pf_up2 (c := 1018) f_s209 (rfl) (Or.inr (⟨by omega, by omega⟩)) (fun s210 f_s210 => ?_)
              exact pf_ret f_s210
        · rw [j_X4_readStatement_103_e]
          rw [j_X4_readStatement_108_e]
          refine pf_bz ?_
          refine pf_up2 (c := 1017) f_s198 (rfl) (Or.inr (⟨by omega, by omega⟩)) (fun s211 f_s211 => ?_)
          refine pf_ite ?_ ?_
          · rw [j_X4_readStatement_128_e]
            refine pf_up2 (c := 1016) f_s211 (rfl) (Or.inr (⟨by omega, by omega⟩)) (fun s212 f_s212 => ?_)
            refine pf_up2 (c := 1018) f_s212 (rfl) (Or.inr (⟨by omega, by omega⟩)) (fun s213 f_s213 => ?_)
            exact pf_ret f_s213
          · rw [j_X4_readStatement_128_e]
            refine pf_up2 (c := 1016) f_s211 (rfl) (Or.inr (⟨by omega, by omega⟩)) (fun s214 f_s214 => ?_)
            refine pf_up2 (c := 1018) f_s214 (rfl) (Or.inr (⟨by omega, by omega⟩)) (fun s215 f_s215 => ?_)
            exact pf_ret f_s215
      · rw [j_X4_readStatement_86_e]
        refine pf_ite ?_ ?_
        · refine pf_bnd (fr_X4_here hF) (fun _ h => h.elim) f_s196 (fun r216 s217 f_s217 => ?_)
          refine pf_ite ?_ ?_
          · rw [j_X4_readStatement_108_e]
            refine pf_bz ?_
            refine pf_up2 (c := 1017) f_s217 (rfl) (Or.inr (⟨by omega, by omega⟩)) (fun s218 f_s218 => ?_)
            refine pf_ite ?_ ?_
            · rw [j_X4_readStatement_128_e]
              refine pf_up2 (c := 1016) f_s218 (rfl) (Or.inr (⟨by omega, by omega⟩)) (fun s219 f_s219 => ?_)
              refine pf_up2 (c := 1018) f_s219 (rfl) (Or.inr (⟨by omega, by omega⟩)) (fun s220 f_s220 => ?_)
              exact pf_ret f_s220
            · rw [j_X4_readStatement_128_e]
              refine pf_up2 (c := 1016) f_s218 (rfl) (Or.inr (⟨by omega, by omega⟩)) (fun s221 f_s221 => ?_)
              refine pf_up2 (c := 1018) f_s221 (rfl) (Or.inr (⟨by omega, by omega⟩)) (fun s222 f_s222 => ?_)
              exact pf_ret f_s222
          · rw [j_X4_readStatement_103_e]
            rw [j_X4_readStatement_108_e]
            refine pf_bz ?_
            refine pf_up2 (c := 1017) f_s217 (rfl) (Or.inr (⟨by omega, by omega⟩)) (fun s223 f_s223 => ?_)
            refine pf_ite ?_ ?_
            · rw [j_X4_readStatement_128_e]
              refine pf_up2 (c := 1016) f_s223 (rfl) (Or.inr (⟨by omega, by omega⟩)) (fun s224 f_s224 => ?_)
              refine pf_up2 (c := 1018) f_s224 (rfl) (Or.inr (⟨by omega, by omega⟩)) (fun s225 f_s225 => ?_)
              exact pf_ret f_s225
            · rw [j_X4_readStatement_128_e]
              refine pf_up2 (c := 1016) f_s223 (rfl) (Or.inr (⟨by omega, by omega⟩)) (fun s226 f_s226 => ?_)
              refine pf_up2 (c := 1018) f_s226 (rfl) (Or.inr (⟨by omega, by omega⟩)) (fun s227 f_s227 => ?_)
              exact pf_ret f_s227
        · rw [j_X4_readStatement_103_e]
          rw [j_X4_readStatement_108_e]
          refine pf_bz ?_
          refine pf_up2 (c := 1017) f_s196 (rfl) (Or.inr (⟨by omega, by omega⟩)) (fun s228 f_s228 => ?_)
          refine pf_ite ?_ ?_
          · rw [j_X4_readStatement_128_e]
            refine pf_up2 (c := 1016) f_s228 (rfl) (Or.inr (⟨by omega, by omega⟩)) (fun s229 f_s229 => ?_)
            refine pf_up2 (c := 1018) f_s229 (rfl) (Or.inr (⟨by omega, by omega⟩)) (fun s230 f_s230 => ?_)
            exact pf_ret f_s230
          · rw [j_X4_readStatement_128_e]
            refine pf_up2 (c := 1016) f_s228 (rfl) (Or.inr (⟨by omega, by omega⟩)) (fun s231 f_s231 => ?_)
            refine pf_up2 (c := 1018) f_s231 (rfl) (Or.inr (⟨by omega, by omega⟩)) (fun s232 f_s232 => ?_)
            exact pf_ret f_s232
