set_option maxRecDepth 100000 in
theorem gl_X3_ahead_27 {F : Nat} (hF : 1000 ≤ F) {x1 : Int32} {x2 : Int32} {τ : Mem} : ∀ (N : Nat) (x4 : Int32) (σ : Mem), fr kW τ σ → pf kW (lp_X3_ahead_27 F x1 x2 N x4 σ) τ := by
  intro N
  induction N with
  | zero => intro _ _ _; exact pf_none rfl
  | succ N ih =>
    intro x4 σ f_σ
    rw [lp_X3_ahead_27_s]
    refine pf_ite ?_ ?_
    · exact pf_ret f_σ
    · refine pf_bnd (fr_X0_lead hF wt_h1) (fun _ h => h.elim) f_σ (fun r1 s2 f_s2 => ?_)
      refine pf_ite ?_ ?_
      · exact ih _ _ f_s2
      · exact pf_ret f_s2
set_option maxRecDepth 100000 in
theorem gl_X3_bestLaw_44 {F : Nat} (hF : 1000 ≤ F) {x1 : Int32} {x2 : Int32} {τ : Mem} : ∀ (N : Nat) (x4 : Int32) (x5 : Int32) (x6 : Int32) (σ : Mem), fr kW τ σ → pf kW (lp_X3_bestLaw_44 F x1 x2 N x4 x5 x6 σ) τ := by
  intro N
  induction N with
  | zero => intro _ _ _ _ _; exact pf_none rfl
  | succ N ih =>
    intro x4 x5 x6 σ f_σ
    rw [lp_X3_bestLaw_44_s]
    refine pf_ite ?_ ?_
    · exact pf_ret f_σ
    · refine pf_bnd (fr_X0_rule hF wt_h24) (kw_X0_rule_24) f_σ (fun r1 s2 f_s2 => ?_)
      refine pf_bnd (fr_X0_wealth hF wt_h24) (fun _ h => h.elim) f_s2 (fun r3 s4 f_s4 => ?_)
      refine pf_ite ?_ ?_
      · try rw [j_X3_bestLaw_86_e]
        exact ih _ _ _ _ f_s4
      · try rw [j_X3_bestLaw_86_e]
        exact ih _ _ _ _ f_s4
set_option maxRecDepth 100000 in
theorem gl_X3_bestPane_71 {F : Nat} (hF : 1000 ≤ F) {x1 : Int32} {x2 : Int32} {x3 : Int32} {x4 : Int32} {τ : Mem} : ∀ (N : Nat) (x6 : Int32) (x7 : Int32) (x8 : Int32) (σ : Mem), fr kW τ σ → pf kW (lp_X3_bestPane_71 F x1 x2 x3 x4 N x6 x7 x8 σ) τ := by
  intro N
  induction N with
  | zero => intro _ _ _ _ _; exact pf_none rfl
  | succ N ih =>
    intro x6 x7 x8 σ f_σ
    rw [lp_X3_bestPane_71_s]
    refine pf_ite ?_ ?_
    · refine pf_ite ?_ ?_
      · exact pf_ret f_σ
      · exact pf_ret f_σ
    · refine pf_ite ?_ ?_
      · try rw [j_X3_bestPane_102_e]
        refine pf_bnd (fr_X3_wealthAt hF) (kw_X3_wealthAt) f_σ (fun r1 s2 f_s2 => ?_)
        refine pf_ite ?_ ?_
        · try rw [j_X3_bestPane_130_e]
          exact ih _ _ _ _ f_s2
        · try rw [j_X3_bestPane_130_e]
          exact ih _ _ _ _ f_s2
      · try rw [j_X3_bestPane_102_e]
        refine pf_bnd (fr_X3_wealthAt hF) (kw_X3_wealthAt) f_σ (fun r3 s4 f_s4 => ?_)
        refine pf_ite ?_ ?_
        · try rw [j_X3_bestPane_130_e]
          exact ih _ _ _ _ f_s4
        · try rw [j_X3_bestPane_130_e]
          exact ih _ _ _ _ f_s4
set_option maxRecDepth 100000 in
theorem gl_X3_busy_24 {F : Nat} (hF : 1000 ≤ F) {x1 : Int32} {τ : Mem} : ∀ (N : Nat) (x3 : Int32) (x4 : Int32) (x5 : Int32) (σ : Mem), fr kW τ σ → pf kW (lp_X3_busy_24 F x1 N x3 x4 x5 σ) τ := by
  intro N
  induction N with
  | zero => intro _ _ _ _ _; exact pf_none rfl
  | succ N ih =>
    intro x3 x4 x5 σ f_σ
    rw [lp_X3_busy_24_s]
    refine pf_ite ?_ ?_
    · refine pf_ite ?_ ?_
      · exact pf_ret f_σ
      · exact pf_ret f_σ
    · refine pf_bnd (fr_X0_standingIn hF wt_h1) (fun _ h => h.elim) f_σ (fun r1 s2 f_s2 => ?_)
      refine pf_ite ?_ ?_
      · try rw [j_X3_busy_56_e]
        exact ih _ _ _ _ f_s2
      · try rw [j_X3_busy_56_e]
        exact ih _ _ _ _ f_s2
set_option maxRecDepth 100000 in
theorem gl_X3_duels_30 {F : Nat} (hF : 1000 ≤ F) {x1 : Int32} {x2 : Int32} {τ : Mem} : ∀ (N : Nat) (x4 : Int32) (x5 : Int32) (σ : Mem), fr kW τ σ → pf kW (lp_X3_duels_30 F x1 x2 N x4 x5 σ) τ := by
  intro N
  induction N with
  | zero => intro _ _ _ _; exact pf_none rfl
  | succ N ih =>
    intro x4 x5 σ f_σ
    rw [lp_X3_duels_30_s]
    refine pf_ite ?_ ?_
    · exact pf_ret f_σ
    · refine pf_chk (fun v1 => ?_)
      refine pf_chk (fun v2 => ?_)
      refine pf_ite ?_ ?_
      · try rw [j_X3_duels_70_e]
        exact ih _ _ _ f_σ
      · refine pf_chk (fun v3 => ?_)
        refine pf_ite ?_ ?_
        · try rw [j_X3_duels_70_e]
          exact ih _ _ _ f_σ
        · try rw [j_X3_duels_70_e]
          exact ih _ _ _ f_σ
set_option maxRecDepth 100000 in
theorem gl_X3_even_49 {F : Nat} (hF : 1000 ≤ F) {x1 : Int32} {x4 : Int32} {k31 : Int32 → Int32 → Mem → Option (Int32 × Mem)} {τ : Mem} (hk31 : ∀ (x3 : Int32) (x4 : Int32) (σ : Mem), fr kW τ σ → pf kW (k31 x3 x4 σ) τ) : ∀ (N : Nat) (x3 : Int32) (x5 : Int32) (σ : Mem), fr kW τ σ → pf kW (lp_X3_even_49 F k31 x1 x4 N x3 x5 σ) τ := by
  intro N
  induction N with
  | zero => intro _ _ _ _; exact pf_none rfl
  | succ N ih =>
    intro x3 x5 σ f_σ
    rw [lp_X3_even_49_s]
    refine pf_ite ?_ ?_
    · exact hk31 _ _ _ f_σ
    · refine pf_bnd (fr_X0_lead hF wt_h1) (fun _ h => h.elim) f_σ (fun r1 s2 f_s2 => ?_)
      refine pf_ite ?_ ?_
      · try rw [j_X3_even_79_e]
        exact ih _ _ _ f_s2
      · try rw [j_X3_even_79_e]
        exact ih _ _ _ f_s2
set_option maxRecDepth 100000 in
theorem gl_X3_even_31 {F : Nat} (hF : 1000 ≤ F) {x1 : Int32} {τ : Mem} : ∀ (N : Nat) (x3 : Int32) (x4 : Int32) (σ : Mem), fr kW τ σ → pf kW (lp_X3_even_31 F x1 N x3 x4 σ) τ := by
  intro N
  induction N with
  | zero => intro _ _ _ _; exact pf_none rfl
  | succ N ih =>
    intro x3 x4 σ f_σ
    rw [lp_X3_even_31_s]
    refine pf_ite ?_ ?_
    · exact pf_ret f_σ
    · exact gl_X3_even_49 hF ih _ _ _ _ f_σ
set_option maxRecDepth 100000 in
theorem gl_X3_freeHours_52 {F : Nat} (hF : 1000 ≤ F) {x1 : Int32} {x2 : Int32} {x4 : Int32} {τ : Mem} : ∀ (N : Nat) (x5 : Int32) (x6 : Int32) (σ : Mem), fr kW τ σ → pf kW (lp_X3_freeHours_52 F x1 x2 x4 N x5 x6 σ) τ := by
  intro N
  induction N with
  | zero => intro _ _ _ _; exact pf_none rfl
  | succ N ih =>
    intro x5 x6 σ f_σ
    rw [lp_X3_freeHours_52_s]
    refine pf_ite ?_ ?_
    · exact pf_ret f_σ
    · refine pf_chk (fun v1 => ?_)
      refine pf_chk (fun v2 => ?_)
      refine pf_lt (fun z3 _ => ?_)
      refine pf_ite ?_ ?_
      · try rw [j_X3_freeHours_140_e]
        exact ih _ _ _ f_σ
      · refine pf_bnd (fr_X0_post hF wt_h24) (kw_X0_post_24) f_σ (fun r4 s5 f_s5 => ?_)
        refine pf_bnd (fr_X0_reckon hF wt_h24) (kw_X0_reckon_24) f_s5 (fun r6 s7 f_s7 => ?_)
        refine pf_bnd (fr_X0_holdings hF wt_h24) (fun _ h => h.elim) f_s7 (fun r8 s9 f_s9 => ?_)
        refine pf_ite ?_ ?_
        · refine pf_lt (fun z10 _ => ?_)
          try rw [j_X3_freeHours_125_e]
          refine pf_bnd (fr_X0_post hF wt_h24) (kw_X0_post_24) f_s9 (fun r11 s12 f_s12 => ?_)
          try rw [j_X3_freeHours_140_e]
          exact ih _ _ _ f_s12
        · try rw [j_X3_freeHours_125_e]
          refine pf_bnd (fr_X0_post hF wt_h24) (kw_X0_post_24) f_s9 (fun r13 s14 f_s14 => ?_)
          try rw [j_X3_freeHours_140_e]
          exact ih _ _ _ f_s14
set_option maxRecDepth 100000 in
theorem gl_X3_from_33 {F : Nat} (hF : 1000 ≤ F) {x1 : Int32} {x2 : Int32} {τ : Mem} : ∀ (N : Nat) (x4 : Int32) (σ : Mem), fr kW τ σ → pf kW (lp_X3_from_33 F x1 x2 N x4 σ) τ := by
  intro N
  induction N with
  | zero => intro _ _ _; exact pf_none rfl
  | succ N ih =>
    intro x4 σ f_σ
    rw [lp_X3_from_33_s]
    refine pf_ite ?_ ?_
    · exact pf_ret f_σ
    · refine pf_bnd (fr_X0_holder hF wt_h1) (fun _ h => h.elim) f_σ (fun r1 s2 f_s2 => ?_)
      refine pf_ite ?_ ?_
      · exact pf_ret f_s2
      · exact ih _ _ f_s2
set_option maxRecDepth 100000 in
theorem gl_X3_gap_42 {F : Nat} (hF : 1000 ≤ F) {x1 : Int32} {x2 : Int32} {τ : Mem} : ∀ (N : Nat) (x4 : Int32) (x5 : Int32) (x6 : Int32) (σ : Mem), fr kW τ σ → pf kW (lp_X3_gap_42 F x1 x2 N x4 x5 x6 σ) τ := by
  intro N
  induction N with
  | zero => intro _ _ _ _ _; exact pf_none rfl
  | succ N ih =>
    intro x4 x5 x6 σ f_σ
    rw [lp_X3_gap_42_s]
    refine pf_ite ?_ ?_
    · exact pf_ret f_σ
    · refine pf_bnd (fr_X0_behind hF wt_h1) (fun _ h => h.elim) f_σ (fun r1 s2 f_s2 => ?_)
      refine pf_ite ?_ ?_
      · refine pf_ite ?_ ?_
        · try rw [j_X3_gap_96_e]
          exact ih _ _ _ _ f_s2
        · try rw [j_X3_gap_96_e]
          exact ih _ _ _ _ f_s2
      · try rw [j_X3_gap_96_e]
        exact ih _ _ _ _ f_s2
set_option maxRecDepth 100000 in
theorem gl_X3_heir_65 {F : Nat} (hF : 1000 ≤ F) {x1 : Int32} {x2 : Int32} {x3 : Int32} {τ : Mem} : ∀ (N : Nat) (x5 : Int32) (σ : Mem), fr kW τ σ → pf kW (lp_X3_heir_65 F x1 x2 x3 N x5 σ) τ := by
  intro N
  induction N with
  | zero => intro _ _ _; exact pf_none rfl
  | succ N ih =>
    intro x5 σ f_σ
    rw [lp_X3_heir_65_s]
    refine pf_ite ?_ ?_
    · refine pf_bnd (fr_X0_reckon hF wt_h24) (kw_X0_reckon_24) f_σ (fun r1 s2 f_s2 => ?_)
      refine pf_bnd (fr_X0_holder hF wt_h24) (fun _ h => h.elim) f_s2 (fun r3 s4 f_s4 => ?_)
      exact pf_ret f_s4
    · refine pf_chk (fun v5 => ?_)
      refine pf_chk (fun v6 => ?_)
      refine pf_up2 f_σ (wcid_lo (by omega) (by omega)) (kW_mk (by omega) (by omega)) (fun s7 f_s7 => ?_)
      exact ih _ _ f_s7
set_option maxRecDepth 100000 in
theorem gl_X3_ill_117 {F : Nat} (hF : 1000 ≤ F) {x1 : Int32} {x2 : Int32} {x3 : Int32} {x4 : Int32} {x5 : Int32} {τ : Mem} : ∀ (N : Nat) (y7 : Int64) (y9 : Int64) (y11 : Int64) (x13 : Int32) (σ : Mem), fr kW τ σ → pf kW (lp_X3_ill_117 F x1 x2 x3 x4 x5 N y7 y9 y11 x13 σ) τ := by
  intro N
  induction N with
  | zero => intro _ _ _ _ _ _; exact pf_none rfl
  | succ N ih =>
    intro y7 y9 y11 x13 σ f_σ
    rw [lp_X3_ill_117_s]
    refine pf_ite ?_ ?_
    · refine pf_bnd (fr_X3_fraction hF) (fun _ h => h.elim) f_σ (fun r1 s2 f_s2 => ?_)
      exact pf_ret f_s2
    · refine pf_bnd (fr_X3_ownsWell hF) (kw_X3_ownsWell) f_σ (fun r3 s4 f_s4 => ?_)
      refine pf_ite ?_ ?_
      · try rw [j_X3_ill_142_e]
        refine pf_nzl ?_
        refine pf_lt (fun z5 _ => ?_)
        refine pf_ite ?_ ?_
        · try rw [j_X3_ill_181_e]
          exact ih _ _ _ _ _ f_s4
        · try rw [j_X3_ill_181_e]
          exact ih _ _ _ _ _ f_s4
      · try rw [j_X3_ill_142_e]
        refine pf_nzl ?_
        refine pf_lt (fun z6 _ => ?_)
        refine pf_ite ?_ ?_
        · try rw [j_X3_ill_181_e]
          exact ih _ _ _ _ _ f_s4
        · try rw [j_X3_ill_181_e]
          exact ih _ _ _ _ _ f_s4
set_option maxRecDepth 100000 in
theorem gl_X3_joint_34 {F : Nat} (hF : 1000 ≤ F) {x1 : Int32} {x2 : Int32} {x3 : Int32} {τ : Mem} : ∀ (N : Nat) (x5 : Int32) (x6 : Int32) (σ : Mem), fr kW τ σ → pf kW (lp_X3_joint_34 F x1 x2 x3 N x5 x6 σ) τ := by
  intro N
  induction N with
  | zero => intro _ _ _ _; exact pf_none rfl
  | succ N ih =>
    intro x5 x6 σ f_σ
    rw [lp_X3_joint_34_s]
    refine pf_ite ?_ ?_
    · exact pf_ret f_σ
    · refine pf_bnd (fr_X0_outdo hF wt_h1) (fun _ h => h.elim) f_σ (fun r1 s2 f_s2 => ?_)
      refine pf_ite ?_ ?_
      · try rw [j_X3_joint_65_e]
        exact ih _ _ _ f_s2
      · refine pf_lt (fun z3 _ => ?_)
        try rw [j_X3_joint_65_e]
        exact ih _ _ _ f_s2
set_option maxRecDepth 100000 in
theorem gl_X3_judge_25 {F : Nat} (hF : 1000 ≤ F) {x1 : Int32} {τ : Mem} : ∀ (N : Nat) (x2 : Int32) (x3 : Int32) (σ : Mem), fr kW τ σ → pf kW (lp_X3_judge_25 F x1 N x2 x3 σ) τ := by
  intro N
  induction N with
  | zero => intro _ _ _ _; exact pf_none rfl
  | succ N ih =>
    intro x2 x3 σ f_σ
    rw [lp_X3_judge_25_s]
    refine pf_ite ?_ ?_
    · try rw [j_X3_judge_68_e]
      refine pf_up2 (c := 2007) f_σ (rfl) (kW_mk (by decide) (by decide)) (fun s1 f_s1 => ?_)
      exact pf_ret f_s1
    · refine pf_ite ?_ ?_
      · refine pf_chk (fun v2 => ?_)
        refine pf_bnd (fr_X0_holder hF wt_h1) (fun _ h => h.elim) f_σ (fun r3 s4 f_s4 => ?_)
        refine pf_bnd (fr_X3_inRow hF) (fun _ h => h.elim) f_s4 (fun r5 s6 f_s6 => ?_)
        refine pf_ite ?_ ?_
        · try rw [j_X3_judge_62_e]
          exact ih _ _ _ f_s6
        · try rw [j_X3_judge_62_e]
          exact ih _ _ _ f_s6
      · try rw [j_X3_judge_68_e]
        refine pf_up2 (c := 2007) f_σ (rfl) (kW_mk (by decide) (by decide)) (fun s7 f_s7 => ?_)
        exact pf_ret f_s7
set_option maxRecDepth 100000 in
theorem gl_X3_lost_45 {F : Nat} (hF : 1000 ≤ F) {x1 : Int32} {x2 : Int32} {τ : Mem} : ∀ (N : Nat) (x3 : Int32) (σ : Mem), fr kW τ σ → pf kW (lp_X3_lost_45 F x1 x2 N x3 σ) τ := by
  intro N
  induction N with
  | zero => intro _ _ _; exact pf_none rfl
  | succ N ih =>
    intro x3 σ f_σ
    rw [lp_X3_lost_45_s]
    refine pf_ite ?_ ?_
    · exact pf_ret f_σ
    · refine pf_bnd (fr_X0_holder hF wt_h1) (fun _ h => h.elim) f_σ (fun r1 s2 f_s2 => ?_)
      refine pf_ite ?_ ?_
      · exact ih _ _ f_s2
      · exact pf_ret f_s2
set_option maxRecDepth 100000 in
theorem gl_X3_lots_61 {F : Nat} (hF : 1000 ≤ F) {x1 : Int32} {x3 : Int32} {τ : Mem} : ∀ (N : Nat) (x5 : Int32) (x6 : Int32) (x7 : Int32) (σ : Mem), fr kW τ σ → pf kW (lp_X3_lots_61 F x1 x3 N x5 x6 x7 σ) τ := by
  intro N
  induction N with
  | zero => intro _ _ _ _ _; exact pf_none rfl
  | succ N ih =>
    intro x5 x6 x7 σ f_σ
    rw [lp_X3_lots_61_s]
    refine pf_ite ?_ ?_
    · exact pf_ret f_σ
    · refine pf_bnd (fr_X3_castRosters hF) (kw_X3_castRosters) f_σ (fun r1 s2 f_s2 => ?_)
      refine pf_bnd (fr_X0_reckon hF wt_h24) (kw_X0_reckon_24) f_s2 (fun r3 s4 f_s4 => ?_)
      refine pf_bnd (fr_X0_wealthiest hF wt_h24) (fun _ h => h.elim) f_s4 (fun r5 s6 f_s6 => ?_)
      refine pf_ite ?_ ?_
      · refine pf_bnd (fr_X0_held hF wt_h24) (fun _ h => h.elim) f_s6 (fun r7 s8 f_s8 => ?_)
        refine pf_bnd (fr_J6_bitCount_0f7a4 hF) (fun _ h => h.elim) f_s8 (fun r9 s10 f_s10 => ?_)
        try rw [j_X3_lots_140_e]
        exact ih _ _ _ _ f_s10
      · refine pf_ite ?_ ?_
        · try rw [j_X3_lots_140_e]
          exact ih _ _ _ _ f_s6
        · refine pf_bnd (fr_X0_wealth hF wt_h24) (fun _ h => h.elim) f_s6 (fun r11 s12 f_s12 => ?_)
          try rw [j_X3_lots_140_e]
          exact ih _ _ _ _ f_s12
set_option maxRecDepth 100000 in
theorem gl_X3_mostSeen_31 {F : Nat} (hF : 1000 ≤ F) {x1 : Int32} {τ : Mem} : ∀ (N : Nat) (x3 : Int32) (x4 : Int32) (x5 : Int32) (σ : Mem), fr kW τ σ → pf kW (lp_X3_mostSeen_31 F x1 N x3 x4 x5 σ) τ := by
  intro N
  induction N with
  | zero => intro _ _ _ _ _; exact pf_none rfl
  | succ N ih =>
    intro x3 x4 x5 σ f_σ
    rw [lp_X3_mostSeen_31_s]
    refine pf_ite ?_ ?_
    · refine pf_ite ?_ ?_
      · exact pf_ret f_σ
      · exact pf_ret f_σ
    · refine pf_bnd (fr_X0_gainOfAll hF wt_h1) (fun _ h => h.elim) f_σ (fun r1 s2 f_s2 => ?_)
      refine pf_ite ?_ ?_
      · try rw [j_X3_mostSeen_63_e]
        exact ih _ _ _ _ f_s2
      · try rw [j_X3_mostSeen_63_e]
        exact ih _ _ _ _ f_s2
set_option maxRecDepth 100000 in
theorem gl_X3_newcomer_112 {F : Nat} (hF : 1000 ≤ F) {x3 : Int32} {x5 : Int32} {τ : Mem} : ∀ (N : Nat) (x6 : Int32) (σ : Mem), fr kW τ σ → pf kW (lp_X3_newcomer_112 F x3 x5 N x6 σ) τ := by
  intro N
  induction N with
  | zero => intro _ _ _; exact pf_none rfl
  | succ N ih =>
    intro x6 σ f_σ
    rw [lp_X3_newcomer_112_s]
    refine pf_ite ?_ ?_
    · exact pf_ret f_σ
    · refine pf_bnd (fr_X0_firstHolding hF wt_h24) (fun _ h => h.elim) f_σ (fun r1 s2 f_s2 => ?_)
      refine pf_ite ?_ ?_
      · exact ih _ _ f_s2
      · refine pf_ite ?_ ?_
        · exact pf_ret f_s2
        · exact pf_ret f_s2
set_option maxRecDepth 100000 in
theorem gl_X3_rank_29 {F : Nat} (hF : 1000 ≤ F) {x1 : Int32} {x2 : Int32} {τ : Mem} : ∀ (N : Nat) (x4 : Int32) (σ : Mem), fr kW τ σ → pf kW (lp_X3_rank_29 F x1 x2 N x4 σ) τ := by
  intro N
  induction N with
  | zero => intro _ _ _; exact pf_none rfl
  | succ N ih =>
    intro x4 σ f_σ
    rw [lp_X3_rank_29_s]
    refine pf_ite ?_ ?_
    · exact pf_ret f_σ
    · refine pf_bnd (fr_X0_placeOf hF wt_h1) (fun _ h => h.elim) f_σ (fun r1 s2 f_s2 => ?_)
      refine pf_ite ?_ ?_
      · exact pf_ret f_s2
      · exact ih _ _ f_s2
set_option maxRecDepth 100000 in
theorem gl_X3_share_40 {F : Nat} (hF : 1000 ≤ F) {x1 : Int32} {x2 : Int32} {x3 : Int32} {τ : Mem} : ∀ (N : Nat) (y5 : Int64) (x7 : Int32) (σ : Mem), fr kW τ σ → pf kW (lp_X3_share_40 F x1 x2 x3 N y5 x7 σ) τ := by
  intro N
  induction N with
  | zero => intro _ _ _ _; exact pf_none rfl
  | succ N ih =>
    intro y5 x7 σ f_σ
    rw [lp_X3_share_40_s]
    refine pf_ite ?_ ?_
    · refine pf_chk (fun v1 => ?_)
      refine pf_chk (fun v2 => ?_)
      refine pf_bnd (fr_X3_fraction hF) (fun _ h => h.elim) f_σ (fun r3 s4 f_s4 => ?_)
      exact pf_ret f_s4
    · refine pf_chk (fun v5 => ?_)
      refine pf_chk (fun v6 => ?_)
      refine pf_lt (fun z7 _ => ?_)
      exact ih _ _ _ f_σ
set_option maxRecDepth 100000 in
theorem gl_X3_swap_64 {F : Nat} (hF : 1000 ≤ F) {x1 : Int32} {x5 : Int32} {k46 : Int32 → Int32 → Int32 → Mem → Option (Int32 × Mem)} {τ : Mem} (hk46 : ∀ (x3 : Int32) (x4 : Int32) (x5 : Int32) (σ : Mem), fr kW τ σ → pf kW (k46 x3 x4 x5 σ) τ) : ∀ (N : Nat) (x3 : Int32) (x4 : Int32) (x6 : Int32) (σ : Mem), fr kW τ σ → pf kW (lp_X3_swap_64 F k46 x1 x5 N x3 x4 x6 σ) τ := by
  intro N
  induction N with
  | zero => intro _ _ _ _ _; exact pf_none rfl
  | succ N ih =>
    intro x3 x4 x6 σ f_σ
    rw [lp_X3_swap_64_s]
    refine pf_ite ?_ ?_
    · exact hk46 _ _ _ _ f_σ
    · refine pf_bnd (fr_X3_wealthSwapped hF) (kw_X3_wealthSwapped) f_σ (fun r1 s2 f_s2 => ?_)
      refine pf_bnd (fr_X0_wealth hF wt_h1) (fun _ h => h.elim) f_s2 (fun r3 s4 f_s4 => ?_)
      refine pf_bnd (fr_X0_wealth hF wt_h1) (fun _ h => h.elim) f_s4 (fun r5 s6 f_s6 => ?_)
      refine pf_ite ?_ ?_
      · try rw [j_X3_swap_137_e]
        exact ih _ _ _ _ f_s6
      · refine pf_ite ?_ ?_
        · try rw [j_X3_swap_137_e]
          exact ih _ _ _ _ f_s6
        · refine pf_lt (fun z7 _ => ?_)
          try rw [j_X3_swap_137_e]
          exact ih _ _ _ _ f_s6
set_option maxRecDepth 100000 in
theorem gl_X3_swap_46 {F : Nat} (hF : 1000 ≤ F) {x1 : Int32} {τ : Mem} : ∀ (N : Nat) (x3 : Int32) (x4 : Int32) (x5 : Int32) (σ : Mem), fr kW τ σ → pf kW (lp_X3_swap_46 F x1 N x3 x4 x5 σ) τ := by
  intro N
  induction N with
  | zero => intro _ _ _ _ _; exact pf_none rfl
  | succ N ih =>
    intro x3 x4 x5 σ f_σ
    rw [lp_X3_swap_46_s]
    refine pf_ite ?_ ?_
    · exact pf_ret f_σ
    · exact gl_X3_swap_64 hF ih _ _ _ _ _ f_σ
set_option maxRecDepth 100000 in
theorem gl_X3_together_23 {F : Nat} (hF : 1000 ≤ F) {x1 : Int32} {x2 : Int32} {τ : Mem} : ∀ (N : Nat) (x4 : Int32) (x5 : Int32) (σ : Mem), fr kW τ σ → pf kW (lp_X3_together_23 F x1 x2 N x4 x5 σ) τ := by
  intro N
  induction N with
  | zero => intro _ _ _ _; exact pf_none rfl
  | succ N ih =>
    intro x4 x5 σ f_σ
    rw [lp_X3_together_23_s]
    refine pf_ite ?_ ?_
    · exact pf_ret f_σ
    · refine pf_chk (fun v1 => ?_)
      refine pf_chk (fun v2 => ?_)
      refine pf_lt (fun z3 _ => ?_)
      refine pf_ite ?_ ?_
      · try rw [j_X3_together_77_e]
        exact ih _ _ _ f_σ
      · refine pf_chk (fun v4 => ?_)
        refine pf_ite ?_ ?_
        · refine pf_lt (fun z5 _ => ?_)
          try rw [j_X3_together_77_e]
          exact ih _ _ _ f_σ
        · try rw [j_X3_together_77_e]
          exact ih _ _ _ f_σ
set_option maxRecDepth 100000 in
theorem gl_X3_two_66 {F : Nat} (hF : 1000 ≤ F) {x6 : Int32} {k51 : Int32 → Mem → Option (Int32 × Mem)} {τ : Mem} (hk51 : ∀ (x6 : Int32) (σ : Mem), fr kW τ σ → pf kW (k51 x6 σ) τ) : ∀ (N : Nat) (x7 : Int32) (σ : Mem), fr kW τ σ → pf kW (lp_X3_two_66 F k51 x6 N x7 σ) τ := by
  intro N
  induction N with
  | zero => intro _ _ _; exact pf_none rfl
  | succ N ih =>
    intro x7 σ f_σ
    rw [lp_X3_two_66_s]
    refine pf_ite ?_ ?_
    · exact hk51 _ _ f_σ
    · refine pf_bnd (fr_X3_bothContent hF) (fun _ h => h.elim) f_σ (fun r1 s2 f_s2 => ?_)
      refine pf_ite ?_ ?_
      · exact ih _ _ f_s2
      · exact pf_ret f_s2
set_option maxRecDepth 100000 in
theorem gl_X3_two_51 {F : Nat} (hF : 1000 ≤ F) {τ : Mem} : ∀ (N : Nat) (x6 : Int32) (σ : Mem), fr kW τ σ → pf kW (lp_X3_two_51 F N x6 σ) τ := by
  intro N
  induction N with
  | zero => intro _ _ _; exact pf_none rfl
  | succ N ih =>
    intro x6 σ f_σ
    rw [lp_X3_two_51_s]
    refine pf_ite ?_ ?_
    · exact pf_ret f_σ
    · exact gl_X3_two_66 hF ih _ _ _ f_σ
set_option maxRecDepth 100000 in
theorem gl_X3_walls_82 {F : Nat} (hF : 1000 ≤ F) {x1 : Int32} {x2 : Int32} {x3 : Int32} {x5 : Int32} {x8 : Int32} {k67 : Int32 → Int32 → Int32 → Mem → Option (Int32 × Mem)} {τ : Mem} (hk67 : ∀ (x6 : Int32) (x7 : Int32) (x8 : Int32) (σ : Mem), fr kW τ σ → pf kW (k67 x6 x7 x8 σ) τ) : ∀ (N : Nat) (x6 : Int32) (x7 : Int32) (x9 : Int32) (σ : Mem), fr kW τ σ → pf kW (lp_X3_walls_82 F k67 x1 x2 x3 x5 x8 N x6 x7 x9 σ) τ := by
  intro N
  induction N with
  | zero => intro _ _ _ _ _; exact pf_none rfl
  | succ N ih =>
    intro x6 x7 x9 σ f_σ
    rw [lp_X3_walls_82_s]
    refine pf_ite ?_ ?_
    · exact hk67 _ _ _ _ f_σ
    · refine pf_bnd (fr_X0_shows hF wt_h1) (fun _ h => h.elim) f_σ (fun r1 s2 f_s2 => ?_)
      refine pf_ite ?_ ?_
      · try rw [j_X3_walls_120_e]
        refine pf_ite ?_ ?_
        · try rw [j_X3_walls_143_e]
          exact ih _ _ _ _ f_s2
        · refine pf_lt (fun z3 _ => ?_)
          try rw [j_X3_walls_143_e]
          exact ih _ _ _ _ f_s2
      · refine pf_bnd (fr_X3_wealthWalled hF) (kw_X3_wealthWalled) f_s2 (fun r4 s5 f_s5 => ?_)
        try rw [j_X3_walls_120_e]
        refine pf_ite ?_ ?_
        · try rw [j_X3_walls_143_e]
          exact ih _ _ _ _ f_s5
        · refine pf_lt (fun z6 _ => ?_)
          try rw [j_X3_walls_143_e]
          exact ih _ _ _ _ f_s5
set_option maxRecDepth 100000 in
theorem gl_X3_walls_67 {F : Nat} (hF : 1000 ≤ F) {x1 : Int32} {x2 : Int32} {x3 : Int32} {x5 : Int32} {τ : Mem} : ∀ (N : Nat) (x6 : Int32) (x7 : Int32) (x8 : Int32) (σ : Mem), fr kW τ σ → pf kW (lp_X3_walls_67 F x1 x2 x3 x5 N x6 x7 x8 σ) τ := by
  intro N
  induction N with
  | zero => intro _ _ _ _ _; exact pf_none rfl
  | succ N ih =>
    intro x6 x7 x8 σ f_σ
    rw [lp_X3_walls_67_s]
    refine pf_ite ?_ ?_
    · refine pf_ite ?_ ?_
      · try rw [j_X3_walls_166_e]
        exact pf_ret f_σ
      · refine pf_ite ?_ ?_
        · try rw [j_X3_walls_166_e]
          exact pf_ret f_σ
        · exact pf_ret f_σ
    · exact gl_X3_walls_82 hF ih _ _ _ _ _ f_σ
set_option maxRecDepth 100000 in
theorem gl_X3_wasted_30 {F : Nat} (hF : 1000 ≤ F) {x1 : Int32} {x2 : Int32} {τ : Mem} : ∀ (N : Nat) (x4 : Int32) (x5 : Int32) (σ : Mem), fr kW τ σ → pf kW (lp_X3_wasted_30 F x1 x2 N x4 x5 σ) τ := by
  intro N
  induction N with
  | zero => intro _ _ _ _; exact pf_none rfl
  | succ N ih =>
    intro x4 x5 σ f_σ
    rw [lp_X3_wasted_30_s]
    refine pf_ite ?_ ?_
    · exact pf_ret f_σ
    · refine pf_chk (fun v1 => ?_)
      refine pf_chk (fun v2 => ?_)
      refine pf_ite ?_ ?_
      · try rw [j_X3_wasted_59_e]
        refine pf_bnd (fr_X0_pull hF wt_h1) (fun _ h => h.elim) f_σ (fun r3 s4 f_s4 => ?_)
        refine pf_ite ?_ ?_
        · try rw [j_X3_wasted_79_e]
          refine pf_ite ?_ ?_
          · refine pf_ite ?_ ?_
            · try rw [j_X3_wasted_117_e]
              exact ih _ _ _ f_s4
            · refine pf_ite ?_ ?_
              · try rw [j_X3_wasted_108_e]
                refine pf_lt (fun z5 _ => ?_)
                try rw [j_X3_wasted_117_e]
                exact ih _ _ _ f_s4
              · try rw [j_X3_wasted_117_e]
                exact ih _ _ _ f_s4
          · refine pf_ite ?_ ?_
            · refine pf_ite ?_ ?_
              · try rw [j_X3_wasted_117_e]
                exact ih _ _ _ f_s4
              · try rw [j_X3_wasted_108_e]
                refine pf_lt (fun z6 _ => ?_)
                try rw [j_X3_wasted_117_e]
                exact ih _ _ _ f_s4
            · try rw [j_X3_wasted_117_e]
              exact ih _ _ _ f_s4
        · try rw [j_X3_wasted_79_e]
          refine pf_ite ?_ ?_
          · refine pf_ite ?_ ?_
            · try rw [j_X3_wasted_117_e]
              exact ih _ _ _ f_s4
            · refine pf_ite ?_ ?_
              · try rw [j_X3_wasted_108_e]
                refine pf_lt (fun z7 _ => ?_)
                try rw [j_X3_wasted_117_e]
                exact ih _ _ _ f_s4
              · try rw [j_X3_wasted_117_e]
                exact ih _ _ _ f_s4
          · refine pf_ite ?_ ?_
            · refine pf_ite ?_ ?_
              · try rw [j_X3_wasted_117_e]
                exact ih _ _ _ f_s4
              · try rw [j_X3_wasted_108_e]
                refine pf_lt (fun z8 _ => ?_)
                try rw [j_X3_wasted_117_e]
                exact ih _ _ _ f_s4
            · try rw [j_X3_wasted_117_e]
              exact ih _ _ _ f_s4
      · try rw [j_X3_wasted_59_e]
        refine pf_bnd (fr_X0_pull hF wt_h1) (fun _ h => h.elim) f_σ (fun r9 s10 f_s10 => ?_)
        refine pf_ite ?_ ?_
        · try rw [j_X3_wasted_79_e]
          refine pf_ite ?_ ?_
          · refine pf_ite ?_ ?_
            · try rw [j_X3_wasted_117_e]
              exact ih _ _ _ f_s10
            · refine pf_ite ?_ ?_
              · try rw [j_X3_wasted_108_e]
                refine pf_lt (fun z11 _ => ?_)
                try rw [j_X3_wasted_117_e]
                exact ih _ _ _ f_s10
              · try rw [j_X3_wasted_117_e]
                exact ih _ _ _ f_s10
          · refine pf_ite ?_ ?_
            · refine pf_ite ?_ ?_
              · try rw [j_X3_wasted_117_e]
                exact ih _ _ _ f_s10
              · try rw [j_X3_wasted_108_e]
                refine pf_lt (fun z12 _ => ?_)
                try rw [j_X3_wasted_117_e]
                exact ih _ _ _ f_s10
            · try rw [j_X3_wasted_117_e]
              exact ih _ _ _ f_s10
        · try rw [j_X3_wasted_79_e]
          refine pf_ite ?_ ?_
          · refine pf_ite ?_ ?_
            · try rw [j_X3_wasted_117_e]
              exact ih _ _ _ f_s10
            · refine pf_ite ?_ ?_
              · try rw [j_X3_wasted_108_e]
                refine pf_lt (fun z13 _ => ?_)
                try rw [j_X3_wasted_117_e]
                exact ih _ _ _ f_s10
              · try rw [j_X3_wasted_117_e]
                exact ih _ _ _ f_s10
          · refine pf_ite ?_ ?_
            · refine pf_ite ?_ ?_
              · try rw [j_X3_wasted_117_e]
                exact ih _ _ _ f_s10
              · try rw [j_X3_wasted_108_e]
                refine pf_lt (fun z14 _ => ?_)
                try rw [j_X3_wasted_117_e]
                exact ih _ _ _ f_s10
            · try rw [j_X3_wasted_117_e]
              exact ih _ _ _ f_s10
set_option maxRecDepth 100000 in
theorem gl_X3_whichKind_64 {F : Nat} (hF : 1000 ≤ F) {x1 : Int32} {x2 : Int32} {x3 : Int32} {x6 : Int32} {τ : Mem} : ∀ (N : Nat) (x5 : Int32) (x7 : Int32) (σ : Mem), fr kW τ σ → pf kW (lp_X3_whichKind_64 F x1 x2 x3 x6 N x5 x7 σ) τ := by
  intro N
  induction N with
  | zero => intro _ _ _ _; exact pf_none rfl
  | succ N ih =>
    intro x5 x7 σ f_σ
    rw [lp_X3_whichKind_64_s]
    refine pf_ite ?_ ?_
    · exact pf_ret f_σ
    · refine pf_ite ?_ ?_
      · refine pf_chk (fun v1 => ?_)
        refine pf_up2 f_σ (wcid_lo (by omega) (by omega)) (kW_mk (by omega) (by omega)) (fun s2 f_s2 => ?_)
        try rw [j_X3_whichKind_100_e]
        refine pf_bnd (fr_X0_reckon hF wt_h24) (kw_X0_reckon_24) f_s2 (fun r3 s4 f_s4 => ?_)
        refine pf_bnd (fr_X3_rowTells hF) (fun _ h => h.elim) f_s4 (fun r5 s6 f_s6 => ?_)
        refine pf_ite ?_ ?_
        · try rw [j_X3_whichKind_124_e]
          exact ih _ _ _ f_s6
        · refine pf_lt (fun z7 _ => ?_)
          try rw [j_X3_whichKind_124_e]
          exact ih _ _ _ f_s6
      · refine pf_chk (fun v8 => ?_)
        refine pf_up2 f_σ (wcid_lo (by omega) (by omega)) (kW_mk (by omega) (by omega)) (fun s9 f_s9 => ?_)
        try rw [j_X3_whichKind_100_e]
        refine pf_bnd (fr_X0_reckon hF wt_h24) (kw_X0_reckon_24) f_s9 (fun r10 s11 f_s11 => ?_)
        refine pf_bnd (fr_X3_rowTells hF) (fun _ h => h.elim) f_s11 (fun r12 s13 f_s13 => ?_)
        refine pf_ite ?_ ?_
        · try rw [j_X3_whichKind_124_e]
          exact ih _ _ _ f_s13
        · refine pf_lt (fun z14 _ => ?_)
          try rw [j_X3_whichKind_124_e]
          exact ih _ _ _ f_s13
set_option maxRecDepth 100000 in
theorem gl_X3_whichLaw_30 {F : Nat} (hF : 1000 ≤ F) {τ : Mem} : ∀ (N : Nat) (x2 : Int32) (x3 : Int32) (σ : Mem), fr kW τ σ → pf kW (lp_X3_whichLaw_30 F N x2 x3 σ) τ := by
  intro N
  induction N with
  | zero => intro _ _ _ _; exact pf_none rfl
  | succ N ih =>
    intro x2 x3 σ f_σ
    rw [lp_X3_whichLaw_30_s]
    refine pf_ite ?_ ?_
    · exact pf_ret f_σ
    · refine pf_bnd (fr_X0_rule hF wt_h24) (kw_X0_rule_24) f_σ (fun r1 s2 f_s2 => ?_)
      refine pf_bnd (fr_X0_reckon hF wt_h24) (kw_X0_reckon_24) f_s2 (fun r3 s4 f_s4 => ?_)
      refine pf_bnd (fr_X3_rowTells hF) (fun _ h => h.elim) f_s4 (fun r5 s6 f_s6 => ?_)
      refine pf_ite ?_ ?_
      · try rw [j_X3_whichLaw_65_e]
        exact ih _ _ _ f_s6
      · refine pf_lt (fun z7 _ => ?_)
        try rw [j_X3_whichLaw_65_e]
        exact ih _ _ _ f_s6
