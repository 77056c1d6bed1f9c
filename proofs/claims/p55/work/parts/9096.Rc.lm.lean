set_option maxRecDepth 100000 in
theorem gl_X4_ahead_26 {F : Nat} (hF : 1000 ≤ F) {x1 : Int32} {x2 : Int32} {τ : Mem} : ∀ (N : Nat) (x3 : Int32) (σ : Mem), fr kW τ σ → pf kW (lp_X4_ahead_26 F x1 x2 N x3 σ) τ := by
  intro N
  induction N with
  | zero => intro _ _ _; exact pf_none rfl
  | succ N ih =>
    intro x3 σ f_σ
    rw [lp_X4_ahead_26_s]
    refine pf_ite ?_ ?_
    · exact pf_ret f_σ
    · refine pf_bnd (fr_X4_worthIn hF) (kw_X4_worthIn) f_σ (fun r1 s2 f_s2 => ?_)
      refine pf_bnd (fr_X4_worthIn hF) (kw_X4_worthIn) f_s2 (fun r3 s4 f_s4 => ?_)
      refine pf_ite ?_ ?_
      · exact ih _ _ f_s4
      · exact pf_ret f_s4
set_option maxRecDepth 100000 in
theorem gl_X4_bestLaw_55 {F : Nat} (hF : 1000 ≤ F) {x1 : Int32} {x2 : Int32} {x4 : Int32} {τ : Mem} : ∀ (N : Nat) (x5 : Int32) (x6 : Int32) (x7 : Int32) (σ : Mem), fr kW τ σ → pf kW (lp_X4_bestLaw_55 F x1 x2 x4 N x5 x6 x7 σ) τ := by
  intro N
  induction N with
  | zero => intro _ _ _ _ _; exact pf_none rfl
  | succ N ih =>
    intro x5 x6 x7 σ f_σ
    rw [lp_X4_bestLaw_55_s]
    refine pf_ite ?_ ?_
    · refine pf_up2 (c := 1008) f_σ (rfl) (kW_mk (by decide) (by decide)) (fun s1 f_s1 => ?_)
      exact pf_ret f_s1
    · refine pf_up2 (c := 1008) f_σ (rfl) (kW_mk (by decide) (by decide)) (fun s2 f_s2 => ?_)
      refine pf_bnd (fr_X4_worthIn hF) (kw_X4_worthIn) f_s2 (fun r3 s4 f_s4 => ?_)
      refine pf_ite ?_ ?_
      · try rw [j_X4_bestLaw_89_e]
        refine pf_ite ?_ ?_
        · try rw [j_X4_bestLaw_105_e]
          exact ih _ _ _ _ f_s4
        · try rw [j_X4_bestLaw_105_e]
          exact ih _ _ _ _ f_s4
      · try rw [j_X4_bestLaw_89_e]
        refine pf_ite ?_ ?_
        · try rw [j_X4_bestLaw_105_e]
          exact ih _ _ _ _ f_s4
        · try rw [j_X4_bestLaw_105_e]
          exact ih _ _ _ _ f_s4
set_option maxRecDepth 100000 in
theorem gl_X4_bestPane_74 {F : Nat} (hF : 1000 ≤ F) {x1 : Int32} {x2 : Int32} {x3 : Int32} {x4 : Int32} {x6 : Int32} {τ : Mem} : ∀ (N : Nat) (x7 : Int32) (x8 : Int32) (x9 : Int32) (σ : Mem), fr kW τ σ → pf kW (lp_X4_bestPane_74 F x1 x2 x3 x4 x6 N x7 x8 x9 σ) τ := by
  intro N
  induction N with
  | zero => intro _ _ _ _ _; exact pf_none rfl
  | succ N ih =>
    intro x7 x8 x9 σ f_σ
    rw [lp_X4_bestPane_74_s]
    refine pf_ite ?_ ?_
    · refine pf_chk (fun v1 => ?_)
      refine pf_up2 (c := 106) f_σ (rfl) (kW_mk (by decide) (by decide)) (fun s2 f_s2 => ?_)
      refine pf_ite ?_ ?_
      · exact pf_ret f_s2
      · exact pf_ret f_s2
    · refine pf_ite ?_ ?_
      · try rw [j_X4_bestPane_109_e]
        refine pf_chk (fun v3 => ?_)
        refine pf_up2 (c := 106) f_σ (rfl) (kW_mk (by decide) (by decide)) (fun s4 f_s4 => ?_)
        refine pf_bnd (fr_X4_worthAnew hF) (kw_X4_worthAnew) f_s4 (fun r5 s6 f_s6 => ?_)
        refine pf_ite ?_ ?_
        · try rw [j_X4_bestPane_146_e]
          refine pf_ite ?_ ?_
          · try rw [j_X4_bestPane_162_e]
            exact ih _ _ _ _ f_s6
          · try rw [j_X4_bestPane_162_e]
            exact ih _ _ _ _ f_s6
        · refine pf_ite ?_ ?_
          · try rw [j_X4_bestPane_146_e]
            refine pf_ite ?_ ?_
            · try rw [j_X4_bestPane_162_e]
              exact ih _ _ _ _ f_s6
            · try rw [j_X4_bestPane_162_e]
              exact ih _ _ _ _ f_s6
          · try rw [j_X4_bestPane_146_e]
            refine pf_ite ?_ ?_
            · try rw [j_X4_bestPane_162_e]
              exact ih _ _ _ _ f_s6
            · try rw [j_X4_bestPane_162_e]
              exact ih _ _ _ _ f_s6
      · try rw [j_X4_bestPane_109_e]
        refine pf_chk (fun v7 => ?_)
        refine pf_up2 (c := 106) f_σ (rfl) (kW_mk (by decide) (by decide)) (fun s8 f_s8 => ?_)
        refine pf_bnd (fr_X4_worthAnew hF) (kw_X4_worthAnew) f_s8 (fun r9 s10 f_s10 => ?_)
        refine pf_ite ?_ ?_
        · try rw [j_X4_bestPane_146_e]
          refine pf_ite ?_ ?_
          · try rw [j_X4_bestPane_162_e]
            exact ih _ _ _ _ f_s10
          · try rw [j_X4_bestPane_162_e]
            exact ih _ _ _ _ f_s10
        · refine pf_ite ?_ ?_
          · try rw [j_X4_bestPane_146_e]
            refine pf_ite ?_ ?_
            · try rw [j_X4_bestPane_162_e]
              exact ih _ _ _ _ f_s10
            · try rw [j_X4_bestPane_162_e]
              exact ih _ _ _ _ f_s10
          · try rw [j_X4_bestPane_146_e]
            refine pf_ite ?_ ?_
            · try rw [j_X4_bestPane_162_e]
              exact ih _ _ _ _ f_s10
            · try rw [j_X4_bestPane_162_e]
              exact ih _ _ _ _ f_s10
set_option maxRecDepth 100000 in
theorem gl_X4_busy_26 {F : Nat} (hF : 1000 ≤ F) {x1 : Int32} {τ : Mem} : ∀ (N : Nat) (x2 : Int32) (x3 : Int32) (σ : Mem), fr kW τ σ → pf kW (lp_X4_busy_26 F x1 N x2 x3 σ) τ := by
  intro N
  induction N with
  | zero => intro _ _ _ _; exact pf_none rfl
  | succ N ih =>
    intro x2 x3 σ f_σ
    rw [lp_X4_busy_26_s]
    refine pf_ite ?_ ?_
    · refine pf_ite ?_ ?_
      · exact pf_ret f_σ
      · refine pf_bnd (fr_X4_standing hF) (fun _ h => h.elim) f_σ (fun r1 s2 f_s2 => ?_)
        exact pf_ret f_s2
    · refine pf_bnd (fr_X4_standing hF) (fun _ h => h.elim) f_σ (fun r3 s4 f_s4 => ?_)
      refine pf_bnd (fr_X4_standing hF) (fun _ h => h.elim) f_s4 (fun r5 s6 f_s6 => ?_)
      refine pf_ite ?_ ?_
      · try rw [j_X4_busy_50_e]
        exact ih _ _ _ f_s6
      · try rw [j_X4_busy_50_e]
        exact ih _ _ _ f_s6
set_option maxRecDepth 100000 in
theorem gl_X4_duels_25 {F : Nat} (hF : 1000 ≤ F) {x1 : Int32} {x2 : Int32} {τ : Mem} : ∀ (N : Nat) (x3 : Int32) (x4 : Int32) (σ : Mem), fr kW τ σ → pf kW (lp_X4_duels_25 F x1 x2 N x3 x4 σ) τ := by
  intro N
  induction N with
  | zero => intro _ _ _ _; exact pf_none rfl
  | succ N ih =>
    intro x3 x4 σ f_σ
    rw [lp_X4_duels_25_s]
    refine pf_ite ?_ ?_
    · exact pf_ret f_σ
    · refine pf_bnd (fr_X4_bringsOf hF) (fun _ h => h.elim) f_σ (fun r1 s2 f_s2 => ?_)
      refine pf_ite ?_ ?_
      · try rw [j_X4_duels_57_e]
        try rw [j_X4_duels_58_e]
        exact ih _ _ _ f_s2
      · refine pf_bnd (fr_X4_bringsOf hF) (fun _ h => h.elim) f_s2 (fun r3 s4 f_s4 => ?_)
        refine pf_ite ?_ ?_
        · try rw [j_X4_duels_57_e]
          try rw [j_X4_duels_58_e]
          exact ih _ _ _ f_s4
        · try rw [j_X4_duels_58_e]
          exact ih _ _ _ f_s4
set_option maxRecDepth 100000 in
theorem gl_X4_even_50 {F : Nat} (hF : 1000 ≤ F) {x1 : Int32} {x3 : Int32} {k37 : Int32 → Int32 → Mem → Option (Int32 × Mem)} {τ : Mem} (hk37 : ∀ (x2 : Int32) (x3 : Int32) (σ : Mem), fr kW τ σ → pf kW (k37 x2 x3 σ) τ) : ∀ (N : Nat) (x2 : Int32) (x4 : Int32) (σ : Mem), fr kW τ σ → pf kW (lp_X4_even_50 F k37 x1 x3 N x2 x4 σ) τ := by
  intro N
  induction N with
  | zero => intro _ _ _ _; exact pf_none rfl
  | succ N ih =>
    intro x2 x4 σ f_σ
    rw [lp_X4_even_50_s]
    refine pf_ite ?_ ?_
    · exact hk37 _ _ _ f_σ
    · refine pf_bnd (fr_X4_worthIn hF) (kw_X4_worthIn) f_σ (fun r1 s2 f_s2 => ?_)
      refine pf_bnd (fr_X4_worthIn hF) (kw_X4_worthIn) f_s2 (fun r3 s4 f_s4 => ?_)
      refine pf_ite ?_ ?_
      · try rw [j_X4_even_81_e]
        exact ih _ _ _ f_s4
      · try rw [j_X4_even_81_e]
        exact ih _ _ _ f_s4
set_option maxRecDepth 100000 in
theorem gl_X4_even_37 {F : Nat} (hF : 1000 ≤ F) {x1 : Int32} {τ : Mem} : ∀ (N : Nat) (x2 : Int32) (x3 : Int32) (σ : Mem), fr kW τ σ → pf kW (lp_X4_even_37 F x1 N x2 x3 σ) τ := by
  intro N
  induction N with
  | zero => intro _ _ _ _; exact pf_none rfl
  | succ N ih =>
    intro x2 x3 σ f_σ
    rw [lp_X4_even_37_s]
    refine pf_ite ?_ ?_
    · exact pf_ret f_σ
    · exact gl_X4_even_50 hF ih _ _ _ _ f_σ
set_option maxRecDepth 100000 in
theorem gl_X4_freeHours_54 {F : Nat} (hF : 1000 ≤ F) {x1 : Int32} {x2 : Int32} {x4 : Int32} {τ : Mem} : ∀ (N : Nat) (x5 : Int32) (x6 : Int32) (σ : Mem), fr kW τ σ → pf kW (lp_X4_freeHours_54 F x1 x2 x4 N x5 x6 σ) τ := by
  intro N
  induction N with
  | zero => intro _ _ _ _; exact pf_none rfl
  | succ N ih =>
    intro x5 x6 σ f_σ
    rw [lp_X4_freeHours_54_s]
    refine pf_ite ?_ ?_
    · exact pf_ret f_σ
    · refine pf_chk (fun v1 => ?_)
      refine pf_lt (fun z2 _ => ?_)
      refine pf_up2 (c := 106) f_σ (rfl) (kW_mk (by decide) (by decide)) (fun s3 f_s3 => ?_)
      refine pf_bnd (fr_X4_layBrings hF) (kw_X4_layBrings) f_s3 (fun r4 s5 f_s5 => ?_)
      refine pf_ite ?_ ?_
      · try rw [j_X4_freeHours_118_e]
        try rw [j_X4_freeHours_119_e]
        refine pf_chk (fun v6 => ?_)
        refine pf_up2 (c := 106) f_s5 (rfl) (kW_mk (by decide) (by decide)) (fun s7 f_s7 => ?_)
        exact ih _ _ _ f_s7
      · refine pf_bnd (fr_X4_viewsIn hF) (kw_X4_viewsIn) f_s5 (fun r8 s9 f_s9 => ?_)
        refine pf_ite ?_ ?_
        · try rw [j_X4_freeHours_119_e]
          refine pf_chk (fun v10 => ?_)
          refine pf_up2 (c := 106) f_s9 (rfl) (kW_mk (by decide) (by decide)) (fun s11 f_s11 => ?_)
          exact ih _ _ _ f_s11
        · try rw [j_X4_freeHours_118_e]
          try rw [j_X4_freeHours_119_e]
          refine pf_chk (fun v12 => ?_)
          refine pf_up2 (c := 106) f_s9 (rfl) (kW_mk (by decide) (by decide)) (fun s13 f_s13 => ?_)
          exact ih _ _ _ f_s13
set_option maxRecDepth 100000 in
theorem gl_X4_from_32 {F : Nat} (hF : 1000 ≤ F) {x1 : Int32} {x2 : Int32} {τ : Mem} : ∀ (N : Nat) (x3 : Int32) (σ : Mem), fr kW τ σ → pf kW (lp_X4_from_32 F x1 x2 N x3 σ) τ := by
  intro N
  induction N with
  | zero => intro _ _ _; exact pf_none rfl
  | succ N ih =>
    intro x3 σ f_σ
    rw [lp_X4_from_32_s]
    refine pf_ite ?_ ?_
    · exact pf_ret f_σ
    · refine pf_bnd (fr_X4_ownerIn hF) (kw_X4_ownerIn) f_σ (fun r1 s2 f_s2 => ?_)
      refine pf_ite ?_ ?_
      · exact pf_ret f_s2
      · exact ih _ _ f_s2
set_option maxRecDepth 100000 in
theorem gl_X4_gap_48 {F : Nat} (hF : 1000 ≤ F) {x1 : Int32} {x2 : Int32} {τ : Mem} : ∀ (N : Nat) (x4 : Int32) (x5 : Int32) (x6 : Int32) (σ : Mem), fr kW τ σ → pf kW (lp_X4_gap_48 F x1 x2 N x4 x5 x6 σ) τ := by
  intro N
  induction N with
  | zero => intro _ _ _ _ _; exact pf_none rfl
  | succ N ih =>
    intro x4 x5 x6 σ f_σ
    rw [lp_X4_gap_48_s]
    refine pf_ite ?_ ?_
    · exact pf_ret f_σ
    · refine pf_bnd (fr_X4_countIn hF) (fun _ h => h.elim) f_σ (fun r1 s2 f_s2 => ?_)
      refine pf_ite ?_ ?_
      · refine pf_ite ?_ ?_
        · try rw [j_X4_gap_93_e]
          refine pf_ite ?_ ?_
          · try rw [j_X4_gap_109_e]
            exact ih _ _ _ _ f_s2
          · try rw [j_X4_gap_109_e]
            exact ih _ _ _ _ f_s2
        · try rw [j_X4_gap_93_e]
          refine pf_ite ?_ ?_
          · try rw [j_X4_gap_109_e]
            exact ih _ _ _ _ f_s2
          · try rw [j_X4_gap_109_e]
            exact ih _ _ _ _ f_s2
      · try rw [j_X4_gap_93_e]
        refine pf_ite ?_ ?_
        · try rw [j_X4_gap_109_e]
          exact ih _ _ _ _ f_s2
        · try rw [j_X4_gap_109_e]
          exact ih _ _ _ _ f_s2
set_option maxRecDepth 100000 in
theorem gl_X4_heir_63 {F : Nat} (hF : 1000 ≤ F) {x1 : Int32} {x2 : Int32} {x3 : Int32} {τ : Mem} : ∀ (N : Nat) (x5 : Int32) (σ : Mem), fr kW τ σ → pf kW (lp_X4_heir_63 F x1 x2 x3 N x5 σ) τ := by
  intro N
  induction N with
  | zero => intro _ _ _; exact pf_none rfl
  | succ N ih =>
    intro x5 σ f_σ
    rw [lp_X4_heir_63_s]
    refine pf_ite ?_ ?_
    · refine pf_bnd (fr_X4_layBrings hF) (kw_X4_layBrings) f_σ (fun r1 s2 f_s2 => ?_)
      refine pf_bnd (fr_X4_ownerIn hF) (kw_X4_ownerIn) f_s2 (fun r3 s4 f_s4 => ?_)
      refine pf_bnd (fr_X4_again hF) (kw_X4_again) f_s4 (fun r5 s6 f_s6 => ?_)
      exact pf_ret f_s6
    · refine pf_chk (fun v7 => ?_)
      refine pf_up2 (c := 107) f_σ (rfl) (kW_mk (by decide) (by decide)) (fun s8 f_s8 => ?_)
      exact ih _ _ f_s8
set_option maxRecDepth 100000 in
theorem gl_X4_ill_140 {F : Nat} (hF : 1000 ≤ F) {x1 : Int32} {x2 : Int32} {x3 : Int32} {x4 : Int32} {x5 : Int32} {y7 : Int64} {y9 : Int64} {x11 : Int32} {k126 : Int64 → Int32 → Mem → Option (Int64 × Mem)} {τ : Mem} (hk126 : ∀ (y7 : Int64) (x11 : Int32) (σ : Mem), fr kW τ σ → pf kW (k126 y7 x11 σ) τ) : ∀ (N : Nat) (y12 : Int64) (x14 : Int32) (σ : Mem), fr kW τ σ → pf kW (lp_X4_ill_140 F k126 x1 x2 x3 x4 x5 y7 y9 x11 N y12 x14 σ) τ := by
  intro N
  induction N with
  | zero => intro _ _ _ _; exact pf_none rfl
  | succ N ih =>
    intro y12 x14 σ f_σ
    rw [lp_X4_ill_140_s]
    refine pf_ite ?_ ?_
    · refine pf_bnd (fr_X4_ownerIn hF) (kw_X4_ownerIn) f_σ (fun r1 s2 f_s2 => ?_)
      refine pf_chk (fun v3 => ?_)
      refine pf_bnd (fr_X4_onesOf hF) (fun _ h => h.elim) f_s2 (fun r4 s5 f_s5 => ?_)
      refine pf_bnd (fr_X4_held hF) (fun _ h => h.elim) f_s5 (fun r6 s7 f_s7 => ?_)
      refine pf_chk (fun v8 => ?_)
      refine pf_up2 (c := 110) f_s7 (rfl) (kW_mk (by decide) (by decide)) (fun s9 f_s9 => ?_)
      refine pf_bnd (fr_X4_ownerLooked hF) (fun _ h => h.elim) f_s9 (fun r10 s11 f_s11 => ?_)
      refine pf_ite ?_ ?_
      · try rw [j_X4_ill_237_e]
        exact hk126 _ _ _ f_s11
      · try rw [j_X4_ill_237_e]
        exact hk126 _ _ _ f_s11
    · refine pf_bnd (fr_X4_hasBit hF) (fun _ h => h.elim) f_σ (fun r12 s13 f_s13 => ?_)
      refine pf_ite ?_ ?_
      · try rw [j_X4_ill_167_e]
        exact ih _ _ _ f_s13
      · try rw [j_X4_ill_167_e]
        exact ih _ _ _ f_s13
set_option maxRecDepth 100000 in
theorem gl_X4_ill_126 {F : Nat} (hF : 1000 ≤ F) {x1 : Int32} {x2 : Int32} {x3 : Int32} {x4 : Int32} {x5 : Int32} {y9 : Int64} {τ : Mem} : ∀ (N : Nat) (y7 : Int64) (x11 : Int32) (σ : Mem), fr kW τ σ → pf kW (lp_X4_ill_126 F x1 x2 x3 x4 x5 y9 N y7 x11 σ) τ := by
  intro N
  induction N with
  | zero => intro _ _ _ _; exact pf_none rfl
  | succ N ih =>
    intro y7 x11 σ f_σ
    rw [lp_X4_ill_126_s]
    refine pf_ite ?_ ?_
    · refine pf_bnd (fr_X4_partOf hF) (fun _ h => h.elim) f_σ (fun r1 s2 f_s2 => ?_)
      exact pf_ret f_s2
    · exact gl_X4_ill_140 hF ih _ _ _ _ f_σ
set_option maxRecDepth 100000 in
theorem gl_X4_ill_103 {F : Nat} (hF : 1000 ≤ F) {x1 : Int32} {x2 : Int32} {x3 : Int32} {x4 : Int32} {x5 : Int32} {y7 : Int64} {τ : Mem} : ∀ (N : Nat) (y9 : Int64) (x11 : Int32) (σ : Mem), fr kW τ σ → pf kW (lp_X4_ill_103 F x1 x2 x3 x4 x5 y7 N y9 x11 σ) τ := by
  intro N
  induction N with
  | zero => intro _ _ _ _; exact pf_none rfl
  | succ N ih =>
    intro y9 x11 σ f_σ
    rw [lp_X4_ill_103_s]
    refine pf_ite ?_ ?_
    · exact gl_X4_ill_126 hF _ _ _ _ f_σ
    · refine pf_lt (fun z1 _ => ?_)
      exact ih _ _ _ f_σ
set_option maxRecDepth 100000 in
theorem gl_X4_joint_91 {F : Nat} (hF : 1000 ≤ F) {x1 : Int32} {x2 : Int32} {x3 : Int32} {x5 : Int32} {x6 : Int32} {x7 : Int32} {k50 : Int32 → Int32 → Mem → Option (Int32 × Mem)} {τ : Mem} (hk50 : ∀ (x5 : Int32) (x6 : Int32) (σ : Mem), fr kW τ σ → pf kW (k50 x5 x6 σ) τ) : ∀ (N : Nat) (x8 : Int32) (x9 : Int32) (σ : Mem), fr kW τ σ → pf kW (lp_X4_joint_91 F k50 x1 x2 x3 x5 x6 x7 N x8 x9 σ) τ := by
  intro N
  induction N with
  | zero => intro _ _ _ _; exact pf_none rfl
  | succ N ih =>
    intro x8 x9 σ f_σ
    rw [lp_X4_joint_91_s]
    refine pf_ite ?_ ?_
    · refine pf_ite ?_ ?_
      · try rw [j_X4_joint_159_e]
        exact hk50 _ _ _ f_σ
      · try rw [j_X4_joint_159_e]
        exact hk50 _ _ _ f_σ
    · refine pf_ite ?_ ?_
      · try rw [j_X4_joint_135_e]
        try rw [j_X4_joint_136_e]
        exact ih _ _ _ f_σ
      · refine pf_ite ?_ ?_
        · try rw [j_X4_joint_131_e]
          try rw [j_X4_joint_136_e]
          exact ih _ _ _ f_σ
        · refine pf_ite ?_ ?_
          · try rw [j_X4_joint_131_e]
            try rw [j_X4_joint_136_e]
            exact ih _ _ _ f_σ
          · refine pf_bnd (fr_X4_countIn hF) (fun _ h => h.elim) f_σ (fun r1 s2 f_s2 => ?_)
            refine pf_ite ?_ ?_
            · try rw [j_X4_joint_135_e]
              try rw [j_X4_joint_136_e]
              exact ih _ _ _ f_s2
            · try rw [j_X4_joint_131_e]
              try rw [j_X4_joint_136_e]
              exact ih _ _ _ f_s2
set_option maxRecDepth 100000 in
theorem gl_X4_joint_50 {F : Nat} (hF : 1000 ≤ F) {x1 : Int32} {x2 : Int32} {x3 : Int32} {τ : Mem} : ∀ (N : Nat) (x5 : Int32) (x6 : Int32) (σ : Mem), fr kW τ σ → pf kW (lp_X4_joint_50 F x1 x2 x3 N x5 x6 σ) τ := by
  intro N
  induction N with
  | zero => intro _ _ _ _; exact pf_none rfl
  | succ N ih =>
    intro x5 x6 σ f_σ
    rw [lp_X4_joint_50_s]
    refine pf_ite ?_ ?_
    · exact pf_ret f_σ
    · refine pf_bnd (fr_X4_countIn hF) (fun _ h => h.elim) f_σ (fun r1 s2 f_s2 => ?_)
      refine pf_bnd (fr_X4_countIn hF) (fun _ h => h.elim) f_s2 (fun r3 s4 f_s4 => ?_)
      refine pf_ite ?_ ?_
      · try rw [j_X4_joint_86_e]
        exact gl_X4_joint_91 hF ih _ _ _ _ f_s4
      · try rw [j_X4_joint_86_e]
        exact gl_X4_joint_91 hF ih _ _ _ _ f_s4
set_option maxRecDepth 100000 in
theorem gl_X4_judge_34 {F : Nat} (hF : 1000 ≤ F) {x1 : Int32} {x2 : Int32} {τ : Mem} : ∀ (N : Nat) (x3 : Int32) (σ : Mem), fr kW τ σ → pf kW (lp_X4_judge_34 F x1 x2 N x3 σ) τ := by
  intro N
  induction N with
  | zero => intro _ _ _; exact pf_none rfl
  | succ N ih =>
    intro x3 σ f_σ
    rw [lp_X4_judge_34_s]
    refine pf_ite ?_ ?_
    · exact pf_ret f_σ
    · refine pf_bnd (fr_X4_ownerIn hF) (kw_X4_ownerIn) f_σ (fun r1 s2 f_s2 => ?_)
      refine pf_chk (fun v3 => ?_)
      refine pf_ite ?_ ?_
      · try rw [j_X4_judge_65_e]
        refine pf_ite ?_ ?_
        · exact ih _ _ f_s2
        · exact pf_ret f_s2
      · try rw [j_X4_judge_65_e]
        refine pf_ite ?_ ?_
        · exact ih _ _ f_s2
        · exact pf_ret f_s2
set_option maxRecDepth 100000 in
theorem gl_X4_lost_42 {F : Nat} (hF : 1000 ≤ F) {x1 : Int32} {x2 : Int32} {τ : Mem} : ∀ (N : Nat) (x3 : Int32) (σ : Mem), fr kW τ σ → pf kW (lp_X4_lost_42 F x1 x2 N x3 σ) τ := by
  intro N
  induction N with
  | zero => intro _ _ _; exact pf_none rfl
  | succ N ih =>
    intro x3 σ f_σ
    rw [lp_X4_lost_42_s]
    refine pf_ite ?_ ?_
    · exact pf_ret f_σ
    · refine pf_bnd (fr_X4_ownerIn hF) (kw_X4_ownerIn) f_σ (fun r1 s2 f_s2 => ?_)
      refine pf_ite ?_ ?_
      · exact ih _ _ f_s2
      · exact pf_ret f_s2
set_option maxRecDepth 100000 in
theorem gl_X4_lots_85 {F : Nat} (hF : 1000 ≤ F) {x1 : Int32} {x3 : Int32} {x5 : Int32} {x6 : Int32} {x7 : Int32} {k46 : Int32 → Int32 → Mem → Option (Int32 × Mem)} {k62 : Int32 → Mem → Option (Int32 × Mem)} {τ : Mem} (hk46 : ∀ (x5 : Int32) (x6 : Int32) (σ : Mem), fr kW τ σ → pf kW (k46 x5 x6 σ) τ) (hk62 : ∀ (x7 : Int32) (σ : Mem), fr kW τ σ → pf kW (k62 x7 σ) τ) : ∀ (N : Nat) (x8 : Int32) (σ : Mem), fr kW τ σ → pf kW (lp_X4_lots_85 F k46 k62 x1 x3 x5 x6 x7 N x8 σ) τ := by
  intro N
  induction N with
  | zero => intro _ _ _; exact pf_none rfl
  | succ N ih =>
    intro x8 σ f_σ
    rw [lp_X4_lots_85_s]
    refine pf_ite ?_ ?_
    · exact hk62 _ _ f_σ
    · refine pf_bnd (fr_X4_drawBelow hF) (kw_X4_drawBelow) f_σ (fun r1 s2 f_s2 => ?_)
      refine pf_ite ?_ ?_
      · try rw [j_X4_lots_120_e]
        refine pf_bnd (fr_X4_drawBelow hF) (kw_X4_drawBelow) f_s2 (fun r3 s4 f_s4 => ?_)
        refine pf_bnd (fr_X4_stand hF) (kw_X4_stand) f_s4 (fun r5 s6 f_s6 => ?_)
        exact ih _ _ f_s6
      · try rw [j_X4_lots_120_e]
        refine pf_bnd (fr_X4_drawBelow hF) (kw_X4_drawBelow) f_s2 (fun r7 s8 f_s8 => ?_)
        refine pf_bnd (fr_X4_stand hF) (kw_X4_stand) f_s8 (fun r9 s10 f_s10 => ?_)
        exact ih _ _ f_s10
set_option maxRecDepth 100000 in
theorem gl_X4_lots_62 {F : Nat} (hF : 1000 ≤ F) {x1 : Int32} {x3 : Int32} {x5 : Int32} {x6 : Int32} {k46 : Int32 → Int32 → Mem → Option (Int32 × Mem)} {τ : Mem} (hk46 : ∀ (x5 : Int32) (x6 : Int32) (σ : Mem), fr kW τ σ → pf kW (k46 x5 x6 σ) τ) : ∀ (N : Nat) (x7 : Int32) (σ : Mem), fr kW τ σ → pf kW (lp_X4_lots_62 F k46 x1 x3 x5 x6 N x7 σ) τ := by
  intro N
  induction N with
  | zero => intro _ _ _; exact pf_none rfl
  | succ N ih =>
    intro x7 σ f_σ
    rw [lp_X4_lots_62_s]
    refine pf_ite ?_ ?_
    · refine pf_bnd (fr_X4_layBrings hF) (kw_X4_layBrings) f_σ (fun r1 s2 f_s2 => ?_)
      refine pf_bnd (fr_X4_richestIn hF) (kw_X4_richestIn) f_s2 (fun r3 s4 f_s4 => ?_)
      refine pf_ite ?_ ?_
      · refine pf_bnd (fr_X4_viewsIn hF) (kw_X4_viewsIn) f_s4 (fun r5 s6 f_s6 => ?_)
        refine pf_bnd (fr_X4_onesOf hF) (fun _ h => h.elim) f_s6 (fun r7 s8 f_s8 => ?_)
        try rw [j_X4_lots_195_e]
        exact hk46 _ _ _ f_s8
      · refine pf_ite ?_ ?_
        · refine pf_bnd (fr_X4_worthIn hF) (kw_X4_worthIn) f_s4 (fun r9 s10 f_s10 => ?_)
          try rw [j_X4_lots_195_e]
          exact hk46 _ _ _ f_s10
        · try rw [j_X4_lots_195_e]
          exact hk46 _ _ _ f_s4
    · refine pf_bnd (fr_X4_stand hF) (kw_X4_stand) f_σ (fun r11 s12 f_s12 => ?_)
      exact gl_X4_lots_85 hF hk46 ih _ _ _ f_s12
set_option maxRecDepth 100000 in
theorem gl_X4_lots_46 {F : Nat} (hF : 1000 ≤ F) {x1 : Int32} {x3 : Int32} {τ : Mem} : ∀ (N : Nat) (x5 : Int32) (x6 : Int32) (σ : Mem), fr kW τ σ → pf kW (lp_X4_lots_46 F x1 x3 N x5 x6 σ) τ := by
  intro N
  induction N with
  | zero => intro _ _ _ _; exact pf_none rfl
  | succ N ih =>
    intro x5 x6 σ f_σ
    rw [lp_X4_lots_46_s]
    refine pf_ite ?_ ?_
    · try rw [j_X4_lots_204_e]
      refine pf_bnd (fr_X4_again hF) (kw_X4_again) f_σ (fun r1 s2 f_s2 => ?_)
      exact pf_ret f_s2
    · refine pf_ite ?_ ?_
      · try rw [j_X4_lots_204_e]
        refine pf_bnd (fr_X4_again hF) (kw_X4_again) f_σ (fun r3 s4 f_s4 => ?_)
        exact pf_ret f_s4
      · exact gl_X4_lots_62 hF ih _ _ _ f_σ
set_option maxRecDepth 100000 in
theorem gl_X4_moreHours_101 {F : Nat} (hF : 1000 ≤ F) {x1 : Int32} {x2 : Int32} {x3 : Int32} {x6 : Int32} {k93 : Int32 → Int32 → Mem → Option (Int32 × Mem)} {τ : Mem} (hk93 : ∀ (x5 : Int32) (x6 : Int32) (σ : Mem), fr kW τ σ → pf kW (k93 x5 x6 σ) τ) : ∀ (N : Nat) (x5 : Int32) (x7 : Int32) (σ : Mem), fr kW τ σ → pf kW (lp_X4_moreHours_101 F k93 x1 x2 x3 x6 N x5 x7 σ) τ := by
  intro N
  induction N with
  | zero => intro _ _ _ _; exact pf_none rfl
  | succ N ih =>
    intro x5 x7 σ f_σ
    rw [lp_X4_moreHours_101_s]
    refine pf_ite ?_ ?_
    · exact hk93 _ _ _ f_σ
    · refine pf_chk (fun v1 => ?_)
      refine pf_ite ?_ ?_
      · try rw [j_X4_moreHours_167_e]
        exact ih _ _ _ f_σ
      · refine pf_bnd (fr_X4_pullOf hF) (fun _ h => h.elim) f_σ (fun r2 s3 f_s3 => ?_)
        refine pf_ite ?_ ?_
        · refine pf_chk (fun v4 => ?_)
          refine pf_up2 (c := 109) f_s3 (rfl) (kW_mk (by decide) (by decide)) (fun s5 f_s5 => ?_)
          refine pf_bnd (fr_X4_ownerIn hF) (kw_X4_ownerIn) f_s5 (fun r6 s7 f_s7 => ?_)
          refine pf_ite ?_ ?_
          · exact pf_ret f_s7
          · try rw [j_X4_moreHours_167_e]
            exact ih _ _ _ f_s7
        · try rw [j_X4_moreHours_167_e]
          exact ih _ _ _ f_s3
set_option maxRecDepth 100000 in
theorem gl_X4_moreHours_93 {F : Nat} (hF : 1000 ≤ F) {x1 : Int32} {x2 : Int32} {x3 : Int32} {τ : Mem} : ∀ (N : Nat) (x5 : Int32) (x6 : Int32) (σ : Mem), fr kW τ σ → pf kW (lp_X4_moreHours_93 F x1 x2 x3 N x5 x6 σ) τ := by
  intro N
  induction N with
  | zero => intro _ _ _ _; exact pf_none rfl
  | succ N ih =>
    intro x5 x6 σ f_σ
    rw [lp_X4_moreHours_93_s]
    refine pf_ite ?_ ?_
    · exact pf_ret f_σ
    · exact gl_X4_moreHours_101 hF ih _ _ _ _ f_σ
set_option maxRecDepth 100000 in
theorem gl_X4_mostSeen_30 {F : Nat} (hF : 1000 ≤ F) {x1 : Int32} {τ : Mem} : ∀ (N : Nat) (x2 : Int32) (x3 : Int32) (σ : Mem), fr kW τ σ → pf kW (lp_X4_mostSeen_30 F x1 N x2 x3 σ) τ := by
  intro N
  induction N with
  | zero => intro _ _ _ _; exact pf_none rfl
  | succ N ih =>
    intro x2 x3 σ f_σ
    rw [lp_X4_mostSeen_30_s]
    refine pf_ite ?_ ?_
    · refine pf_ite ?_ ?_
      · exact pf_ret f_σ
      · refine pf_bnd (fr_X4_broughtToAll hF) (fun _ h => h.elim) f_σ (fun r1 s2 f_s2 => ?_)
        exact pf_ret f_s2
    · refine pf_bnd (fr_X4_broughtToAll hF) (fun _ h => h.elim) f_σ (fun r3 s4 f_s4 => ?_)
      refine pf_bnd (fr_X4_broughtToAll hF) (fun _ h => h.elim) f_s4 (fun r5 s6 f_s6 => ?_)
      refine pf_ite ?_ ?_
      · try rw [j_X4_mostSeen_54_e]
        exact ih _ _ _ f_s6
      · try rw [j_X4_mostSeen_54_e]
        exact ih _ _ _ f_s6
set_option maxRecDepth 100000 in
theorem gl_X4_newcomer_130 {F : Nat} (hF : 1000 ≤ F) {x3 : Int32} {x5 : Int32} {x8 : Int32} {k113 : Int32 → Int32 → Int32 → Mem → Option (Int32 × Mem)} {τ : Mem} (hk113 : ∀ (x6 : Int32) (x7 : Int32) (x8 : Int32) (σ : Mem), fr kW τ σ → pf kW (k113 x6 x7 x8 σ) τ) : ∀ (N : Nat) (x6 : Int32) (x7 : Int32) (x9 : Int32) (σ : Mem), fr kW τ σ → pf kW (lp_X4_newcomer_130 F k113 x3 x5 x8 N x6 x7 x9 σ) τ := by
  intro N
  induction N with
  | zero => intro _ _ _ _ _; exact pf_none rfl
  | succ N ih =>
    intro x6 x7 x9 σ f_σ
    rw [lp_X4_newcomer_130_s]
    refine pf_ite ?_ ?_
    · exact hk113 _ _ _ _ f_σ
    · refine pf_bnd (fr_X4_ownerIn hF) (kw_X4_ownerIn) f_σ (fun r1 s2 f_s2 => ?_)
      refine pf_ite ?_ ?_
      · try rw [j_X4_newcomer_153_e]
        refine pf_ite ?_ ?_
        · try rw [j_X4_newcomer_167_e]
          refine pf_ite ?_ ?_
          · try rw [j_X4_newcomer_181_e]
            exact ih _ _ _ _ f_s2
          · try rw [j_X4_newcomer_181_e]
            exact ih _ _ _ _ f_s2
        · try rw [j_X4_newcomer_167_e]
          refine pf_ite ?_ ?_
          · try rw [j_X4_newcomer_181_e]
            exact ih _ _ _ _ f_s2
          · try rw [j_X4_newcomer_181_e]
            exact ih _ _ _ _ f_s2
      · try rw [j_X4_newcomer_153_e]
        refine pf_ite ?_ ?_
        · try rw [j_X4_newcomer_167_e]
          refine pf_ite ?_ ?_
          · try rw [j_X4_newcomer_181_e]
            exact ih _ _ _ _ f_s2
          · try rw [j_X4_newcomer_181_e]
            exact ih _ _ _ _ f_s2
        · try rw [j_X4_newcomer_167_e]
          refine pf_ite ?_ ?_
          · try rw [j_X4_newcomer_181_e]
            exact ih _ _ _ _ f_s2
          · try rw [j_X4_newcomer_181_e]
            exact ih _ _ _ _ f_s2
set_option maxRecDepth 100000 in
theorem gl_X4_newcomer_113 {F : Nat} (hF : 1000 ≤ F) {x3 : Int32} {x5 : Int32} {τ : Mem} : ∀ (N : Nat) (x6 : Int32) (x7 : Int32) (x8 : Int32) (σ : Mem), fr kW τ σ → pf kW (lp_X4_newcomer_113 F x3 x5 N x6 x7 x8 σ) τ := by
  intro N
  induction N with
  | zero => intro _ _ _ _ _; exact pf_none rfl
  | succ N ih =>
    intro x6 x7 x8 σ f_σ
    rw [lp_X4_newcomer_113_s]
    refine pf_ite ?_ ?_
    · try rw [j_X4_newcomer_195_e]
      refine pf_bnd (fr_X4_stand hF) (kw_X4_stand) f_σ (fun r1 s2 f_s2 => ?_)
      refine pf_bnd (fr_X4_again hF) (kw_X4_again) f_s2 (fun r3 s4 f_s4 => ?_)
      refine pf_ite ?_ ?_
      · exact pf_ret f_s4
      · exact pf_ret f_s4
    · refine pf_ite ?_ ?_
      · try rw [j_X4_newcomer_195_e]
        refine pf_bnd (fr_X4_stand hF) (kw_X4_stand) f_σ (fun r5 s6 f_s6 => ?_)
        refine pf_bnd (fr_X4_again hF) (kw_X4_again) f_s6 (fun r7 s8 f_s8 => ?_)
        refine pf_ite ?_ ?_
        · exact pf_ret f_s8
        · exact pf_ret f_s8
      · exact gl_X4_newcomer_130 hF ih _ _ _ _ _ f_σ
set_option maxRecDepth 100000 in
theorem gl_X4_paneOf_47 {F : Nat} (hF : 1000 ≤ F) {x1 : Int32} {x2 : Int32} {τ : Mem} : ∀ (N : Nat) (x3 : Int32) (x4 : Int32) (σ : Mem), fr kW τ σ → pf kW (lp_X4_paneOf_47 F x1 x2 N x3 x4 σ) τ := by
  intro N
  induction N with
  | zero => intro _ _ _ _; exact pf_none rfl
  | succ N ih =>
    intro x3 x4 σ f_σ
    rw [lp_X4_paneOf_47_s]
    refine pf_ite ?_ ?_
    · refine pf_ite ?_ ?_
      · refine pf_chk (fun v1 => ?_)
        exact pf_ret f_σ
      · exact pf_ret f_σ
    · refine pf_chk (fun v2 => ?_)
      refine pf_ite ?_ ?_
      · try rw [j_X4_paneOf_76_e]
        exact ih _ _ _ f_σ
      · try rw [j_X4_paneOf_76_e]
        exact ih _ _ _ f_σ
set_option maxRecDepth 100000 in
theorem gl_X4_rank_55 {F : Nat} (hF : 1000 ≤ F) {x1 : Int32} {x2 : Int32} {x4 : Int32} {k40 : Int32 → Mem → Option (Int32 × Mem)} {τ : Mem} (hk40 : ∀ (x4 : Int32) (σ : Mem), fr kW τ σ → pf kW (k40 x4 σ) τ) : ∀ (N : Nat) (x5 : Int32) (x6 : Int32) (σ : Mem), fr kW τ σ → pf kW (lp_X4_rank_55 F k40 x1 x2 x4 N x5 x6 σ) τ := by
  intro N
  induction N with
  | zero => intro _ _ _ _; exact pf_none rfl
  | succ N ih =>
    intro x5 x6 σ f_σ
    rw [lp_X4_rank_55_s]
    refine pf_ite ?_ ?_
    · refine pf_ite ?_ ?_
      · exact pf_ret f_σ
      · exact hk40 _ _ f_σ
    · refine pf_chk (fun v1 => ?_)
      refine pf_chk (fun v2 => ?_)
      refine pf_lt (fun z3 _ => ?_)
      refine pf_ite ?_ ?_
      · try rw [j_X4_rank_110_e]
        try rw [j_X4_rank_115_e]
        exact ih _ _ _ f_σ
      · refine pf_ite ?_ ?_
        · refine pf_ite ?_ ?_
          · try rw [j_X4_rank_114_e]
            try rw [j_X4_rank_115_e]
            exact ih _ _ _ f_σ
          · try rw [j_X4_rank_110_e]
            try rw [j_X4_rank_115_e]
            exact ih _ _ _ f_σ
        · try rw [j_X4_rank_114_e]
          try rw [j_X4_rank_115_e]
          exact ih _ _ _ f_σ
set_option maxRecDepth 100000 in
theorem gl_X4_rank_40 {F : Nat} (hF : 1000 ≤ F) {x1 : Int32} {x2 : Int32} {τ : Mem} : ∀ (N : Nat) (x4 : Int32) (σ : Mem), fr kW τ σ → pf kW (lp_X4_rank_40 F x1 x2 N x4 σ) τ := by
  intro N
  induction N with
  | zero => intro _ _ _; exact pf_none rfl
  | succ N ih =>
    intro x4 σ f_σ
    rw [lp_X4_rank_40_s]
    refine pf_ite ?_ ?_
    · exact pf_ret f_σ
    · exact gl_X4_rank_55 hF ih _ _ _ _ f_σ
set_option maxRecDepth 100000 in
theorem gl_X4_share_55 {F : Nat} (hF : 1000 ≤ F) {x1 : Int32} {x2 : Int32} {x3 : Int32} {τ : Mem} : ∀ (N : Nat) (y5 : Int64) (x7 : Int32) (σ : Mem), fr kW τ σ → pf kW (lp_X4_share_55 F x1 x2 x3 N y5 x7 σ) τ := by
  intro N
  induction N with
  | zero => intro _ _ _ _; exact pf_none rfl
  | succ N ih =>
    intro y5 x7 σ f_σ
    rw [lp_X4_share_55_s]
    refine pf_ite ?_ ?_
    · refine pf_chk (fun v1 => ?_)
      refine pf_bnd (fr_X4_partOf hF) (fun _ h => h.elim) f_σ (fun r2 s3 f_s3 => ?_)
      exact pf_ret f_s3
    · refine pf_chk (fun v4 => ?_)
      refine pf_lt (fun z5 _ => ?_)
      exact ih _ _ _ f_σ
set_option maxRecDepth 100000 in
theorem gl_X4_shown_22 {F : Nat} (hF : 1000 ≤ F) {x1 : Int32} {τ : Mem} : ∀ (N : Nat) (x2 : Int32) (x3 : Int32) (σ : Mem), fr kW τ σ → pf kW (lp_X4_shown_22 F x1 N x2 x3 σ) τ := by
  intro N
  induction N with
  | zero => intro _ _ _ _; exact pf_none rfl
  | succ N ih =>
    intro x2 x3 σ f_σ
    rw [lp_X4_shown_22_s]
    refine pf_ite ?_ ?_
    · exact pf_ret f_σ
    · refine pf_chk (fun v1 => ?_)
      refine pf_bnd (fr_X4_hasBit hF) (fun _ h => h.elim) f_σ (fun r2 s3 f_s3 => ?_)
      refine pf_ite ?_ ?_
      · try rw [j_X4_shown_49_e]
        exact ih _ _ _ f_s3
      · try rw [j_X4_shown_49_e]
        exact ih _ _ _ f_s3
set_option maxRecDepth 100000 in
theorem gl_X4_swap_52 {F : Nat} (hF : 1000 ≤ F) {x1 : Int32} {x4 : Int32} {k37 : Int32 → Int32 → Int32 → Mem → Option (Int32 × Mem)} {τ : Mem} (hk37 : ∀ (x2 : Int32) (x3 : Int32) (x4 : Int32) (σ : Mem), fr kW τ σ → pf kW (k37 x2 x3 x4 σ) τ) : ∀ (N : Nat) (x2 : Int32) (x3 : Int32) (x5 : Int32) (σ : Mem), fr kW τ σ → pf kW (lp_X4_swap_52 F k37 x1 x4 N x2 x3 x5 σ) τ := by
  intro N
  induction N with
  | zero => intro _ _ _ _ _; exact pf_none rfl
  | succ N ih =>
    intro x2 x3 x5 σ f_σ
    rw [lp_X4_swap_52_s]
    refine pf_ite ?_ ?_
    · exact hk37 _ _ _ _ f_σ
    · refine pf_bnd (fr_X4_worthAnew hF) (kw_X4_worthAnew) f_σ (fun r1 s2 f_s2 => ?_)
      refine pf_bnd (fr_X4_worthIn hF) (kw_X4_worthIn) f_s2 (fun r3 s4 f_s4 => ?_)
      refine pf_bnd (fr_X4_swapRosters hF) (kw_X4_swapRosters) f_s4 (fun r5 s6 f_s6 => ?_)
      refine pf_bnd (fr_X4_worthAnew hF) (kw_X4_worthAnew) f_s6 (fun r7 s8 f_s8 => ?_)
      refine pf_bnd (fr_X4_worthIn hF) (kw_X4_worthIn) f_s8 (fun r9 s10 f_s10 => ?_)
      refine pf_bnd (fr_X4_swapRosters hF) (kw_X4_swapRosters) f_s10 (fun r11 s12 f_s12 => ?_)
      refine pf_ite ?_ ?_
      · try rw [j_X4_swap_128_e]
        try rw [j_X4_swap_129_e]
        refine pf_ite ?_ ?_
        · try rw [j_X4_swap_148_e]
          refine pf_ite ?_ ?_
          · try rw [j_X4_swap_160_e]
            exact ih _ _ _ _ f_s12
          · try rw [j_X4_swap_160_e]
            exact ih _ _ _ _ f_s12
        · try rw [j_X4_swap_148_e]
          refine pf_ite ?_ ?_
          · try rw [j_X4_swap_160_e]
            exact ih _ _ _ _ f_s12
          · try rw [j_X4_swap_160_e]
            exact ih _ _ _ _ f_s12
      · refine pf_ite ?_ ?_
        · try rw [j_X4_swap_128_e]
          try rw [j_X4_swap_129_e]
          refine pf_ite ?_ ?_
          · try rw [j_X4_swap_148_e]
            refine pf_ite ?_ ?_
            · try rw [j_X4_swap_160_e]
              exact ih _ _ _ _ f_s12
            · try rw [j_X4_swap_160_e]
              exact ih _ _ _ _ f_s12
          · try rw [j_X4_swap_148_e]
            refine pf_ite ?_ ?_
            · try rw [j_X4_swap_160_e]
              exact ih _ _ _ _ f_s12
            · try rw [j_X4_swap_160_e]
              exact ih _ _ _ _ f_s12
        · try rw [j_X4_swap_129_e]
          refine pf_ite ?_ ?_
          · try rw [j_X4_swap_148_e]
            refine pf_ite ?_ ?_
            · try rw [j_X4_swap_160_e]
              exact ih _ _ _ _ f_s12
            · try rw [j_X4_swap_160_e]
              exact ih _ _ _ _ f_s12
          · try rw [j_X4_swap_148_e]
            refine pf_ite ?_ ?_
            · try rw [j_X4_swap_160_e]
              exact ih _ _ _ _ f_s12
            · try rw [j_X4_swap_160_e]
              exact ih _ _ _ _ f_s12
set_option maxRecDepth 100000 in
theorem gl_X4_swap_37 {F : Nat} (hF : 1000 ≤ F) {x1 : Int32} {τ : Mem} : ∀ (N : Nat) (x2 : Int32) (x3 : Int32) (x4 : Int32) (σ : Mem), fr kW τ σ → pf kW (lp_X4_swap_37 F x1 N x2 x3 x4 σ) τ := by
  intro N
  induction N with
  | zero => intro _ _ _ _ _; exact pf_none rfl
  | succ N ih =>
    intro x2 x3 x4 σ f_σ
    rw [lp_X4_swap_37_s]
    refine pf_ite ?_ ?_
    · exact pf_ret f_σ
    · exact gl_X4_swap_52 hF ih _ _ _ _ _ f_σ
set_option maxRecDepth 100000 in
theorem gl_X4_together_25 {F : Nat} (hF : 1000 ≤ F) {x1 : Int32} {x2 : Int32} {τ : Mem} : ∀ (N : Nat) (x3 : Int32) (x4 : Int32) (σ : Mem), fr kW τ σ → pf kW (lp_X4_together_25 F x1 x2 N x3 x4 σ) τ := by
  intro N
  induction N with
  | zero => intro _ _ _ _; exact pf_none rfl
  | succ N ih =>
    intro x3 x4 σ f_σ
    rw [lp_X4_together_25_s]
    refine pf_ite ?_ ?_
    · exact pf_ret f_σ
    · refine pf_chk (fun v1 => ?_)
      refine pf_lt (fun z2 _ => ?_)
      refine pf_ite ?_ ?_
      · try rw [j_X4_together_76_e]
        try rw [j_X4_together_77_e]
        exact ih _ _ _ f_σ
      · refine pf_chk (fun v3 => ?_)
        refine pf_ite ?_ ?_
        · try rw [j_X4_together_77_e]
          exact ih _ _ _ f_σ
        · try rw [j_X4_together_76_e]
          try rw [j_X4_together_77_e]
          exact ih _ _ _ f_σ
set_option maxRecDepth 100000 in
theorem gl_X4_two_205 {F : Nat} (hF : 1000 ≤ F) {τ : Mem} : ∀ (N : Nat) (x8 : Int32) (σ : Mem), fr kW τ σ → pf kW (lp_X4_two_205 F N x8 σ) τ := by
  intro N
  induction N with
  | zero => intro _ _ _; exact pf_none rfl
  | succ N ih =>
    intro x8 σ f_σ
    rw [lp_X4_two_205_s]
    refine pf_ite ?_ ?_
    · exact pf_ret f_σ
    · refine pf_bnd (fr_X4_areResting hF) (fun _ h => h.elim) f_σ (fun r1 s2 f_s2 => ?_)
      refine pf_ite ?_ ?_
      · exact ih _ _ f_s2
      · exact pf_ret f_s2
set_option maxRecDepth 100000 in
theorem gl_X4_two_89 {F : Nat} (hF : 1000 ≤ F) {x1 : Int32} {x2 : Int32} {x3 : Int32} {x4 : Int32} {x6 : Int32} {x7 : Int32} {x8 : Int32} {k77 : Int32 → Mem → Option (Int32 × Mem)} {τ : Mem} (hk77 : ∀ (x8 : Int32) (σ : Mem), fr kW τ σ → pf kW (k77 x8 σ) τ) : ∀ (N : Nat) (x9 : Int32) (σ : Mem), fr kW τ σ → pf kW (lp_X4_two_89 F k77 x1 x2 x3 x4 x6 x7 x8 N x9 σ) τ := by
  intro N
  induction N with
  | zero => intro _ _ _; exact pf_none rfl
  | succ N ih =>
    intro x9 σ f_σ
    rw [lp_X4_two_89_s]
    refine pf_ite ?_ ?_
    · exact hk77 _ _ f_σ
    · refine pf_chk (fun v1 => ?_)
      refine pf_up2 (c := 106) f_σ (rfl) (kW_mk (by decide) (by decide)) (fun s2 f_s2 => ?_)
      refine pf_chk (fun v3 => ?_)
      refine pf_up2 (c := 106) f_s2 (rfl) (kW_mk (by decide) (by decide)) (fun s4 f_s4 => ?_)
      refine pf_bnd (fr_X4_worthAnew hF) (kw_X4_worthAnew) f_s4 (fun r5 s6 f_s6 => ?_)
      refine pf_chk (fun v7 => ?_)
      refine pf_up2 (c := 119) f_s6 (rfl) (kW_mk (by decide) (by decide)) (fun s8 f_s8 => ?_)
      refine pf_bnd (fr_X4_worthIn hF) (kw_X4_worthIn) f_s8 (fun r9 s10 f_s10 => ?_)
      refine pf_up2 (c := 120) f_s10 (rfl) (kW_mk (by decide) (by decide)) (fun s11 f_s11 => ?_)
      exact ih _ _ f_s11
set_option maxRecDepth 100000 in
theorem gl_X4_two_77 {F : Nat} (hF : 1000 ≤ F) {x1 : Int32} {x2 : Int32} {x3 : Int32} {x4 : Int32} {x6 : Int32} {x7 : Int32} {τ : Mem} : ∀ (N : Nat) (x8 : Int32) (σ : Mem), fr kW τ σ → pf kW (lp_X4_two_77 F x1 x2 x3 x4 x6 x7 N x8 σ) τ := by
  intro N
  induction N with
  | zero => intro _ _ _; exact pf_none rfl
  | succ N ih =>
    intro x8 σ f_σ
    rw [lp_X4_two_77_s]
    refine pf_ite ?_ ?_
    · refine pf_chk (fun v1 => ?_)
      refine pf_up2 (c := 106) f_σ (rfl) (kW_mk (by decide) (by decide)) (fun s2 f_s2 => ?_)
      refine pf_chk (fun v3 => ?_)
      refine pf_up2 (c := 106) f_s2 (rfl) (kW_mk (by decide) (by decide)) (fun s4 f_s4 => ?_)
      exact gl_X4_two_205 hF _ _ _ f_s4
    · exact gl_X4_two_89 hF ih _ _ _ f_σ
set_option maxRecDepth 100000 in
theorem gl_X4_walls_74 {F : Nat} (hF : 1000 ≤ F) {x1 : Int32} {x2 : Int32} {x3 : Int32} {x5 : Int32} {x8 : Int32} {k62 : Int32 → Int32 → Int32 → Mem → Option (Int32 × Mem)} {τ : Mem} (hk62 : ∀ (x6 : Int32) (x7 : Int32) (x8 : Int32) (σ : Mem), fr kW τ σ → pf kW (k62 x6 x7 x8 σ) τ) : ∀ (N : Nat) (x6 : Int32) (x7 : Int32) (x9 : Int32) (σ : Mem), fr kW τ σ → pf kW (lp_X4_walls_74 F k62 x1 x2 x3 x5 x8 N x6 x7 x9 σ) τ := by
  intro N
  induction N with
  | zero => intro _ _ _ _ _; exact pf_none rfl
  | succ N ih =>
    intro x6 x7 x9 σ f_σ
    rw [lp_X4_walls_74_s]
    refine pf_ite ?_ ?_
    · exact hk62 _ _ _ _ f_σ
    · refine pf_chk (fun v1 => ?_)
      refine pf_bnd (fr_X4_hasBit hF) (fun _ h => h.elim) f_σ (fun r2 s3 f_s3 => ?_)
      refine pf_ite ?_ ?_
      · try rw [j_X4_walls_173_e]
        exact ih _ _ _ _ f_s3
      · refine pf_up2 (c := 103) f_s3 (rfl) (kW_mk (by decide) (by decide)) (fun s4 f_s4 => ?_)
        refine pf_bnd (fr_X4_worthAnew hF) (kw_X4_worthAnew) f_s4 (fun r5 s6 f_s6 => ?_)
        refine pf_up2 (c := 103) f_s6 (rfl) (kW_mk (by decide) (by decide)) (fun s7 f_s7 => ?_)
        refine pf_ite ?_ ?_
        · try rw [j_X4_walls_155_e]
          refine pf_ite ?_ ?_
          · try rw [j_X4_walls_171_e]
            try rw [j_X4_walls_173_e]
            exact ih _ _ _ _ f_s7
          · try rw [j_X4_walls_171_e]
            try rw [j_X4_walls_173_e]
            exact ih _ _ _ _ f_s7
        · try rw [j_X4_walls_155_e]
          refine pf_ite ?_ ?_
          · try rw [j_X4_walls_171_e]
            try rw [j_X4_walls_173_e]
            exact ih _ _ _ _ f_s7
          · try rw [j_X4_walls_171_e]
            try rw [j_X4_walls_173_e]
            exact ih _ _ _ _ f_s7
set_option maxRecDepth 100000 in
theorem gl_X4_walls_62 {F : Nat} (hF : 1000 ≤ F) {x1 : Int32} {x2 : Int32} {x3 : Int32} {x5 : Int32} {τ : Mem} : ∀ (N : Nat) (x6 : Int32) (x7 : Int32) (x8 : Int32) (σ : Mem), fr kW τ σ → pf kW (lp_X4_walls_62 F x1 x2 x3 x5 N x6 x7 x8 σ) τ := by
  intro N
  induction N with
  | zero => intro _ _ _ _ _; exact pf_none rfl
  | succ N ih =>
    intro x6 x7 x8 σ f_σ
    rw [lp_X4_walls_62_s]
    refine pf_ite ?_ ?_
    · refine pf_ite ?_ ?_
      · try rw [j_X4_walls_194_e]
        exact pf_ret f_σ
      · refine pf_ite ?_ ?_
        · exact pf_ret f_σ
        · try rw [j_X4_walls_194_e]
          exact pf_ret f_σ
    · exact gl_X4_walls_74 hF ih _ _ _ _ _ f_σ
set_option maxRecDepth 100000 in
theorem gl_X4_wasted_40 {F : Nat} (hF : 1000 ≤ F) {x1 : Int32} {x2 : Int32} {τ : Mem} : ∀ (N : Nat) (x4 : Int32) (x5 : Int32) (σ : Mem), fr kW τ σ → pf kW (lp_X4_wasted_40 F x1 x2 N x4 x5 σ) τ := by
  intro N
  induction N with
  | zero => intro _ _ _ _; exact pf_none rfl
  | succ N ih =>
    intro x4 x5 σ f_σ
    rw [lp_X4_wasted_40_s]
    refine pf_ite ?_ ?_
    · exact pf_ret f_σ
    · refine pf_chk (fun v1 => ?_)
      refine pf_ite ?_ ?_
      · try rw [j_X4_wasted_67_e]
        refine pf_bnd (fr_X4_pullOf hF) (fun _ h => h.elim) f_σ (fun r2 s3 f_s3 => ?_)
        refine pf_ite ?_ ?_
        · try rw [j_X4_wasted_84_e]
          refine pf_ite ?_ ?_
          · try rw [j_X4_wasted_99_e]
            refine pf_ite ?_ ?_
            · refine pf_ite ?_ ?_
              · try rw [j_X4_wasted_114_e]
                refine pf_ite ?_ ?_
                · try rw [j_X4_wasted_125_e]
                  exact ih _ _ _ f_s3
                · try rw [j_X4_wasted_124_e]
                  try rw [j_X4_wasted_125_e]
                  exact ih _ _ _ f_s3
              · try rw [j_X4_wasted_114_e]
                refine pf_ite ?_ ?_
                · try rw [j_X4_wasted_125_e]
                  exact ih _ _ _ f_s3
                · try rw [j_X4_wasted_124_e]
                  try rw [j_X4_wasted_125_e]
                  exact ih _ _ _ f_s3
            · try rw [j_X4_wasted_124_e]
              try rw [j_X4_wasted_125_e]
              exact ih _ _ _ f_s3
          · try rw [j_X4_wasted_99_e]
            refine pf_ite ?_ ?_
            · refine pf_ite ?_ ?_
              · try rw [j_X4_wasted_114_e]
                refine pf_ite ?_ ?_
                · try rw [j_X4_wasted_125_e]
                  exact ih _ _ _ f_s3
                · try rw [j_X4_wasted_124_e]
                  try rw [j_X4_wasted_125_e]
                  exact ih _ _ _ f_s3
              · try rw [j_X4_wasted_114_e]
                refine pf_ite ?_ ?_
                · try rw [j_X4_wasted_125_e]
                  exact ih _ _ _ f_s3
                · try rw [j_X4_wasted_124_e]
                  try rw [j_X4_wasted_125_e]
                  exact ih _ _ _ f_s3
            · try rw [j_X4_wasted_124_e]
              try rw [j_X4_wasted_125_e]
              exact ih _ _ _ f_s3
        · try rw [j_X4_wasted_84_e]
          refine pf_ite ?_ ?_
          · try rw [j_X4_wasted_99_e]
            refine pf_ite ?_ ?_
            · refine pf_ite ?_ ?_
              · try rw [j_X4_wasted_114_e]
                refine pf_ite ?_ ?_
                · try rw [j_X4_wasted_125_e]
                  exact ih _ _ _ f_s3
                · try rw [j_X4_wasted_124_e]
                  try rw [j_X4_wasted_125_e]
                  exact ih _ _ _ f_s3
              · try rw [j_X4_wasted_114_e]
                refine pf_ite ?_ ?_
                · try rw [j_X4_wasted_125_e]
                  exact ih _ _ _ f_s3
                · try rw [j_X4_wasted_124_e]
                  try rw [j_X4_wasted_125_e]
                  exact ih _ _ _ f_s3
            · try rw [j_X4_wasted_124_e]
              try rw [j_X4_wasted_125_e]
              exact ih _ _ _ f_s3
          · try rw [j_X4_wasted_99_e]
            refine pf_ite ?_ ?_
            · refine pf_ite ?_ ?_
              · try rw [j_X4_wasted_114_e]
                refine pf_ite ?_ ?_
                · try rw [j_X4_wasted_125_e]
                  exact ih _ _ _ f_s3
                · try rw [j_X4_wasted_124_e]
                  try rw [j_X4_wasted_125_e]
                  exact ih _ _ _ f_s3
              · try rw [j_X4_wasted_114_e]
                refine pf_ite ?_ ?_
                · try rw [j_X4_wasted_125_e]
                  exact ih _ _ _ f_s3
                · try rw [j_X4_wasted_124_e]
                  try rw [j_X4_wasted_125_e]
                  exact ih _ _ _ f_s3
            · try rw [j_X4_wasted_124_e]
              try rw [j_X4_wasted_125_e]
              exact ih _ _ _ f_s3
      · try rw [j_X4_wasted_67_e]
        refine pf_bnd (fr_X4_pullOf hF) (fun _ h => h.elim) f_σ (fun r4 s5 f_s5 => ?_)
        refine pf_ite ?_ ?_
        · try rw [j_X4_wasted_84_e]
          refine pf_ite ?_ ?_
          · try rw [j_X4_wasted_99_e]
            refine pf_ite ?_ ?_
            · refine pf_ite ?_ ?_
              · try rw [j_X4_wasted_114_e]
                refine pf_ite ?_ ?_
                · try rw [j_X4_wasted_125_e]
                  exact ih _ _ _ f_s5
                · try rw [j_X4_wasted_124_e]
                  try rw [j_X4_wasted_125_e]
                  exact ih _ _ _ f_s5
              · try rw [j_X4_wasted_114_e]
                refine pf_ite ?_ ?_
                · try rw [j_X4_wasted_125_e]
                  exact ih _ _ _ f_s5
                · try rw [j_X4_wasted_124_e]
                  try rw [j_X4_wasted_125_e]
                  exact ih _ _ _ f_s5
            · try rw [j_X4_wasted_124_e]
              try rw [j_X4_wasted_125_e]
              exact ih _ _ _ f_s5
          · try rw [j_X4_wasted_99_e]
            refine pf_ite ?_ ?_
            · refine pf_ite ?_ ?_
              · try rw [j_X4_wasted_114_e]
                refine pf_ite ?_ ?_
                · try rw [j_X4_wasted_125_e]
                  exact ih _ _ _ f_s5
                · try rw [j_X4_wasted_124_e]
                  try rw [j_X4_wasted_125_e]
                  exact ih _ _ _ f_s5
              · try rw [j_X4_wasted_114_e]
                refine pf_ite ?_ ?_
                · try rw [j_X4_wasted_125_e]
                  exact ih _ _ _ f_s5
                · try rw [j_X4_wasted_124_e]
                  try rw [j_X4_wasted_125_e]
                  exact ih _ _ _ f_s5
            · try rw [j_X4_wasted_124_e]
              try rw [j_X4_wasted_125_e]
              exact ih _ _ _ f_s5
        · try rw [j_X4_wasted_84_e]
          refine pf_ite ?_ ?_
          · try rw [j_X4_wasted_99_e]
            refine pf_ite ?_ ?_
            · refine pf_ite ?_ ?_
              · try rw [j_X4_wasted_114_e]
                refine pf_ite ?_ ?_
                · try rw [j_X4_wasted_125_e]
                  exact ih _ _ _ f_s5
                · try rw [j_X4_wasted_124_e]
                  try rw [j_X4_wasted_125_e]
                  exact ih _ _ _ f_s5
              · try rw [j_X4_wasted_114_e]
                refine pf_ite ?_ ?_
                · try rw [j_X4_wasted_125_e]
                  exact ih _ _ _ f_s5
                · try rw [j_X4_wasted_124_e]
                  try rw [j_X4_wasted_125_e]
                  exact ih _ _ _ f_s5
            · try rw [j_X4_wasted_124_e]
              try rw [j_X4_wasted_125_e]
              exact ih _ _ _ f_s5
          · try rw [j_X4_wasted_99_e]
            refine pf_ite ?_ ?_
            · refine pf_ite ?_ ?_
              · try rw [j_X4_wasted_114_e]
                refine pf_ite ?_ ?_
                · try rw [j_X4_wasted_125_e]
                  exact ih _ _ _ f_s5
                · try rw [j_X4_wasted_124_e]
                  try rw [j_X4_wasted_125_e]
                  exact ih _ _ _ f_s5
              · try rw [j_X4_wasted_114_e]
                refine pf_ite ?_ ?_
                · try rw [j_X4_wasted_125_e]
                  exact ih _ _ _ f_s5
                · try rw [j_X4_wasted_124_e]
                  try rw [j_X4_wasted_125_e]
                  exact ih _ _ _ f_s5
            · try rw [j_X4_wasted_124_e]
              try rw [j_X4_wasted_125_e]
              exact ih _ _ _ f_s5
set_option maxRecDepth 100000 in
theorem gl_X4_whichKind_77 {F : Nat} (hF : 1000 ≤ F) {x1 : Int32} {x2 : Int32} {x3 : Int32} {τ : Mem} : ∀ (N : Nat) (x5 : Int32) (x6 : Int32) (σ : Mem), fr kW τ σ → pf kW (lp_X4_whichKind_77 F x1 x2 x3 N x5 x6 σ) τ := by
  intro N
  induction N with
  | zero => intro _ _ _ _; exact pf_none rfl
  | succ N ih =>
    intro x5 x6 σ f_σ
    rw [lp_X4_whichKind_77_s]
    refine pf_ite ?_ ?_
    · try rw [j_X4_whichKind_90_e]
      refine pf_ite ?_ ?_
      · refine pf_bnd (fr_X4_again hF) (kw_X4_again) f_σ (fun r1 s2 f_s2 => ?_)
        exact pf_ret f_s2
      · refine pf_ite ?_ ?_
        · try rw [j_X4_whichKind_113_e]
          refine pf_chk (fun v3 => ?_)
          refine pf_up2 (c := 104) f_σ (rfl) (kW_mk (by decide) (by decide)) (fun s4 f_s4 => ?_)
          refine pf_ite ?_ ?_
          · try rw [j_X4_whichKind_135_e]
            refine pf_chk (fun v5 => ?_)
            refine pf_up2 (c := 105) f_s4 (rfl) (kW_mk (by decide) (by decide)) (fun s6 f_s6 => ?_)
            refine pf_bnd (fr_X4_isRow hF) (kw_X4_isRow) f_s6 (fun r7 s8 f_s8 => ?_)
            refine pf_ite ?_ ?_
            · try rw [j_X4_whichKind_154_e]
              exact ih _ _ _ f_s8
            · try rw [j_X4_whichKind_154_e]
              exact ih _ _ _ f_s8
          · refine pf_chk (fun v9 => ?_)
            try rw [j_X4_whichKind_135_e]
            refine pf_chk (fun v10 => ?_)
            refine pf_up2 (c := 105) f_s4 (rfl) (kW_mk (by decide) (by decide)) (fun s11 f_s11 => ?_)
            refine pf_bnd (fr_X4_isRow hF) (kw_X4_isRow) f_s11 (fun r12 s13 f_s13 => ?_)
            refine pf_ite ?_ ?_
            · try rw [j_X4_whichKind_154_e]
              exact ih _ _ _ f_s13
            · try rw [j_X4_whichKind_154_e]
              exact ih _ _ _ f_s13
        · refine pf_chk (fun v14 => ?_)
          try rw [j_X4_whichKind_113_e]
          refine pf_chk (fun v15 => ?_)
          refine pf_up2 (c := 104) f_σ (rfl) (kW_mk (by decide) (by decide)) (fun s16 f_s16 => ?_)
          refine pf_ite ?_ ?_
          · try rw [j_X4_whichKind_135_e]
            refine pf_chk (fun v17 => ?_)
            refine pf_up2 (c := 105) f_s16 (rfl) (kW_mk (by decide) (by decide)) (fun s18 f_s18 => ?_)
            refine pf_bnd (fr_X4_isRow hF) (kw_X4_isRow) f_s18 (fun r19 s20 f_s20 => ?_)
            refine pf_ite ?_ ?_
            · try rw [j_X4_whichKind_154_e]
              exact ih _ _ _ f_s20
            · try rw [j_X4_whichKind_154_e]
              exact ih _ _ _ f_s20
          · refine pf_chk (fun v21 => ?_)
            try rw [j_X4_whichKind_135_e]
            refine pf_chk (fun v22 => ?_)
            refine pf_up2 (c := 105) f_s16 (rfl) (kW_mk (by decide) (by decide)) (fun s23 f_s23 => ?_)
            refine pf_bnd (fr_X4_isRow hF) (kw_X4_isRow) f_s23 (fun r24 s25 f_s25 => ?_)
            refine pf_ite ?_ ?_
            · try rw [j_X4_whichKind_154_e]
              exact ih _ _ _ f_s25
            · try rw [j_X4_whichKind_154_e]
              exact ih _ _ _ f_s25
    · try rw [j_X4_whichKind_90_e]
      refine pf_ite ?_ ?_
      · refine pf_bnd (fr_X4_again hF) (kw_X4_again) f_σ (fun r26 s27 f_s27 => ?_)
        exact pf_ret f_s27
      · refine pf_ite ?_ ?_
        · try rw [j_X4_whichKind_113_e]
          refine pf_chk (fun v28 => ?_)
          refine pf_up2 (c := 104) f_σ (rfl) (kW_mk (by decide) (by decide)) (fun s29 f_s29 => ?_)
          refine pf_ite ?_ ?_
          · try rw [j_X4_whichKind_135_e]
            refine pf_chk (fun v30 => ?_)
            refine pf_up2 (c := 105) f_s29 (rfl) (kW_mk (by decide) (by decide)) (fun s31 f_s31 => ?_)
            refine pf_bnd (fr_X4_isRow hF) (kw_X4_isRow) f_s31 (fun r32 s33 f_s33 => ?_)
            refine pf_ite ?_ ?_
            · try rw [j_X4_whichKind_154_e]
              exact ih _ _ _ f_s33
            · try rw [j_X4_whichKind_154_e]
              exact ih _ _ _ f_s33
          · refine pf_chk (fun v34 => ?_)
            try rw [j_X4_whichKind_135_e]
            refine pf_chk (fun v35 => ?_)
            refine pf_up2 (c := 105) f_s29 (rfl) (kW_mk (by decide) (by decide)) (fun s36 f_s36 => ?_)
            refine pf_bnd (fr_X4_isRow hF) (kw_X4_isRow) f_s36 (fun r37 s38 f_s38 => ?_)
            refine pf_ite ?_ ?_
            · try rw [j_X4_whichKind_154_e]
              exact ih _ _ _ f_s38
            · try rw [j_X4_whichKind_154_e]
              exact ih _ _ _ f_s38
        · refine pf_chk (fun v39 => ?_)
          try rw [j_X4_whichKind_113_e]
          refine pf_chk (fun v40 => ?_)
          refine pf_up2 (c := 104) f_σ (rfl) (kW_mk (by decide) (by decide)) (fun s41 f_s41 => ?_)
          refine pf_ite ?_ ?_
          · try rw [j_X4_whichKind_135_e]
            refine pf_chk (fun v42 => ?_)
            refine pf_up2 (c := 105) f_s41 (rfl) (kW_mk (by decide) (by decide)) (fun s43 f_s43 => ?_)
            refine pf_bnd (fr_X4_isRow hF) (kw_X4_isRow) f_s43 (fun r44 s45 f_s45 => ?_)
            refine pf_ite ?_ ?_
            · try rw [j_X4_whichKind_154_e]
              exact ih _ _ _ f_s45
            · try rw [j_X4_whichKind_154_e]
              exact ih _ _ _ f_s45
          · refine pf_chk (fun v46 => ?_)
            try rw [j_X4_whichKind_135_e]
            refine pf_chk (fun v47 => ?_)
            refine pf_up2 (c := 105) f_s41 (rfl) (kW_mk (by decide) (by decide)) (fun s48 f_s48 => ?_)
            refine pf_bnd (fr_X4_isRow hF) (kw_X4_isRow) f_s48 (fun r49 s50 f_s50 => ?_)
            refine pf_ite ?_ ?_
            · try rw [j_X4_whichKind_154_e]
              exact ih _ _ _ f_s50
            · try rw [j_X4_whichKind_154_e]
              exact ih _ _ _ f_s50
set_option maxRecDepth 100000 in
theorem gl_X4_whichLaw_30 {F : Nat} (hF : 1000 ≤ F) {x1 : Int32} {τ : Mem} : ∀ (N : Nat) (x2 : Int32) (x3 : Int32) (σ : Mem), fr kW τ σ → pf kW (lp_X4_whichLaw_30 F x1 N x2 x3 σ) τ := by
  intro N
  induction N with
  | zero => intro _ _ _ _; exact pf_none rfl
  | succ N ih =>
    intro x2 x3 σ f_σ
    rw [lp_X4_whichLaw_30_s]
    refine pf_ite ?_ ?_
    · refine pf_up2 (c := 1008) f_σ (rfl) (kW_mk (by decide) (by decide)) (fun s1 f_s1 => ?_)
      exact pf_ret f_s1
    · refine pf_up2 (c := 1008) f_σ (rfl) (kW_mk (by decide) (by decide)) (fun s2 f_s2 => ?_)
      refine pf_bnd (fr_X4_isRow hF) (kw_X4_isRow) f_s2 (fun r3 s4 f_s4 => ?_)
      refine pf_ite ?_ ?_
      · try rw [j_X4_whichLaw_56_e]
        exact ih _ _ _ f_s4
      · try rw [j_X4_whichLaw_56_e]
        exact ih _ _ _ f_s4
