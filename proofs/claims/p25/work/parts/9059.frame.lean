set_option maxRecDepth 100000 in
theorem fl_X4_rank_55 {F : Nat} (hF : 1000 ≤ F) {x1 : Int32} {x2 : Int32} {x4 : Int32} {k40 : Int32 → Mem → Option (Int32 × Mem)} {τ : Mem} (hk40 : ∀ (x4 : Int32) (σ : Mem), fr wf_60 τ σ → pf wf_60 (k40 x4 σ) τ) : ∀ (N : Nat) (x5 : Int32) (x6 : Int32) (σ : Mem), fr wf_60 τ σ → pf wf_60 (lp_X4_rank_55 F k40 x1 x2 x4 N x5 x6 σ) τ := by
  intro N
  induction N with
  | zero => intro _ _ _ _; exact pf_none rfl
  | succ N ih =>
    intro x5 x6 σ f_σ
    rw [lp_X4_rank_55_s]
    refine pf_ite ?_ ?_
    · refine pf_ite ?_ ?_
      · exact pf_ret f_σ
      · exact hk40 _ _ f_σ
    · refine pf_chk (fun v1 => ?_)
      refine pf_chk (fun v2 => ?_)
      refine pf_lt (fun z3 _ => ?_)
      refine pf_ite ?_ ?_
      · rw [j_X4_rank_110_e]
        rw [j_X4_rank_115_e]
        exact ih _ _ _ f_σ
      · refine pf_ite ?_ ?_
        · refine pf_ite ?_ ?_
          · rw [j_X4_rank_114_e]
            rw [j_X4_rank_115_e]
            exact ih _ _ _ f_σ
          · rw [j_X4_rank_110_e]
            rw [j_X4_rank_115_e]
            exact ih _ _ _ f_σ
        · rw [j_X4_rank_114_e]
          rw [j_X4_rank_115_e]
          exact ih _ _ _ f_σ
set_option maxRecDepth 100000 in
theorem fl_X4_rank_40 {F : Nat} (hF : 1000 ≤ F) {x1 : Int32} {x2 : Int32} {τ : Mem} : ∀ (N : Nat) (x4 : Int32) (σ : Mem), fr wf_60 τ σ → pf wf_60 (lp_X4_rank_40 F x1 x2 N x4 σ) τ := by
  intro N
  induction N with
  | zero => intro _ _ _; exact pf_none rfl
  | succ N ih =>
    intro x4 σ f_σ
    rw [lp_X4_rank_40_s]
    refine pf_ite ?_ ?_
    · exact pf_ret f_σ
    · exact fl_X4_rank_55 hF ih _ _ _ _ f_σ
set_option maxRecDepth 100000 in
theorem fr_X4_rank {F : Nat} (hF : 1000 ≤ F) {x1 : Int32} {x2 : Int32} {σ : Mem} : pf wf_60 (f_X4_rank F x1 x2 σ) σ := by
  have f_σ : fr wf_60 σ σ := fr_rf
  rw [f_X4_rank_e]
  refine pf_up2 (c := 1010) f_σ (rfl) (Or.inr (⟨by omega, by omega⟩)) (fun s1 f_s1 => ?_)
  refine pf_bnd (fr_X4_isView hF) (fun _ h => h.elim) f_s1 (fun r2 s3 f_s3 => ?_)
  refine pf_ite ?_ ?_
  · rw [j_X4_rank_26_e]
    refine pf_ite ?_ ?_
    · exact fl_X4_rank_40 hF _ _ _ f_s3
    · refine pf_bnd (fr_X4_refuse hF) (ww_49) f_s3 (fun r4 s5 f_s5 => ?_)
      exact pf_ret f_s5
  · refine pf_ite ?_ ?_
    · rw [j_X4_rank_26_e]
      refine pf_ite ?_ ?_
      · exact fl_X4_rank_40 hF _ _ _ f_s3
      · refine pf_bnd (fr_X4_refuse hF) (ww_49) f_s3 (fun r6 s7 f_s7 => ?_)
        exact pf_ret f_s7
    · rw [j_X4_rank_26_e]
      refine pf_ite ?_ ?_
      · exact fl_X4_rank_40 hF _ _ _ f_s3
      · refine pf_bnd (fr_X4_refuse hF) (ww_49) f_s3 (fun r8 s9 f_s9 => ?_)
        exact pf_ret f_s9
set_option maxRecDepth 100000 in
theorem fl_X4_gap_48 {F : Nat} (hF : 1000 ≤ F) {x1 : Int32} {x2 : Int32} {τ : Mem} : ∀ (N : Nat) (x4 : Int32) (x5 : Int32) (x6 : Int32) (σ : Mem), fr wf_72 τ σ → pf wf_72 (lp_X4_gap_48 F x1 x2 N x4 x5 x6 σ) τ := by
  intro N
  induction N with
  | zero => intro _ _ _ _ _; exact pf_none rfl
  | succ N ih =>
    intro x4 x5 x6 σ f_σ
    rw [lp_X4_gap_48_s]
    refine pf_ite ?_ ?_
    · exact pf_ret f_σ
    · refine pf_bnd (fr_X4_countIn hF) (fun _ h => h.elim) f_σ (fun r1 s2 f_s2 => ?_)
      refine pf_ite ?_ ?_
      · refine pf_ite ?_ ?_
        · rw [j_X4_gap_93_e]
          refine pf_ite ?_ ?_
          · rw [j_X4_gap_109_e]
            exact ih _ _ _ _ f_s2
          · rw [j_X4_gap_109_e]
            exact ih _ _ _ _ f_s2
        · rw [j_X4_gap_93_e]
          refine pf_ite ?_ ?_
          · rw [j_X4_gap_109_e]
            exact ih _ _ _ _ f_s2
          · rw [j_X4_gap_109_e]
            exact ih _ _ _ _ f_s2
      · rw [j_X4_gap_93_e]
        refine pf_ite ?_ ?_
        · rw [j_X4_gap_109_e]
          exact ih _ _ _ _ f_s2
        · rw [j_X4_gap_109_e]
          exact ih _ _ _ _ f_s2
set_option maxRecDepth 100000 in
theorem fr_X4_gap {F : Nat} (hF : 1000 ≤ F) {x1 : Int32} {x2 : Int32} {σ : Mem} : pf wf_72 (f_X4_gap F x1 x2 σ) σ := by
  have f_σ : fr wf_72 σ σ := fr_rf
  rw [f_X4_gap_e]
  refine pf_up2 (c := 1010) f_σ (rfl) (Or.inr (⟨by omega, by omega⟩)) (fun s1 f_s1 => ?_)
  refine pf_bnd (fr_X4_isView hF) (fun _ h => h.elim) f_s1 (fun r2 s3 f_s3 => ?_)
  refine pf_ite ?_ ?_
  · rw [j_X4_gap_24_e]
    refine pf_ite ?_ ?_
    · refine pf_bnd (fr_X4_layBrings hF) (ww_80) f_s3 (fun r4 s5 f_s5 => ?_)
      exact fl_X4_gap_48 hF _ _ _ _ _ f_s5
    · refine pf_bnd (fr_X4_refuse hF) (ww_81) f_s3 (fun r6 s7 f_s7 => ?_)
      exact pf_ret f_s7
  · refine pf_bnd (fr_X4_wrongNumber hF) (fun _ h => h.elim) f_s3 (fun r8 s9 f_s9 => ?_)
    rw [j_X4_gap_24_e]
    refine pf_ite ?_ ?_
    · refine pf_bnd (fr_X4_layBrings hF) (ww_80) f_s9 (fun r10 s11 f_s11 => ?_)
      exact fl_X4_gap_48 hF _ _ _ _ _ f_s11
    · refine pf_bnd (fr_X4_refuse hF) (ww_81) f_s9 (fun r12 s13 f_s13 => ?_)
      exact pf_ret f_s13
set_option maxRecDepth 100000 in
theorem fl_X4_wasted_40 {F : Nat} (hF : 1000 ≤ F) {x1 : Int32} {x2 : Int32} {τ : Mem} : ∀ (N : Nat) (x4 : Int32) (x5 : Int32) (σ : Mem), fr wf_60 τ σ → pf wf_60 (lp_X4_wasted_40 F x1 x2 N x4 x5 σ) τ := by
  intro N
  induction N with
  | zero => intro _ _ _ _; exact pf_none rfl
  | succ N ih =>
    intro x4 x5 σ f_σ
    rw [lp_X4_wasted_40_s]
    refine pf_ite ?_ ?_
    · exact pf_ret f_σ
    · refine pf_chk (fun v1 => ?_)
      refine pf_ite ?_ ?_
      · rw [j_X4_wasted_67_e]
        refine pf_bnd (fr_X4_pullOf hF) (fun _ h => h.elim) f_σ (fun r2 s3 f_s3 => ?_)
        refine pf_ite ?_ ?_
        · rw [j_X4_wasted_84_e]
          refine pf_ite ?_ ?_
          · rw [j_X4_wasted_99_e]
            refine pf_ite ?_ ?_
            · refine pf_ite ?_ ?_
              · rw [j_X4_wasted_114_e]
                refine pf_ite ?_ ?_
                · rw [j_X4_wasted_125_e]
                  exact ih _ _ _ f_s3
                · rw [j_X4_wasted_124_e]
                  rw [j_X4_wasted_125_e]
                  exact ih _ _ _ f_s3
              · rw [j_X4_wasted_114_e]
                refine pf_ite ?_ ?_
                · rw [j_X4_wasted_125_e]
                  exact ih _ _ _ f_s3
                · rw [j_X4_wasted_124_e]
                  rw [j_X4_wasted_125_e]
                  exact ih _ _ _ f_s3
            · rw [j_X4_wasted_124_e]
              rw [j_X4_wasted_125_e]
              exact ih _ _ _ f_s3
          · rw [j_X4_wasted_99_e]
            refine pf_ite ?_ ?_
            · refine pf_ite ?_ ?_
              · rw [j_X4_wasted_114_e]
                refine pf_ite ?_ ?_
                · rw [j_X4_wasted_125_e]
                  exact ih _ _ _ f_s3
                · rw [j_X4_wasted_124_e]
                  rw [j_X4_wasted_125_e]
                  exact ih _ _ _ f_s3
              · rw [j_X4_wasted_114_e]
                refine pf_ite ?_ ?_
                · rw [j_X4_wasted_125_e]
                  exact ih _ _ _ f_s3
                · rw [j_X4_wasted_124_e]
                  rw [j_X4_wasted_125_e]
                  exact ih _ _ _ f_s3
            · rw [j_X4_wasted_124_e]
              rw [j_X4_wasted_125_e]
              exact ih _ _ _ f_s3
        · rw [j_X4_wasted_84_e]
          refine pf_ite ?_ ?_
          · rw [j_X4_wasted_99_e]
            refine pf_ite ?_ ?_
            · refine pf_ite ?_ ?_
              · rw [j_X4_wasted_114_e]
                refine pf_ite ?_ ?_
                · rw [j_X4_wasted_125_e]
                  exact ih _ _ _ f_s3
                · rw [j_X4_wasted_124_e]
                  rw [j_X4_wasted_125_e]
                  exact ih _ _ _ f_s3
              · rw [j_X4_wasted_114_e]
                refine pf_ite ?_ ?_
                · rw [j_X4_wasted_125_e]
                  exact ih _ _ _ f_s3
                · rw [j_X4_wasted_124_e]
                  rw [j_X4_wasted_125_e]
                  exact ih _ _ _ f_s3
            · rw [j_X4_wasted_124_e]
              rw [j_X4_wasted_125_e]
              exact ih _ _ _ f_s3
          · rw [j_X4_wasted_99_e]
            refine pf_ite ?_ ?_
            · refine pf_ite ?_ ?_
              · rw [j_X4_wasted_114_e]
                refine pf_ite ?_ ?_
                · rw [j_X4_wasted_125_e]
                  exact ih _ _ _ f_s3
                · rw [j_X4_wasted_124_e]
                  rw [j_X4_wasted_125_e]
                  exact ih _ _ _ f_s3
              · rw [j_X4_wasted_114_e]
                refine pf_ite ?_ ?_
                · rw [j_X4_wasted_125_e]
                  exact ih _ _ _ f_s3
                · rw [j_X4_wasted_124_e]
                  rw [j_X4_wasted_125_e]
                  exact ih _ _ _ f_s3
            · rw [j_X4_wasted_124_e]
              rw [j_X4_wasted_125_e]
              exact ih _ _ _ f_s3
      · rw [j_X4_wasted_67_e]
        refine pf_bnd (fr_X4_pullOf hF) (fun _ h => h.elim) f_σ (fun r4 s5 f_s5 => ?_)
        refine pf_ite ?_ ?_
        · rw [j_X4_wasted_84_e]
          refine pf_ite ?_ ?_
          · rw [j_X4_wasted_99_e]
            refine pf_ite ?_ ?_
            · refine pf_ite ?_ ?_
              · rw [j_X4_wasted_114_e]
                refine pf_ite ?_ ?_
                · rw [j_X4_wasted_125_e]
                  exact ih _ _ _ f_s5
                · rw [j_X4_wasted_124_e]
                  rw [j_X4_wasted_125_e]
                  exact ih _ _ _ f_s5
              · rw [j_X4_wasted_114_e]
                refine pf_ite ?_ ?_
                · rw [j_X4_wasted_125_e]
                  exact ih _ _ _ f_s5
                · rw [j_X4_wasted_124_e]
                  rw [j_X4_wasted_125_e]
                  exact ih _ _ _ f_s5
            · rw [j_X4_wasted_124_e]
              rw [j_X4_wasted_125_e]
              exact ih _ _ _ f_s5
          · rw [j_X4_wasted_99_e]
            refine pf_ite ?_ ?_
            · refine pf_ite ?_ ?_
              · rw [j_X4_wasted_114_e]
                refine pf_ite ?_ ?_
                · rw [j_X4_wasted_125_e]
                  exact ih _ _ _ f_s5
                · rw [j_X4_wasted_124_e]
                  rw [j_X4_wasted_125_e]
                  exact ih _ _ _ f_s5
              · rw [j_X4_wasted_114_e]
                refine pf_ite ?_ ?_
                · rw [j_X4_wasted_125_e]
                  exact ih _ _ _ f_s5
                · rw [j_X4_wasted_124_e]
                  rw [j_X4_wasted_125_e]
                  exact ih _ _ _ f_s5
            · rw [j_X4_wasted_124_e]
              rw [j_X4_wasted_125_e]
              exact ih _ _ _ f_s5
        · rw [j_X4_wasted_84_e]
          refine pf_ite ?_ ?_
          · rw [j_X4_wasted_99_e]
            refine pf_ite ?_ ?_
            · refine pf_ite ?_ ?_
              · rw [j_X4_wasted_114_e]
                refine pf_ite ?_ ?_
                · rw [j_X4_wasted_125_e]
                  exact ih _ _ _ f_s5
                · rw [j_X4_wasted_124_e]
                  rw [j_X4_wasted_125_e]
                  exact ih _ _ _ f_s5
              · rw [j_X4_wasted_114_e]
                refine pf_ite ?_ ?_
                · rw [j_X4_wasted_125_e]
                  exact ih _ _ _ f_s5
                · rw [j_X4_wasted_124_e]
                  rw [j_X4_wasted_125_e]
                  exact ih _ _ _ f_s5
            · rw [j_X4_wasted_124_e]
              rw [j_X4_wasted_125_e]
              exact ih _ _ _ f_s5
          · rw [j_X4_wasted_99_e]
            refine pf_ite ?_ ?_
            · refine pf_ite ?_ ?_
              · rw [j_X4_wasted_114_e]
                refine pf_ite ?_ ?_
                · rw [j_X4_wasted_125_e]
                  exact ih _ _ _ f_s5
                · rw [j_X4_wasted_124_e]
                  rw [j_X4_wasted_125_e]
                  exact ih _ _ _ f_s5
              · rw [j_X4_wasted_114_e]
                refine pf_ite ?_ ?_
                · rw [j_X4_wasted_125_e]
                  exact ih _ _ _ f_s5
                · rw [j_X4_wasted_124_e]
                  rw [j_X4_wasted_125_e]
                  exact ih _ _ _ f_s5
            · rw [j_X4_wasted_124_e]
              rw [j_X4_wasted_125_e]
              exact ih _ _ _ f_s5
set_option maxRecDepth 100000 in
theorem fr_X4_wasted {F : Nat} (hF : 1000 ≤ F) {x1 : Int32} {x2 : Int32} {σ : Mem} : pf wf_60 (f_X4_wasted F x1 x2 σ) σ := by
  have f_σ : fr wf_60 σ σ := fr_rf
  rw [f_X4_wasted_e]
  refine pf_up2 (c := 1010) f_σ (rfl) (Or.inr (⟨by omega, by omega⟩)) (fun s1 f_s1 => ?_)
  refine pf_bnd (fr_X4_isLooker hF) (fun _ h => h.elim) f_s1 (fun r2 s3 f_s3 => ?_)
  refine pf_ite ?_ ?_
  · rw [j_X4_wasted_23_e]
    refine pf_ite ?_ ?_
    · exact fl_X4_wasted_40 hF _ _ _ _ f_s3
    · refine pf_bnd (fr_X4_refuse hF) (ww_49) f_s3 (fun r4 s5 f_s5 => ?_)
      exact pf_ret f_s5
  · refine pf_bnd (fr_X4_wrongBit hF) (fun _ h => h.elim) f_s3 (fun r6 s7 f_s7 => ?_)
    rw [j_X4_wasted_23_e]
    refine pf_ite ?_ ?_
    · exact fl_X4_wasted_40 hF _ _ _ _ f_s7
    · refine pf_bnd (fr_X4_refuse hF) (ww_49) f_s7 (fun r8 s9 f_s9 => ?_)
      exact pf_ret f_s9
set_option maxRecDepth 100000 in
theorem fl_X4_ahead_26 {F : Nat} (hF : 1000 ≤ F) {x1 : Int32} {x2 : Int32} {τ : Mem} : ∀ (N : Nat) (x3 : Int32) (σ : Mem), fr wf_61 τ σ → pf wf_61 (lp_X4_ahead_26 F x1 x2 N x3 σ) τ := by
  intro N
  induction N with
  | zero => intro _ _ _; exact pf_none rfl
  | succ N ih =>
    intro x3 σ f_σ
    rw [lp_X4_ahead_26_s]
    refine pf_ite ?_ ?_
    · exact pf_ret f_σ
    · refine pf_bnd (fr_X4_worthIn hF) (ww_52) f_σ (fun r1 s2 f_s2 => ?_)
      refine pf_bnd (fr_X4_worthIn hF) (ww_52) f_s2 (fun r3 s4 f_s4 => ?_)
      refine pf_ite ?_ ?_
      · exact ih _ _ f_s4
      · exact pf_ret f_s4
set_option maxRecDepth 100000 in
theorem fr_X4_ahead {F : Nat} (hF : 1000 ≤ F) {x1 : Int32} {x2 : Int32} {σ : Mem} : pf wf_61 (f_X4_ahead F x1 x2 σ) σ := by
  have f_σ : fr wf_61 σ σ := fr_rf
  rw [f_X4_ahead_e]
  refine pf_up2 (c := 1010) f_σ (rfl) (Or.inr (⟨by omega, by omega⟩)) (fun s1 f_s1 => ?_)
  refine pf_bnd (fr_X4_areTwo hF) (fun _ h => h.elim) f_s1 (fun r2 s3 f_s3 => ?_)
  refine pf_ite ?_ ?_
  · refine pf_bnd (fr_X4_refuse hF) (ww_50) f_s3 (fun r4 s5 f_s5 => ?_)
    exact pf_ret f_s5
  · refine pf_bnd (fr_X4_layBrings hF) (ww_51) f_s3 (fun r6 s7 f_s7 => ?_)
    exact fl_X4_ahead_26 hF _ _ _ f_s7
theorem ww_82 : ∀ c, wf_47 c → wf_69 c := fun c h => Or.inl (⟨Nat.le_trans (by omega) (h).1, Nat.le_trans (h).2 (by omega)⟩)
theorem ww_83 : ∀ c, wf_46 c → wf_69 c := fun c h => Or.inl (⟨Nat.le_trans (by omega) (h).1, Nat.le_trans (h).2 (by omega)⟩)
set_option maxRecDepth 100000 in
theorem fl_X4_bestLaw_55 {F : Nat} (hF : 1000 ≤ F) {x1 : Int32} {x2 : Int32} {x4 : Int32} {τ : Mem} : ∀ (N : Nat) (x5 : Int32) (x6 : Int32) (x7 : Int32) (σ : Mem), fr wf_69 τ σ → pf wf_69 (lp_X4_bestLaw_55 F x1 x2 x4 N x5 x6 x7 σ) τ := by
  intro N
  induction N with
  | zero => intro _ _ _ _ _; exact pf_none rfl
  | succ N ih =>
    intro x5 x6 x7 σ f_σ
    rw [lp_X4_bestLaw_55_s]
    refine pf_ite ?_ ?_
    · refine pf_up2 (c := 1008) f_σ (rfl) (Or.inr (Or.inl (⟨by omega, by omega⟩))) (fun s1 f_s1 => ?_)
      exact pf_ret f_s1
    · refine pf_up2 (c := 1008) f_σ (rfl) (Or.inr (Or.inl (⟨by omega, by omega⟩))) (fun s2 f_s2 => ?_)
      refine pf_bnd (fr_X4_worthIn hF) (ww_82) f_s2 (fun r3 s4 f_s4 => ?_)
      refine pf_ite ?_ ?_
      · rw [j_X4_bestLaw_89_e]
        refine pf_ite ?_ ?_
        · rw [j_X4_bestLaw_105_e]
          exact ih _ _ _ _ f_s4
        · rw [j_X4_bestLaw_105_e]
          exact ih _ _ _ _ f_s4
      · rw [j_X4_bestLaw_89_e]
        refine pf_ite ?_ ?_
        · rw [j_X4_bestLaw_105_e]
          exact ih _ _ _ _ f_s4
        · rw [j_X4_bestLaw_105_e]
          exact ih _ _ _ _ f_s4
set_option maxRecDepth 100000 in
theorem fr_X4_bestLaw {F : Nat} (hF : 1000 ≤ F) {x1 : Int32} {x2 : Int32} {σ : Mem} : pf wf_69 (f_X4_bestLaw F x1 x2 σ) σ := by
  have f_σ : fr wf_69 σ σ := fr_rf
  rw [f_X4_bestLaw_e]
  refine pf_up2 (c := 1010) f_σ (rfl) (Or.inr (Or.inr (⟨by omega, by omega⟩))) (fun s1 f_s1 => ?_)
  refine pf_bnd (fr_X4_isLooker hF) (fun _ h => h.elim) f_s1 (fun r2 s3 f_s3 => ?_)
  refine pf_ite ?_ ?_
  · rw [j_X4_bestLaw_25_e]
    refine pf_ite ?_ ?_
    · refine pf_bnd (fr_X4_layBrings hF) (ww_83) f_s3 (fun r4 s5 f_s5 => ?_)
      exact fl_X4_bestLaw_55 hF _ _ _ _ _ f_s5
    · refine pf_bnd (fr_X4_refuse hF) (ww_69) f_s3 (fun r6 s7 f_s7 => ?_)
      exact pf_ret f_s7
  · refine pf_bnd (fr_X4_wrongNumber hF) (fun _ h => h.elim) f_s3 (fun r8 s9 f_s9 => ?_)
    rw [j_X4_bestLaw_25_e]
    refine pf_ite ?_ ?_
    · refine pf_bnd (fr_X4_layBrings hF) (ww_83) f_s9 (fun r10 s11 f_s11 => ?_)
      exact fl_X4_bestLaw_55 hF _ _ _ _ _ f_s11
    · refine pf_bnd (fr_X4_refuse hF) (ww_69) f_s9 (fun r12 s13 f_s13 => ?_)
      exact pf_ret f_s13
theorem ww_84 : ∀ c, wf_54 c → wf_70 c := fun c h => h.elim (fun a => Or.inl (⟨Nat.le_trans (by omega) (a).1, Nat.le_trans (a).2 (by omega)⟩)) (fun b0 => Or.inr (Or.inr (Or.inr (Or.inl (b0)))))
set_option maxRecDepth 100000 in
theorem fl_X4_newcomer_130 {F : Nat} (hF : 1000 ≤ F) {x3 : Int32} {x5 : Int32} {x8 : Int32} {k113 : Int32 → Int32 → Int32 → Mem → Option (Int32 × Mem)} {τ : Mem} (hk113 : ∀ (x6 : Int32) (x7 : Int32) (x8 : Int32) (σ : Mem), fr wf_70 τ σ → pf wf_70 (k113 x6 x7 x8 σ) τ) : ∀ (N : Nat) (x6 : Int32) (x7 : Int32) (x9 : Int32) (σ : Mem), fr wf_70 τ σ → pf wf_70 (lp_X4_newcomer_130 F k113 x3 x5 x8 N x6 x7 x9 σ) τ := by
  intro N
  induction N with
  | zero => intro _ _ _ _ _; exact pf_none rfl
  | succ N ih =>
    intro x6 x7 x9 σ f_σ
    rw [lp_X4_newcomer_130_s]
    refine pf_ite ?_ ?_
    · exact hk113 _ _ _ _ f_σ
    · refine pf_bnd (fr_X4_ownerIn hF) (ww_76) f_σ (fun r1 s2 f_s2 => ?_)
      refine pf_ite ?_ ?_
      · rw [j_X4_newcomer_153_e]
        refine pf_ite ?_ ?_
        · rw [j_X4_newcomer_167_e]
          refine pf_ite ?_ ?_
          · rw [j_X4_newcomer_181_e]
            exact ih _ _ _ _ f_s2
          · rw [j_X4_newcomer_181_e]
            exact ih _ _ _ _ f_s2
        · rw [j_X4_newcomer_167_e]
          refine pf_ite ?_ ?_
          · rw [j_X4_newcomer_181_e]
            exact ih _ _ _ _ f_s2
          · rw [j_X4_newcomer_181_e]
            exact ih _ _ _ _ f_s2
      · rw [j_X4_newcomer_153_e]
        refine pf_ite ?_ ?_
        · rw [j_X4_newcomer_167_e]
          refine pf_ite ?_ ?_
          · rw [j_X4_newcomer_181_e]
            exact ih _ _ _ _ f_s2
          · rw [j_X4_newcomer_181_e]
            exact ih _ _ _ _ f_s2
        · rw [j_X4_newcomer_167_e]
          refine pf_ite ?_ ?_
          · rw [j_X4_newcomer_181_e]
            exact ih _ _ _ _ f_s2
          · rw [j_X4_newcomer_181_e]
            exact ih _ _ _ _ f_s2
set_option maxRecDepth 100000 in
theorem fl_X4_newcomer_113 {F : Nat} (hF : 1000 ≤ F) {x3 : Int32} {x5 : Int32} {τ : Mem} : ∀ (N : Nat) (x6 : Int32) (x7 : Int32) (x8 : Int32) (σ : Mem), fr wf_70 τ σ → pf wf_70 (lp_X4_newcomer_113 F x3 x5 N x6 x7 x8 σ) τ := by
  intro N
  induction N with
  | zero => intro _ _ _ _ _; exact pf_none rfl
  | succ N ih =>
    intro x6 x7 x8 σ f_σ
    rw [lp_X4_newcomer_113_s]
    refine pf_ite ?_ ?_
    · rw [j_X4_newcomer_195_e]
      refine pf_bnd (fr_X4_stand hF) (ww_77) f_σ (fun r1 s2 f_s2 => ?_)
      refine pf_bnd (fr_X4_again hF) (ww_70) f_s2 (fun r3 s4 f_s4 => ?_)
      refine pf_ite ?_ ?_
      · exact pf_ret f_s4
      · exact pf_ret f_s4
    · refine pf_ite ?_ ?_
      · rw [j_X4_newcomer_195_e]
        refine pf_bnd (fr_X4_stand hF) (ww_77) f_σ (fun r5 s6 f_s6 => ?_)
        refine pf_bnd (fr_X4_again hF) (ww_70) f_s6 (fun r7 s8 f_s8 => ?_)
        refine pf_ite ?_ ?_
        · exact pf_ret f_s8
        · exact pf_ret f_s8
      · exact fl_X4_newcomer_130 hF ih _ _ _ _ _ f_σ
set_option maxRecDepth 100000 in
theorem fr_X4_newcomer {F : Nat} (hF : 1000 ≤ F) {x1 : Int32} {x2 : Int32} {x3 : Int32} {σ : Mem} : pf wf_70 (f_X4_newcomer F x1 x2 x3 σ) σ := by
  have f_σ : fr wf_70 σ σ := fr_rf
  rw [f_X4_newcomer_e]
  refine pf_up2 (c := 1010) f_σ (rfl) (Or.inr (Or.inr (Or.inr (Or.inr (Or.inl (⟨by omega, by omega⟩)))))) (fun s1 f_s1 => ?_)
  refine pf_bnd (fr_X4_isPane hF) (fun _ h => h.elim) f_s1 (fun r2 s3 f_s3 => ?_)
  refine pf_ite ?_ ?_
  · rw [j_X4_newcomer_58_e]
    refine pf_ite ?_ ?_
    · refine pf_bnd (fr_X4_think hF) (ww_72) f_s3 (fun r4 s5 f_s5 => ?_)
      refine pf_bnd (fr_X4_lookerComes hF) (ww_84) f_s5 (fun r6 s7 f_s7 => ?_)
      refine pf_bnd (fr_X4_stand hF) (ww_77) f_s7 (fun r8 s9 f_s9 => ?_)
      refine pf_bnd (fr_X4_layBrings hF) (ww_75) f_s9 (fun r10 s11 f_s11 => ?_)
      exact fl_X4_newcomer_113 hF _ _ _ _ _ f_s11
    · refine pf_bnd (fr_X4_refuse hF) (ww_73) f_s3 (fun r12 s13 f_s13 => ?_)
      exact pf_ret f_s13
  · refine pf_bnd (fr_X4_in hF) (fun _ h => h.elim) f_s3 (fun r14 s15 f_s15 => ?_)
    refine pf_ite ?_ ?_
    · rw [j_X4_newcomer_39_e]
      rw [j_X4_newcomer_58_e]
      refine pf_ite ?_ ?_
      · refine pf_bnd (fr_X4_think hF) (ww_72) f_s15 (fun r16 s17 f_s17 => ?_)
        refine pf_bnd (fr_X4_lookerComes hF) (ww_84) f_s17 (fun r18 s19 f_s19 => ?_)
        refine pf_bnd (fr_X4_stand hF) (ww_77) f_s19 (fun r20 s21 f_s21 => ?_)
        refine pf_bnd (fr_X4_layBrings hF) (ww_75) f_s21 (fun r22 s23 f_s23 => ?_)
        exact fl_X4_newcomer_113 hF _ _ _ _ _ f_s23
      · refine pf_bnd (fr_X4_refuse hF) (ww_73) f_s15 (fun r24 s25 f_s25 => ?_)
        exact pf_ret f_s25
    · refine pf_bnd (fr_X4_in hF) (fun _ h => h.elim) f_s15 (fun r26 s27 f_s27 => ?_)
      refine pf_ite ?_ ?_
      · rw [j_X4_newcomer_39_e]
        rw [j_X4_newcomer_58_e]
        refine pf_ite ?_ ?_
        · refine pf_bnd (fr_X4_think hF) (ww_72) f_s27 (fun r28 s29 f_s29 => ?_)
          refine pf_bnd (fr_X4_lookerComes hF) (ww_84) f_s29 (fun r30 s31 f_s31 => ?_)
          refine pf_bnd (fr_X4_stand hF) (ww_77) f_s31 (fun r32 s33 f_s33 => ?_)
          refine pf_bnd (fr_X4_layBrings hF) (ww_75) f_s33 (fun r34 s35 f_s35 => ?_)
          exact fl_X4_newcomer_113 hF _ _ _ _ _ f_s35
        · refine pf_bnd (fr_X4_refuse hF) (ww_73) f_s27 (fun r36 s37 f_s37 => ?_)
          exact pf_ret f_s37
      · refine pf_ite ?_ ?_
        · rw [j_X4_newcomer_58_e]
          refine pf_ite ?_ ?_
          · refine pf_bnd (fr_X4_think hF) (ww_72) f_s27 (fun r38 s39 f_s39 => ?_)
            refine pf_bnd (fr_X4_lookerComes hF) (ww_84) f_s39 (fun r40 s41 f_s41 => ?_)
            refine pf_bnd (fr_X4_stand hF) (ww_77) f_s41 (fun r42 s43 f_s43 => ?_)
            refine pf_bnd (fr_X4_layBrings hF) (ww_75) f_s43 (fun r44 s45 f_s45 => ?_)
            exact fl_X4_newcomer_113 hF _ _ _ _ _ f_s45
          · refine pf_bnd (fr_X4_refuse hF) (ww_73) f_s27 (fun r46 s47 f_s47 => ?_)
            exact pf_ret f_s47
        · rw [j_X4_newcomer_58_e]
          refine pf_ite ?_ ?_
          · refine pf_bnd (fr_X4_think hF) (ww_72) f_s27 (fun r48 s49 f_s49 => ?_)
            refine pf_bnd (fr_X4_lookerComes hF) (ww_84) f_s49 (fun r50 s51 f_s51 => ?_)
            refine pf_bnd (fr_X4_stand hF) (ww_77) f_s51 (fun r52 s53 f_s53 => ?_)
            refine pf_bnd (fr_X4_layBrings hF) (ww_75) f_s53 (fun r54 s55 f_s55 => ?_)
            exact fl_X4_newcomer_113 hF _ _ _ _ _ f_s55
          · refine pf_bnd (fr_X4_refuse hF) (ww_73) f_s27 (fun r56 s57 f_s57 => ?_)
            exact pf_ret f_s57
set_option maxRecDepth 100000 in
theorem fl_X4_broughtToAll_4 {F : Nat} (hF : 1000 ≤ F) {x1 : Int32} {τ : Mem} : ∀ (N : Nat) (x2 : Int32) (x3 : Int32) (σ : Mem), fr wf_1 τ σ → pf wf_1 (lp_X4_broughtToAll_4 F x1 N x2 x3 σ) τ := by
  intro N
  induction N with
  | zero => intro _ _ _ _; exact pf_none rfl
  | succ N ih =>
    intro x2 x3 σ f_σ
    rw [lp_X4_broughtToAll_4_s]
    refine pf_ite ?_ ?_
    · exact pf_ret f_σ
    · refine pf_chk (fun v1 => ?_)
      refine pf_lt (fun z2 _ => ?_)
      exact ih _ _ _ f_σ
set_option maxRecDepth 100000 in
theorem fr_X4_broughtToAll {F : Nat} (hF : 1000 ≤ F) {x1 : Int32} {σ : Mem} : pf wf_1 (f_X4_broughtToAll F x1 σ) σ := by
  have f_σ : fr wf_1 σ σ := fr_rf
  rw [f_X4_broughtToAll_e]
  exact fl_X4_broughtToAll_4 hF _ _ _ _ f_σ
set_option maxRecDepth 100000 in
theorem fl_X4_mostSeen_30 {F : Nat} (hF : 1000 ≤ F) {x1 : Int32} {τ : Mem} : ∀ (N : Nat) (x2 : Int32) (x3 : Int32) (σ : Mem), fr wf_72 τ σ → pf wf_72 (lp_X4_mostSeen_30 F x1 N x2 x3 σ) τ := by
  intro N
  induction N with
  | zero => intro _ _ _ _; exact pf_none rfl
  | succ N ih =>
    intro x2 x3 σ f_σ
    rw [lp_X4_mostSeen_30_s]
    refine pf_ite ?_ ?_
    · refine pf_ite ?_ ?_
      · exact pf_ret f_σ
      · refine pf_bnd (fr_X4_broughtToAll hF) (fun _ h => h.elim) f_σ (fun r1 s2 f_s2 => ?_)
        exact pf_ret f_s2
    · refine pf_bnd (fr_X4_broughtToAll hF) (fun _ h => h.elim) f_σ (fun r3 s4 f_s4 => ?_)
      refine pf_bnd (fr_X4_broughtToAll hF) (fun _ h => h.elim) f_s4 (fun r5 s6 f_s6 => ?_)
      refine pf_ite ?_ ?_
      · rw [j_X4_mostSeen_54_e]
        exact ih _ _ _ f_s6
      · rw [j_X4_mostSeen_54_e]
        exact ih _ _ _ f_s6
set_option maxRecDepth 100000 in
theorem fr_X4_mostSeen {F : Nat} (hF : 1000 ≤ F) {x1 : Int32} {σ : Mem} : pf wf_72 (f_X4_mostSeen F x1 σ) σ := by
  have f_σ : fr wf_72 σ σ := fr_rf
  rw [f_X4_mostSeen_e]
  refine pf_up2 (c := 1010) f_σ (rfl) (Or.inr (⟨by omega, by omega⟩)) (fun s1 f_s1 => ?_)
  refine pf_bnd (fr_X4_in hF) (fun _ h => h.elim) f_s1 (fun r2 s3 f_s3 => ?_)
  refine pf_ite ?_ ?_
  · refine pf_bnd (fr_X4_refuse hF) (ww_81) f_s3 (fun r4 s5 f_s5 => ?_)
    exact pf_ret f_s5
  · refine pf_bnd (fr_X4_layBrings hF) (ww_80) f_s3 (fun r6 s7 f_s7 => ?_)
    exact fl_X4_mostSeen_30 hF _ _ _ _ f_s7
set_option maxRecDepth 100000 in
theorem fl_X4_duels_25 {F : Nat} (hF : 1000 ≤ F) {x1 : Int32} {x2 : Int32} {τ : Mem} : ∀ (N : Nat) (x3 : Int32) (x4 : Int32) (σ : Mem), fr wf_60 τ σ → pf wf_60 (lp_X4_duels_25 F x1 x2 N x3 x4 σ) τ := by
  intro N
  induction N with
  | zero => intro _ _ _ _; exact pf_none rfl
  | succ N ih =>
    intro x3 x4 σ f_σ
    rw [lp_X4_duels_25_s]
    refine pf_ite ?_ ?_
    · exact pf_ret f_σ
    · refine pf_bnd (fr_X4_bringsOf hF) (fun _ h => h.elim) f_σ (fun r1 s2 f_s2 => ?_)
      refine pf_ite ?_ ?_
      · rw [j_X4_duels_57_e]
        rw [j_X4_duels_58_e]
        exact ih _ _ _ f_s2
      · refine pf_bnd (fr_X4_bringsOf hF) (fun _ h => h.elim) f_s2 (fun r3 s4 f_s4 => ?_)
        refine pf_ite ?_ ?_
        · rw [j_X4_duels_57_e]
          rw [j_X4_duels_58_e]
          exact ih _ _ _ f_s4
        · rw [j_X4_duels_58_e]
          exact ih _ _ _ f_s4
set_option maxRecDepth 100000 in
theorem fr_X4_duels {F : Nat} (hF : 1000 ≤ F) {x1 : Int32} {x2 : Int32} {σ : Mem} : pf wf_60 (f_X4_duels F x1 x2 σ) σ := by
  have f_σ : fr wf_60 σ σ := fr_rf
  rw [f_X4_duels_e]
  refine pf_up2 (c := 1010) f_σ (rfl) (Or.inr (⟨by omega, by omega⟩)) (fun s1 f_s1 => ?_)
  refine pf_bnd (fr_X4_areTwo hF) (fun _ h => h.elim) f_s1 (fun r2 s3 f_s3 => ?_)
  refine pf_ite ?_ ?_
  · refine pf_bnd (fr_X4_refuse hF) (ww_49) f_s3 (fun r4 s5 f_s5 => ?_)
    exact pf_ret f_s5
  · exact fl_X4_duels_25 hF _ _ _ _ f_s3
def wf_73 (c : Nat) : Prop := (108 ≤ c ∧ c ≤ 108) ∨ (121 ≤ c ∧ c ≤ 121) ∨ (1010 ≤ c ∧ c ≤ 1010) ∨ (1034 ≤ c ∧ c ≤ 1034)
theorem ww_85 : ∀ c, wf_45 c → wf_73 c := fun c h => Or.inl (h)
set_option maxRecDepth 100000 in
theorem fr_X4_row {F : Nat} (hF : 1000 ≤ F) {x1 : Int32} {σ : Mem} : pf wf_73 (f_X4_row F x1 σ) σ := by
  have f_σ : fr wf_73 σ σ := fr_rf
  rw [f_X4_row_e]
  refine pf_up2 (c := 1010) f_σ (rfl) (Or.inr (Or.inr (Or.inl (⟨by omega, by omega⟩)))) (fun s1 f_s1 => ?_)
  refine pf_ite ?_ ?_
  · refine pf_ite ?_ ?_
    · rw [j_X4_row_31_e]
      refine pf_bnd (fr_X4_refuse hF) (ww_85) f_s1 (fun r2 s3 f_s3 => ?_)
      exact pf_ret f_s3
    · refine pf_ite ?_ ?_
      · rw [j_X4_row_31_e]
        refine pf_bnd (fr_X4_refuse hF) (ww_85) f_s1 (fun r4 s5 f_s5 => ?_)
        exact pf_ret f_s5
      · refine pf_chk (fun v6 => ?_)
        refine pf_up2 (c := 121) f_s1 (rfl) (Or.inr (Or.inl (⟨by omega, by omega⟩))) (fun s7 f_s7 => ?_)
        refine pf_up2 (c := 1034) f_s7 (rfl) (Or.inr (Or.inr (Or.inr (⟨by omega, by omega⟩)))) (fun s8 f_s8 => ?_)
        exact pf_ret f_s8
  · refine pf_bnd (fr_X4_refuse hF) (ww_85) f_s1 (fun r9 s10 f_s10 => ?_)
    exact pf_ret f_s10
def wf_74 (c : Nat) : Prop := (108 ≤ c ∧ c ≤ 110) ∨ (1010 ≤ c ∧ c ≤ 1010) ∨ (1034 ≤ c ∧ c ≤ 1034)
theorem ww_86 : ∀ c, wf_47 c → wf_74 c := fun c h => Or.inl (⟨Nat.le_trans (by omega) (h).1, Nat.le_trans (h).2 (by omega)⟩)
theorem ww_87 : ∀ c, wf_45 c → wf_74 c := fun c h => Or.inl (⟨Nat.le_trans (by omega) (h).1, Nat.le_trans (h).2 (by omega)⟩)
theorem ww_88 : ∀ c, wf_46 c → wf_74 c := fun c h => Or.inl (⟨Nat.le_trans (by omega) (h).1, Nat.le_trans (h).2 (by omega)⟩)
set_option maxRecDepth 100000 in
theorem fl_X4_judge_34 {F : Nat} (hF : 1000 ≤ F) {x1 : Int32} {x2 : Int32} {τ : Mem} : ∀ (N : Nat) (x3 : Int32) (σ : Mem), fr wf_74 τ σ → pf wf_74 (lp_X4_judge_34 F x1 x2 N x3 σ) τ := by
  intro N
  induction N with
  | zero => intro _ _ _; exact pf_none rfl
  | succ N ih =>
    intro x3 σ f_σ
    rw [lp_X4_judge_34_s]
    refine pf_ite ?_ ?_
    · exact pf_ret f_σ
    · refine pf_bnd (fr_X4_ownerIn hF) (ww_86) f_σ (fun r1 s2 f_s2 => ?_)
      refine pf_chk (fun v3 => ?_)
      refine pf_ite ?_ ?_
      · rw [j_X4_judge_65_e]
        refine pf_ite ?_ ?_
        · exact ih _ _ f_s2
        · exact pf_ret f_s2
      · rw [j_X4_judge_65_e]
        refine pf_ite ?_ ?_
        · exact ih _ _ f_s2
        · exact pf_ret f_s2
set_option maxRecDepth 100000 in
theorem fr_X4_judge {F : Nat} (hF : 1000 ≤ F) {x1 : Int32} {σ : Mem} : pf wf_74 (f_X4_judge F x1 σ) σ := by
  have f_σ : fr wf_74 σ σ := fr_rf
  rw [f_X4_judge_e]
  refine pf_up2 (c := 1010) f_σ (rfl) (Or.inr (Or.inl (⟨by omega, by omega⟩))) (fun s1 f_s1 => ?_)
  refine pf_bnd (fr_X4_isView hF) (fun _ h => h.elim) f_s1 (fun r2 s3 f_s3 => ?_)
  refine pf_ite ?_ ?_
  · refine pf_bnd (fr_X4_refuse hF) (ww_87) f_s3 (fun r4 s5 f_s5 => ?_)
    exact pf_ret f_s5
  · refine pf_up2 (c := 1034) f_s3 (rfl) (Or.inr (Or.inr (⟨by omega, by omega⟩))) (fun s6 f_s6 => ?_)
    refine pf_bnd (fr_X4_layBrings hF) (ww_88) f_s6 (fun r7 s8 f_s8 => ?_)
    exact fl_X4_judge_34 hF _ _ _ f_s8
def wf_75 (c : Nat) : Prop := (1010 ≤ c ∧ c ≤ 1010) ∨ (1034 ≤ c ∧ c ≤ 1034)
set_option maxRecDepth 100000 in
theorem fr_X4_clear {F : Nat} (hF : 1000 ≤ F) {σ : Mem} : pf wf_75 (f_X4_clear F σ) σ := by
  have f_σ : fr wf_75 σ σ := fr_rf
  rw [f_X4_clear_e]
  refine pf_up2 (c := 1010) f_σ (rfl) (Or.inl (⟨by omega, by omega⟩)) (fun s1 f_s1 => ?_)
  refine pf_up2 (c := 1034) f_s1 (rfl) (Or.inr (⟨by omega, by omega⟩)) (fun s2 f_s2 => ?_)
  exact pf_ret f_s2
def wf_76 (c : Nat) : Prop := (1035 ≤ c ∧ c ≤ 1035)
set_option maxRecDepth 100000 in
theorem fr_X4_drawBelow {F : Nat} (hF : 1000 ≤ F) {x1 : Int32} {σ : Mem} : pf wf_76 (f_X4_drawBelow F x1 σ) σ := by
  have f_σ : fr wf_76 σ σ := fr_rf
  rw [f_X4_drawBelow_e]
  refine pf_up2 (c := 1035) f_σ (rfl) (⟨by omega, by omega⟩) (fun s1 f_s1 => ?_)
  refine pf_nz ?_
  exact pf_ret f_s1
def wf_77 (c : Nat) : Prop := (102 ≤ c ∧ c ≤ 110) ∨ (115 ≤ c ∧ c ≤ 115) ∨ (1001 ≤ c ∧ c ≤ 1001) ∨ (1003 ≤ c ∧ c ≤ 1003) ∨ (1008 ≤ c ∧ c ≤ 1010) ∨ (1025 ≤ c ∧ c ≤ 1027) ∨ (1035 ≤ c ∧ c ≤ 1035)
theorem ww_89 : ∀ c, wf_76 c → wf_77 c := fun c h => Or.inr (Or.inr (Or.inr (Or.inr (Or.inr (Or.inr (h))))))
theorem ww_90 : ∀ c, wf_55 c → wf_77 c := fun c h => Or.inl (⟨Nat.le_trans (by omega) (h).1, Nat.le_trans (h).2 (by omega)⟩)
theorem ww_91 : ∀ c, wf_46 c → wf_77 c := fun c h => Or.inl (⟨Nat.le_trans (by omega) (h).1, Nat.le_trans (h).2 (by omega)⟩)
theorem ww_92 : ∀ c, wf_47 c → wf_77 c := fun c h => Or.inl (⟨Nat.le_trans (by omega) (h).1, Nat.le_trans (h).2 (by omega)⟩)
theorem ww_93 : ∀ c, wf_58 c → wf_77 c := fun c h => h.elim (fun a => Or.inl (⟨Nat.le_trans (by omega) (a).1, Nat.le_trans (a).2 (by omega)⟩)) (fun b0 => b0.elim (fun a => Or.inr (Or.inr (Or.inl (a)))) (fun b1 => b1.elim (fun a => Or.inr (Or.inr (Or.inr (Or.inl (a))))) (fun b2 => b2.elim (fun a => Or.inr (Or.inr (Or.inr (Or.inr (Or.inl (⟨Nat.le_trans (by omega) (a).1, Nat.le_trans (a).2 (by omega)⟩)))))) (fun b3 => Or.inr (Or.inr (Or.inr (Or.inr (Or.inr (Or.inl (b3))))))))))
theorem ww_94 : ∀ c, wf_57 c → wf_77 c := fun c h => h.elim (fun a => Or.inr (Or.inl (a))) (fun b0 => Or.inr (Or.inr (Or.inr (Or.inr (Or.inr (Or.inl (b0)))))))
theorem ww_95 : ∀ c, wf_45 c → wf_77 c := fun c h => Or.inl (⟨Nat.le_trans (by omega) (h).1, Nat.le_trans (h).2 (by omega)⟩)
set_option maxRecDepth 100000 in
theorem fl_X4_lots_85 {F : Nat} (hF : 1000 ≤ F) {x1 : Int32} {x3 : Int32} {x5 : Int32} {x6 : Int32} {x7 : Int32} {k46 : Int32 → Int32 → Mem → Option (Int32 × Mem)} {k62 : Int32 → Mem → Option (Int32 × Mem)} {τ : Mem} (hk46 : ∀ (x5 : Int32) (x6 : Int32) (σ : Mem), fr wf_77 τ σ → pf wf_77 (k46 x5 x6 σ) τ) (hk62 : ∀ (x7 : Int32) (σ : Mem), fr wf_77 τ σ → pf wf_77 (k62 x7 σ) τ) : ∀ (N : Nat) (x8 : Int32) (σ : Mem), fr wf_77 τ σ → pf wf_77 (lp_X4_lots_85 F k46 k62 x1 x3 x5 x6 x7 N x8 σ) τ := by
  intro N
  induction N with
  | zero => intro _ _ _; exact pf_none rfl
  | succ N ih =>
    intro x8 σ f_σ
    rw [lp_X4_lots_85_s]
    refine pf_ite ?_ ?_
    · exact hk62 _ _ f_σ
    · refine pf_bnd (fr_X4_drawBelow hF) (ww_89) f_σ (fun r1 s2 f_s2 => ?_)
      refine pf_ite ?_ ?_
      · rw [j_X4_lots_120_e]
        refine pf_bnd (fr_X4_drawBelow hF) (ww_89) f_s2 (fun r3 s4 f_s4 => ?_)
        refine pf_bnd (fr_X4_stand hF) (ww_90) f_s4 (fun r5 s6 f_s6 => ?_)
        exact ih _ _ f_s6
      · rw [j_X4_lots_120_e]
        refine pf_bnd (fr_X4_drawBelow hF) (ww_89) f_s2 (fun r7 s8 f_s8 => ?_)
        refine pf_bnd (fr_X4_stand hF) (ww_90) f_s8 (fun r9 s10 f_s10 => ?_)
        exact ih _ _ f_s10
set_option maxRecDepth 100000 in
theorem fl_X4_lots_62 {F : Nat} (hF : 1000 ≤ F) {x1 : Int32} {x3 : Int32} {x5 : Int32} {x6 : Int32} {k46 : Int32 → Int32 → Mem → Option (Int32 × Mem)} {τ : Mem} (hk46 : ∀ (x5 : Int32) (x6 : Int32) (σ : Mem), fr wf_77 τ σ → pf wf_77 (k46 x5 x6 σ) τ) : ∀ (N : Nat) (x7 : Int32) (σ : Mem), fr wf_77 τ σ → pf wf_77 (lp_X4_lots_62 F k46 x1 x3 x5 x6 N x7 σ) τ := by
  intro N
  induction N with
  | zero => intro _ _ _; exact pf_none rfl
  | succ N ih =>
    intro x7 σ f_σ
    rw [lp_X4_lots_62_s]
    refine pf_ite ?_ ?_
    · refine pf_bnd (fr_X4_layBrings hF) (ww_91) f_σ (fun r1 s2 f_s2 => ?_)
      refine pf_bnd (fr_X4_richestIn hF) (ww_92) f_s2 (fun r3 s4 f_s4 => ?_)
      refine pf_ite ?_ ?_
      · refine pf_bnd (fr_X4_viewsIn hF) (ww_92) f_s4 (fun r5 s6 f_s6 => ?_)
        refine pf_bnd (fr_X4_onesOf hF) (fun _ h => h.elim) f_s6 (fun r7 s8 f_s8 => ?_)
        rw [j_X4_lots_195_e]
        exact hk46 _ _ _ f_s8
      · refine pf_ite ?_ ?_
        · refine pf_bnd (fr_X4_worthIn hF) (ww_92) f_s4 (fun r9 s10 f_s10 => ?_)
          rw [j_X4_lots_195_e]
          exact hk46 _ _ _ f_s10
        · rw [j_X4_lots_195_e]
          exact hk46 _ _ _ f_s4
    · refine pf_bnd (fr_X4_stand hF) (ww_90) f_σ (fun r11 s12 f_s12 => ?_)
      exact fl_X4_lots_85 hF hk46 ih _ _ _ f_s12
set_option maxRecDepth 100000 in
theorem fl_X4_lots_46 {F : Nat} (hF : 1000 ≤ F) {x1 : Int32} {x3 : Int32} {τ : Mem} : ∀ (N : Nat) (x5 : Int32) (x6 : Int32) (σ : Mem), fr wf_77 τ σ → pf wf_77 (lp_X4_lots_46 F x1 x3 N x5 x6 σ) τ := by
  intro N
  induction N with
  | zero => intro _ _ _ _; exact pf_none rfl
  | succ N ih =>
    intro x5 x6 σ f_σ
    rw [lp_X4_lots_46_s]
    refine pf_ite ?_ ?_
    · rw [j_X4_lots_204_e]
      refine pf_bnd (fr_X4_again hF) (ww_93) f_σ (fun r1 s2 f_s2 => ?_)
      exact pf_ret f_s2
    · refine pf_ite ?_ ?_
      · rw [j_X4_lots_204_e]
        refine pf_bnd (fr_X4_again hF) (ww_93) f_σ (fun r3 s4 f_s4 => ?_)
        exact pf_ret f_s4
      · exact fl_X4_lots_62 hF ih _ _ _ f_σ
set_option maxRecDepth 100000 in
theorem fr_X4_lots {F : Nat} (hF : 1000 ≤ F) {x1 : Int32} {x2 : Int32} {x3 : Int32} {σ : Mem} : pf wf_77 (f_X4_lots F x1 x2 x3 σ) σ := by
  have f_σ : fr wf_77 σ σ := fr_rf
  rw [f_X4_lots_e]
  refine pf_up2 (c := 1010) f_σ (rfl) (Or.inr (Or.inr (Or.inr (Or.inr (Or.inl (⟨by omega, by omega⟩)))))) (fun s1 f_s1 => ?_)
  refine pf_bnd (fr_X4_wrongNumber hF) (fun _ h => h.elim) f_s1 (fun r2 s3 f_s3 => ?_)
  refine pf_bnd (fr_X4_wrongBit hF) (fun _ h => h.elim) f_s3 (fun r4 s5 f_s5 => ?_)
  refine pf_ite ?_ ?_
  · refine pf_up2 (c := 1035) f_s5 (rfl) (Or.inr (Or.inr (Or.inr (Or.inr (Or.inr (Or.inr (⟨by omega, by omega⟩))))))) (fun s6 f_s6 => ?_)
    refine pf_bnd (fr_X4_think hF) (ww_94) f_s6 (fun r7 s8 f_s8 => ?_)
    exact fl_X4_lots_46 hF _ _ _ _ f_s8
  · refine pf_bnd (fr_X4_refuse hF) (ww_95) f_s5 (fun r9 s10 f_s10 => ?_)
    exact pf_ret f_s10
theorem ww_96 : ∀ c, wf_48 c → wf_71 c := fun c h => Or.inl (h)
set_option maxRecDepth 100000 in
theorem fl_X4_count_99 {F : Nat} (hF : 1000 ≤ F) {τ : Mem} : ∀ (N : Nat) (x2 : Int32) (x3 : Int32) (σ : Mem), fr wf_71 τ σ → pf wf_71 (lp_X4_count_99 F N x2 x3 σ) τ := by
  intro N
  induction N with
  | zero => intro _ _ _ _; exact pf_none rfl
  | succ N ih =>
    intro x2 x3 σ f_σ
    rw [lp_X4_count_99_s]
    refine pf_ite ?_ ?_
    · exact pf_ret f_σ
    · refine pf_bnd (fr_X4_hoursOf hF) (fun _ h => h.elim) f_σ (fun r1 s2 f_s2 => ?_)
      exact ih _ _ _ f_s2
set_option maxRecDepth 100000 in
theorem fr_X4_count {F : Nat} (hF : 1000 ≤ F) {x1 : Int32} {σ : Mem} : pf wf_71 (f_X4_count F x1 σ) σ := by
  have f_σ : fr wf_71 σ σ := fr_rf
  rw [f_X4_count_e]
  refine pf_up2 (c := 1010) f_σ (rfl) (Or.inr (⟨by omega, by omega⟩)) (fun s1 f_s1 => ?_)
  refine pf_ite ?_ ?_
  · exact pf_ret f_s1
  · refine pf_ite ?_ ?_
    · exact pf_ret f_s1
    · refine pf_ite ?_ ?_
      · exact pf_ret f_s1
      · refine pf_ite ?_ ?_
        · exact pf_ret f_s1
        · refine pf_ite ?_ ?_
          · refine pf_bnd (fr_X4_owned hF) (ww_96) f_s1 (fun r2 s3 f_s3 => ?_)
            exact pf_ret f_s3
          · refine pf_ite ?_ ?_
            · refine pf_bnd (fr_X4_allShown hF) (fun _ h => h.elim) f_s1 (fun r4 s5 f_s5 => ?_)
              refine pf_bnd (fr_X4_onesOf hF) (fun _ h => h.elim) f_s5 (fun r6 s7 f_s7 => ?_)
              exact pf_ret f_s7
            · refine pf_ite ?_ ?_
              · exact fl_X4_count_99 hF _ _ _ _ f_s1
              · refine pf_ite ?_ ?_
                · exact pf_ret f_s1
                · refine pf_ite ?_ ?_
                  · exact pf_ret f_s1
                  · refine pf_ite ?_ ?_
                    · exact pf_ret f_s1
                    · refine pf_bnd (fr_X4_in hF) (fun _ h => h.elim) f_s1 (fun r8 s9 f_s9 => ?_)
                      refine pf_ite ?_ ?_
                      · exact pf_ret f_s9
                      · refine pf_chk (fun v10 => ?_)
                        exact pf_ret f_s9
