def wf_54 (c : Nat) : Prop := (104 ≤ c ∧ c ≤ 107) ∨ (1003 ≤ c ∧ c ≤ 1003)
set_option maxRecDepth 100000 in
theorem fl_X4_lookerComes_52 {F : Nat} (hF : 1000 ≤ F) {τ : Mem} : ∀ (N : Nat) (x3 : Int32) (σ : Mem), fr wf_54 τ σ → pf wf_54 (lp_X4_lookerComes_52 F N x3 σ) τ := by
  intro N
  induction N with
  | zero => intro _ _ _; exact pf_none rfl
  | succ N ih =>
    intro x3 σ f_σ
    rw [lp_X4_lookerComes_52_s]
    refine pf_ite ?_ ?_
    · refine pf_up2 (c := 1003) f_σ (rfl) (Or.inr (⟨by omega, by omega⟩)) (fun s1 f_s1 => ?_)
      exact pf_ret f_s1
    · refine pf_chk (fun v2 => ?_)
      refine pf_up2 (c := 107) f_σ (rfl) (Or.inl (⟨by omega, by omega⟩)) (fun s3 f_s3 => ?_)
      exact ih _ _ f_s3
set_option maxRecDepth 100000 in
theorem fl_X4_lookerComes_22 {F : Nat} (hF : 1000 ≤ F) {τ : Mem} : ∀ (N : Nat) (x3 : Int32) (σ : Mem), fr wf_54 τ σ → pf wf_54 (lp_X4_lookerComes_22 F N x3 σ) τ := by
  intro N
  induction N with
  | zero => intro _ _ _; exact pf_none rfl
  | succ N ih =>
    intro x3 σ f_σ
    rw [lp_X4_lookerComes_22_s]
    refine pf_ite ?_ ?_
    · exact fl_X4_lookerComes_52 hF _ _ _ f_σ
    · refine pf_chk (fun v1 => ?_)
      refine pf_up2 (c := 106) f_σ (rfl) (Or.inl (⟨by omega, by omega⟩)) (fun s2 f_s2 => ?_)
      exact ih _ _ f_s2
set_option maxRecDepth 100000 in
theorem fr_X4_lookerComes {F : Nat} (hF : 1000 ≤ F) {x1 : Int32} {x2 : Int32} {σ : Mem} : pf wf_54 (f_X4_lookerComes F x1 x2 σ) σ := by
  have f_σ : fr wf_54 σ σ := fr_rf
  rw [f_X4_lookerComes_e]
  refine pf_chk (fun v1 => ?_)
  refine pf_up2 (c := 104) f_σ (rfl) (Or.inl (⟨by omega, by omega⟩)) (fun s2 f_s2 => ?_)
  refine pf_chk (fun v3 => ?_)
  refine pf_up2 (c := 105) f_s2 (rfl) (Or.inl (⟨by omega, by omega⟩)) (fun s4 f_s4 => ?_)
  exact fl_X4_lookerComes_22 hF _ _ _ f_s4
def wf_55 (c : Nat) : Prop := (106 ≤ c ∧ c ≤ 106)
set_option maxRecDepth 100000 in
theorem fl_X4_stand_3 {F : Nat} (hF : 1000 ≤ F) {x1 : Int32} {x3 : Int32} {x4 : Int32} {τ : Mem} : ∀ (N : Nat) (x5 : Int32) (σ : Mem), fr wf_55 τ σ → pf wf_55 (lp_X4_stand_3 F x1 x3 x4 N x5 σ) τ := by
  intro N
  induction N with
  | zero => intro _ _ _; exact pf_none rfl
  | succ N ih =>
    intro x5 σ f_σ
    rw [lp_X4_stand_3_s]
    refine pf_ite ?_ ?_
    · exact pf_ret f_σ
    · refine pf_ite ?_ ?_
      · rw [j_X4_stand_34_e]
        refine pf_chk (fun v1 => ?_)
        refine pf_up2 (c := 106) f_σ (rfl) (⟨by omega, by omega⟩) (fun s2 f_s2 => ?_)
        exact ih _ _ f_s2
      · rw [j_X4_stand_34_e]
        refine pf_chk (fun v3 => ?_)
        refine pf_up2 (c := 106) f_σ (rfl) (⟨by omega, by omega⟩) (fun s4 f_s4 => ?_)
        exact ih _ _ f_s4
set_option maxRecDepth 100000 in
theorem fr_X4_stand {F : Nat} (hF : 1000 ≤ F) {x1 : Int32} {x2 : Int32} {x3 : Int32} {x4 : Int32} {σ : Mem} : pf wf_55 (f_X4_stand F x1 x2 x3 x4 σ) σ := by
  have f_σ : fr wf_55 σ σ := fr_rf
  rw [f_X4_stand_e]
  exact fl_X4_stand_3 hF _ _ _ f_σ
def wf_56 (c : Nat) : Prop := (102 ≤ c ∧ c ≤ 107) ∨ (109 ≤ c ∧ c ≤ 109) ∨ (1001 ≤ c ∧ c ≤ 1001) ∨ (1003 ≤ c ∧ c ≤ 1003) ∨ (1008 ≤ c ∧ c ≤ 1009)
theorem ww_42 : ∀ c, wf_54 c → wf_56 c := fun c h => h.elim (fun a => Or.inl (⟨Nat.le_trans (by omega) (a).1, Nat.le_trans (a).2 (by omega)⟩)) (fun b0 => Or.inr (Or.inr (Or.inr (Or.inl (b0)))))
theorem ww_43 : ∀ c, wf_55 c → wf_56 c := fun c h => Or.inl (⟨Nat.le_trans (by omega) (h).1, Nat.le_trans (h).2 (by omega)⟩)
theorem ww_44 : ∀ c, wf_49 c → wf_56 c := fun c h => h.elim (fun a => Or.inl (⟨Nat.le_trans (by omega) (a).1, Nat.le_trans (a).2 (by omega)⟩)) (fun b0 => b0.elim (fun a => Or.inr (Or.inl (a))) (fun b1 => Or.inr (Or.inr (Or.inr (Or.inr (⟨Nat.le_trans (by omega) (b1).1, Nat.le_trans (b1).2 (by omega)⟩))))))
set_option maxRecDepth 100000 in
theorem fr_X4_comesTold {F : Nat} (hF : 1000 ≤ F) {x1 : Int32} {σ : Mem} : pf wf_56 (f_X4_comesTold F x1 σ) σ := by
  have f_σ : fr wf_56 σ σ := fr_rf
  rw [f_X4_comesTold_e]
  refine pf_chk (fun v1 => ?_)
  refine pf_lt (fun z2 _ => ?_)
  refine pf_chk (fun v3 => ?_)
  refine pf_lt (fun z4 _ => ?_)
  refine pf_chk (fun v5 => ?_)
  refine pf_lt (fun z6 _ => ?_)
  refine pf_chk (fun v7 => ?_)
  refine pf_lt (fun z8 _ => ?_)
  refine pf_chk (fun v9 => ?_)
  refine pf_ite ?_ ?_
  · refine pf_ite ?_ ?_
    · rw [j_X4_comesTold_185_e]
      rw [j_X4_comesTold_186_e]
      refine pf_ite ?_ ?_
      · rw [j_X4_comesTold_199_e]
        refine pf_bz ?_
        exact pf_ret f_σ
      · refine pf_bnd (fr_X4_lookerComes hF) (ww_42) f_σ (fun r10 s11 f_s11 => ?_)
        rw [j_X4_comesTold_199_e]
        refine pf_bz ?_
        exact pf_ret f_s11
    · refine pf_ite ?_ ?_
      · rw [j_X4_comesTold_185_e]
        rw [j_X4_comesTold_186_e]
        refine pf_ite ?_ ?_
        · rw [j_X4_comesTold_199_e]
          refine pf_bz ?_
          exact pf_ret f_σ
        · refine pf_bnd (fr_X4_lookerComes hF) (ww_42) f_σ (fun r12 s13 f_s13 => ?_)
          rw [j_X4_comesTold_199_e]
          refine pf_bz ?_
          exact pf_ret f_s13
      · rw [j_X4_comesTold_186_e]
        refine pf_ite ?_ ?_
        · rw [j_X4_comesTold_199_e]
          refine pf_bz ?_
          exact pf_ret f_σ
        · refine pf_bnd (fr_X4_lookerComes hF) (ww_42) f_σ (fun r14 s15 f_s15 => ?_)
          rw [j_X4_comesTold_199_e]
          refine pf_bz ?_
          exact pf_ret f_s15
  · refine pf_ite ?_ ?_
    · refine pf_ite ?_ ?_
      · rw [j_X4_comesTold_136_e]
        rw [j_X4_comesTold_137_e]
        refine pf_ite ?_ ?_
        · rw [j_X4_comesTold_164_e]
          refine pf_bz ?_
          exact pf_ret f_σ
        · refine pf_chk (fun v16 => ?_)
          refine pf_up2 (c := 103) f_σ (rfl) (Or.inl (⟨by omega, by omega⟩)) (fun s17 f_s17 => ?_)
          refine pf_up2 (c := 1001) f_s17 (rfl) (Or.inr (Or.inr (Or.inl (⟨by omega, by omega⟩)))) (fun s18 f_s18 => ?_)
          rw [j_X4_comesTold_164_e]
          refine pf_bz ?_
          exact pf_ret f_s18
      · refine pf_ite ?_ ?_
        · rw [j_X4_comesTold_136_e]
          rw [j_X4_comesTold_137_e]
          refine pf_ite ?_ ?_
          · rw [j_X4_comesTold_164_e]
            refine pf_bz ?_
            exact pf_ret f_σ
          · refine pf_chk (fun v19 => ?_)
            refine pf_up2 (c := 103) f_σ (rfl) (Or.inl (⟨by omega, by omega⟩)) (fun s20 f_s20 => ?_)
            refine pf_up2 (c := 1001) f_s20 (rfl) (Or.inr (Or.inr (Or.inl (⟨by omega, by omega⟩)))) (fun s21 f_s21 => ?_)
            rw [j_X4_comesTold_164_e]
            refine pf_bz ?_
            exact pf_ret f_s21
        · rw [j_X4_comesTold_137_e]
          refine pf_ite ?_ ?_
          · rw [j_X4_comesTold_164_e]
            refine pf_bz ?_
            exact pf_ret f_σ
          · refine pf_chk (fun v22 => ?_)
            refine pf_up2 (c := 103) f_σ (rfl) (Or.inl (⟨by omega, by omega⟩)) (fun s23 f_s23 => ?_)
            refine pf_up2 (c := 1001) f_s23 (rfl) (Or.inr (Or.inr (Or.inl (⟨by omega, by omega⟩)))) (fun s24 f_s24 => ?_)
            rw [j_X4_comesTold_164_e]
            refine pf_bz ?_
            exact pf_ret f_s24
    · refine pf_ite ?_ ?_
      · refine pf_bnd (fr_X4_isLooker hF) (fun _ h => h.elim) f_σ (fun r25 s26 f_s26 => ?_)
        refine pf_ite ?_ ?_
        · rw [j_X4_comesTold_243_e]
          rw [j_X4_comesTold_244_e]
          refine pf_ite ?_ ?_
          · rw [j_X4_comesTold_261_e]
            refine pf_bz ?_
            exact pf_ret f_s26
          · refine pf_bnd (fr_X4_stand hF) (ww_43) f_s26 (fun r27 s28 f_s28 => ?_)
            rw [j_X4_comesTold_261_e]
            refine pf_bz ?_
            exact pf_ret f_s28
        · refine pf_ite ?_ ?_
          · rw [j_X4_comesTold_243_e]
            rw [j_X4_comesTold_244_e]
            refine pf_ite ?_ ?_
            · rw [j_X4_comesTold_261_e]
              refine pf_bz ?_
              exact pf_ret f_s26
            · refine pf_bnd (fr_X4_stand hF) (ww_43) f_s26 (fun r29 s30 f_s30 => ?_)
              rw [j_X4_comesTold_261_e]
              refine pf_bz ?_
              exact pf_ret f_s30
          · refine pf_ite ?_ ?_
            · rw [j_X4_comesTold_243_e]
              rw [j_X4_comesTold_244_e]
              refine pf_ite ?_ ?_
              · rw [j_X4_comesTold_261_e]
                refine pf_bz ?_
                exact pf_ret f_s26
              · refine pf_bnd (fr_X4_stand hF) (ww_43) f_s26 (fun r31 s32 f_s32 => ?_)
                rw [j_X4_comesTold_261_e]
                refine pf_bz ?_
                exact pf_ret f_s32
            · refine pf_ite ?_ ?_
              · rw [j_X4_comesTold_239_e]
                rw [j_X4_comesTold_244_e]
                refine pf_ite ?_ ?_
                · rw [j_X4_comesTold_261_e]
                  refine pf_bz ?_
                  exact pf_ret f_s26
                · refine pf_bnd (fr_X4_stand hF) (ww_43) f_s26 (fun r33 s34 f_s34 => ?_)
                  rw [j_X4_comesTold_261_e]
                  refine pf_bz ?_
                  exact pf_ret f_s34
              · refine pf_bnd (fr_X4_isPane hF) (fun _ h => h.elim) f_s26 (fun r35 s36 f_s36 => ?_)
                refine pf_ite ?_ ?_
                · rw [j_X4_comesTold_243_e]
                  rw [j_X4_comesTold_244_e]
                  refine pf_ite ?_ ?_
                  · rw [j_X4_comesTold_261_e]
                    refine pf_bz ?_
                    exact pf_ret f_s36
                  · refine pf_bnd (fr_X4_stand hF) (ww_43) f_s36 (fun r37 s38 f_s38 => ?_)
                    rw [j_X4_comesTold_261_e]
                    refine pf_bz ?_
                    exact pf_ret f_s38
                · rw [j_X4_comesTold_239_e]
                  rw [j_X4_comesTold_244_e]
                  refine pf_ite ?_ ?_
                  · rw [j_X4_comesTold_261_e]
                    refine pf_bz ?_
                    exact pf_ret f_s36
                  · refine pf_bnd (fr_X4_stand hF) (ww_43) f_s36 (fun r39 s40 f_s40 => ?_)
                    rw [j_X4_comesTold_261_e]
                    refine pf_bz ?_
                    exact pf_ret f_s40
      · refine pf_ite ?_ ?_
        · refine pf_up2 (c := 1008) f_σ (rfl) (Or.inr (Or.inr (Or.inr (Or.inr (⟨by omega, by omega⟩))))) (fun s41 f_s41 => ?_)
          refine pf_ite ?_ ?_
          · exact pf_ret f_s41
          · exact pf_ret f_s41
        · refine pf_ite ?_ ?_
          · refine pf_ite ?_ ?_
            · rw [j_X4_comesTold_275_e]
              refine pf_ite ?_ ?_
              · rw [j_X4_comesTold_289_e]
                refine pf_bz ?_
                exact pf_ret f_σ
              · refine pf_chk (fun v42 => ?_)
                refine pf_up2 (c := 102) f_σ (rfl) (Or.inl (⟨by omega, by omega⟩)) (fun s43 f_s43 => ?_)
                rw [j_X4_comesTold_289_e]
                refine pf_bz ?_
                exact pf_ret f_s43
            · rw [j_X4_comesTold_275_e]
              refine pf_ite ?_ ?_
              · rw [j_X4_comesTold_289_e]
                refine pf_bz ?_
                exact pf_ret f_σ
              · refine pf_chk (fun v44 => ?_)
                refine pf_up2 (c := 102) f_σ (rfl) (Or.inl (⟨by omega, by omega⟩)) (fun s45 f_s45 => ?_)
                rw [j_X4_comesTold_289_e]
                refine pf_bz ?_
                exact pf_ret f_s45
          · refine pf_ite ?_ ?_
            · refine pf_bnd (fr_X4_isPane hF) (fun _ h => h.elim) f_σ (fun r46 s47 f_s47 => ?_)
              refine pf_ite ?_ ?_
              · rw [j_X4_comesTold_310_e]
                rw [j_X4_comesTold_311_e]
                refine pf_ite ?_ ?_
                · rw [j_X4_comesTold_330_e]
                  refine pf_bz ?_
                  exact pf_ret f_s47
                · refine pf_chk (fun v48 => ?_)
                  refine pf_up2 (c := 103) f_s47 (rfl) (Or.inl (⟨by omega, by omega⟩)) (fun s49 f_s49 => ?_)
                  rw [j_X4_comesTold_330_e]
                  refine pf_bz ?_
                  exact pf_ret f_s49
              · refine pf_ite ?_ ?_
                · rw [j_X4_comesTold_310_e]
                  rw [j_X4_comesTold_311_e]
                  refine pf_ite ?_ ?_
                  · rw [j_X4_comesTold_330_e]
                    refine pf_bz ?_
                    exact pf_ret f_s47
                  · refine pf_chk (fun v50 => ?_)
                    refine pf_up2 (c := 103) f_s47 (rfl) (Or.inl (⟨by omega, by omega⟩)) (fun s51 f_s51 => ?_)
                    rw [j_X4_comesTold_330_e]
                    refine pf_bz ?_
                    exact pf_ret f_s51
                · rw [j_X4_comesTold_311_e]
                  refine pf_ite ?_ ?_
                  · rw [j_X4_comesTold_330_e]
                    refine pf_bz ?_
                    exact pf_ret f_s47
                  · refine pf_chk (fun v52 => ?_)
                    refine pf_up2 (c := 103) f_s47 (rfl) (Or.inl (⟨by omega, by omega⟩)) (fun s53 f_s53 => ?_)
                    rw [j_X4_comesTold_330_e]
                    refine pf_bz ?_
                    exact pf_ret f_s53
            · refine pf_bnd (fr_X4_in hF) (fun _ h => h.elim) f_σ (fun r54 s55 f_s55 => ?_)
              refine pf_ite ?_ ?_
              · rw [j_X4_comesTold_377_e]
                rw [j_X4_comesTold_378_e]
                refine pf_ite ?_ ?_
                · rw [j_X4_comesTold_390_e]
                  refine pf_bz ?_
                  exact pf_ret f_s55
                · refine pf_bnd (fr_X4_goDays hF) (ww_44) f_s55 (fun r56 s57 f_s57 => ?_)
                  rw [j_X4_comesTold_390_e]
                  refine pf_bz ?_
                  exact pf_ret f_s57
              · refine pf_ite ?_ ?_
                · rw [j_X4_comesTold_377_e]
                  rw [j_X4_comesTold_378_e]
                  refine pf_ite ?_ ?_
                  · rw [j_X4_comesTold_390_e]
                    refine pf_bz ?_
                    exact pf_ret f_s55
                  · refine pf_bnd (fr_X4_goDays hF) (ww_44) f_s55 (fun r58 s59 f_s59 => ?_)
                    rw [j_X4_comesTold_390_e]
                    refine pf_bz ?_
                    exact pf_ret f_s59
                · rw [j_X4_comesTold_378_e]
                  refine pf_ite ?_ ?_
                  · rw [j_X4_comesTold_390_e]
                    refine pf_bz ?_
                    exact pf_ret f_s55
                  · refine pf_bnd (fr_X4_goDays hF) (ww_44) f_s55 (fun r60 s61 f_s61 => ?_)
                    rw [j_X4_comesTold_390_e]
                    refine pf_bz ?_
                    exact pf_ret f_s61
def wf_57 (c : Nat) : Prop := (115 ≤ c ∧ c ≤ 115) ∨ (1025 ≤ c ∧ c ≤ 1027)
set_option maxRecDepth 100000 in
theorem fr_X4_think {F : Nat} (hF : 1000 ≤ F) {σ : Mem} : pf wf_57 (f_X4_think F σ) σ := by
  rw [f_X4_think_e]
  refine pf_bnd (pf_sf (wt_carryAll (by omega) (Or.inr rfl) (by unfold wiK; omega)) (fun _ s hC => wt_Car_fr1 (by unfold wiK; omega) (by decide) hC)) (fun c h => by unfold wf_57; omega) fr_rf (fun _ _ f => pf_ret f)
def wf_58 (c : Nat) : Prop := (102 ≤ c ∧ c ≤ 107) ∨ (1001 ≤ c ∧ c ≤ 1001) ∨ (1003 ≤ c ∧ c ≤ 1003) ∨ (1008 ≤ c ∧ c ≤ 1009) ∨ (1025 ≤ c ∧ c ≤ 1027)
set_option maxRecDepth 100000 in
theorem fr_X4_again {F : Nat} (hF : 1000 ≤ F) {σ : Mem} : pf wf_58 (f_X4_again F σ) σ := by
  rw [f_X4_again_e]
  refine pf_bnd (pf_sf (wt_carryAll (by omega) (Or.inl rfl) (by unfold wiK; omega)) (fun _ s hC => wt_Car_fr0 hC)) (fun c h => by unfold wf_58; omega) fr_rf (fun _ _ f => pf_ret f)
def wf_59 (c : Nat) : Prop := (102 ≤ c ∧ c ≤ 107) ∨ (109 ≤ c ∧ c ≤ 109) ∨ (112 ≤ c ∧ c ≤ 115) ∨ (1001 ≤ c ∧ c ≤ 1001) ∨ (1003 ≤ c ∧ c ≤ 1003) ∨ (1008 ≤ c ∧ c ≤ 1010) ∨ (1015 ≤ c ∧ c ≤ 1018) ∨ (1025 ≤ c ∧ c ≤ 1027) ∨ (1030 ≤ c ∧ c ≤ 1030)
theorem ww_45 : ∀ c, wf_56 c → wf_59 c := fun c h => h.elim (fun a => Or.inl (a)) (fun b0 => b0.elim (fun a => Or.inr (Or.inl (a))) (fun b1 => b1.elim (fun a => Or.inr (Or.inr (Or.inr (Or.inl (a))))) (fun b2 => b2.elim (fun a => Or.inr (Or.inr (Or.inr (Or.inr (Or.inl (a)))))) (fun b3 => Or.inr (Or.inr (Or.inr (Or.inr (Or.inr (Or.inl (⟨Nat.le_trans (by omega) (b3).1, Nat.le_trans (b3).2 (by omega)⟩))))))))))
theorem ww_46 : ∀ c, wf_58 c → wf_59 c := fun c h => h.elim (fun a => Or.inl (a)) (fun b0 => b0.elim (fun a => Or.inr (Or.inr (Or.inr (Or.inl (a))))) (fun b1 => b1.elim (fun a => Or.inr (Or.inr (Or.inr (Or.inr (Or.inl (a)))))) (fun b2 => b2.elim (fun a => Or.inr (Or.inr (Or.inr (Or.inr (Or.inr (Or.inl (⟨Nat.le_trans (by omega) (a).1, Nat.le_trans (a).2 (by omega)⟩))))))) (fun b3 => Or.inr (Or.inr (Or.inr (Or.inr (Or.inr (Or.inr (Or.inr (Or.inl (b3))))))))))))
theorem ww_47 : ∀ c, wf_53 c → wf_59 c := fun c h => h.elim (fun a => Or.inr (Or.inr (Or.inl (⟨Nat.le_trans (by omega) (a).1, Nat.le_trans (a).2 (by omega)⟩)))) (fun b0 => Or.inr (Or.inr (Or.inr (Or.inr (Or.inr (Or.inr (Or.inl (⟨Nat.le_trans (by omega) (b0).1, Nat.le_trans (b0).2 (by omega)⟩))))))))
theorem ww_48 : ∀ c, wf_57 c → wf_59 c := fun c h => h.elim (fun a => Or.inr (Or.inr (Or.inl (⟨Nat.le_trans (by omega) (a).1, Nat.le_trans (a).2 (by omega)⟩)))) (fun b0 => Or.inr (Or.inr (Or.inr (Or.inr (Or.inr (Or.inr (Or.inr (Or.inl (b0)))))))))
set_option maxRecDepth 100000 in
theorem fl_X4_terrace_79 {F : Nat} (hF : 1000 ≤ F) {τ : Mem} : ∀ (N : Nat) (x1 : Int32) (σ : Mem), fr wf_59 τ σ → pf wf_59 (lp_X4_terrace_79 F N x1 σ) τ := by
  intro N
  induction N with
  | zero => intro _ _ _; exact pf_none rfl
  | succ N ih =>
    intro x1 σ f_σ
    rw [lp_X4_terrace_79_s]
    refine pf_ite ?_ ?_
    · refine pf_up2 (c := 1030) f_σ (rfl) (Or.inr (Or.inr (Or.inr (Or.inr (Or.inr (Or.inr (Or.inr (Or.inr (⟨by omega, by omega⟩))))))))) (fun s1 f_s1 => ?_)
      exact pf_ret f_s1
    · refine pf_bnd (fr_X4_comesTold hF) (ww_45) f_σ (fun r2 s3 f_s3 => ?_)
      refine pf_ite ?_ ?_
      · refine pf_bnd (fr_X4_again hF) (ww_46) f_s3 (fun r4 s5 f_s5 => ?_)
        refine pf_chk (fun v6 => ?_)
        exact pf_ret f_s5
      · exact ih _ _ f_s3
set_option maxRecDepth 100000 in
theorem fl_X4_terrace_20 {F : Nat} (hF : 1000 ≤ F) {τ : Mem} : ∀ (N : Nat) (σ : Mem), fr wf_59 τ σ → pf wf_59 (lp_X4_terrace_20 F N σ) τ := by
  intro N
  induction N with
  | zero => intro _ _; exact pf_none rfl
  | succ N ih =>
    intro σ f_σ
    rw [lp_X4_terrace_20_s]
    refine pf_ite ?_ ?_
    · refine pf_ite ?_ ?_
      · rw [j_X4_terrace_45_e]
        refine pf_bnd (fr_X4_readStatement hF) (ww_47) f_σ (fun r1 s2 f_s2 => ?_)
        exact ih _ f_s2
      · refine pf_ite ?_ ?_
        · rw [j_X4_terrace_52_e]
          refine pf_up2 (c := 1015) f_σ (rfl) (Or.inr (Or.inr (Or.inr (Or.inr (Or.inr (Or.inr (Or.inl (⟨by omega, by omega⟩)))))))) (fun s3 f_s3 => ?_)
          refine pf_ite ?_ ?_
          · refine pf_bnd (fr_X4_think hF) (ww_48) f_s3 (fun r4 s5 f_s5 => ?_)
            exact fl_X4_terrace_79 hF _ _ _ f_s5
          · exact pf_ret f_s3
        · rw [j_X4_terrace_45_e]
          refine pf_bnd (fr_X4_readStatement hF) (ww_47) f_σ (fun r6 s7 f_s7 => ?_)
          exact ih _ f_s7
    · rw [j_X4_terrace_52_e]
      refine pf_up2 (c := 1015) f_σ (rfl) (Or.inr (Or.inr (Or.inr (Or.inr (Or.inr (Or.inr (Or.inl (⟨by omega, by omega⟩)))))))) (fun s8 f_s8 => ?_)
      refine pf_ite ?_ ?_
      · refine pf_bnd (fr_X4_think hF) (ww_48) f_s8 (fun r9 s10 f_s10 => ?_)
        exact fl_X4_terrace_79 hF _ _ _ f_s10
      · exact pf_ret f_s8
set_option maxRecDepth 100000 in
theorem fr_X4_terrace {F : Nat} (hF : 1000 ≤ F) {σ : Mem} : pf wf_59 (f_X4_terrace F σ) σ := by
  have f_σ : fr wf_59 σ σ := fr_rf
  rw [f_X4_terrace_e]
  refine pf_up2 (c := 1010) f_σ (rfl) (Or.inr (Or.inr (Or.inr (Or.inr (Or.inr (Or.inl (⟨by omega, by omega⟩))))))) (fun s1 f_s1 => ?_)
  refine pf_up2 (c := 1016) f_s1 (rfl) (Or.inr (Or.inr (Or.inr (Or.inr (Or.inr (Or.inr (Or.inl (⟨by omega, by omega⟩)))))))) (fun s2 f_s2 => ?_)
  refine pf_up2 (c := 1017) f_s2 (rfl) (Or.inr (Or.inr (Or.inr (Or.inr (Or.inr (Or.inr (Or.inl (⟨by omega, by omega⟩)))))))) (fun s3 f_s3 => ?_)
  refine pf_up2 (c := 1018) f_s3 (rfl) (Or.inr (Or.inr (Or.inr (Or.inr (Or.inr (Or.inr (Or.inl (⟨by omega, by omega⟩)))))))) (fun s4 f_s4 => ?_)
  exact fl_X4_terrace_20 hF _ _ f_s4
def wf_60 (c : Nat) : Prop := (108 ≤ c ∧ c ≤ 108) ∨ (1010 ≤ c ∧ c ≤ 1010)
theorem ww_49 : ∀ c, wf_45 c → wf_60 c := fun c h => Or.inl (h)
set_option maxRecDepth 100000 in
theorem fl_X4_paneOf_47 {F : Nat} (hF : 1000 ≤ F) {x1 : Int32} {x2 : Int32} {τ : Mem} : ∀ (N : Nat) (x3 : Int32) (x4 : Int32) (σ : Mem), fr wf_60 τ σ → pf wf_60 (lp_X4_paneOf_47 F x1 x2 N x3 x4 σ) τ := by
  intro N
  induction N with
  | zero => intro _ _ _ _; exact pf_none rfl
  | succ N ih =>
    intro x3 x4 σ f_σ
    rw [lp_X4_paneOf_47_s]
    refine pf_ite ?_ ?_
    · refine pf_ite ?_ ?_
      · refine pf_chk (fun v1 => ?_)
        exact pf_ret f_σ
      · exact pf_ret f_σ
    · refine pf_chk (fun v2 => ?_)
      refine pf_ite ?_ ?_
      · rw [j_X4_paneOf_76_e]
        exact ih _ _ _ f_σ
      · rw [j_X4_paneOf_76_e]
        exact ih _ _ _ f_σ
set_option maxRecDepth 100000 in
theorem fr_X4_paneOf {F : Nat} (hF : 1000 ≤ F) {x1 : Int32} {x2 : Int32} {σ : Mem} : pf wf_60 (f_X4_paneOf F x1 x2 σ) σ := by
  have f_σ : fr wf_60 σ σ := fr_rf
  rw [f_X4_paneOf_e]
  refine pf_up2 (c := 1010) f_σ (rfl) (Or.inr (⟨by omega, by omega⟩)) (fun s1 f_s1 => ?_)
  refine pf_bnd (fr_X4_isPane hF) (fun _ h => h.elim) f_s1 (fun r2 s3 f_s3 => ?_)
  refine pf_ite ?_ ?_
  · rw [j_X4_paneOf_23_e]
    refine pf_bnd (fr_X4_isPane hF) (fun _ h => h.elim) f_s3 (fun r4 s5 f_s5 => ?_)
    refine pf_ite ?_ ?_
    · rw [j_X4_paneOf_38_e]
      refine pf_bnd (fr_X4_refuse hF) (ww_49) f_s5 (fun r6 s7 f_s7 => ?_)
      exact pf_ret f_s7
    · rw [j_X4_paneOf_38_e]
      refine pf_bnd (fr_X4_refuse hF) (ww_49) f_s5 (fun r8 s9 f_s9 => ?_)
      exact pf_ret f_s9
  · refine pf_bnd (fr_X4_in hF) (fun _ h => h.elim) f_s3 (fun r10 s11 f_s11 => ?_)
    refine pf_ite ?_ ?_
    · rw [j_X4_paneOf_23_e]
      refine pf_bnd (fr_X4_isPane hF) (fun _ h => h.elim) f_s11 (fun r12 s13 f_s13 => ?_)
      refine pf_ite ?_ ?_
      · rw [j_X4_paneOf_38_e]
        refine pf_bnd (fr_X4_refuse hF) (ww_49) f_s13 (fun r14 s15 f_s15 => ?_)
        exact pf_ret f_s15
      · rw [j_X4_paneOf_38_e]
        refine pf_bnd (fr_X4_refuse hF) (ww_49) f_s13 (fun r16 s17 f_s17 => ?_)
        exact pf_ret f_s17
    · exact fl_X4_paneOf_47 hF _ _ _ _ f_s11
def wf_61 (c : Nat) : Prop := (108 ≤ c ∧ c ≤ 110) ∨ (1010 ≤ c ∧ c ≤ 1010)
theorem ww_50 : ∀ c, wf_45 c → wf_61 c := fun c h => Or.inl (⟨Nat.le_trans (by omega) (h).1, Nat.le_trans (h).2 (by omega)⟩)
theorem ww_51 : ∀ c, wf_46 c → wf_61 c := fun c h => Or.inl (⟨Nat.le_trans (by omega) (h).1, Nat.le_trans (h).2 (by omega)⟩)
theorem ww_52 : ∀ c, wf_47 c → wf_61 c := fun c h => Or.inl (⟨Nat.le_trans (by omega) (h).1, Nat.le_trans (h).2 (by omega)⟩)
set_option maxRecDepth 100000 in
theorem fr_X4_lookerOf {F : Nat} (hF : 1000 ≤ F) {x1 : Int32} {x2 : Int32} {σ : Mem} : pf wf_61 (f_X4_lookerOf F x1 x2 σ) σ := by
  have f_σ : fr wf_61 σ σ := fr_rf
  rw [f_X4_lookerOf_e]
  refine pf_up2 (c := 1010) f_σ (rfl) (Or.inr (⟨by omega, by omega⟩)) (fun s1 f_s1 => ?_)
  refine pf_bnd (fr_X4_isLooker hF) (fun _ h => h.elim) f_s1 (fun r2 s3 f_s3 => ?_)
  refine pf_ite ?_ ?_
  · rw [j_X4_lookerOf_25_e]
    refine pf_bnd (fr_X4_isLooker hF) (fun _ h => h.elim) f_s3 (fun r4 s5 f_s5 => ?_)
    refine pf_ite ?_ ?_
    · rw [j_X4_lookerOf_40_e]
      refine pf_bnd (fr_X4_refuse hF) (ww_50) f_s5 (fun r6 s7 f_s7 => ?_)
      exact pf_ret f_s7
    · rw [j_X4_lookerOf_40_e]
      refine pf_bnd (fr_X4_refuse hF) (ww_50) f_s5 (fun r8 s9 f_s9 => ?_)
      exact pf_ret f_s9
  · refine pf_bnd (fr_X4_in hF) (fun _ h => h.elim) f_s3 (fun r10 s11 f_s11 => ?_)
    refine pf_ite ?_ ?_
    · rw [j_X4_lookerOf_25_e]
      refine pf_bnd (fr_X4_isLooker hF) (fun _ h => h.elim) f_s11 (fun r12 s13 f_s13 => ?_)
      refine pf_ite ?_ ?_
      · rw [j_X4_lookerOf_40_e]
        refine pf_bnd (fr_X4_refuse hF) (ww_50) f_s13 (fun r14 s15 f_s15 => ?_)
        exact pf_ret f_s15
      · rw [j_X4_lookerOf_40_e]
        refine pf_bnd (fr_X4_refuse hF) (ww_50) f_s13 (fun r16 s17 f_s17 => ?_)
        exact pf_ret f_s17
    · refine pf_bnd (fr_X4_layBrings hF) (ww_51) f_s11 (fun r18 s19 f_s19 => ?_)
      refine pf_ite ?_ ?_
      · refine pf_chk (fun v20 => ?_)
        exact pf_ret f_s19
      · refine pf_ite ?_ ?_
        · refine pf_chk (fun v21 => ?_)
          exact pf_ret f_s19
        · refine pf_ite ?_ ?_
          · refine pf_bnd (fr_X4_hoursOf hF) (fun _ h => h.elim) f_s19 (fun r22 s23 f_s23 => ?_)
            exact pf_ret f_s23
          · refine pf_bnd (fr_X4_viewsIn hF) (ww_52) f_s19 (fun r24 s25 f_s25 => ?_)
            exact pf_ret f_s25
def wf_62 (c : Nat) : Prop := (103 ≤ c ∧ c ≤ 103) ∨ (108 ≤ c ∧ c ≤ 108) ∨ (1001 ≤ c ∧ c ≤ 1001) ∨ (1010 ≤ c ∧ c ≤ 1010) ∨ (1030 ≤ c ∧ c ≤ 1030)
theorem ww_53 : ∀ c, wf_45 c → wf_62 c := fun c h => Or.inr (Or.inl (h))
set_option maxRecDepth 100000 in
theorem fr_X4_pane {F : Nat} (hF : 1000 ≤ F) {x1 : Int32} {σ : Mem} : pf wf_62 (f_X4_pane F x1 σ) σ := by
  have f_σ : fr wf_62 σ σ := fr_rf
  rw [f_X4_pane_e]
  refine pf_up2 (c := 1010) f_σ (rfl) (Or.inr (Or.inr (Or.inr (Or.inl (⟨by omega, by omega⟩))))) (fun s1 f_s1 => ?_)
  refine pf_bnd (fr_X4_wrongNumber hF) (fun _ h => h.elim) f_s1 (fun r2 s3 f_s3 => ?_)
  refine pf_ite ?_ ?_
  · refine pf_ite ?_ ?_
    · rw [j_X4_pane_33_e]
      refine pf_ite ?_ ?_
      · refine pf_chk (fun v4 => ?_)
        refine pf_up2 (c := 103) f_s3 (rfl) (Or.inl (⟨by omega, by omega⟩)) (fun s5 f_s5 => ?_)
        refine pf_up2 (c := 1001) f_s5 (rfl) (Or.inr (Or.inr (Or.inl (⟨by omega, by omega⟩)))) (fun s6 f_s6 => ?_)
        refine pf_up2 (c := 1030) f_s6 (rfl) (Or.inr (Or.inr (Or.inr (Or.inr (⟨by omega, by omega⟩))))) (fun s7 f_s7 => ?_)
        exact pf_ret f_s7
      · refine pf_bnd (fr_X4_refuse hF) (ww_53) f_s3 (fun r8 s9 f_s9 => ?_)
        exact pf_ret f_s9
    · rw [j_X4_pane_32_e]
      rw [j_X4_pane_33_e]
      refine pf_ite ?_ ?_
      · refine pf_chk (fun v10 => ?_)
        refine pf_up2 (c := 103) f_s3 (rfl) (Or.inl (⟨by omega, by omega⟩)) (fun s11 f_s11 => ?_)
        refine pf_up2 (c := 1001) f_s11 (rfl) (Or.inr (Or.inr (Or.inl (⟨by omega, by omega⟩)))) (fun s12 f_s12 => ?_)
        refine pf_up2 (c := 1030) f_s12 (rfl) (Or.inr (Or.inr (Or.inr (Or.inr (⟨by omega, by omega⟩))))) (fun s13 f_s13 => ?_)
        exact pf_ret f_s13
      · refine pf_bnd (fr_X4_refuse hF) (ww_53) f_s3 (fun r14 s15 f_s15 => ?_)
        exact pf_ret f_s15
  · rw [j_X4_pane_32_e]
    rw [j_X4_pane_33_e]
    refine pf_ite ?_ ?_
    · refine pf_chk (fun v16 => ?_)
      refine pf_up2 (c := 103) f_s3 (rfl) (Or.inl (⟨by omega, by omega⟩)) (fun s17 f_s17 => ?_)
      refine pf_up2 (c := 1001) f_s17 (rfl) (Or.inr (Or.inr (Or.inl (⟨by omega, by omega⟩)))) (fun s18 f_s18 => ?_)
      refine pf_up2 (c := 1030) f_s18 (rfl) (Or.inr (Or.inr (Or.inr (Or.inr (⟨by omega, by omega⟩))))) (fun s19 f_s19 => ?_)
      exact pf_ret f_s19
    · refine pf_bnd (fr_X4_refuse hF) (ww_53) f_s3 (fun r20 s21 f_s21 => ?_)
      exact pf_ret f_s21
def wf_63 (c : Nat) : Prop := (104 ≤ c ∧ c ≤ 108) ∨ (1003 ≤ c ∧ c ≤ 1003) ∨ (1010 ≤ c ∧ c ≤ 1010) ∨ (1030 ≤ c ∧ c ≤ 1030)
theorem ww_54 : ∀ c, wf_54 c → wf_63 c := fun c h => h.elim (fun a => Or.inl (⟨Nat.le_trans (by omega) (a).1, Nat.le_trans (a).2 (by omega)⟩)) (fun b0 => Or.inr (Or.inl (b0)))
theorem ww_55 : ∀ c, wf_45 c → wf_63 c := fun c h => Or.inl (⟨Nat.le_trans (by omega) (h).1, Nat.le_trans (h).2 (by omega)⟩)
set_option maxRecDepth 100000 in
theorem fr_X4_looker {F : Nat} (hF : 1000 ≤ F) {x1 : Int32} {x2 : Int32} {σ : Mem} : pf wf_63 (f_X4_looker F x1 x2 σ) σ := by
  have f_σ : fr wf_63 σ σ := fr_rf
  rw [f_X4_looker_e]
  refine pf_up2 (c := 1010) f_σ (rfl) (Or.inr (Or.inr (Or.inl (⟨by omega, by omega⟩)))) (fun s1 f_s1 => ?_)
  refine pf_bnd (fr_X4_in hF) (fun _ h => h.elim) f_s1 (fun r2 s3 f_s3 => ?_)
  refine pf_ite ?_ ?_
  · rw [j_X4_looker_29_e]
    refine pf_ite ?_ ?_
    · refine pf_ite ?_ ?_
      · rw [j_X4_looker_48_e]
        refine pf_ite ?_ ?_
        · refine pf_bnd (fr_X4_lookerComes hF) (ww_54) f_s3 (fun r4 s5 f_s5 => ?_)
          refine pf_up2 (c := 1030) f_s5 (rfl) (Or.inr (Or.inr (Or.inr (⟨by omega, by omega⟩)))) (fun s6 f_s6 => ?_)
          exact pf_ret f_s6
        · refine pf_bnd (fr_X4_refuse hF) (ww_55) f_s3 (fun r7 s8 f_s8 => ?_)
          exact pf_ret f_s8
      · rw [j_X4_looker_47_e]
        rw [j_X4_looker_48_e]
        refine pf_ite ?_ ?_
        · refine pf_bnd (fr_X4_lookerComes hF) (ww_54) f_s3 (fun r9 s10 f_s10 => ?_)
          refine pf_up2 (c := 1030) f_s10 (rfl) (Or.inr (Or.inr (Or.inr (⟨by omega, by omega⟩)))) (fun s11 f_s11 => ?_)
          exact pf_ret f_s11
        · refine pf_bnd (fr_X4_refuse hF) (ww_55) f_s3 (fun r12 s13 f_s13 => ?_)
          exact pf_ret f_s13
    · rw [j_X4_looker_47_e]
      rw [j_X4_looker_48_e]
      refine pf_ite ?_ ?_
      · refine pf_bnd (fr_X4_lookerComes hF) (ww_54) f_s3 (fun r14 s15 f_s15 => ?_)
        refine pf_up2 (c := 1030) f_s15 (rfl) (Or.inr (Or.inr (Or.inr (⟨by omega, by omega⟩)))) (fun s16 f_s16 => ?_)
        exact pf_ret f_s16
      · refine pf_bnd (fr_X4_refuse hF) (ww_55) f_s3 (fun r17 s18 f_s18 => ?_)
        exact pf_ret f_s18
  · refine pf_bnd (fr_X4_wrongNumber hF) (fun _ h => h.elim) f_s3 (fun r19 s20 f_s20 => ?_)
    rw [j_X4_looker_29_e]
    refine pf_ite ?_ ?_
    · refine pf_ite ?_ ?_
      · rw [j_X4_looker_48_e]
        refine pf_ite ?_ ?_
        · refine pf_bnd (fr_X4_lookerComes hF) (ww_54) f_s20 (fun r21 s22 f_s22 => ?_)
          refine pf_up2 (c := 1030) f_s22 (rfl) (Or.inr (Or.inr (Or.inr (⟨by omega, by omega⟩)))) (fun s23 f_s23 => ?_)
          exact pf_ret f_s23
        · refine pf_bnd (fr_X4_refuse hF) (ww_55) f_s20 (fun r24 s25 f_s25 => ?_)
          exact pf_ret f_s25
      · rw [j_X4_looker_47_e]
        rw [j_X4_looker_48_e]
        refine pf_ite ?_ ?_
        · refine pf_bnd (fr_X4_lookerComes hF) (ww_54) f_s20 (fun r26 s27 f_s27 => ?_)
          refine pf_up2 (c := 1030) f_s27 (rfl) (Or.inr (Or.inr (Or.inr (⟨by omega, by omega⟩)))) (fun s28 f_s28 => ?_)
          exact pf_ret f_s28
        · refine pf_bnd (fr_X4_refuse hF) (ww_55) f_s20 (fun r29 s30 f_s30 => ?_)
          exact pf_ret f_s30
    · rw [j_X4_looker_47_e]
      rw [j_X4_looker_48_e]
      refine pf_ite ?_ ?_
      · refine pf_bnd (fr_X4_lookerComes hF) (ww_54) f_s20 (fun r31 s32 f_s32 => ?_)
        refine pf_up2 (c := 1030) f_s32 (rfl) (Or.inr (Or.inr (Or.inr (⟨by omega, by omega⟩)))) (fun s33 f_s33 => ?_)
        exact pf_ret f_s33
      · refine pf_bnd (fr_X4_refuse hF) (ww_55) f_s20 (fun r34 s35 f_s35 => ?_)
        exact pf_ret f_s35
set_option maxRecDepth 100000 in
theorem fr_X4_roster {F : Nat} (hF : 1000 ≤ F) {x1 : Int32} {x2 : Int32} {σ : Mem} : pf wf_60 (f_X4_roster F x1 x2 σ) σ := by
  have f_σ : fr wf_60 σ σ := fr_rf
  rw [f_X4_roster_e]
  refine pf_up2 (c := 1010) f_σ (rfl) (Or.inr (⟨by omega, by omega⟩)) (fun s1 f_s1 => ?_)
  refine pf_bnd (fr_X4_isLooker hF) (fun _ h => h.elim) f_s1 (fun r2 s3 f_s3 => ?_)
  refine pf_ite ?_ ?_
  · rw [j_X4_roster_34_e]
    refine pf_bnd (fr_X4_refuse hF) (ww_49) f_s3 (fun r4 s5 f_s5 => ?_)
    exact pf_ret f_s5
  · refine pf_bnd (fr_X4_isHour hF) (fun _ h => h.elim) f_s3 (fun r6 s7 f_s7 => ?_)
    refine pf_ite ?_ ?_
    · rw [j_X4_roster_34_e]
      refine pf_bnd (fr_X4_refuse hF) (ww_49) f_s7 (fun r8 s9 f_s9 => ?_)
      exact pf_ret f_s9
    · refine pf_chk (fun v10 => ?_)
      exact pf_ret f_s7
def wf_64 (c : Nat) : Prop := (107 ≤ c ∧ c ≤ 110) ∨ (1009 ≤ c ∧ c ≤ 1010) ∨ (1030 ≤ c ∧ c ≤ 1030)
theorem ww_56 : ∀ c, wf_49 c → wf_64 c := fun c h => h.elim (fun a => Or.inl (⟨Nat.le_trans (by omega) (a).1, Nat.le_trans (a).2 (by omega)⟩)) (fun b0 => b0.elim (fun a => Or.inl (⟨Nat.le_trans (by omega) (a).1, Nat.le_trans (a).2 (by omega)⟩)) (fun b1 => Or.inr (Or.inl (⟨Nat.le_trans (by omega) (b1).1, Nat.le_trans (b1).2 (by omega)⟩))))
theorem ww_57 : ∀ c, wf_48 c → wf_64 c := fun c h => Or.inl (⟨Nat.le_trans (by omega) (h).1, Nat.le_trans (h).2 (by omega)⟩)
theorem ww_58 : ∀ c, wf_45 c → wf_64 c := fun c h => Or.inl (⟨Nat.le_trans (by omega) (h).1, Nat.le_trans (h).2 (by omega)⟩)
set_option maxRecDepth 100000 in
theorem fr_X4_days {F : Nat} (hF : 1000 ≤ F) {x1 : Int32} {σ : Mem} : pf wf_64 (f_X4_days F x1 σ) σ := by
  have f_σ : fr wf_64 σ σ := fr_rf
  rw [f_X4_days_e]
  refine pf_up2 (c := 1010) f_σ (rfl) (Or.inr (Or.inl (⟨by omega, by omega⟩))) (fun s1 f_s1 => ?_)
  refine pf_bnd (fr_X4_wrongNumber hF) (fun _ h => h.elim) f_s1 (fun r2 s3 f_s3 => ?_)
  refine pf_ite ?_ ?_
  · refine pf_ite ?_ ?_
    · rw [j_X4_days_34_e]
      rw [j_X4_days_35_e]
      refine pf_ite ?_ ?_
      · refine pf_bnd (fr_X4_goDays hF) (ww_56) f_s3 (fun r4 s5 f_s5 => ?_)
        refine pf_up2 (c := 1030) f_s5 (rfl) (Or.inr (Or.inr (⟨by omega, by omega⟩))) (fun s6 f_s6 => ?_)
        refine pf_bnd (fr_X4_owned hF) (ww_57) f_s6 (fun r7 s8 f_s8 => ?_)
        exact pf_ret f_s8
      · refine pf_bnd (fr_X4_refuse hF) (ww_58) f_s3 (fun r9 s10 f_s10 => ?_)
        exact pf_ret f_s10
    · rw [j_X4_days_35_e]
      refine pf_ite ?_ ?_
      · refine pf_bnd (fr_X4_goDays hF) (ww_56) f_s3 (fun r11 s12 f_s12 => ?_)
        refine pf_up2 (c := 1030) f_s12 (rfl) (Or.inr (Or.inr (⟨by omega, by omega⟩))) (fun s13 f_s13 => ?_)
        refine pf_bnd (fr_X4_owned hF) (ww_57) f_s13 (fun r14 s15 f_s15 => ?_)
        exact pf_ret f_s15
      · refine pf_bnd (fr_X4_refuse hF) (ww_58) f_s3 (fun r16 s17 f_s17 => ?_)
        exact pf_ret f_s17
  · rw [j_X4_days_34_e]
    rw [j_X4_days_35_e]
    refine pf_ite ?_ ?_
    · refine pf_bnd (fr_X4_goDays hF) (ww_56) f_s3 (fun r18 s19 f_s19 => ?_)
      refine pf_up2 (c := 1030) f_s19 (rfl) (Or.inr (Or.inr (⟨by omega, by omega⟩))) (fun s20 f_s20 => ?_)
      refine pf_bnd (fr_X4_owned hF) (ww_57) f_s20 (fun r21 s22 f_s22 => ?_)
      exact pf_ret f_s22
    · refine pf_bnd (fr_X4_refuse hF) (ww_58) f_s3 (fun r23 s24 f_s24 => ?_)
      exact pf_ret f_s24
set_option maxRecDepth 100000 in
theorem fr_X4_counts {F : Nat} (hF : 1000 ≤ F) {x1 : Int32} {x2 : Int32} {x3 : Int32} {σ : Mem} : pf wf_60 (f_X4_counts F x1 x2 x3 σ) σ := by
  have f_σ : fr wf_60 σ σ := fr_rf
  rw [f_X4_counts_e]
  refine pf_up2 (c := 1010) f_σ (rfl) (Or.inr (⟨by omega, by omega⟩)) (fun s1 f_s1 => ?_)
  refine pf_bnd (fr_X4_isLooker hF) (fun _ h => h.elim) f_s1 (fun r2 s3 f_s3 => ?_)
  refine pf_ite ?_ ?_
  · rw [j_X4_counts_29_e]
    rw [j_X4_counts_30_e]
    refine pf_ite ?_ ?_
    · refine pf_ite ?_ ?_
      · refine pf_chk (fun v4 => ?_)
        exact pf_ret f_s3
      · refine pf_bnd (fr_X4_bringsOf hF) (fun _ h => h.elim) f_s3 (fun r5 s6 f_s6 => ?_)
        exact pf_ret f_s6
    · refine pf_bnd (fr_X4_refuse hF) (ww_49) f_s3 (fun r7 s8 f_s8 => ?_)
      exact pf_ret f_s8
  · refine pf_bnd (fr_X4_isView hF) (fun _ h => h.elim) f_s3 (fun r9 s10 f_s10 => ?_)
    refine pf_ite ?_ ?_
    · rw [j_X4_counts_29_e]
      rw [j_X4_counts_30_e]
      refine pf_ite ?_ ?_
      · refine pf_ite ?_ ?_
        · refine pf_chk (fun v11 => ?_)
          exact pf_ret f_s10
        · refine pf_bnd (fr_X4_bringsOf hF) (fun _ h => h.elim) f_s10 (fun r12 s13 f_s13 => ?_)
          exact pf_ret f_s13
      · refine pf_bnd (fr_X4_refuse hF) (ww_49) f_s10 (fun r14 s15 f_s15 => ?_)
        exact pf_ret f_s15
    · refine pf_bnd (fr_X4_wrongBit hF) (fun _ h => h.elim) f_s10 (fun r16 s17 f_s17 => ?_)
      rw [j_X4_counts_30_e]
      refine pf_ite ?_ ?_
      · refine pf_ite ?_ ?_
        · refine pf_chk (fun v18 => ?_)
          exact pf_ret f_s17
        · refine pf_bnd (fr_X4_bringsOf hF) (fun _ h => h.elim) f_s17 (fun r19 s20 f_s20 => ?_)
          exact pf_ret f_s20
      · refine pf_bnd (fr_X4_refuse hF) (ww_49) f_s17 (fun r21 s22 f_s22 => ?_)
        exact pf_ret f_s22
set_option maxRecDepth 100000 in
theorem fr_X4_owner {F : Nat} (hF : 1000 ≤ F) {x1 : Int32} {x2 : Int32} {σ : Mem} : pf wf_61 (f_X4_owner F x1 x2 σ) σ := by
  have f_σ : fr wf_61 σ σ := fr_rf
  rw [f_X4_owner_e]
  refine pf_up2 (c := 1010) f_σ (rfl) (Or.inr (⟨by omega, by omega⟩)) (fun s1 f_s1 => ?_)
  refine pf_bnd (fr_X4_isView hF) (fun _ h => h.elim) f_s1 (fun r2 s3 f_s3 => ?_)
  refine pf_ite ?_ ?_
  · rw [j_X4_owner_24_e]
    refine pf_ite ?_ ?_
    · refine pf_bnd (fr_X4_layBrings hF) (ww_51) f_s3 (fun r4 s5 f_s5 => ?_)
      refine pf_bnd (fr_X4_ownerIn hF) (ww_52) f_s5 (fun r6 s7 f_s7 => ?_)
      exact pf_ret f_s7
    · refine pf_bnd (fr_X4_refuse hF) (ww_50) f_s3 (fun r8 s9 f_s9 => ?_)
      exact pf_ret f_s9
  · refine pf_bnd (fr_X4_wrongNumber hF) (fun _ h => h.elim) f_s3 (fun r10 s11 f_s11 => ?_)
    rw [j_X4_owner_24_e]
    refine pf_ite ?_ ?_
    · refine pf_bnd (fr_X4_layBrings hF) (ww_51) f_s11 (fun r12 s13 f_s13 => ?_)
      refine pf_bnd (fr_X4_ownerIn hF) (ww_52) f_s13 (fun r14 s15 f_s15 => ?_)
      exact pf_ret f_s15
    · refine pf_bnd (fr_X4_refuse hF) (ww_50) f_s11 (fun r16 s17 f_s17 => ?_)
      exact pf_ret f_s17
set_option maxRecDepth 100000 in
theorem fr_X4_owns {F : Nat} (hF : 1000 ≤ F) {x1 : Int32} {x2 : Int32} {x3 : Int32} {σ : Mem} : pf wf_61 (f_X4_owns F x1 x2 x3 σ) σ := by
  have f_σ : fr wf_61 σ σ := fr_rf
  rw [f_X4_owns_e]
  refine pf_up2 (c := 1010) f_σ (rfl) (Or.inr (⟨by omega, by omega⟩)) (fun s1 f_s1 => ?_)
  refine pf_bnd (fr_X4_isLooker hF) (fun _ h => h.elim) f_s1 (fun r2 s3 f_s3 => ?_)
  refine pf_ite ?_ ?_
  · rw [j_X4_owns_25_e]
    refine pf_bnd (fr_X4_wrongBit hF) (fun _ h => h.elim) f_s3 (fun r4 s5 f_s5 => ?_)
    refine pf_ite ?_ ?_
    · refine pf_bnd (fr_X4_layBrings hF) (ww_51) f_s5 (fun r6 s7 f_s7 => ?_)
      refine pf_ite ?_ ?_
      · refine pf_bnd (fr_X4_viewsIn hF) (ww_52) f_s7 (fun r8 s9 f_s9 => ?_)
        exact pf_ret f_s9
      · refine pf_bnd (fr_X4_worthIn hF) (ww_52) f_s7 (fun r10 s11 f_s11 => ?_)
        exact pf_ret f_s11
    · refine pf_bnd (fr_X4_refuse hF) (ww_50) f_s5 (fun r12 s13 f_s13 => ?_)
      exact pf_ret f_s13
  · refine pf_bnd (fr_X4_wrongNumber hF) (fun _ h => h.elim) f_s3 (fun r14 s15 f_s15 => ?_)
    rw [j_X4_owns_25_e]
    refine pf_bnd (fr_X4_wrongBit hF) (fun _ h => h.elim) f_s15 (fun r16 s17 f_s17 => ?_)
    refine pf_ite ?_ ?_
    · refine pf_bnd (fr_X4_layBrings hF) (ww_51) f_s17 (fun r18 s19 f_s19 => ?_)
      refine pf_ite ?_ ?_
      · refine pf_bnd (fr_X4_viewsIn hF) (ww_52) f_s19 (fun r20 s21 f_s21 => ?_)
        exact pf_ret f_s21
      · refine pf_bnd (fr_X4_worthIn hF) (ww_52) f_s19 (fun r22 s23 f_s23 => ?_)
        exact pf_ret f_s23
    · refine pf_bnd (fr_X4_refuse hF) (ww_50) f_s17 (fun r24 s25 f_s25 => ?_)
      exact pf_ret f_s25
set_option maxRecDepth 100000 in
theorem fr_X4_nobodys {F : Nat} (hF : 1000 ≤ F) {x1 : Int32} {σ : Mem} : pf wf_61 (f_X4_nobodys F x1 σ) σ := by
  have f_σ : fr wf_61 σ σ := fr_rf
  rw [f_X4_nobodys_e]
  refine pf_up2 (c := 1010) f_σ (rfl) (Or.inr (⟨by omega, by omega⟩)) (fun s1 f_s1 => ?_)
  refine pf_bnd (fr_X4_wrongNumber hF) (fun _ h => h.elim) f_s1 (fun r2 s3 f_s3 => ?_)
  refine pf_ite ?_ ?_
  · refine pf_bnd (fr_X4_layBrings hF) (ww_51) f_s3 (fun r4 s5 f_s5 => ?_)
    refine pf_bnd (fr_X4_viewsIn hF) (ww_52) f_s5 (fun r6 s7 f_s7 => ?_)
    exact pf_ret f_s7
  · refine pf_bnd (fr_X4_wrongNumber hF) (fun _ h => h.elim) f_s3 (fun r8 s9 f_s9 => ?_)
    refine pf_bnd (fr_X4_refuse hF) (ww_50) f_s9 (fun r10 s11 f_s11 => ?_)
    exact pf_ret f_s11
set_option maxRecDepth 100000 in
theorem fl_X4_from_32 {F : Nat} (hF : 1000 ≤ F) {x1 : Int32} {x2 : Int32} {τ : Mem} : ∀ (N : Nat) (x3 : Int32) (σ : Mem), fr wf_61 τ σ → pf wf_61 (lp_X4_from_32 F x1 x2 N x3 σ) τ := by
  intro N
  induction N with
  | zero => intro _ _ _; exact pf_none rfl
  | succ N ih =>
    intro x3 σ f_σ
    rw [lp_X4_from_32_s]
    refine pf_ite ?_ ?_
    · exact pf_ret f_σ
    · refine pf_bnd (fr_X4_ownerIn hF) (ww_52) f_σ (fun r1 s2 f_s2 => ?_)
      refine pf_ite ?_ ?_
      · exact pf_ret f_s2
      · exact ih _ _ f_s2
set_option maxRecDepth 100000 in
theorem fr_X4_from {F : Nat} (hF : 1000 ≤ F) {x1 : Int32} {x2 : Int32} {σ : Mem} : pf wf_61 (f_X4_from F x1 x2 σ) σ := by
  have f_σ : fr wf_61 σ σ := fr_rf
  rw [f_X4_from_e]
  refine pf_up2 (c := 1010) f_σ (rfl) (Or.inr (⟨by omega, by omega⟩)) (fun s1 f_s1 => ?_)
  refine pf_bnd (fr_X4_isLooker hF) (fun _ h => h.elim) f_s1 (fun r2 s3 f_s3 => ?_)
  refine pf_ite ?_ ?_
  · rw [j_X4_from_20_e]
    refine pf_bnd (fr_X4_refuse hF) (ww_50) f_s3 (fun r4 s5 f_s5 => ?_)
    exact pf_ret f_s5
  · refine pf_bnd (fr_X4_isView hF) (fun _ h => h.elim) f_s3 (fun r6 s7 f_s7 => ?_)
    refine pf_ite ?_ ?_
    · rw [j_X4_from_20_e]
      refine pf_bnd (fr_X4_refuse hF) (ww_50) f_s7 (fun r8 s9 f_s9 => ?_)
      exact pf_ret f_s9
    · refine pf_bnd (fr_X4_layBrings hF) (ww_51) f_s7 (fun r10 s11 f_s11 => ?_)
      exact fl_X4_from_32 hF _ _ _ f_s11
set_option maxRecDepth 100000 in
theorem fl_X4_lost_42 {F : Nat} (hF : 1000 ≤ F) {x1 : Int32} {x2 : Int32} {τ : Mem} : ∀ (N : Nat) (x3 : Int32) (σ : Mem), fr wf_61 τ σ → pf wf_61 (lp_X4_lost_42 F x1 x2 N x3 σ) τ := by
  intro N
  induction N with
  | zero => intro _ _ _; exact pf_none rfl
  | succ N ih =>
    intro x3 σ f_σ
    rw [lp_X4_lost_42_s]
    refine pf_ite ?_ ?_
    · exact pf_ret f_σ
    · refine pf_bnd (fr_X4_ownerIn hF) (ww_52) f_σ (fun r1 s2 f_s2 => ?_)
      refine pf_ite ?_ ?_
      · exact ih _ _ f_s2
      · exact pf_ret f_s2
set_option maxRecDepth 100000 in
theorem fr_X4_lost {F : Nat} (hF : 1000 ≤ F) {x1 : Int32} {σ : Mem} : pf wf_61 (f_X4_lost F x1 σ) σ := by
  have f_σ : fr wf_61 σ σ := fr_rf
  rw [f_X4_lost_e]
  refine pf_up2 (c := 1010) f_σ (rfl) (Or.inr (⟨by omega, by omega⟩)) (fun s1 f_s1 => ?_)
  refine pf_bnd (fr_X4_isView hF) (fun _ h => h.elim) f_s1 (fun r2 s3 f_s3 => ?_)
  refine pf_ite ?_ ?_
  · refine pf_bnd (fr_X4_refuse hF) (ww_50) f_s3 (fun r4 s5 f_s5 => ?_)
    exact pf_ret f_s5
  · refine pf_bnd (fr_X4_layBrings hF) (ww_51) f_s3 (fun r6 s7 f_s7 => ?_)
    refine pf_bnd (fr_X4_ownerIn hF) (ww_52) f_s7 (fun r8 s9 f_s9 => ?_)
    refine pf_ite ?_ ?_
    · exact fl_X4_lost_42 hF _ _ _ f_s9
    · refine pf_bnd (fr_X4_refuse hF) (ww_50) f_s9 (fun r10 s11 f_s11 => ?_)
      exact pf_ret f_s11
set_option maxRecDepth 100000 in
theorem fl_X4_richestIn_5 {F : Nat} (hF : 1000 ≤ F) {x1 : Int32} {τ : Mem} : ∀ (N : Nat) (x2 : Int32) (x3 : Int32) (σ : Mem), fr wf_47 τ σ → pf wf_47 (lp_X4_richestIn_5 F x1 N x2 x3 σ) τ := by
  intro N
  induction N with
  | zero => intro _ _ _ _; exact pf_none rfl
  | succ N ih =>
    intro x2 x3 σ f_σ
    rw [lp_X4_richestIn_5_s]
    refine pf_ite ?_ ?_
    · exact pf_ret f_σ
    · refine pf_ite ?_ ?_
      · rw [j_X4_richestIn_32_e]
        rw [j_X4_richestIn_37_e]
        exact ih _ _ _ f_σ
      · refine pf_bnd (fr_X4_worthIn hF) (fun _ h => h) f_σ (fun r1 s2 f_s2 => ?_)
        refine pf_bnd (fr_X4_worthIn hF) (fun _ h => h) f_s2 (fun r3 s4 f_s4 => ?_)
        refine pf_ite ?_ ?_
        · rw [j_X4_richestIn_37_e]
          exact ih _ _ _ f_s4
        · rw [j_X4_richestIn_32_e]
          rw [j_X4_richestIn_37_e]
          exact ih _ _ _ f_s4
set_option maxRecDepth 100000 in
theorem fr_X4_richestIn {F : Nat} (hF : 1000 ≤ F) {x1 : Int32} {σ : Mem} : pf wf_47 (f_X4_richestIn F x1 σ) σ := by
  have f_σ : fr wf_47 σ σ := fr_rf
  rw [f_X4_richestIn_e]
  exact fl_X4_richestIn_5 hF _ _ _ _ f_σ
set_option maxRecDepth 100000 in
theorem fr_X4_richest {F : Nat} (hF : 1000 ≤ F) {x1 : Int32} {x2 : Int32} {σ : Mem} : pf wf_61 (f_X4_richest F x1 x2 σ) σ := by
  have f_σ : fr wf_61 σ σ := fr_rf
  rw [f_X4_richest_e]
  refine pf_up2 (c := 1010) f_σ (rfl) (Or.inr (⟨by omega, by omega⟩)) (fun s1 f_s1 => ?_)
  refine pf_bnd (fr_X4_wrongNumber hF) (fun _ h => h.elim) f_s1 (fun r2 s3 f_s3 => ?_)
  refine pf_bnd (fr_X4_wrongBit hF) (fun _ h => h.elim) f_s3 (fun r4 s5 f_s5 => ?_)
  refine pf_ite ?_ ?_
  · refine pf_bnd (fr_X4_layBrings hF) (ww_51) f_s5 (fun r6 s7 f_s7 => ?_)
    refine pf_bnd (fr_X4_richestIn hF) (ww_52) f_s7 (fun r8 s9 f_s9 => ?_)
    refine pf_ite ?_ ?_
    · rw [j_X4_richest_49_e]
      exact pf_ret f_s9
    · refine pf_ite ?_ ?_
      · refine pf_bnd (fr_X4_worthIn hF) (ww_52) f_s9 (fun r10 s11 f_s11 => ?_)
        exact pf_ret f_s11
      · rw [j_X4_richest_49_e]
        exact pf_ret f_s9
  · refine pf_bnd (fr_X4_refuse hF) (ww_50) f_s5 (fun r12 s13 f_s13 => ?_)
    exact pf_ret f_s13
set_option maxRecDepth 100000 in
theorem fr_X4_staredOut {F : Nat} (hF : 1000 ≤ F) {x1 : Int32} {x2 : Int32} {x3 : Int32} {σ : Mem} : pf wf_61 (f_X4_staredOut F x1 x2 x3 σ) σ := by
  have f_σ : fr wf_61 σ σ := fr_rf
  rw [f_X4_staredOut_e]
  refine pf_up2 (c := 1010) f_σ (rfl) (Or.inr (⟨by omega, by omega⟩)) (fun s1 f_s1 => ?_)
  refine pf_bnd (fr_X4_areTwo hF) (fun _ h => h.elim) f_s1 (fun r2 s3 f_s3 => ?_)
  refine pf_ite ?_ ?_
  · rw [j_X4_staredOut_26_e]
    refine pf_ite ?_ ?_
    · refine pf_bnd (fr_X4_layBrings hF) (ww_51) f_s3 (fun r4 s5 f_s5 => ?_)
      refine pf_bnd (fr_X4_viewsIn hF) (ww_52) f_s5 (fun r6 s7 f_s7 => ?_)
      refine pf_bnd (fr_X4_viewsIn hF) (ww_52) f_s7 (fun r8 s9 f_s9 => ?_)
      exact pf_ret f_s9
    · refine pf_bnd (fr_X4_refuse hF) (ww_50) f_s3 (fun r10 s11 f_s11 => ?_)
      exact pf_ret f_s11
  · refine pf_bnd (fr_X4_wrongNumber hF) (fun _ h => h.elim) f_s3 (fun r12 s13 f_s13 => ?_)
    rw [j_X4_staredOut_26_e]
    refine pf_ite ?_ ?_
    · refine pf_bnd (fr_X4_layBrings hF) (ww_51) f_s13 (fun r14 s15 f_s15 => ?_)
      refine pf_bnd (fr_X4_viewsIn hF) (ww_52) f_s15 (fun r16 s17 f_s17 => ?_)
      refine pf_bnd (fr_X4_viewsIn hF) (ww_52) f_s17 (fun r18 s19 f_s19 => ?_)
      exact pf_ret f_s19
    · refine pf_bnd (fr_X4_refuse hF) (ww_50) f_s13 (fun r20 s21 f_s21 => ?_)
      exact pf_ret f_s21
set_option maxRecDepth 100000 in
theorem fl_X4_moreHours_101 {F : Nat} (hF : 1000 ≤ F) {x1 : Int32} {x2 : Int32} {x3 : Int32} {x6 : Int32} {k93 : Int32 → Int32 → Mem → Option (Int32 × Mem)} {τ : Mem} (hk93 : ∀ (x5 : Int32) (x6 : Int32) (σ : Mem), fr wf_61 τ σ → pf wf_61 (k93 x5 x6 σ) τ) : ∀ (N : Nat) (x5 : Int32) (x7 : Int32) (σ : Mem), fr wf_61 τ σ → pf wf_61 (lp_X4_moreHours_101 F k93 x1 x2 x3 x6 N x5 x7 σ) τ := by
  intro N
  induction N with
  | zero => intro _ _ _ _; exact pf_none rfl
  | succ N ih =>
    intro x5 x7 σ f_σ
    rw [lp_X4_moreHours_101_s]
    refine pf_ite ?_ ?_
    · exact hk93 _ _ _ f_σ
    · refine pf_chk (fun v1 => ?_)
      refine pf_ite ?_ ?_
      · rw [j_X4_moreHours_167_e]
        exact ih _ _ _ f_σ
      · refine pf_bnd (fr_X4_pullOf hF) (fun _ h => h.elim) f_σ (fun r2 s3 f_s3 => ?_)
        refine pf_ite ?_ ?_
        · refine pf_chk (fun v4 => ?_)
          refine pf_up2 (c := 109) f_s3 (rfl) (Or.inl (⟨by omega, by omega⟩)) (fun s5 f_s5 => ?_)
          refine pf_bnd (fr_X4_ownerIn hF) (ww_52) f_s5 (fun r6 s7 f_s7 => ?_)
          refine pf_ite ?_ ?_
          · exact pf_ret f_s7
          · rw [j_X4_moreHours_167_e]
            exact ih _ _ _ f_s7
        · rw [j_X4_moreHours_167_e]
          exact ih _ _ _ f_s3
set_option maxRecDepth 100000 in
theorem fl_X4_moreHours_93 {F : Nat} (hF : 1000 ≤ F) {x1 : Int32} {x2 : Int32} {x3 : Int32} {τ : Mem} : ∀ (N : Nat) (x5 : Int32) (x6 : Int32) (σ : Mem), fr wf_61 τ σ → pf wf_61 (lp_X4_moreHours_93 F x1 x2 x3 N x5 x6 σ) τ := by
  intro N
  induction N with
  | zero => intro _ _ _ _; exact pf_none rfl
  | succ N ih =>
    intro x5 x6 σ f_σ
    rw [lp_X4_moreHours_93_s]
    refine pf_ite ?_ ?_
    · exact pf_ret f_σ
    · exact fl_X4_moreHours_101 hF ih _ _ _ _ f_σ
set_option maxRecDepth 100000 in
theorem fr_X4_moreHours {F : Nat} (hF : 1000 ≤ F) {x1 : Int32} {x2 : Int32} {x3 : Int32} {σ : Mem} : pf wf_61 (f_X4_moreHours F x1 x2 x3 σ) σ := by
  have f_σ : fr wf_61 σ σ := fr_rf
  rw [f_X4_moreHours_e]
  refine pf_up2 (c := 1010) f_σ (rfl) (Or.inr (⟨by omega, by omega⟩)) (fun s1 f_s1 => ?_)
  refine pf_bnd (fr_X4_isLooker hF) (fun _ h => h.elim) f_s1 (fun r2 s3 f_s3 => ?_)
  refine pf_ite ?_ ?_
  · rw [j_X4_moreHours_31_e]
    rw [j_X4_moreHours_32_e]
    refine pf_ite ?_ ?_
    · refine pf_bnd (fr_X4_layBrings hF) (ww_51) f_s3 (fun r4 s5 f_s5 => ?_)
      refine pf_bnd (fr_X4_ownerIn hF) (ww_52) f_s5 (fun r6 s7 f_s7 => ?_)
      refine pf_ite ?_ ?_
      · exact pf_ret f_s7
      · refine pf_chk (fun v8 => ?_)
        refine pf_ite ?_ ?_
        · rw [j_X4_moreHours_83_e]
          exact pf_ret f_s7
        · refine pf_bnd (fr_X4_allShown hF) (fun _ h => h.elim) f_s7 (fun r9 s10 f_s10 => ?_)
          refine pf_bnd (fr_X4_hasBit hF) (fun _ h => h.elim) f_s10 (fun r11 s12 f_s12 => ?_)
          refine pf_ite ?_ ?_
          · rw [j_X4_moreHours_83_e]
            exact pf_ret f_s12
          · exact fl_X4_moreHours_93 hF _ _ _ _ f_s12
    · refine pf_bnd (fr_X4_refuse hF) (ww_50) f_s3 (fun r13 s14 f_s14 => ?_)
      exact pf_ret f_s14
  · refine pf_bnd (fr_X4_isView hF) (fun _ h => h.elim) f_s3 (fun r15 s16 f_s16 => ?_)
    refine pf_ite ?_ ?_
    · rw [j_X4_moreHours_31_e]
      rw [j_X4_moreHours_32_e]
      refine pf_ite ?_ ?_
      · refine pf_bnd (fr_X4_layBrings hF) (ww_51) f_s16 (fun r17 s18 f_s18 => ?_)
        refine pf_bnd (fr_X4_ownerIn hF) (ww_52) f_s18 (fun r19 s20 f_s20 => ?_)
        refine pf_ite ?_ ?_
        · exact pf_ret f_s20
        · refine pf_chk (fun v21 => ?_)
          refine pf_ite ?_ ?_
          · rw [j_X4_moreHours_83_e]
            exact pf_ret f_s20
          · refine pf_bnd (fr_X4_allShown hF) (fun _ h => h.elim) f_s20 (fun r22 s23 f_s23 => ?_)
            refine pf_bnd (fr_X4_hasBit hF) (fun _ h => h.elim) f_s23 (fun r24 s25 f_s25 => ?_)
            refine pf_ite ?_ ?_
            · rw [j_X4_moreHours_83_e]
              exact pf_ret f_s25
            · exact fl_X4_moreHours_93 hF _ _ _ _ f_s25
      · refine pf_bnd (fr_X4_refuse hF) (ww_50) f_s16 (fun r26 s27 f_s27 => ?_)
        exact pf_ret f_s27
    · refine pf_bnd (fr_X4_wrongNumber hF) (fun _ h => h.elim) f_s16 (fun r28 s29 f_s29 => ?_)
      rw [j_X4_moreHours_32_e]
      refine pf_ite ?_ ?_
      · refine pf_bnd (fr_X4_layBrings hF) (ww_51) f_s29 (fun r30 s31 f_s31 => ?_)
        refine pf_bnd (fr_X4_ownerIn hF) (ww_52) f_s31 (fun r32 s33 f_s33 => ?_)
        refine pf_ite ?_ ?_
        · exact pf_ret f_s33
        · refine pf_chk (fun v34 => ?_)
          refine pf_ite ?_ ?_
          · rw [j_X4_moreHours_83_e]
            exact pf_ret f_s33
          · refine pf_bnd (fr_X4_allShown hF) (fun _ h => h.elim) f_s33 (fun r35 s36 f_s36 => ?_)
            refine pf_bnd (fr_X4_hasBit hF) (fun _ h => h.elim) f_s36 (fun r37 s38 f_s38 => ?_)
            refine pf_ite ?_ ?_
            · rw [j_X4_moreHours_83_e]
              exact pf_ret f_s38
            · exact fl_X4_moreHours_93 hF _ _ _ _ f_s38
      · refine pf_bnd (fr_X4_refuse hF) (ww_50) f_s29 (fun r39 s40 f_s40 => ?_)
        exact pf_ret f_s40
def wf_65 (c : Nat) : Prop := (106 ≤ c ∧ c ≤ 106) ∨ (108 ≤ c ∧ c ≤ 110) ∨ (1010 ≤ c ∧ c ≤ 1010)
theorem ww_59 : ∀ c, wf_48 c → wf_65 c := fun c h => Or.inr (Or.inl (⟨Nat.le_trans (by omega) (h).1, Nat.le_trans (h).2 (by omega)⟩))
theorem ww_60 : ∀ c, wf_45 c → wf_65 c := fun c h => Or.inr (Or.inl (⟨Nat.le_trans (by omega) (h).1, Nat.le_trans (h).2 (by omega)⟩))
set_option maxRecDepth 100000 in
theorem fl_X4_bestPane_74 {F : Nat} (hF : 1000 ≤ F) {x1 : Int32} {x2 : Int32} {x3 : Int32} {x4 : Int32} {x6 : Int32} {τ : Mem} : ∀ (N : Nat) (x7 : Int32) (x8 : Int32) (x9 : Int32) (σ : Mem), fr wf_65 τ σ → pf wf_65 (lp_X4_bestPane_74 F x1 x2 x3 x4 x6 N x7 x8 x9 σ) τ := by
  intro N
  induction N with
  | zero => intro _ _ _ _ _; exact pf_none rfl
  | succ N ih =>
    intro x7 x8 x9 σ f_σ
    rw [lp_X4_bestPane_74_s]
    refine pf_ite ?_ ?_
    · refine pf_chk (fun v1 => ?_)
      refine pf_up2 (c := 106) f_σ (rfl) (Or.inl (⟨by omega, by omega⟩)) (fun s2 f_s2 => ?_)
      refine pf_ite ?_ ?_
      · exact pf_ret f_s2
      · exact pf_ret f_s2
    · refine pf_ite ?_ ?_
      · rw [j_X4_bestPane_109_e]
        refine pf_chk (fun v3 => ?_)
        refine pf_up2 (c := 106) f_σ (rfl) (Or.inl (⟨by omega, by omega⟩)) (fun s4 f_s4 => ?_)
        refine pf_bnd (fr_X4_worthAnew hF) (ww_59) f_s4 (fun r5 s6 f_s6 => ?_)
        refine pf_ite ?_ ?_
        · rw [j_X4_bestPane_146_e]
          refine pf_ite ?_ ?_
          · rw [j_X4_bestPane_162_e]
            exact ih _ _ _ _ f_s6
          · rw [j_X4_bestPane_162_e]
            exact ih _ _ _ _ f_s6
        · refine pf_ite ?_ ?_
          · rw [j_X4_bestPane_146_e]
            refine pf_ite ?_ ?_
            · rw [j_X4_bestPane_162_e]
              exact ih _ _ _ _ f_s6
            · rw [j_X4_bestPane_162_e]
              exact ih _ _ _ _ f_s6
          · rw [j_X4_bestPane_146_e]
            refine pf_ite ?_ ?_
            · rw [j_X4_bestPane_162_e]
              exact ih _ _ _ _ f_s6
            · rw [j_X4_bestPane_162_e]
              exact ih _ _ _ _ f_s6
      · rw [j_X4_bestPane_109_e]
        refine pf_chk (fun v7 => ?_)
        refine pf_up2 (c := 106) f_σ (rfl) (Or.inl (⟨by omega, by omega⟩)) (fun s8 f_s8 => ?_)
        refine pf_bnd (fr_X4_worthAnew hF) (ww_59) f_s8 (fun r9 s10 f_s10 => ?_)
        refine pf_ite ?_ ?_
        · rw [j_X4_bestPane_146_e]
          refine pf_ite ?_ ?_
          · rw [j_X4_bestPane_162_e]
            exact ih _ _ _ _ f_s10
          · rw [j_X4_bestPane_162_e]
            exact ih _ _ _ _ f_s10
        · refine pf_ite ?_ ?_
          · rw [j_X4_bestPane_146_e]
            refine pf_ite ?_ ?_
            · rw [j_X4_bestPane_162_e]
              exact ih _ _ _ _ f_s10
            · rw [j_X4_bestPane_162_e]
              exact ih _ _ _ _ f_s10
          · rw [j_X4_bestPane_146_e]
            refine pf_ite ?_ ?_
            · rw [j_X4_bestPane_162_e]
              exact ih _ _ _ _ f_s10
            · rw [j_X4_bestPane_162_e]
              exact ih _ _ _ _ f_s10
set_option maxRecDepth 100000 in
theorem fr_X4_bestPane {F : Nat} (hF : 1000 ≤ F) {x1 : Int32} {x2 : Int32} {x3 : Int32} {x4 : Int32} {σ : Mem} : pf wf_65 (f_X4_bestPane F x1 x2 x3 x4 σ) σ := by
  have f_σ : fr wf_65 σ σ := fr_rf
  rw [f_X4_bestPane_e]
  refine pf_up2 (c := 1010) f_σ (rfl) (Or.inr (Or.inr (⟨by omega, by omega⟩))) (fun s1 f_s1 => ?_)
  refine pf_bnd (fr_X4_isLooker hF) (fun _ h => h.elim) f_s1 (fun r2 s3 f_s3 => ?_)
  refine pf_ite ?_ ?_
  · rw [j_X4_bestPane_31_e]
    rw [j_X4_bestPane_32_e]
    refine pf_bnd (fr_X4_wrongBit hF) (fun _ h => h.elim) f_s3 (fun r4 s5 f_s5 => ?_)
    refine pf_ite ?_ ?_
    · refine pf_chk (fun v6 => ?_)
      refine pf_lt (fun z7 _ => ?_)
      exact fl_X4_bestPane_74 hF _ _ _ _ _ f_s5
    · refine pf_bnd (fr_X4_refuse hF) (ww_60) f_s5 (fun r8 s9 f_s9 => ?_)
      exact pf_ret f_s9
  · refine pf_bnd (fr_X4_isHour hF) (fun _ h => h.elim) f_s3 (fun r10 s11 f_s11 => ?_)
    refine pf_ite ?_ ?_
    · rw [j_X4_bestPane_31_e]
      rw [j_X4_bestPane_32_e]
      refine pf_bnd (fr_X4_wrongBit hF) (fun _ h => h.elim) f_s11 (fun r12 s13 f_s13 => ?_)
      refine pf_ite ?_ ?_
      · refine pf_chk (fun v14 => ?_)
        refine pf_lt (fun z15 _ => ?_)
        exact fl_X4_bestPane_74 hF _ _ _ _ _ f_s13
      · refine pf_bnd (fr_X4_refuse hF) (ww_60) f_s13 (fun r16 s17 f_s17 => ?_)
        exact pf_ret f_s17
    · refine pf_bnd (fr_X4_wrongNumber hF) (fun _ h => h.elim) f_s11 (fun r18 s19 f_s19 => ?_)
      rw [j_X4_bestPane_32_e]
      refine pf_bnd (fr_X4_wrongBit hF) (fun _ h => h.elim) f_s19 (fun r20 s21 f_s21 => ?_)
      refine pf_ite ?_ ?_
      · refine pf_chk (fun v22 => ?_)
        refine pf_lt (fun z23 _ => ?_)
        exact fl_X4_bestPane_74 hF _ _ _ _ _ f_s21
      · refine pf_bnd (fr_X4_refuse hF) (ww_60) f_s21 (fun r24 s25 f_s25 => ?_)
        exact pf_ret f_s25
theorem ww_61 : ∀ c, wf_46 c → wf_65 c := fun c h => Or.inr (Or.inl (⟨Nat.le_trans (by omega) (h).1, Nat.le_trans (h).2 (by omega)⟩))
theorem ww_62 : ∀ c, wf_47 c → wf_65 c := fun c h => Or.inr (Or.inl (⟨Nat.le_trans (by omega) (h).1, Nat.le_trans (h).2 (by omega)⟩))
set_option maxRecDepth 100000 in
theorem fl_X4_freeHours_54 {F : Nat} (hF : 1000 ≤ F) {x1 : Int32} {x2 : Int32} {x4 : Int32} {τ : Mem} : ∀ (N : Nat) (x5 : Int32) (x6 : Int32) (σ : Mem), fr wf_65 τ σ → pf wf_65 (lp_X4_freeHours_54 F x1 x2 x4 N x5 x6 σ) τ := by
  intro N
  induction N with
  | zero => intro _ _ _ _; exact pf_none rfl
  | succ N ih =>
    intro x5 x6 σ f_σ
    rw [lp_X4_freeHours_54_s]
    refine pf_ite ?_ ?_
    · exact pf_ret f_σ
    · refine pf_chk (fun v1 => ?_)
      refine pf_lt (fun z2 _ => ?_)
      refine pf_up2 (c := 106) f_σ (rfl) (Or.inl (⟨by omega, by omega⟩)) (fun s3 f_s3 => ?_)
      refine pf_bnd (fr_X4_layBrings hF) (ww_61) f_s3 (fun r4 s5 f_s5 => ?_)
      refine pf_ite ?_ ?_
      · rw [j_X4_freeHours_118_e]
        rw [j_X4_freeHours_119_e]
        refine pf_chk (fun v6 => ?_)
        refine pf_up2 (c := 106) f_s5 (rfl) (Or.inl (⟨by omega, by omega⟩)) (fun s7 f_s7 => ?_)
        exact ih _ _ _ f_s7
      · refine pf_bnd (fr_X4_viewsIn hF) (ww_62) f_s5 (fun r8 s9 f_s9 => ?_)
        refine pf_ite ?_ ?_
        · rw [j_X4_freeHours_119_e]
          refine pf_chk (fun v10 => ?_)
          refine pf_up2 (c := 106) f_s9 (rfl) (Or.inl (⟨by omega, by omega⟩)) (fun s11 f_s11 => ?_)
          exact ih _ _ _ f_s11
        · rw [j_X4_freeHours_118_e]
          rw [j_X4_freeHours_119_e]
          refine pf_chk (fun v12 => ?_)
          refine pf_up2 (c := 106) f_s9 (rfl) (Or.inl (⟨by omega, by omega⟩)) (fun s13 f_s13 => ?_)
          exact ih _ _ _ f_s13
set_option maxRecDepth 100000 in
theorem fr_X4_freeHours {F : Nat} (hF : 1000 ≤ F) {x1 : Int32} {x2 : Int32} {σ : Mem} : pf wf_65 (f_X4_freeHours F x1 x2 σ) σ := by
  have f_σ : fr wf_65 σ σ := fr_rf
  rw [f_X4_freeHours_e]
  refine pf_up2 (c := 1010) f_σ (rfl) (Or.inr (Or.inr (⟨by omega, by omega⟩))) (fun s1 f_s1 => ?_)
  refine pf_bnd (fr_X4_isLooker hF) (fun _ h => h.elim) f_s1 (fun r2 s3 f_s3 => ?_)
  refine pf_ite ?_ ?_
  · rw [j_X4_freeHours_25_e]
    refine pf_ite ?_ ?_
    · refine pf_bnd (fr_X4_layBrings hF) (ww_61) f_s3 (fun r4 s5 f_s5 => ?_)
      refine pf_bnd (fr_X4_viewsIn hF) (ww_62) f_s5 (fun r6 s7 f_s7 => ?_)
      exact fl_X4_freeHours_54 hF _ _ _ _ f_s7
    · refine pf_bnd (fr_X4_refuse hF) (ww_60) f_s3 (fun r8 s9 f_s9 => ?_)
      exact pf_ret f_s9
  · refine pf_bnd (fr_X4_wrongNumber hF) (fun _ h => h.elim) f_s3 (fun r10 s11 f_s11 => ?_)
    rw [j_X4_freeHours_25_e]
    refine pf_ite ?_ ?_
    · refine pf_bnd (fr_X4_layBrings hF) (ww_61) f_s11 (fun r12 s13 f_s13 => ?_)
      refine pf_bnd (fr_X4_viewsIn hF) (ww_62) f_s13 (fun r14 s15 f_s15 => ?_)
      exact fl_X4_freeHours_54 hF _ _ _ _ f_s15
    · refine pf_bnd (fr_X4_refuse hF) (ww_60) f_s11 (fun r16 s17 f_s17 => ?_)
      exact pf_ret f_s17
def wf_66 (c : Nat) : Prop := (1010 ≤ c ∧ c ≤ 1010)
set_option maxRecDepth 100000 in
theorem fl_X4_cover_31 {F : Nat} (hF : 1000 ≤ F) {x1 : Int32} {x2 : Int32} {x3 : Int32} {k21 : Int32 → Int32 → Mem → Option (Int32 × Mem)} {τ : Mem} (hk21 : ∀ (x2 : Int32) (x3 : Int32) (σ : Mem), fr wf_66 τ σ → pf wf_66 (k21 x2 x3 σ) τ) : ∀ (N : Nat) (x4 : Int32) (x5 : Int32) (σ : Mem), fr wf_66 τ σ → pf wf_66 (lp_X4_cover_31 F k21 x1 x2 x3 N x4 x5 σ) τ := by
  intro N
  induction N with
  | zero => intro _ _ _ _; exact pf_none rfl
  | succ N ih =>
    intro x4 x5 σ f_σ
    rw [lp_X4_cover_31_s]
    refine pf_ite ?_ ?_
    · refine pf_ite ?_ ?_
      · refine pf_bnd (fr_X4_onesOf hF) (fun _ h => h.elim) f_σ (fun r1 s2 f_s2 => ?_)
        refine pf_bnd (fr_X4_onesOf hF) (fun _ h => h.elim) f_s2 (fun r3 s4 f_s4 => ?_)
        refine pf_ite ?_ ?_
        · rw [j_X4_cover_92_e]
          rw [j_X4_cover_93_e]
          exact hk21 _ _ _ f_s4
        · rw [j_X4_cover_93_e]
          exact hk21 _ _ _ f_s4
      · rw [j_X4_cover_92_e]
        rw [j_X4_cover_93_e]
        exact hk21 _ _ _ f_σ
    · refine pf_bnd (fr_X4_hasBit hF) (fun _ h => h.elim) f_σ (fun r5 s6 f_s6 => ?_)
      refine pf_ite ?_ ?_
      · rw [j_X4_cover_62_e]
        exact ih _ _ _ f_s6
      · refine pf_chk (fun v7 => ?_)
        rw [j_X4_cover_62_e]
        exact ih _ _ _ f_s6
set_option maxRecDepth 100000 in
theorem fl_X4_cover_21 {F : Nat} (hF : 1000 ≤ F) {x1 : Int32} {τ : Mem} : ∀ (N : Nat) (x2 : Int32) (x3 : Int32) (σ : Mem), fr wf_66 τ σ → pf wf_66 (lp_X4_cover_21 F x1 N x2 x3 σ) τ := by
  intro N
  induction N with
  | zero => intro _ _ _ _; exact pf_none rfl
  | succ N ih =>
    intro x2 x3 σ f_σ
    rw [lp_X4_cover_21_s]
    refine pf_ite ?_ ?_
    · exact pf_ret f_σ
    · exact fl_X4_cover_31 hF ih _ _ _ _ f_σ
set_option maxRecDepth 100000 in
theorem fr_X4_cover {F : Nat} (hF : 1000 ≤ F) {σ : Mem} : pf wf_66 (f_X4_cover F σ) σ := by
  have f_σ : fr wf_66 σ σ := fr_rf
  rw [f_X4_cover_e]
  refine pf_up2 (c := 1010) f_σ (rfl) (⟨by omega, by omega⟩) (fun s1 f_s1 => ?_)
  refine pf_bnd (fr_X4_allShown hF) (fun _ h => h.elim) f_s1 (fun r2 s3 f_s3 => ?_)
  refine pf_lt (fun z4 _ => ?_)
  exact fl_X4_cover_21 hF _ _ _ _ f_s3
set_option maxRecDepth 100000 in
theorem fl_X4_shown_22 {F : Nat} (hF : 1000 ≤ F) {x1 : Int32} {τ : Mem} : ∀ (N : Nat) (x2 : Int32) (x3 : Int32) (σ : Mem), fr wf_60 τ σ → pf wf_60 (lp_X4_shown_22 F x1 N x2 x3 σ) τ := by
  intro N
  induction N with
  | zero => intro _ _ _ _; exact pf_none rfl
  | succ N ih =>
    intro x2 x3 σ f_σ
    rw [lp_X4_shown_22_s]
    refine pf_ite ?_ ?_
    · exact pf_ret f_σ
    · refine pf_chk (fun v1 => ?_)
      refine pf_bnd (fr_X4_hasBit hF) (fun _ h => h.elim) f_σ (fun r2 s3 f_s3 => ?_)
      refine pf_ite ?_ ?_
      · rw [j_X4_shown_49_e]
        exact ih _ _ _ f_s3
      · rw [j_X4_shown_49_e]
        exact ih _ _ _ f_s3
set_option maxRecDepth 100000 in
theorem fr_X4_shown {F : Nat} (hF : 1000 ≤ F) {x1 : Int32} {σ : Mem} : pf wf_60 (f_X4_shown F x1 σ) σ := by
  have f_σ : fr wf_60 σ σ := fr_rf
  rw [f_X4_shown_e]
  refine pf_up2 (c := 1010) f_σ (rfl) (Or.inr (⟨by omega, by omega⟩)) (fun s1 f_s1 => ?_)
  refine pf_bnd (fr_X4_isView hF) (fun _ h => h.elim) f_s1 (fun r2 s3 f_s3 => ?_)
  refine pf_ite ?_ ?_
  · refine pf_bnd (fr_X4_refuse hF) (ww_49) f_s3 (fun r4 s5 f_s5 => ?_)
    exact pf_ret f_s5
  · exact fl_X4_shown_22 hF _ _ _ _ f_s3
def wf_67 (c : Nat) : Prop := (103 ≤ c ∧ c ≤ 103) ∨ (108 ≤ c ∧ c ≤ 110) ∨ (1010 ≤ c ∧ c ≤ 1010)
theorem ww_63 : ∀ c, wf_48 c → wf_67 c := fun c h => Or.inr (Or.inl (⟨Nat.le_trans (by omega) (h).1, Nat.le_trans (h).2 (by omega)⟩))
theorem ww_64 : ∀ c, wf_45 c → wf_67 c := fun c h => Or.inr (Or.inl (⟨Nat.le_trans (by omega) (h).1, Nat.le_trans (h).2 (by omega)⟩))
set_option maxRecDepth 100000 in
theorem fl_X4_walls_74 {F : Nat} (hF : 1000 ≤ F) {x1 : Int32} {x2 : Int32} {x3 : Int32} {x5 : Int32} {x8 : Int32} {k62 : Int32 → Int32 → Int32 → Mem → Option (Int32 × Mem)} {τ : Mem} (hk62 : ∀ (x6 : Int32) (x7 : Int32) (x8 : Int32) (σ : Mem), fr wf_67 τ σ → pf wf_67 (k62 x6 x7 x8 σ) τ) : ∀ (N : Nat) (x6 : Int32) (x7 : Int32) (x9 : Int32) (σ : Mem), fr wf_67 τ σ → pf wf_67 (lp_X4_walls_74 F k62 x1 x2 x3 x5 x8 N x6 x7 x9 σ) τ := by
  intro N
  induction N with
  | zero => intro _ _ _ _ _; exact pf_none rfl
  | succ N ih =>
    intro x6 x7 x9 σ f_σ
    rw [lp_X4_walls_74_s]
    refine pf_ite ?_ ?_
    · exact hk62 _ _ _ _ f_σ
    · refine pf_chk (fun v1 => ?_)
      refine pf_bnd (fr_X4_hasBit hF) (fun _ h => h.elim) f_σ (fun r2 s3 f_s3 => ?_)
      refine pf_ite ?_ ?_
      · rw [j_X4_walls_173_e]
        exact ih _ _ _ _ f_s3
      · refine pf_up2 (c := 103) f_s3 (rfl) (Or.inl (⟨by omega, by omega⟩)) (fun s4 f_s4 => ?_)
        refine pf_bnd (fr_X4_worthAnew hF) (ww_63) f_s4 (fun r5 s6 f_s6 => ?_)
        refine pf_up2 (c := 103) f_s6 (rfl) (Or.inl (⟨by omega, by omega⟩)) (fun s7 f_s7 => ?_)
        refine pf_ite ?_ ?_
        · rw [j_X4_walls_155_e]
          refine pf_ite ?_ ?_
          · rw [j_X4_walls_171_e]
            rw [j_X4_walls_173_e]
            exact ih _ _ _ _ f_s7
          · rw [j_X4_walls_171_e]
            rw [j_X4_walls_173_e]
            exact ih _ _ _ _ f_s7
        · rw [j_X4_walls_155_e]
          refine pf_ite ?_ ?_
          · rw [j_X4_walls_171_e]
            rw [j_X4_walls_173_e]
            exact ih _ _ _ _ f_s7
          · rw [j_X4_walls_171_e]
            rw [j_X4_walls_173_e]
            exact ih _ _ _ _ f_s7
set_option maxRecDepth 100000 in
theorem fl_X4_walls_62 {F : Nat} (hF : 1000 ≤ F) {x1 : Int32} {x2 : Int32} {x3 : Int32} {x5 : Int32} {τ : Mem} : ∀ (N : Nat) (x6 : Int32) (x7 : Int32) (x8 : Int32) (σ : Mem), fr wf_67 τ σ → pf wf_67 (lp_X4_walls_62 F x1 x2 x3 x5 N x6 x7 x8 σ) τ := by
  intro N
  induction N with
  | zero => intro _ _ _ _ _; exact pf_none rfl
  | succ N ih =>
    intro x6 x7 x8 σ f_σ
    rw [lp_X4_walls_62_s]
    refine pf_ite ?_ ?_
    · refine pf_ite ?_ ?_
      · rw [j_X4_walls_194_e]
        exact pf_ret f_σ
      · refine pf_ite ?_ ?_
        · exact pf_ret f_σ
        · rw [j_X4_walls_194_e]
          exact pf_ret f_σ
    · exact fl_X4_walls_74 hF ih _ _ _ _ _ f_σ
set_option maxRecDepth 100000 in
theorem fr_X4_walls {F : Nat} (hF : 1000 ≤ F) {x1 : Int32} {x2 : Int32} {x3 : Int32} {σ : Mem} : pf wf_67 (f_X4_walls F x1 x2 x3 σ) σ := by
  have f_σ : fr wf_67 σ σ := fr_rf
  rw [f_X4_walls_e]
  refine pf_up2 (c := 1010) f_σ (rfl) (Or.inr (Or.inr (⟨by omega, by omega⟩))) (fun s1 f_s1 => ?_)
  refine pf_bnd (fr_X4_isLooker hF) (fun _ h => h.elim) f_s1 (fun r2 s3 f_s3 => ?_)
  refine pf_ite ?_ ?_
  · rw [j_X4_walls_25_e]
    refine pf_bnd (fr_X4_wrongBit hF) (fun _ h => h.elim) f_s3 (fun r4 s5 f_s5 => ?_)
    refine pf_ite ?_ ?_
    · refine pf_bnd (fr_X4_worthAnew hF) (ww_63) f_s5 (fun r6 s7 f_s7 => ?_)
      exact fl_X4_walls_62 hF _ _ _ _ _ f_s7
    · refine pf_bnd (fr_X4_refuse hF) (ww_64) f_s5 (fun r8 s9 f_s9 => ?_)
      exact pf_ret f_s9
  · refine pf_bnd (fr_X4_wrongNumber hF) (fun _ h => h.elim) f_s3 (fun r10 s11 f_s11 => ?_)
    rw [j_X4_walls_25_e]
    refine pf_bnd (fr_X4_wrongBit hF) (fun _ h => h.elim) f_s11 (fun r12 s13 f_s13 => ?_)
    refine pf_ite ?_ ?_
    · refine pf_bnd (fr_X4_worthAnew hF) (ww_63) f_s13 (fun r14 s15 f_s15 => ?_)
      exact fl_X4_walls_62 hF _ _ _ _ _ f_s15
    · refine pf_bnd (fr_X4_refuse hF) (ww_64) f_s13 (fun r16 s17 f_s17 => ?_)
      exact pf_ret f_s17
set_option maxRecDepth 100000 in
theorem fl_X4_divisor_6 {F : Nat} (hF : 1000 ≤ F) {τ : Mem} : ∀ (N : Nat) (y4 : Int64) (y6 : Int64) (σ : Mem), fr wf_1 τ σ → pf wf_1 (lp_X4_divisor_6 F N y4 y6 σ) τ := by
  intro N
  induction N with
  | zero => intro _ _ _ _; exact pf_none rfl
  | succ N ih =>
    intro y4 y6 σ f_σ
    rw [lp_X4_divisor_6_s]
    refine pf_ite ?_ ?_
    · exact pf_ret f_σ
    · refine pf_nzl ?_
      exact ih _ _ _ f_σ
set_option maxRecDepth 100000 in
theorem fr_X4_divisor {F : Nat} (hF : 1000 ≤ F) {y0 : Int64} {y2 : Int64} {σ : Mem} : pf wf_1 (f_X4_divisor F y0 y2 σ) σ := by
  have f_σ : fr wf_1 σ σ := fr_rf
  rw [f_X4_divisor_e]
  exact fl_X4_divisor_6 hF _ _ _ _ f_σ
set_option maxRecDepth 100000 in
theorem fr_X4_partOf {F : Nat} (hF : 1000 ≤ F) {y0 : Int64} {y2 : Int64} {x4 : Int32} {σ : Mem} : pf wf_1 (f_X4_partOf F y0 y2 x4 σ) σ := by
  have f_σ : fr wf_1 σ σ := fr_rf
  rw [f_X4_partOf_e]
  refine pf_ite ?_ ?_
  · exact pf_ret f_σ
  · refine pf_bnd (fr_X4_divisor hF) (fun _ h => h.elim) f_σ (fun r1 s2 f_s2 => ?_)
    refine pf_ite ?_ ?_
    · refine pf_nzl ?_
      exact pf_ret f_s2
    · refine pf_nzl ?_
      exact pf_ret f_s2
set_option maxRecDepth 100000 in
theorem fl_X4_share_55 {F : Nat} (hF : 1000 ≤ F) {x1 : Int32} {x2 : Int32} {x3 : Int32} {τ : Mem} : ∀ (N : Nat) (y5 : Int64) (x7 : Int32) (σ : Mem), fr wf_60 τ σ → pf wf_60 (lp_X4_share_55 F x1 x2 x3 N y5 x7 σ) τ := by
  intro N
  induction N with
  | zero => intro _ _ _ _; exact pf_none rfl
  | succ N ih =>
    intro y5 x7 σ f_σ
    rw [lp_X4_share_55_s]
    refine pf_ite ?_ ?_
    · refine pf_chk (fun v1 => ?_)
      refine pf_bnd (fr_X4_partOf hF) (fun _ h => h.elim) f_σ (fun r2 s3 f_s3 => ?_)
      exact pf_ret f_s3
    · refine pf_chk (fun v4 => ?_)
      refine pf_lt (fun z5 _ => ?_)
      exact ih _ _ _ f_σ
set_option maxRecDepth 100000 in
theorem fr_X4_share {F : Nat} (hF : 1000 ≤ F) {x1 : Int32} {x2 : Int32} {x3 : Int32} {σ : Mem} : pf wf_60 (f_X4_share F x1 x2 x3 σ) σ := by
  have f_σ : fr wf_60 σ σ := fr_rf
  rw [f_X4_share_e]
  refine pf_up2 (c := 1010) f_σ (rfl) (Or.inr (⟨by omega, by omega⟩)) (fun s1 f_s1 => ?_)
  refine pf_bnd (fr_X4_isLooker hF) (fun _ h => h.elim) f_s1 (fun r2 s3 f_s3 => ?_)
  refine pf_ite ?_ ?_
  · rw [j_X4_share_29_e]
    rw [j_X4_share_30_e]
    refine pf_ite ?_ ?_
    · exact fl_X4_share_55 hF _ _ _ _ f_s3
    · refine pf_bnd (fr_X4_refuse hF) (ww_49) f_s3 (fun r4 s5 f_s5 => ?_)
      exact pf_ret f_s5
  · refine pf_bnd (fr_X4_isView hF) (fun _ h => h.elim) f_s3 (fun r6 s7 f_s7 => ?_)
    refine pf_ite ?_ ?_
    · rw [j_X4_share_29_e]
      rw [j_X4_share_30_e]
      refine pf_ite ?_ ?_
      · exact fl_X4_share_55 hF _ _ _ _ f_s7
      · refine pf_bnd (fr_X4_refuse hF) (ww_49) f_s7 (fun r8 s9 f_s9 => ?_)
        exact pf_ret f_s9
    · refine pf_bnd (fr_X4_wrongBit hF) (fun _ h => h.elim) f_s7 (fun r10 s11 f_s11 => ?_)
      rw [j_X4_share_30_e]
      refine pf_ite ?_ ?_
      · exact fl_X4_share_55 hF _ _ _ _ f_s11
      · refine pf_bnd (fr_X4_refuse hF) (ww_49) f_s11 (fun r12 s13 f_s13 => ?_)
        exact pf_ret f_s13
set_option maxRecDepth 100000 in
theorem fl_X4_areResting_36 {F : Nat} (hF : 1000 ≤ F) {x1 : Int32} {x2 : Int32} {x3 : Int32} {τ : Mem} : ∀ (N : Nat) (x4 : Int32) (x5 : Int32) (σ : Mem), fr wf_1 τ σ → pf wf_1 (lp_X4_areResting_36 F x1 x2 x3 N x4 x5 σ) τ := by
  intro N
  induction N with
  | zero => intro _ _ _ _; exact pf_none rfl
  | succ N ih =>
    intro x4 x5 σ f_σ
    rw [lp_X4_areResting_36_s]
    refine pf_ite ?_ ?_
    · rw [j_X4_areResting_105_e]
      refine pf_bz ?_
      exact pf_ret f_σ
    · refine pf_ite ?_ ?_
      · rw [j_X4_areResting_105_e]
        refine pf_bz ?_
        exact pf_ret f_σ
      · refine pf_chk (fun v1 => ?_)
        refine pf_chk (fun v2 => ?_)
        refine pf_ite ?_ ?_
        · rw [j_X4_areResting_96_e]
          rw [j_X4_areResting_97_e]
          exact ih _ _ _ f_σ
        · refine pf_chk (fun v3 => ?_)
          refine pf_ite ?_ ?_
          · rw [j_X4_areResting_96_e]
            rw [j_X4_areResting_97_e]
            exact ih _ _ _ f_σ
          · rw [j_X4_areResting_97_e]
            exact ih _ _ _ f_σ
set_option maxRecDepth 100000 in
theorem fr_X4_areResting {F : Nat} (hF : 1000 ≤ F) {x1 : Int32} {σ : Mem} : pf wf_1 (f_X4_areResting F x1 σ) σ := by
  have f_σ : fr wf_1 σ σ := fr_rf
  rw [f_X4_areResting_e]
  refine pf_lt (fun z1 _ => ?_)
  refine pf_ite ?_ ?_
  · rw [j_X4_areResting_30_e]
    rw [j_X4_areResting_31_e]
    exact fl_X4_areResting_36 hF _ _ _ _ f_σ
  · refine pf_ite ?_ ?_
    · rw [j_X4_areResting_30_e]
      rw [j_X4_areResting_31_e]
      exact fl_X4_areResting_36 hF _ _ _ _ f_σ
    · rw [j_X4_areResting_31_e]
      exact fl_X4_areResting_36 hF _ _ _ _ f_σ
def wf_68 (c : Nat) : Prop := (106 ≤ c ∧ c ≤ 106) ∨ (108 ≤ c ∧ c ≤ 110) ∨ (119 ≤ c ∧ c ≤ 120) ∨ (1010 ≤ c ∧ c ≤ 1010)
theorem ww_65 : ∀ c, wf_48 c → wf_68 c := fun c h => Or.inr (Or.inl (⟨Nat.le_trans (by omega) (h).1, Nat.le_trans (h).2 (by omega)⟩))
theorem ww_66 : ∀ c, wf_47 c → wf_68 c := fun c h => Or.inr (Or.inl (⟨Nat.le_trans (by omega) (h).1, Nat.le_trans (h).2 (by omega)⟩))
theorem ww_67 : ∀ c, wf_45 c → wf_68 c := fun c h => Or.inr (Or.inl (⟨Nat.le_trans (by omega) (h).1, Nat.le_trans (h).2 (by omega)⟩))
set_option maxRecDepth 100000 in
theorem fl_X4_two_89 {F : Nat} (hF : 1000 ≤ F) {x1 : Int32} {x2 : Int32} {x3 : Int32} {x4 : Int32} {x6 : Int32} {x7 : Int32} {x8 : Int32} {k77 : Int32 → Mem → Option (Int32 × Mem)} {τ : Mem} (hk77 : ∀ (x8 : Int32) (σ : Mem), fr wf_68 τ σ → pf wf_68 (k77 x8 σ) τ) : ∀ (N : Nat) (x9 : Int32) (σ : Mem), fr wf_68 τ σ → pf wf_68 (lp_X4_two_89 F k77 x1 x2 x3 x4 x6 x7 x8 N x9 σ) τ := by
  intro N
  induction N with
  | zero => intro _ _ _; exact pf_none rfl
  | succ N ih =>
    intro x9 σ f_σ
    rw [lp_X4_two_89_s]
    refine pf_ite ?_ ?_
    · exact hk77 _ _ f_σ
    · refine pf_chk (fun v1 => ?_)
      refine pf_up2 (c := 106) f_σ (rfl) (Or.inl (⟨by omega, by omega⟩)) (fun s2 f_s2 => ?_)
      refine pf_chk (fun v3 => ?_)
      refine pf_up2 (c := 106) f_s2 (rfl) (Or.inl (⟨by omega, by omega⟩)) (fun s4 f_s4 => ?_)
      refine pf_bnd (fr_X4_worthAnew hF) (ww_65) f_s4 (fun r5 s6 f_s6 => ?_)
      refine pf_chk (fun v7 => ?_)
      refine pf_up2 (c := 119) f_s6 (rfl) (Or.inr (Or.inr (Or.inl (⟨by omega, by omega⟩)))) (fun s8 f_s8 => ?_)
      refine pf_bnd (fr_X4_worthIn hF) (ww_66) f_s8 (fun r9 s10 f_s10 => ?_)
      refine pf_up2 (c := 120) f_s10 (rfl) (Or.inr (Or.inr (Or.inl (⟨by omega, by omega⟩)))) (fun s11 f_s11 => ?_)
      exact ih _ _ f_s11
set_option maxRecDepth 100000 in
theorem fl_X4_two_205 {F : Nat} (hF : 1000 ≤ F) {τ : Mem} : ∀ (N : Nat) (x8 : Int32) (σ : Mem), fr wf_68 τ σ → pf wf_68 (lp_X4_two_205 F N x8 σ) τ := by
  intro N
  induction N with
  | zero => intro _ _ _; exact pf_none rfl
  | succ N ih =>
    intro x8 σ f_σ
    rw [lp_X4_two_205_s]
    refine pf_ite ?_ ?_
    · exact pf_ret f_σ
    · refine pf_bnd (fr_X4_areResting hF) (fun _ h => h.elim) f_σ (fun r1 s2 f_s2 => ?_)
      refine pf_ite ?_ ?_
      · exact ih _ _ f_s2
      · exact pf_ret f_s2
set_option maxRecDepth 100000 in
theorem fl_X4_two_77 {F : Nat} (hF : 1000 ≤ F) {x1 : Int32} {x2 : Int32} {x3 : Int32} {x4 : Int32} {x6 : Int32} {x7 : Int32} {τ : Mem} : ∀ (N : Nat) (x8 : Int32) (σ : Mem), fr wf_68 τ σ → pf wf_68 (lp_X4_two_77 F x1 x2 x3 x4 x6 x7 N x8 σ) τ := by
  intro N
  induction N with
  | zero => intro _ _ _; exact pf_none rfl
  | succ N ih =>
    intro x8 σ f_σ
    rw [lp_X4_two_77_s]
    refine pf_ite ?_ ?_
    · refine pf_chk (fun v1 => ?_)
      refine pf_up2 (c := 106) f_σ (rfl) (Or.inl (⟨by omega, by omega⟩)) (fun s2 f_s2 => ?_)
      refine pf_chk (fun v3 => ?_)
      refine pf_up2 (c := 106) f_s2 (rfl) (Or.inl (⟨by omega, by omega⟩)) (fun s4 f_s4 => ?_)
      exact fl_X4_two_205 hF _ _ _ f_s4
    · exact fl_X4_two_89 hF ih _ _ _ f_σ
set_option maxRecDepth 100000 in
theorem fr_X4_two {F : Nat} (hF : 1000 ≤ F) {x1 : Int32} {x2 : Int32} {x3 : Int32} {x4 : Int32} {σ : Mem} : pf wf_68 (f_X4_two F x1 x2 x3 x4 σ) σ := by
  have f_σ : fr wf_68 σ σ := fr_rf
  rw [f_X4_two_e]
  refine pf_up2 (c := 1010) f_σ (rfl) (Or.inr (Or.inr (Or.inr (⟨by omega, by omega⟩)))) (fun s1 f_s1 => ?_)
  refine pf_bnd (fr_X4_areTwo hF) (fun _ h => h.elim) f_s1 (fun r2 s3 f_s3 => ?_)
  refine pf_ite ?_ ?_
  · rw [j_X4_two_33_e]
    rw [j_X4_two_34_e]
    refine pf_ite ?_ ?_
    · refine pf_chk (fun v4 => ?_)
      refine pf_lt (fun z5 _ => ?_)
      refine pf_chk (fun v6 => ?_)
      refine pf_lt (fun z7 _ => ?_)
      exact fl_X4_two_77 hF _ _ _ f_s3
    · refine pf_bnd (fr_X4_refuse hF) (ww_67) f_s3 (fun r8 s9 f_s9 => ?_)
      exact pf_ret f_s9
  · refine pf_bnd (fr_X4_isHour hF) (fun _ h => h.elim) f_s3 (fun r10 s11 f_s11 => ?_)
    refine pf_ite ?_ ?_
    · rw [j_X4_two_33_e]
      rw [j_X4_two_34_e]
      refine pf_ite ?_ ?_
      · refine pf_chk (fun v12 => ?_)
        refine pf_lt (fun z13 _ => ?_)
        refine pf_chk (fun v14 => ?_)
        refine pf_lt (fun z15 _ => ?_)
        exact fl_X4_two_77 hF _ _ _ f_s11
      · refine pf_bnd (fr_X4_refuse hF) (ww_67) f_s11 (fun r16 s17 f_s17 => ?_)
        exact pf_ret f_s17
    · refine pf_bnd (fr_X4_wrongNumber hF) (fun _ h => h.elim) f_s11 (fun r18 s19 f_s19 => ?_)
      rw [j_X4_two_34_e]
      refine pf_ite ?_ ?_
      · refine pf_chk (fun v20 => ?_)
        refine pf_lt (fun z21 _ => ?_)
        refine pf_chk (fun v22 => ?_)
        refine pf_lt (fun z23 _ => ?_)
        exact fl_X4_two_77 hF _ _ _ f_s19
      · refine pf_bnd (fr_X4_refuse hF) (ww_67) f_s19 (fun r24 s25 f_s25 => ?_)
        exact pf_ret f_s25
set_option maxRecDepth 100000 in
theorem fl_X4_isRow_8 {F : Nat} (hF : 1000 ≤ F) {x1 : Int32} {τ : Mem} : ∀ (N : Nat) (x2 : Int32) (x3 : Int32) (σ : Mem), fr wf_48 τ σ → pf wf_48 (lp_X4_isRow_8 F x1 N x2 x3 σ) τ := by
  intro N
  induction N with
  | zero => intro _ _ _ _; exact pf_none rfl
  | succ N ih =>
    intro x2 x3 σ f_σ
    rw [lp_X4_isRow_8_s]
    refine pf_ite ?_ ?_
    · refine pf_bz ?_
      exact pf_ret f_σ
    · refine pf_bnd (fr_X4_ownerIn hF) (ww_37) f_σ (fun r1 s2 f_s2 => ?_)
      refine pf_ite ?_ ?_
      · rw [j_X4_isRow_53_e]
        rw [j_X4_isRow_54_e]
        exact ih _ _ _ f_s2
      · refine pf_chk (fun v3 => ?_)
        refine pf_ite ?_ ?_
        · rw [j_X4_isRow_46_e]
          refine pf_ite ?_ ?_
          · rw [j_X4_isRow_54_e]
            exact ih _ _ _ f_s2
          · rw [j_X4_isRow_53_e]
            rw [j_X4_isRow_54_e]
            exact ih _ _ _ f_s2
        · rw [j_X4_isRow_46_e]
          refine pf_ite ?_ ?_
          · rw [j_X4_isRow_54_e]
            exact ih _ _ _ f_s2
          · rw [j_X4_isRow_53_e]
            rw [j_X4_isRow_54_e]
            exact ih _ _ _ f_s2
set_option maxRecDepth 100000 in
theorem fr_X4_isRow {F : Nat} (hF : 1000 ≤ F) {x1 : Int32} {σ : Mem} : pf wf_48 (f_X4_isRow F x1 σ) σ := by
  have f_σ : fr wf_48 σ σ := fr_rf
  rw [f_X4_isRow_e]
  refine pf_bnd (fr_X4_layBrings hF) (ww_36) f_σ (fun r1 s2 f_s2 => ?_)
  exact fl_X4_isRow_8 hF _ _ _ _ f_s2
def wf_69 (c : Nat) : Prop := (108 ≤ c ∧ c ≤ 110) ∨ (1008 ≤ c ∧ c ≤ 1008) ∨ (1010 ≤ c ∧ c ≤ 1010)
theorem ww_68 : ∀ c, wf_48 c → wf_69 c := fun c h => Or.inl (⟨Nat.le_trans (by omega) (h).1, Nat.le_trans (h).2 (by omega)⟩)
theorem ww_69 : ∀ c, wf_45 c → wf_69 c := fun c h => Or.inl (⟨Nat.le_trans (by omega) (h).1, Nat.le_trans (h).2 (by omega)⟩)
set_option maxRecDepth 100000 in
theorem fl_X4_whichLaw_30 {F : Nat} (hF : 1000 ≤ F) {x1 : Int32} {τ : Mem} : ∀ (N : Nat) (x2 : Int32) (x3 : Int32) (σ : Mem), fr wf_69 τ σ → pf wf_69 (lp_X4_whichLaw_30 F x1 N x2 x3 σ) τ := by
  intro N
  induction N with
  | zero => intro _ _ _ _; exact pf_none rfl
  | succ N ih =>
    intro x2 x3 σ f_σ
    rw [lp_X4_whichLaw_30_s]
    refine pf_ite ?_ ?_
    · refine pf_up2 (c := 1008) f_σ (rfl) (Or.inr (Or.inl (⟨by omega, by omega⟩))) (fun s1 f_s1 => ?_)
      exact pf_ret f_s1
    · refine pf_up2 (c := 1008) f_σ (rfl) (Or.inr (Or.inl (⟨by omega, by omega⟩))) (fun s2 f_s2 => ?_)
      refine pf_bnd (fr_X4_isRow hF) (ww_68) f_s2 (fun r3 s4 f_s4 => ?_)
      refine pf_ite ?_ ?_
      · rw [j_X4_whichLaw_56_e]
        exact ih _ _ _ f_s4
      · rw [j_X4_whichLaw_56_e]
        exact ih _ _ _ f_s4
set_option maxRecDepth 100000 in
theorem fr_X4_whichLaw {F : Nat} (hF : 1000 ≤ F) {σ : Mem} : pf wf_69 (f_X4_whichLaw F σ) σ := by
  have f_σ : fr wf_69 σ σ := fr_rf
  rw [f_X4_whichLaw_e]
  refine pf_up2 (c := 1010) f_σ (rfl) (Or.inr (Or.inr (⟨by omega, by omega⟩))) (fun s1 f_s1 => ?_)
  refine pf_ite ?_ ?_
  · exact fl_X4_whichLaw_30 hF _ _ _ _ f_s1
  · refine pf_bnd (fr_X4_refuse hF) (ww_69) f_s1 (fun r2 s3 f_s3 => ?_)
    exact pf_ret f_s3
def wf_70 (c : Nat) : Prop := (102 ≤ c ∧ c ≤ 110) ∨ (115 ≤ c ∧ c ≤ 115) ∨ (1001 ≤ c ∧ c ≤ 1001) ∨ (1003 ≤ c ∧ c ≤ 1003) ∨ (1008 ≤ c ∧ c ≤ 1010) ∨ (1025 ≤ c ∧ c ≤ 1027)
theorem ww_70 : ∀ c, wf_58 c → wf_70 c := fun c h => h.elim (fun a => Or.inl (⟨Nat.le_trans (by omega) (a).1, Nat.le_trans (a).2 (by omega)⟩)) (fun b0 => b0.elim (fun a => Or.inr (Or.inr (Or.inl (a)))) (fun b1 => b1.elim (fun a => Or.inr (Or.inr (Or.inr (Or.inl (a))))) (fun b2 => b2.elim (fun a => Or.inr (Or.inr (Or.inr (Or.inr (Or.inl (⟨Nat.le_trans (by omega) (a).1, Nat.le_trans (a).2 (by omega)⟩)))))) (fun b3 => Or.inr (Or.inr (Or.inr (Or.inr (Or.inr (b3)))))))))
theorem ww_71 : ∀ c, wf_48 c → wf_70 c := fun c h => Or.inl (⟨Nat.le_trans (by omega) (h).1, Nat.le_trans (h).2 (by omega)⟩)
theorem ww_72 : ∀ c, wf_57 c → wf_70 c := fun c h => h.elim (fun a => Or.inr (Or.inl (a))) (fun b0 => Or.inr (Or.inr (Or.inr (Or.inr (Or.inr (b0))))))
theorem ww_73 : ∀ c, wf_45 c → wf_70 c := fun c h => Or.inl (⟨Nat.le_trans (by omega) (h).1, Nat.le_trans (h).2 (by omega)⟩)
set_option maxRecDepth 100000 in
theorem fl_X4_whichKind_77 {F : Nat} (hF : 1000 ≤ F) {x1 : Int32} {x2 : Int32} {x3 : Int32} {τ : Mem} : ∀ (N : Nat) (x5 : Int32) (x6 : Int32) (σ : Mem), fr wf_70 τ σ → pf wf_70 (lp_X4_whichKind_77 F x1 x2 x3 N x5 x6 σ) τ := by
  intro N
  induction N with
  | zero => intro _ _ _ _; exact pf_none rfl
  | succ N ih =>
    intro x5 x6 σ f_σ
    rw [lp_X4_whichKind_77_s]
    refine pf_ite ?_ ?_
    · rw [j_X4_whichKind_90_e]
      refine pf_ite ?_ ?_
      · refine pf_bnd (fr_X4_again hF) (ww_70) f_σ (fun r1 s2 f_s2 => ?_)
        exact pf_ret f_s2
      · refine pf_ite ?_ ?_
        · rw [j_X4_whichKind_113_e]
          refine pf_chk (fun v3 => ?_)
          refine pf_up2 (c := 104) f_σ (rfl) (Or.inl (⟨by omega, by omega⟩)) (fun s4 f_s4 => ?_)
          refine pf_ite ?_ ?_
          · rw [j_X4_whichKind_135_e]
            refine pf_chk (fun v5 => ?_)
            refine pf_up2 (c := 105) f_s4 (rfl) (Or.inl (⟨by omega, by omega⟩)) (fun s6 f_s6 => ?_)
            refine pf_bnd (fr_X4_isRow hF) (ww_71) f_s6 (fun r7 s8 f_s8 => ?_)
            refine pf_ite ?_ ?_
            · rw [j_X4_whichKind_154_e]
              exact ih _ _ _ f_s8
            · rw [j_X4_whichKind_154_e]
              exact ih _ _ _ f_s8
          · refine pf_chk (fun v9 => ?_)
            rw [j_X4_whichKind_135_e]
            refine pf_chk (fun v10 => ?_)
            refine pf_up2 (c := 105) f_s4 (rfl) (Or.inl (⟨by omega, by omega⟩)) (fun s11 f_s11 => ?_)
            refine pf_bnd (fr_X4_isRow hF) (ww_71) f_s11 (fun r12 s13 f_s13 => ?_)
            refine pf_ite ?_ ?_
            · rw [j_X4_whichKind_154_e]
              exact ih _ _ _ f_s13
            · rw [j_X4_whichKind_154_e]
              exact ih _ _ _ f_s13
        · refine pf_chk (fun v14 => ?_)
          rw [j_X4_whichKind_113_e]
          refine pf_chk (fun v15 => ?_)
          refine pf_up2 (c := 104) f_σ (rfl) (Or.inl (⟨by omega, by omega⟩)) (fun s16 f_s16 => ?_)
          refine pf_ite ?_ ?_
          · rw [j_X4_whichKind_135_e]
            refine pf_chk (fun v17 => ?_)
            refine pf_up2 (c := 105) f_s16 (rfl) (Or.inl (⟨by omega, by omega⟩)) (fun s18 f_s18 => ?_)
            refine pf_bnd (fr_X4_isRow hF) (ww_71) f_s18 (fun r19 s20 f_s20 => ?_)
            refine pf_ite ?_ ?_
            · rw [j_X4_whichKind_154_e]
              exact ih _ _ _ f_s20
            · rw [j_X4_whichKind_154_e]
              exact ih _ _ _ f_s20
          · refine pf_chk (fun v21 => ?_)
            rw [j_X4_whichKind_135_e]
            refine pf_chk (fun v22 => ?_)
            refine pf_up2 (c := 105) f_s16 (rfl) (Or.inl (⟨by omega, by omega⟩)) (fun s23 f_s23 => ?_)
            refine pf_bnd (fr_X4_isRow hF) (ww_71) f_s23 (fun r24 s25 f_s25 => ?_)
            refine pf_ite ?_ ?_
            · rw [j_X4_whichKind_154_e]
              exact ih _ _ _ f_s25
            · rw [j_X4_whichKind_154_e]
              exact ih _ _ _ f_s25
    · rw [j_X4_whichKind_90_e]
      refine pf_ite ?_ ?_
      · refine pf_bnd (fr_X4_again hF) (ww_70) f_σ (fun r26 s27 f_s27 => ?_)
        exact pf_ret f_s27
      · refine pf_ite ?_ ?_
        · rw [j_X4_whichKind_113_e]
          refine pf_chk (fun v28 => ?_)
          refine pf_up2 (c := 104) f_σ (rfl) (Or.inl (⟨by omega, by omega⟩)) (fun s29 f_s29 => ?_)
          refine pf_ite ?_ ?_
          · rw [j_X4_whichKind_135_e]
            refine pf_chk (fun v30 => ?_)
            refine pf_up2 (c := 105) f_s29 (rfl) (Or.inl (⟨by omega, by omega⟩)) (fun s31 f_s31 => ?_)
            refine pf_bnd (fr_X4_isRow hF) (ww_71) f_s31 (fun r32 s33 f_s33 => ?_)
            refine pf_ite ?_ ?_
            · rw [j_X4_whichKind_154_e]
              exact ih _ _ _ f_s33
            · rw [j_X4_whichKind_154_e]
              exact ih _ _ _ f_s33
          · refine pf_chk (fun v34 => ?_)
            rw [j_X4_whichKind_135_e]
            refine pf_chk (fun v35 => ?_)
            refine pf_up2 (c := 105) f_s29 (rfl) (Or.inl (⟨by omega, by omega⟩)) (fun s36 f_s36 => ?_)
            refine pf_bnd (fr_X4_isRow hF) (ww_71) f_s36 (fun r37 s38 f_s38 => ?_)
            refine pf_ite ?_ ?_
            · rw [j_X4_whichKind_154_e]
              exact ih _ _ _ f_s38
            · rw [j_X4_whichKind_154_e]
              exact ih _ _ _ f_s38
        · refine pf_chk (fun v39 => ?_)
          rw [j_X4_whichKind_113_e]
          refine pf_chk (fun v40 => ?_)
          refine pf_up2 (c := 104) f_σ (rfl) (Or.inl (⟨by omega, by omega⟩)) (fun s41 f_s41 => ?_)
          refine pf_ite ?_ ?_
          · rw [j_X4_whichKind_135_e]
            refine pf_chk (fun v42 => ?_)
            refine pf_up2 (c := 105) f_s41 (rfl) (Or.inl (⟨by omega, by omega⟩)) (fun s43 f_s43 => ?_)
            refine pf_bnd (fr_X4_isRow hF) (ww_71) f_s43 (fun r44 s45 f_s45 => ?_)
            refine pf_ite ?_ ?_
            · rw [j_X4_whichKind_154_e]
              exact ih _ _ _ f_s45
            · rw [j_X4_whichKind_154_e]
              exact ih _ _ _ f_s45
          · refine pf_chk (fun v46 => ?_)
            rw [j_X4_whichKind_135_e]
            refine pf_chk (fun v47 => ?_)
            refine pf_up2 (c := 105) f_s41 (rfl) (Or.inl (⟨by omega, by omega⟩)) (fun s48 f_s48 => ?_)
            refine pf_bnd (fr_X4_isRow hF) (ww_71) f_s48 (fun r49 s50 f_s50 => ?_)
            refine pf_ite ?_ ?_
            · rw [j_X4_whichKind_154_e]
              exact ih _ _ _ f_s50
            · rw [j_X4_whichKind_154_e]
              exact ih _ _ _ f_s50
set_option maxRecDepth 100000 in
theorem fr_X4_whichKind {F : Nat} (hF : 1000 ≤ F) {x1 : Int32} {x2 : Int32} {x3 : Int32} {σ : Mem} : pf wf_70 (f_X4_whichKind F x1 x2 x3 σ) σ := by
  have f_σ : fr wf_70 σ σ := fr_rf
  rw [f_X4_whichKind_e]
  refine pf_up2 (c := 1010) f_σ (rfl) (Or.inr (Or.inr (Or.inr (Or.inr (Or.inl (⟨by omega, by omega⟩)))))) (fun s1 f_s1 => ?_)
  refine pf_bnd (fr_X4_isLooker hF) (fun _ h => h.elim) f_s1 (fun r2 s3 f_s3 => ?_)
  refine pf_ite ?_ ?_
  · rw [j_X4_whichKind_25_e]
    refine pf_bnd (fr_X4_wrongBit hF) (fun _ h => h.elim) f_s3 (fun r4 s5 f_s5 => ?_)
    refine pf_ite ?_ ?_
    · refine pf_ite ?_ ?_
      · rw [j_X4_whichKind_51_e]
        rw [j_X4_whichKind_53_e]
        refine pf_ite ?_ ?_
        · refine pf_bnd (fr_X4_think hF) (ww_72) f_s5 (fun r6 s7 f_s7 => ?_)
          exact fl_X4_whichKind_77 hF _ _ _ _ f_s7
        · refine pf_bnd (fr_X4_refuse hF) (ww_73) f_s5 (fun r8 s9 f_s9 => ?_)
          exact pf_ret f_s9
      · rw [j_X4_whichKind_53_e]
        refine pf_ite ?_ ?_
        · refine pf_bnd (fr_X4_think hF) (ww_72) f_s5 (fun r10 s11 f_s11 => ?_)
          exact fl_X4_whichKind_77 hF _ _ _ _ f_s11
        · refine pf_bnd (fr_X4_refuse hF) (ww_73) f_s5 (fun r12 s13 f_s13 => ?_)
          exact pf_ret f_s13
    · rw [j_X4_whichKind_51_e]
      rw [j_X4_whichKind_53_e]
      refine pf_ite ?_ ?_
      · refine pf_bnd (fr_X4_think hF) (ww_72) f_s5 (fun r14 s15 f_s15 => ?_)
        exact fl_X4_whichKind_77 hF _ _ _ _ f_s15
      · refine pf_bnd (fr_X4_refuse hF) (ww_73) f_s5 (fun r16 s17 f_s17 => ?_)
        exact pf_ret f_s17
  · refine pf_bnd (fr_X4_wrongNumber hF) (fun _ h => h.elim) f_s3 (fun r18 s19 f_s19 => ?_)
    rw [j_X4_whichKind_25_e]
    refine pf_bnd (fr_X4_wrongBit hF) (fun _ h => h.elim) f_s19 (fun r20 s21 f_s21 => ?_)
    refine pf_ite ?_ ?_
    · refine pf_ite ?_ ?_
      · rw [j_X4_whichKind_51_e]
        rw [j_X4_whichKind_53_e]
        refine pf_ite ?_ ?_
        · refine pf_bnd (fr_X4_think hF) (ww_72) f_s21 (fun r22 s23 f_s23 => ?_)
          exact fl_X4_whichKind_77 hF _ _ _ _ f_s23
        · refine pf_bnd (fr_X4_refuse hF) (ww_73) f_s21 (fun r24 s25 f_s25 => ?_)
          exact pf_ret f_s25
      · rw [j_X4_whichKind_53_e]
        refine pf_ite ?_ ?_
        · refine pf_bnd (fr_X4_think hF) (ww_72) f_s21 (fun r26 s27 f_s27 => ?_)
          exact fl_X4_whichKind_77 hF _ _ _ _ f_s27
        · refine pf_bnd (fr_X4_refuse hF) (ww_73) f_s21 (fun r28 s29 f_s29 => ?_)
          exact pf_ret f_s29
    · rw [j_X4_whichKind_51_e]
      rw [j_X4_whichKind_53_e]
      refine pf_ite ?_ ?_
      · refine pf_bnd (fr_X4_think hF) (ww_72) f_s21 (fun r30 s31 f_s31 => ?_)
        exact fl_X4_whichKind_77 hF _ _ _ _ f_s31
      · refine pf_bnd (fr_X4_refuse hF) (ww_73) f_s21 (fun r32 s33 f_s33 => ?_)
        exact pf_ret f_s33
set_option maxRecDepth 100000 in
theorem fl_X4_ill_140 {F : Nat} (hF : 1000 ≤ F) {x1 : Int32} {x2 : Int32} {x3 : Int32} {x4 : Int32} {x5 : Int32} {y7 : Int64} {y9 : Int64} {x11 : Int32} {k126 : Int64 → Int32 → Mem → Option (Int64 × Mem)} {τ : Mem} (hk126 : ∀ (y7 : Int64) (x11 : Int32) (σ : Mem), fr wf_61 τ σ → pf wf_61 (k126 y7 x11 σ) τ) : ∀ (N : Nat) (y12 : Int64) (x14 : Int32) (σ : Mem), fr wf_61 τ σ → pf wf_61 (lp_X4_ill_140 F k126 x1 x2 x3 x4 x5 y7 y9 x11 N y12 x14 σ) τ := by
  intro N
  induction N with
  | zero => intro _ _ _ _; exact pf_none rfl
  | succ N ih =>
    intro y12 x14 σ f_σ
    rw [lp_X4_ill_140_s]
    refine pf_ite ?_ ?_
    · refine pf_bnd (fr_X4_ownerIn hF) (ww_52) f_σ (fun r1 s2 f_s2 => ?_)
      refine pf_chk (fun v3 => ?_)
      refine pf_bnd (fr_X4_onesOf hF) (fun _ h => h.elim) f_s2 (fun r4 s5 f_s5 => ?_)
      refine pf_bnd (fr_X4_held hF) (fun _ h => h.elim) f_s5 (fun r6 s7 f_s7 => ?_)
      refine pf_chk (fun v8 => ?_)
      refine pf_up2 (c := 110) f_s7 (rfl) (Or.inl (⟨by omega, by omega⟩)) (fun s9 f_s9 => ?_)
      refine pf_bnd (fr_X4_ownerLooked hF) (fun _ h => h.elim) f_s9 (fun r10 s11 f_s11 => ?_)
      refine pf_ite ?_ ?_
      · rw [j_X4_ill_237_e]
        exact hk126 _ _ _ f_s11
      · rw [j_X4_ill_237_e]
        exact hk126 _ _ _ f_s11
    · refine pf_bnd (fr_X4_hasBit hF) (fun _ h => h.elim) f_σ (fun r12 s13 f_s13 => ?_)
      refine pf_ite ?_ ?_
      · rw [j_X4_ill_167_e]
        exact ih _ _ _ f_s13
      · rw [j_X4_ill_167_e]
        exact ih _ _ _ f_s13
set_option maxRecDepth 100000 in
theorem fl_X4_ill_126 {F : Nat} (hF : 1000 ≤ F) {x1 : Int32} {x2 : Int32} {x3 : Int32} {x4 : Int32} {x5 : Int32} {y9 : Int64} {τ : Mem} : ∀ (N : Nat) (y7 : Int64) (x11 : Int32) (σ : Mem), fr wf_61 τ σ → pf wf_61 (lp_X4_ill_126 F x1 x2 x3 x4 x5 y9 N y7 x11 σ) τ := by
  intro N
  induction N with
  | zero => intro _ _ _ _; exact pf_none rfl
  | succ N ih =>
    intro y7 x11 σ f_σ
    rw [lp_X4_ill_126_s]
    refine pf_ite ?_ ?_
    · refine pf_bnd (fr_X4_partOf hF) (fun _ h => h.elim) f_σ (fun r1 s2 f_s2 => ?_)
      exact pf_ret f_s2
    · exact fl_X4_ill_140 hF ih _ _ _ _ f_σ
set_option maxRecDepth 100000 in
theorem fl_X4_ill_103 {F : Nat} (hF : 1000 ≤ F) {x1 : Int32} {x2 : Int32} {x3 : Int32} {x4 : Int32} {x5 : Int32} {y7 : Int64} {τ : Mem} : ∀ (N : Nat) (y9 : Int64) (x11 : Int32) (σ : Mem), fr wf_61 τ σ → pf wf_61 (lp_X4_ill_103 F x1 x2 x3 x4 x5 y7 N y9 x11 σ) τ := by
  intro N
  induction N with
  | zero => intro _ _ _ _; exact pf_none rfl
  | succ N ih =>
    intro y9 x11 σ f_σ
    rw [lp_X4_ill_103_s]
    refine pf_ite ?_ ?_
    · exact fl_X4_ill_126 hF _ _ _ _ f_σ
    · refine pf_lt (fun z1 _ => ?_)
      exact ih _ _ _ f_σ
set_option maxRecDepth 100000 in
theorem fr_X4_ill {F : Nat} (hF : 1000 ≤ F) {x1 : Int32} {x2 : Int32} {x3 : Int32} {x4 : Int32} {x5 : Int32} {σ : Mem} : pf wf_61 (f_X4_ill F x1 x2 x3 x4 x5 σ) σ := by
  have f_σ : fr wf_61 σ σ := fr_rf
  rw [f_X4_ill_e]
  refine pf_up2 (c := 1010) f_σ (rfl) (Or.inr (⟨by omega, by omega⟩)) (fun s1 f_s1 => ?_)
  refine pf_bnd (fr_X4_isLooker hF) (fun _ h => h.elim) f_s1 (fun r2 s3 f_s3 => ?_)
  refine pf_ite ?_ ?_
  · rw [j_X4_ill_23_e]
    rw [j_X4_ill_63_e]
    refine pf_bnd (fr_X4_wrongBit hF) (fun _ h => h.elim) f_s3 (fun r4 s5 f_s5 => ?_)
    refine pf_ite ?_ ?_
    · refine pf_bnd (fr_X4_layBrings hF) (ww_51) f_s5 (fun r6 s7 f_s7 => ?_)
      exact fl_X4_ill_103 hF _ _ _ _ f_s7
    · refine pf_bnd (fr_X4_refuse hF) (ww_50) f_s5 (fun r8 s9 f_s9 => ?_)
      exact pf_ret f_s9
  · refine pf_bnd (fr_X4_isView hF) (fun _ h => h.elim) f_s3 (fun r10 s11 f_s11 => ?_)
    refine pf_ite ?_ ?_
    · rw [j_X4_ill_23_e]
      rw [j_X4_ill_63_e]
      refine pf_bnd (fr_X4_wrongBit hF) (fun _ h => h.elim) f_s11 (fun r12 s13 f_s13 => ?_)
      refine pf_ite ?_ ?_
      · refine pf_bnd (fr_X4_layBrings hF) (ww_51) f_s13 (fun r14 s15 f_s15 => ?_)
        exact fl_X4_ill_103 hF _ _ _ _ f_s15
      · refine pf_bnd (fr_X4_refuse hF) (ww_50) f_s13 (fun r16 s17 f_s17 => ?_)
        exact pf_ret f_s17
    · refine pf_ite ?_ ?_
      · rw [j_X4_ill_39_e]
        rw [j_X4_ill_63_e]
        refine pf_bnd (fr_X4_wrongBit hF) (fun _ h => h.elim) f_s11 (fun r18 s19 f_s19 => ?_)
        refine pf_ite ?_ ?_
        · refine pf_bnd (fr_X4_layBrings hF) (ww_51) f_s19 (fun r20 s21 f_s21 => ?_)
          exact fl_X4_ill_103 hF _ _ _ _ f_s21
        · refine pf_bnd (fr_X4_refuse hF) (ww_50) f_s19 (fun r22 s23 f_s23 => ?_)
          exact pf_ret f_s23
      · refine pf_ite ?_ ?_
        · refine pf_ite ?_ ?_
          · rw [j_X4_ill_59_e]
            rw [j_X4_ill_63_e]
            refine pf_bnd (fr_X4_wrongBit hF) (fun _ h => h.elim) f_s11 (fun r24 s25 f_s25 => ?_)
            refine pf_ite ?_ ?_
            · refine pf_bnd (fr_X4_layBrings hF) (ww_51) f_s25 (fun r26 s27 f_s27 => ?_)
              exact fl_X4_ill_103 hF _ _ _ _ f_s27
            · refine pf_bnd (fr_X4_refuse hF) (ww_50) f_s25 (fun r28 s29 f_s29 => ?_)
              exact pf_ret f_s29
          · refine pf_ite ?_ ?_
            · rw [j_X4_ill_63_e]
              refine pf_bnd (fr_X4_wrongBit hF) (fun _ h => h.elim) f_s11 (fun r30 s31 f_s31 => ?_)
              refine pf_ite ?_ ?_
              · refine pf_bnd (fr_X4_layBrings hF) (ww_51) f_s31 (fun r32 s33 f_s33 => ?_)
                exact fl_X4_ill_103 hF _ _ _ _ f_s33
              · refine pf_bnd (fr_X4_refuse hF) (ww_50) f_s31 (fun r34 s35 f_s35 => ?_)
                exact pf_ret f_s35
            · rw [j_X4_ill_59_e]
              rw [j_X4_ill_63_e]
              refine pf_bnd (fr_X4_wrongBit hF) (fun _ h => h.elim) f_s11 (fun r36 s37 f_s37 => ?_)
              refine pf_ite ?_ ?_
              · refine pf_bnd (fr_X4_layBrings hF) (ww_51) f_s37 (fun r38 s39 f_s39 => ?_)
                exact fl_X4_ill_103 hF _ _ _ _ f_s39
              · refine pf_bnd (fr_X4_refuse hF) (ww_50) f_s37 (fun r40 s41 f_s41 => ?_)
                exact pf_ret f_s41
        · rw [j_X4_ill_39_e]
          rw [j_X4_ill_63_e]
          refine pf_bnd (fr_X4_wrongBit hF) (fun _ h => h.elim) f_s11 (fun r42 s43 f_s43 => ?_)
          refine pf_ite ?_ ?_
          · refine pf_bnd (fr_X4_layBrings hF) (ww_51) f_s43 (fun r44 s45 f_s45 => ?_)
            exact fl_X4_ill_103 hF _ _ _ _ f_s45
          · refine pf_bnd (fr_X4_refuse hF) (ww_50) f_s43 (fun r46 s47 f_s47 => ?_)
            exact pf_ret f_s47
set_option maxRecDepth 100000 in
theorem fl_X4_standing_4 {F : Nat} (hF : 1000 ≤ F) {x1 : Int32} {τ : Mem} : ∀ (N : Nat) (x2 : Int32) (x3 : Int32) (σ : Mem), fr wf_1 τ σ → pf wf_1 (lp_X4_standing_4 F x1 N x2 x3 σ) τ := by
  intro N
  induction N with
  | zero => intro _ _ _ _; exact pf_none rfl
  | succ N ih =>
    intro x2 x3 σ f_σ
    rw [lp_X4_standing_4_s]
    refine pf_ite ?_ ?_
    · exact pf_ret f_σ
    · refine pf_chk (fun v1 => ?_)
      refine pf_ite ?_ ?_
      · rw [j_X4_standing_32_e]
        exact ih _ _ _ f_σ
      · rw [j_X4_standing_32_e]
        exact ih _ _ _ f_σ
set_option maxRecDepth 100000 in
theorem fr_X4_standing {F : Nat} (hF : 1000 ≤ F) {x1 : Int32} {σ : Mem} : pf wf_1 (f_X4_standing F x1 σ) σ := by
  have f_σ : fr wf_1 σ σ := fr_rf
  rw [f_X4_standing_e]
  exact fl_X4_standing_4 hF _ _ _ _ f_σ
set_option maxRecDepth 100000 in
theorem fl_X4_busy_26 {F : Nat} (hF : 1000 ≤ F) {x1 : Int32} {τ : Mem} : ∀ (N : Nat) (x2 : Int32) (x3 : Int32) (σ : Mem), fr wf_60 τ σ → pf wf_60 (lp_X4_busy_26 F x1 N x2 x3 σ) τ := by
  intro N
  induction N with
  | zero => intro _ _ _ _; exact pf_none rfl
  | succ N ih =>
    intro x2 x3 σ f_σ
    rw [lp_X4_busy_26_s]
    refine pf_ite ?_ ?_
    · refine pf_ite ?_ ?_
      · exact pf_ret f_σ
      · refine pf_bnd (fr_X4_standing hF) (fun _ h => h.elim) f_σ (fun r1 s2 f_s2 => ?_)
        exact pf_ret f_s2
    · refine pf_bnd (fr_X4_standing hF) (fun _ h => h.elim) f_σ (fun r3 s4 f_s4 => ?_)
      refine pf_bnd (fr_X4_standing hF) (fun _ h => h.elim) f_s4 (fun r5 s6 f_s6 => ?_)
      refine pf_ite ?_ ?_
      · rw [j_X4_busy_50_e]
        exact ih _ _ _ f_s6
      · rw [j_X4_busy_50_e]
        exact ih _ _ _ f_s6
set_option maxRecDepth 100000 in
theorem fr_X4_busy {F : Nat} (hF : 1000 ≤ F) {x1 : Int32} {σ : Mem} : pf wf_60 (f_X4_busy F x1 σ) σ := by
  have f_σ : fr wf_60 σ σ := fr_rf
  rw [f_X4_busy_e]
  refine pf_up2 (c := 1010) f_σ (rfl) (Or.inr (⟨by omega, by omega⟩)) (fun s1 f_s1 => ?_)
  refine pf_bnd (fr_X4_in hF) (fun _ h => h.elim) f_s1 (fun r2 s3 f_s3 => ?_)
  refine pf_ite ?_ ?_
  · refine pf_bnd (fr_X4_refuse hF) (ww_49) f_s3 (fun r4 s5 f_s5 => ?_)
    exact pf_ret f_s5
  · exact fl_X4_busy_26 hF _ _ _ _ f_s3
set_option maxRecDepth 100000 in
theorem fl_X4_together_25 {F : Nat} (hF : 1000 ≤ F) {x1 : Int32} {x2 : Int32} {τ : Mem} : ∀ (N : Nat) (x3 : Int32) (x4 : Int32) (σ : Mem), fr wf_60 τ σ → pf wf_60 (lp_X4_together_25 F x1 x2 N x3 x4 σ) τ := by
  intro N
  induction N with
  | zero => intro _ _ _ _; exact pf_none rfl
  | succ N ih =>
    intro x3 x4 σ f_σ
    rw [lp_X4_together_25_s]
    refine pf_ite ?_ ?_
    · exact pf_ret f_σ
    · refine pf_chk (fun v1 => ?_)
      refine pf_lt (fun z2 _ => ?_)
      refine pf_ite ?_ ?_
      · rw [j_X4_together_76_e]
        rw [j_X4_together_77_e]
        exact ih _ _ _ f_σ
      · refine pf_chk (fun v3 => ?_)
        refine pf_ite ?_ ?_
        · rw [j_X4_together_77_e]
          exact ih _ _ _ f_σ
        · rw [j_X4_together_76_e]
          rw [j_X4_together_77_e]
          exact ih _ _ _ f_σ
set_option maxRecDepth 100000 in
theorem fr_X4_together {F : Nat} (hF : 1000 ≤ F) {x1 : Int32} {x2 : Int32} {σ : Mem} : pf wf_60 (f_X4_together F x1 x2 σ) σ := by
  have f_σ : fr wf_60 σ σ := fr_rf
  rw [f_X4_together_e]
  refine pf_up2 (c := 1010) f_σ (rfl) (Or.inr (⟨by omega, by omega⟩)) (fun s1 f_s1 => ?_)
  refine pf_bnd (fr_X4_areTwo hF) (fun _ h => h.elim) f_s1 (fun r2 s3 f_s3 => ?_)
  refine pf_ite ?_ ?_
  · refine pf_bnd (fr_X4_refuse hF) (ww_49) f_s3 (fun r4 s5 f_s5 => ?_)
    exact pf_ret f_s5
  · exact fl_X4_together_25 hF _ _ _ _ f_s3
set_option maxRecDepth 100000 in
theorem fl_X4_swapRosters_2 {F : Nat} (hF : 1000 ≤ F) {x1 : Int32} {x2 : Int32} {τ : Mem} : ∀ (N : Nat) (x3 : Int32) (σ : Mem), fr wf_55 τ σ → pf wf_55 (lp_X4_swapRosters_2 F x1 x2 N x3 σ) τ := by
  intro N
  induction N with
  | zero => intro _ _ _; exact pf_none rfl
  | succ N ih =>
    intro x3 σ f_σ
    rw [lp_X4_swapRosters_2_s]
    refine pf_ite ?_ ?_
    · exact pf_ret f_σ
    · refine pf_chk (fun v1 => ?_)
      refine pf_lt (fun z2 _ => ?_)
      refine pf_chk (fun v3 => ?_)
      refine pf_up2 (c := 106) f_σ (rfl) (⟨by omega, by omega⟩) (fun s4 f_s4 => ?_)
      refine pf_up2 (c := 106) f_s4 (rfl) (⟨by omega, by omega⟩) (fun s5 f_s5 => ?_)
      exact ih _ _ f_s5
set_option maxRecDepth 100000 in
theorem fr_X4_swapRosters {F : Nat} (hF : 1000 ≤ F) {x1 : Int32} {x2 : Int32} {σ : Mem} : pf wf_55 (f_X4_swapRosters F x1 x2 σ) σ := by
  have f_σ : fr wf_55 σ σ := fr_rf
  rw [f_X4_swapRosters_e]
  exact fl_X4_swapRosters_2 hF _ _ _ f_σ
theorem ww_74 : ∀ c, wf_55 c → wf_65 c := fun c h => Or.inl (h)
set_option maxRecDepth 100000 in
theorem fl_X4_swap_52 {F : Nat} (hF : 1000 ≤ F) {x1 : Int32} {x4 : Int32} {k37 : Int32 → Int32 → Int32 → Mem → Option (Int32 × Mem)} {τ : Mem} (hk37 : ∀ (x2 : Int32) (x3 : Int32) (x4 : Int32) (σ : Mem), fr wf_65 τ σ → pf wf_65 (k37 x2 x3 x4 σ) τ) : ∀ (N : Nat) (x2 : Int32) (x3 : Int32) (x5 : Int32) (σ : Mem), fr wf_65 τ σ → pf wf_65 (lp_X4_swap_52 F k37 x1 x4 N x2 x3 x5 σ) τ := by
  intro N
  induction N with
  | zero => intro _ _ _ _ _; exact pf_none rfl
  | succ N ih =>
    intro x2 x3 x5 σ f_σ
    rw [lp_X4_swap_52_s]
    refine pf_ite ?_ ?_
    · exact hk37 _ _ _ _ f_σ
    · refine pf_bnd (fr_X4_worthAnew hF) (ww_59) f_σ (fun r1 s2 f_s2 => ?_)
      refine pf_bnd (fr_X4_worthIn hF) (ww_62) f_s2 (fun r3 s4 f_s4 => ?_)
      refine pf_bnd (fr_X4_swapRosters hF) (ww_74) f_s4 (fun r5 s6 f_s6 => ?_)
      refine pf_bnd (fr_X4_worthAnew hF) (ww_59) f_s6 (fun r7 s8 f_s8 => ?_)
      refine pf_bnd (fr_X4_worthIn hF) (ww_62) f_s8 (fun r9 s10 f_s10 => ?_)
      refine pf_bnd (fr_X4_swapRosters hF) (ww_74) f_s10 (fun r11 s12 f_s12 => ?_)
      refine pf_ite ?_ ?_
      · rw [j_X4_swap_128_e]
        rw [j_X4_swap_129_e]
        refine pf_ite ?_ ?_
        · rw [j_X4_swap_148_e]
          refine pf_ite ?_ ?_
          · rw [j_X4_swap_160_e]
            exact ih _ _ _ _ f_s12
          · rw [j_X4_swap_160_e]
            exact ih _ _ _ _ f_s12
        · rw [j_X4_swap_148_e]
          refine pf_ite ?_ ?_
          · rw [j_X4_swap_160_e]
            exact ih _ _ _ _ f_s12
          · rw [j_X4_swap_160_e]
            exact ih _ _ _ _ f_s12
      · refine pf_ite ?_ ?_
        · rw [j_X4_swap_128_e]
          rw [j_X4_swap_129_e]
          refine pf_ite ?_ ?_
          · rw [j_X4_swap_148_e]
            refine pf_ite ?_ ?_
            · rw [j_X4_swap_160_e]
              exact ih _ _ _ _ f_s12
            · rw [j_X4_swap_160_e]
              exact ih _ _ _ _ f_s12
          · rw [j_X4_swap_148_e]
            refine pf_ite ?_ ?_
            · rw [j_X4_swap_160_e]
              exact ih _ _ _ _ f_s12
            · rw [j_X4_swap_160_e]
              exact ih _ _ _ _ f_s12
        · rw [j_X4_swap_129_e]
          refine pf_ite ?_ ?_
          · rw [j_X4_swap_148_e]
            refine pf_ite ?_ ?_
            · rw [j_X4_swap_160_e]
              exact ih _ _ _ _ f_s12
            · rw [j_X4_swap_160_e]
              exact ih _ _ _ _ f_s12
          · rw [j_X4_swap_148_e]
            refine pf_ite ?_ ?_
            · rw [j_X4_swap_160_e]
              exact ih _ _ _ _ f_s12
            · rw [j_X4_swap_160_e]
              exact ih _ _ _ _ f_s12
set_option maxRecDepth 100000 in
theorem fl_X4_swap_37 {F : Nat} (hF : 1000 ≤ F) {x1 : Int32} {τ : Mem} : ∀ (N : Nat) (x2 : Int32) (x3 : Int32) (x4 : Int32) (σ : Mem), fr wf_65 τ σ → pf wf_65 (lp_X4_swap_37 F x1 N x2 x3 x4 σ) τ := by
  intro N
  induction N with
  | zero => intro _ _ _ _ _; exact pf_none rfl
  | succ N ih =>
    intro x2 x3 x4 σ f_σ
    rw [lp_X4_swap_37_s]
    refine pf_ite ?_ ?_
    · exact pf_ret f_σ
    · exact fl_X4_swap_52 hF ih _ _ _ _ _ f_σ
set_option maxRecDepth 100000 in
theorem fr_X4_swap {F : Nat} (hF : 1000 ≤ F) {x1 : Int32} {σ : Mem} : pf wf_65 (f_X4_swap F x1 σ) σ := by
  have f_σ : fr wf_65 σ σ := fr_rf
  rw [f_X4_swap_e]
  refine pf_up2 (c := 1010) f_σ (rfl) (Or.inr (Or.inr (⟨by omega, by omega⟩))) (fun s1 f_s1 => ?_)
  refine pf_bnd (fr_X4_wrongNumber hF) (fun _ h => h.elim) f_s1 (fun r2 s3 f_s3 => ?_)
  refine pf_ite ?_ ?_
  · exact fl_X4_swap_37 hF _ _ _ _ _ f_s3
  · refine pf_bnd (fr_X4_wrongNumber hF) (fun _ h => h.elim) f_s3 (fun r4 s5 f_s5 => ?_)
    refine pf_bnd (fr_X4_refuse hF) (ww_60) f_s5 (fun r6 s7 f_s7 => ?_)
    exact pf_ret f_s7
theorem ww_75 : ∀ c, wf_46 c → wf_70 c := fun c h => Or.inl (⟨Nat.le_trans (by omega) (h).1, Nat.le_trans (h).2 (by omega)⟩)
theorem ww_76 : ∀ c, wf_47 c → wf_70 c := fun c h => Or.inl (⟨Nat.le_trans (by omega) (h).1, Nat.le_trans (h).2 (by omega)⟩)
theorem ww_77 : ∀ c, wf_55 c → wf_70 c := fun c h => Or.inl (⟨Nat.le_trans (by omega) (h).1, Nat.le_trans (h).2 (by omega)⟩)
set_option maxRecDepth 100000 in
theorem fl_X4_heir_63 {F : Nat} (hF : 1000 ≤ F) {x1 : Int32} {x2 : Int32} {x3 : Int32} {τ : Mem} : ∀ (N : Nat) (x5 : Int32) (σ : Mem), fr wf_70 τ σ → pf wf_70 (lp_X4_heir_63 F x1 x2 x3 N x5 σ) τ := by
  intro N
  induction N with
  | zero => intro _ _ _; exact pf_none rfl
  | succ N ih =>
    intro x5 σ f_σ
    rw [lp_X4_heir_63_s]
    refine pf_ite ?_ ?_
    · refine pf_bnd (fr_X4_layBrings hF) (ww_75) f_σ (fun r1 s2 f_s2 => ?_)
      refine pf_bnd (fr_X4_ownerIn hF) (ww_76) f_s2 (fun r3 s4 f_s4 => ?_)
      refine pf_bnd (fr_X4_again hF) (ww_70) f_s4 (fun r5 s6 f_s6 => ?_)
      exact pf_ret f_s6
    · refine pf_chk (fun v7 => ?_)
      refine pf_up2 (c := 107) f_σ (rfl) (Or.inl (⟨by omega, by omega⟩)) (fun s8 f_s8 => ?_)
      exact ih _ _ f_s8
set_option maxRecDepth 100000 in
theorem fr_X4_heir {F : Nat} (hF : 1000 ≤ F) {x1 : Int32} {x2 : Int32} {x3 : Int32} {σ : Mem} : pf wf_70 (f_X4_heir F x1 x2 x3 σ) σ := by
  have f_σ : fr wf_70 σ σ := fr_rf
  rw [f_X4_heir_e]
  refine pf_up2 (c := 1010) f_σ (rfl) (Or.inr (Or.inr (Or.inr (Or.inr (Or.inl (⟨by omega, by omega⟩)))))) (fun s1 f_s1 => ?_)
  refine pf_bnd (fr_X4_isLooker hF) (fun _ h => h.elim) f_s1 (fun r2 s3 f_s3 => ?_)
  refine pf_ite ?_ ?_
  · rw [j_X4_heir_31_e]
    rw [j_X4_heir_32_e]
    refine pf_ite ?_ ?_
    · refine pf_bnd (fr_X4_think hF) (ww_72) f_s3 (fun r4 s5 f_s5 => ?_)
      refine pf_bnd (fr_X4_stand hF) (ww_77) f_s5 (fun r6 s7 f_s7 => ?_)
      exact fl_X4_heir_63 hF _ _ _ f_s7
    · refine pf_bnd (fr_X4_refuse hF) (ww_73) f_s3 (fun r8 s9 f_s9 => ?_)
      exact pf_ret f_s9
  · refine pf_bnd (fr_X4_isView hF) (fun _ h => h.elim) f_s3 (fun r10 s11 f_s11 => ?_)
    refine pf_ite ?_ ?_
    · rw [j_X4_heir_31_e]
      rw [j_X4_heir_32_e]
      refine pf_ite ?_ ?_
      · refine pf_bnd (fr_X4_think hF) (ww_72) f_s11 (fun r12 s13 f_s13 => ?_)
        refine pf_bnd (fr_X4_stand hF) (ww_77) f_s13 (fun r14 s15 f_s15 => ?_)
        exact fl_X4_heir_63 hF _ _ _ f_s15
      · refine pf_bnd (fr_X4_refuse hF) (ww_73) f_s11 (fun r16 s17 f_s17 => ?_)
        exact pf_ret f_s17
    · refine pf_bnd (fr_X4_wrongNumber hF) (fun _ h => h.elim) f_s11 (fun r18 s19 f_s19 => ?_)
      rw [j_X4_heir_32_e]
      refine pf_ite ?_ ?_
      · refine pf_bnd (fr_X4_think hF) (ww_72) f_s19 (fun r20 s21 f_s21 => ?_)
        refine pf_bnd (fr_X4_stand hF) (ww_77) f_s21 (fun r22 s23 f_s23 => ?_)
        exact fl_X4_heir_63 hF _ _ _ f_s23
      · refine pf_bnd (fr_X4_refuse hF) (ww_73) f_s19 (fun r24 s25 f_s25 => ?_)
        exact pf_ret f_s25
set_option maxRecDepth 100000 in
theorem fl_X4_even_50 {F : Nat} (hF : 1000 ≤ F) {x1 : Int32} {x3 : Int32} {k37 : Int32 → Int32 → Mem → Option (Int32 × Mem)} {τ : Mem} (hk37 : ∀ (x2 : Int32) (x3 : Int32) (σ : Mem), fr wf_61 τ σ → pf wf_61 (k37 x2 x3 σ) τ) : ∀ (N : Nat) (x2 : Int32) (x4 : Int32) (σ : Mem), fr wf_61 τ σ → pf wf_61 (lp_X4_even_50 F k37 x1 x3 N x2 x4 σ) τ := by
  intro N
  induction N with
  | zero => intro _ _ _ _; exact pf_none rfl
  | succ N ih =>
    intro x2 x4 σ f_σ
    rw [lp_X4_even_50_s]
    refine pf_ite ?_ ?_
    · exact hk37 _ _ _ f_σ
    · refine pf_bnd (fr_X4_worthIn hF) (ww_52) f_σ (fun r1 s2 f_s2 => ?_)
      refine pf_bnd (fr_X4_worthIn hF) (ww_52) f_s2 (fun r3 s4 f_s4 => ?_)
      refine pf_ite ?_ ?_
      · rw [j_X4_even_81_e]
        exact ih _ _ _ f_s4
      · rw [j_X4_even_81_e]
        exact ih _ _ _ f_s4
set_option maxRecDepth 100000 in
theorem fl_X4_even_37 {F : Nat} (hF : 1000 ≤ F) {x1 : Int32} {τ : Mem} : ∀ (N : Nat) (x2 : Int32) (x3 : Int32) (σ : Mem), fr wf_61 τ σ → pf wf_61 (lp_X4_even_37 F x1 N x2 x3 σ) τ := by
  intro N
  induction N with
  | zero => intro _ _ _ _; exact pf_none rfl
  | succ N ih =>
    intro x2 x3 σ f_σ
    rw [lp_X4_even_37_s]
    refine pf_ite ?_ ?_
    · exact pf_ret f_σ
    · exact fl_X4_even_50 hF ih _ _ _ _ f_σ
set_option maxRecDepth 100000 in
theorem fr_X4_even {F : Nat} (hF : 1000 ≤ F) {x1 : Int32} {σ : Mem} : pf wf_61 (f_X4_even F x1 σ) σ := by
  have f_σ : fr wf_61 σ σ := fr_rf
  rw [f_X4_even_e]
  refine pf_up2 (c := 1010) f_σ (rfl) (Or.inr (⟨by omega, by omega⟩)) (fun s1 f_s1 => ?_)
  refine pf_bnd (fr_X4_wrongNumber hF) (fun _ h => h.elim) f_s1 (fun r2 s3 f_s3 => ?_)
  refine pf_ite ?_ ?_
  · refine pf_bnd (fr_X4_layBrings hF) (ww_51) f_s3 (fun r4 s5 f_s5 => ?_)
    exact fl_X4_even_37 hF _ _ _ _ f_s5
  · refine pf_bnd (fr_X4_wrongNumber hF) (fun _ h => h.elim) f_s3 (fun r6 s7 f_s7 => ?_)
    refine pf_bnd (fr_X4_refuse hF) (ww_50) f_s7 (fun r8 s9 f_s9 => ?_)
    exact pf_ret f_s9
def wf_71 (c : Nat) : Prop := (109 ≤ c ∧ c ≤ 110) ∨ (1010 ≤ c ∧ c ≤ 1010)
theorem ww_78 : ∀ c, wf_47 c → wf_71 c := fun c h => Or.inl (⟨Nat.le_trans (by omega) (h).1, Nat.le_trans (h).2 (by omega)⟩)
theorem ww_79 : ∀ c, wf_46 c → wf_71 c := fun c h => Or.inl (⟨Nat.le_trans (by omega) (h).1, Nat.le_trans (h).2 (by omega)⟩)
set_option maxRecDepth 100000 in
theorem fl_X4_last_33 {F : Nat} (hF : 1000 ≤ F) {x1 : Int32} {x2 : Int32} {x3 : Int32} {k13 : Int32 → Int32 → Mem → Option (Int32 × Mem)} {τ : Mem} (hk13 : ∀ (x1 : Int32) (x2 : Int32) (σ : Mem), fr wf_71 τ σ → pf wf_71 (k13 x1 x2 σ) τ) : ∀ (N : Nat) (x4 : Int32) (σ : Mem), fr wf_71 τ σ → pf wf_71 (lp_X4_last_33 F k13 x1 x2 x3 N x4 σ) τ := by
  intro N
  induction N with
  | zero => intro _ _ _; exact pf_none rfl
  | succ N ih =>
    intro x4 σ f_σ
    rw [lp_X4_last_33_s]
    refine pf_ite ?_ ?_
    · rw [j_X4_last_57_e]
      refine pf_ite ?_ ?_
      · rw [j_X4_last_69_e]
        exact hk13 _ _ _ f_σ
      · rw [j_X4_last_69_e]
        exact hk13 _ _ _ f_σ
    · refine pf_bnd (fr_X4_ownerIn hF) (ww_78) f_σ (fun r1 s2 f_s2 => ?_)
      refine pf_ite ?_ ?_
      · exact ih _ _ f_s2
      · rw [j_X4_last_57_e]
        refine pf_ite ?_ ?_
        · rw [j_X4_last_69_e]
          exact hk13 _ _ _ f_s2
        · rw [j_X4_last_69_e]
          exact hk13 _ _ _ f_s2
set_option maxRecDepth 100000 in
theorem fl_X4_last_13 {F : Nat} (hF : 1000 ≤ F) {τ : Mem} : ∀ (N : Nat) (x1 : Int32) (x2 : Int32) (σ : Mem), fr wf_71 τ σ → pf wf_71 (lp_X4_last_13 F N x1 x2 σ) τ := by
  intro N
  induction N with
  | zero => intro _ _ _ _; exact pf_none rfl
  | succ N ih =>
    intro x1 x2 σ f_σ
    rw [lp_X4_last_13_s]
    refine pf_ite ?_ ?_
    · exact pf_ret f_σ
    · refine pf_bnd (fr_X4_ownerIn hF) (ww_78) f_σ (fun r1 s2 f_s2 => ?_)
      exact fl_X4_last_33 hF ih _ _ _ f_s2
set_option maxRecDepth 100000 in
theorem fr_X4_last {F : Nat} (hF : 1000 ≤ F) {σ : Mem} : pf wf_71 (f_X4_last F σ) σ := by
  have f_σ : fr wf_71 σ σ := fr_rf
  rw [f_X4_last_e]
  refine pf_up2 (c := 1010) f_σ (rfl) (Or.inr (⟨by omega, by omega⟩)) (fun s1 f_s1 => ?_)
  refine pf_bnd (fr_X4_layBrings hF) (ww_79) f_s1 (fun r2 s3 f_s3 => ?_)
  exact fl_X4_last_13 hF _ _ _ _ f_s3
set_option maxRecDepth 100000 in
theorem fr_X4_countIn {F : Nat} (hF : 1000 ≤ F) {x1 : Int32} {x2 : Int32} {x3 : Int32} {σ : Mem} : pf wf_1 (f_X4_countIn F x1 x2 x3 σ) σ := by
  have f_σ : fr wf_1 σ σ := fr_rf
  rw [f_X4_countIn_e]
  refine pf_chk (fun v1 => ?_)
  refine pf_bnd (fr_X4_held hF) (fun _ h => h.elim) f_σ (fun r2 s3 f_s3 => ?_)
  exact pf_ret f_s3
def wf_72 (c : Nat) : Prop := (108 ≤ c ∧ c ≤ 109) ∨ (1010 ≤ c ∧ c ≤ 1010)
theorem ww_80 : ∀ c, wf_46 c → wf_72 c := fun c h => Or.inl (⟨Nat.le_trans (by omega) (h).1, Nat.le_trans (h).2 (by omega)⟩)
theorem ww_81 : ∀ c, wf_45 c → wf_72 c := fun c h => Or.inl (⟨Nat.le_trans (by omega) (h).1, Nat.le_trans (h).2 (by omega)⟩)
set_option maxRecDepth 100000 in
theorem fl_X4_joint_91 {F : Nat} (hF : 1000 ≤ F) {x1 : Int32} {x2 : Int32} {x3 : Int32} {x5 : Int32} {x6 : Int32} {x7 : Int32} {k50 : Int32 → Int32 → Mem → Option (Int32 × Mem)} {τ : Mem} (hk50 : ∀ (x5 : Int32) (x6 : Int32) (σ : Mem), fr wf_72 τ σ → pf wf_72 (k50 x5 x6 σ) τ) : ∀ (N : Nat) (x8 : Int32) (x9 : Int32) (σ : Mem), fr wf_72 τ σ → pf wf_72 (lp_X4_joint_91 F k50 x1 x2 x3 x5 x6 x7 N x8 x9 σ) τ := by
  intro N
  induction N with
  | zero => intro _ _ _ _; exact pf_none rfl
  | succ N ih =>
    intro x8 x9 σ f_σ
    rw [lp_X4_joint_91_s]
    refine pf_ite ?_ ?_
    · refine pf_ite ?_ ?_
      · rw [j_X4_joint_159_e]
        exact hk50 _ _ _ f_σ
      · rw [j_X4_joint_159_e]
        exact hk50 _ _ _ f_σ
    · refine pf_ite ?_ ?_
      · rw [j_X4_joint_135_e]
        rw [j_X4_joint_136_e]
        exact ih _ _ _ f_σ
      · refine pf_ite ?_ ?_
        · rw [j_X4_joint_131_e]
          rw [j_X4_joint_136_e]
          exact ih _ _ _ f_σ
        · refine pf_ite ?_ ?_
          · rw [j_X4_joint_131_e]
            rw [j_X4_joint_136_e]
            exact ih _ _ _ f_σ
          · refine pf_bnd (fr_X4_countIn hF) (fun _ h => h.elim) f_σ (fun r1 s2 f_s2 => ?_)
            refine pf_ite ?_ ?_
            · rw [j_X4_joint_135_e]
              rw [j_X4_joint_136_e]
              exact ih _ _ _ f_s2
            · rw [j_X4_joint_131_e]
              rw [j_X4_joint_136_e]
              exact ih _ _ _ f_s2
set_option maxRecDepth 100000 in
theorem fl_X4_joint_50 {F : Nat} (hF : 1000 ≤ F) {x1 : Int32} {x2 : Int32} {x3 : Int32} {τ : Mem} : ∀ (N : Nat) (x5 : Int32) (x6 : Int32) (σ : Mem), fr wf_72 τ σ → pf wf_72 (lp_X4_joint_50 F x1 x2 x3 N x5 x6 σ) τ := by
  intro N
  induction N with
  | zero => intro _ _ _ _; exact pf_none rfl
  | succ N ih =>
    intro x5 x6 σ f_σ
    rw [lp_X4_joint_50_s]
    refine pf_ite ?_ ?_
    · exact pf_ret f_σ
    · refine pf_bnd (fr_X4_countIn hF) (fun _ h => h.elim) f_σ (fun r1 s2 f_s2 => ?_)
      refine pf_bnd (fr_X4_countIn hF) (fun _ h => h.elim) f_s2 (fun r3 s4 f_s4 => ?_)
      refine pf_ite ?_ ?_
      · rw [j_X4_joint_86_e]
        exact fl_X4_joint_91 hF ih _ _ _ _ f_s4
      · rw [j_X4_joint_86_e]
        exact fl_X4_joint_91 hF ih _ _ _ _ f_s4
set_option maxRecDepth 100000 in
theorem fr_X4_joint {F : Nat} (hF : 1000 ≤ F) {x1 : Int32} {x2 : Int32} {x3 : Int32} {σ : Mem} : pf wf_72 (f_X4_joint F x1 x2 x3 σ) σ := by
  have f_σ : fr wf_72 σ σ := fr_rf
  rw [f_X4_joint_e]
  refine pf_up2 (c := 1010) f_σ (rfl) (Or.inr (⟨by omega, by omega⟩)) (fun s1 f_s1 => ?_)
  refine pf_bnd (fr_X4_areTwo hF) (fun _ h => h.elim) f_s1 (fun r2 s3 f_s3 => ?_)
  refine pf_ite ?_ ?_
  · rw [j_X4_joint_26_e]
    refine pf_ite ?_ ?_
    · refine pf_bnd (fr_X4_layBrings hF) (ww_80) f_s3 (fun r4 s5 f_s5 => ?_)
      exact fl_X4_joint_50 hF _ _ _ _ f_s5
    · refine pf_bnd (fr_X4_refuse hF) (ww_81) f_s3 (fun r6 s7 f_s7 => ?_)
      exact pf_ret f_s7
  · refine pf_bnd (fr_X4_wrongNumber hF) (fun _ h => h.elim) f_s3 (fun r8 s9 f_s9 => ?_)
    rw [j_X4_joint_26_e]
    refine pf_ite ?_ ?_
    · refine pf_bnd (fr_X4_layBrings hF) (ww_80) f_s9 (fun r10 s11 f_s11 => ?_)
      exact fl_X4_joint_50 hF _ _ _ _ f_s11
    · refine pf_bnd (fr_X4_refuse hF) (ww_81) f_s9 (fun r12 s13 f_s13 => ?_)
      exact pf_ret f_s13
