set_option maxRecDepth 100000 in
theorem fr_X4_in {F : Nat} (hF : 1000 ≤ F) {y0 : Int64} {y2 : Int64} {y4 : Int64} {σ : Mem} : pf wf_1 (f_X4_in F y0 y2 y4 σ) σ := by
  have f_σ : fr wf_1 σ σ := fr_rf
  rw [f_X4_in_e]
  refine pf_ite ?_ ?_
  · rw [j_X4_in_17_e]
    exact pf_ret f_σ
  · refine pf_ite ?_ ?_
    · rw [j_X4_in_17_e]
      exact pf_ret f_σ
    · exact pf_ret f_σ
def wf_45 (c : Nat) : Prop := (108 ≤ c ∧ c ≤ 108)
set_option maxRecDepth 100000 in
theorem fr_X4_refuse {F : Nat} (hF : 1000 ≤ F) {x1 : Int32} {σ : Mem} : pf wf_45 (f_X4_refuse F x1 σ) σ := by
  have f_σ : fr wf_45 σ σ := fr_rf
  rw [f_X4_refuse_e]
  refine pf_chk (fun v1 => ?_)
  refine pf_up2 (c := 108) f_σ (rfl) (⟨by omega, by omega⟩) (fun s2 f_s2 => ?_)
  exact pf_ret f_s2
set_option maxRecDepth 100000 in
theorem fr_X4_isLooker {F : Nat} (hF : 1000 ≤ F) {x1 : Int32} {σ : Mem} : pf wf_1 (f_X4_isLooker F x1 σ) σ := by
  have f_σ : fr wf_1 σ σ := fr_rf
  rw [f_X4_isLooker_e]
  refine pf_bnd (fr_X4_in hF) (fun _ h => h.elim) f_σ (fun r1 s2 f_s2 => ?_)
  refine pf_bz ?_
  exact pf_ret f_s2
set_option maxRecDepth 100000 in
theorem fr_X4_isPane {F : Nat} (hF : 1000 ≤ F) {x1 : Int32} {σ : Mem} : pf wf_1 (f_X4_isPane F x1 σ) σ := by
  have f_σ : fr wf_1 σ σ := fr_rf
  rw [f_X4_isPane_e]
  refine pf_bnd (fr_X4_in hF) (fun _ h => h.elim) f_σ (fun r1 s2 f_s2 => ?_)
  refine pf_bz ?_
  exact pf_ret f_s2
set_option maxRecDepth 100000 in
theorem fr_X4_isView {F : Nat} (hF : 1000 ≤ F) {x0 : Int32} {σ : Mem} : pf wf_1 (f_X4_isView F x0 σ) σ := by
  have f_σ : fr wf_1 σ σ := fr_rf
  rw [f_X4_isView_e]
  refine pf_bnd (fr_X4_in hF) (fun _ h => h.elim) f_σ (fun r1 s2 f_s2 => ?_)
  refine pf_bz ?_
  exact pf_ret f_s2
set_option maxRecDepth 100000 in
theorem fr_X4_isHour {F : Nat} (hF : 1000 ≤ F) {x0 : Int32} {σ : Mem} : pf wf_1 (f_X4_isHour F x0 σ) σ := by
  have f_σ : fr wf_1 σ σ := fr_rf
  rw [f_X4_isHour_e]
  refine pf_bnd (fr_X4_in hF) (fun _ h => h.elim) f_σ (fun r1 s2 f_s2 => ?_)
  refine pf_bz ?_
  exact pf_ret f_s2
set_option maxRecDepth 100000 in
theorem fr_X4_areTwo {F : Nat} (hF : 1000 ≤ F) {x1 : Int32} {x2 : Int32} {σ : Mem} : pf wf_1 (f_X4_areTwo F x1 x2 σ) σ := by
  have f_σ : fr wf_1 σ σ := fr_rf
  rw [f_X4_areTwo_e]
  refine pf_bnd (fr_X4_isLooker hF) (fun _ h => h.elim) f_σ (fun r1 s2 f_s2 => ?_)
  refine pf_ite ?_ ?_
  · rw [j_X4_areTwo_25_e]
    exact pf_ret f_s2
  · refine pf_bnd (fr_X4_isLooker hF) (fun _ h => h.elim) f_s2 (fun r3 s4 f_s4 => ?_)
    refine pf_ite ?_ ?_
    · rw [j_X4_areTwo_25_e]
      exact pf_ret f_s4
    · refine pf_ite ?_ ?_
      · rw [j_X4_areTwo_25_e]
        exact pf_ret f_s4
      · exact pf_ret f_s4
set_option maxRecDepth 100000 in
theorem fr_X4_wrongNumber {F : Nat} (hF : 1000 ≤ F) {x0 : Int32} {x1 : Int32} {x2 : Int32} {σ : Mem} : pf wf_1 (f_X4_wrongNumber F x0 x1 x2 σ) σ := by
  have f_σ : fr wf_1 σ σ := fr_rf
  rw [f_X4_wrongNumber_e]
  refine pf_ite ?_ ?_
  · refine pf_ite ?_ ?_
    · exact pf_ret f_σ
    · exact pf_ret f_σ
  · exact pf_ret f_σ
set_option maxRecDepth 100000 in
theorem fr_X4_wrongBit {F : Nat} (hF : 1000 ≤ F) {x0 : Int32} {x1 : Int32} {x2 : Int32} {σ : Mem} : pf wf_1 (f_X4_wrongBit F x0 x1 x2 σ) σ := by
  have f_σ : fr wf_1 σ σ := fr_rf
  rw [f_X4_wrongBit_e]
  refine pf_ite ?_ ?_
  · refine pf_bnd (fr_X4_in hF) (fun _ h => h.elim) f_σ (fun r1 s2 f_s2 => ?_)
    refine pf_ite ?_ ?_
    · exact pf_ret f_s2
    · rw [j_X4_wrongBit_20_e]
      exact pf_ret f_s2
  · rw [j_X4_wrongBit_20_e]
    exact pf_ret f_σ
set_option maxRecDepth 100000 in
theorem fr_X4_hasBit {F : Nat} (hF : 1000 ≤ F) {x0 : Int32} {x1 : Int32} {σ : Mem} : pf wf_1 (f_X4_hasBit F x0 x1 σ) σ := by
  have f_σ : fr wf_1 σ σ := fr_rf
  rw [f_X4_hasBit_e]
  refine pf_ite ?_ ?_
  · exact pf_ret f_σ
  · exact pf_ret f_σ
set_option maxRecDepth 100000 in
theorem fl_X4_onesOf_4 {F : Nat} (hF : 1000 ≤ F) {τ : Mem} : ∀ (N : Nat) (x1 : Int32) (x2 : Int32) (σ : Mem), fr wf_1 τ σ → pf wf_1 (lp_X4_onesOf_4 F N x1 x2 σ) τ := by
  intro N
  induction N with
  | zero => intro _ _ _ _; exact pf_none rfl
  | succ N ih =>
    intro x1 x2 σ f_σ
    rw [lp_X4_onesOf_4_s]
    refine pf_ite ?_ ?_
    · exact pf_ret f_σ
    · refine pf_lt (fun z1 _ => ?_)
      exact ih _ _ _ f_σ
set_option maxRecDepth 100000 in
theorem fr_X4_onesOf {F : Nat} (hF : 1000 ≤ F) {x0 : Int32} {σ : Mem} : pf wf_1 (f_X4_onesOf F x0 σ) σ := by
  have f_σ : fr wf_1 σ σ := fr_rf
  rw [f_X4_onesOf_e]
  exact fl_X4_onesOf_4 hF _ _ _ _ f_σ
set_option maxRecDepth 100000 in
theorem fr_X4_pullOf {F : Nat} (hF : 1000 ≤ F) {x1 : Int32} {x2 : Int32} {σ : Mem} : pf wf_1 (f_X4_pullOf F x1 x2 σ) σ := by
  have f_σ : fr wf_1 σ σ := fr_rf
  rw [f_X4_pullOf_e]
  refine pf_bnd (fr_X4_in hF) (fun _ h => h.elim) f_σ (fun r1 s2 f_s2 => ?_)
  refine pf_ite ?_ ?_
  · rw [j_X4_pullOf_19_e]
    refine pf_chk (fun v3 => ?_)
    refine pf_lt (fun z4 _ => ?_)
    refine pf_ite ?_ ?_
    · exact pf_ret f_s2
    · refine pf_ite ?_ ?_
      · refine pf_ite ?_ ?_
        · exact pf_ret f_s2
        · exact pf_ret f_s2
      · refine pf_ite ?_ ?_
        · refine pf_ite ?_ ?_
          · exact pf_ret f_s2
          · exact pf_ret f_s2
        · refine pf_ite ?_ ?_
          · exact pf_ret f_s2
          · refine pf_ite ?_ ?_
            · refine pf_ite ?_ ?_
              · exact pf_ret f_s2
              · exact pf_ret f_s2
            · exact pf_ret f_s2
  · rw [j_X4_pullOf_19_e]
    refine pf_chk (fun v5 => ?_)
    refine pf_lt (fun z6 _ => ?_)
    refine pf_ite ?_ ?_
    · exact pf_ret f_s2
    · refine pf_ite ?_ ?_
      · refine pf_ite ?_ ?_
        · exact pf_ret f_s2
        · exact pf_ret f_s2
      · refine pf_ite ?_ ?_
        · refine pf_ite ?_ ?_
          · exact pf_ret f_s2
          · exact pf_ret f_s2
        · refine pf_ite ?_ ?_
          · exact pf_ret f_s2
          · refine pf_ite ?_ ?_
            · refine pf_ite ?_ ?_
              · exact pf_ret f_s2
              · exact pf_ret f_s2
            · exact pf_ret f_s2
set_option maxRecDepth 100000 in
theorem fl_X4_allShown_4 {F : Nat} (hF : 1000 ≤ F) {τ : Mem} : ∀ (N : Nat) (x1 : Int32) (x2 : Int32) (σ : Mem), fr wf_1 τ σ → pf wf_1 (lp_X4_allShown_4 F N x1 x2 σ) τ := by
  intro N
  induction N with
  | zero => intro _ _ _ _; exact pf_none rfl
  | succ N ih =>
    intro x1 x2 σ f_σ
    rw [lp_X4_allShown_4_s]
    refine pf_ite ?_ ?_
    · exact pf_ret f_σ
    · refine pf_chk (fun v1 => ?_)
      refine pf_lt (fun z2 _ => ?_)
      exact ih _ _ _ f_σ
set_option maxRecDepth 100000 in
theorem fr_X4_allShown {F : Nat} (hF : 1000 ≤ F) {σ : Mem} : pf wf_1 (f_X4_allShown F σ) σ := by
  have f_σ : fr wf_1 σ σ := fr_rf
  rw [f_X4_allShown_e]
  exact fl_X4_allShown_4 hF _ _ _ _ f_σ
set_option maxRecDepth 100000 in
theorem fr_X4_seesIn {F : Nat} (hF : 1000 ≤ F) {x1 : Int32} {x2 : Int32} {σ : Mem} : pf wf_1 (f_X4_seesIn F x1 x2 σ) σ := by
  have f_σ : fr wf_1 σ σ := fr_rf
  rw [f_X4_seesIn_e]
  refine pf_chk (fun v1 => ?_)
  refine pf_lt (fun z2 _ => ?_)
  refine pf_chk (fun v3 => ?_)
  refine pf_ite ?_ ?_
  · refine pf_bnd (fr_X4_allShown hF) (fun _ h => h.elim) f_σ (fun r4 s5 f_s5 => ?_)
    exact pf_ret f_s5
  · refine pf_ite ?_ ?_
    · refine pf_chk (fun v6 => ?_)
      exact pf_ret f_σ
    · exact pf_ret f_σ
set_option maxRecDepth 100000 in
theorem fl_X4_bringsOf_5 {F : Nat} (hF : 1000 ≤ F) {x1 : Int32} {x2 : Int32} {τ : Mem} : ∀ (N : Nat) (x3 : Int32) (x4 : Int32) (σ : Mem), fr wf_1 τ σ → pf wf_1 (lp_X4_bringsOf_5 F x1 x2 N x3 x4 σ) τ := by
  intro N
  induction N with
  | zero => intro _ _ _ _; exact pf_none rfl
  | succ N ih =>
    intro x3 x4 σ f_σ
    rw [lp_X4_bringsOf_5_s]
    refine pf_ite ?_ ?_
    · exact pf_ret f_σ
    · refine pf_bnd (fr_X4_seesIn hF) (fun _ h => h.elim) f_σ (fun r1 s2 f_s2 => ?_)
      refine pf_bnd (fr_X4_hasBit hF) (fun _ h => h.elim) f_s2 (fun r3 s4 f_s4 => ?_)
      refine pf_ite ?_ ?_
      · rw [j_X4_bringsOf_38_e]
        exact ih _ _ _ f_s4
      · refine pf_bnd (fr_X4_pullOf hF) (fun _ h => h.elim) f_s4 (fun r5 s6 f_s6 => ?_)
        rw [j_X4_bringsOf_38_e]
        exact ih _ _ _ f_s6
set_option maxRecDepth 100000 in
theorem fr_X4_bringsOf {F : Nat} (hF : 1000 ≤ F) {x1 : Int32} {x2 : Int32} {σ : Mem} : pf wf_1 (f_X4_bringsOf F x1 x2 σ) σ := by
  have f_σ : fr wf_1 σ σ := fr_rf
  rw [f_X4_bringsOf_e]
  exact fl_X4_bringsOf_5 hF _ _ _ _ f_σ
def wf_46 (c : Nat) : Prop := (109 ≤ c ∧ c ≤ 109)
set_option maxRecDepth 100000 in
theorem fl_X4_layBrings_12 {F : Nat} (hF : 1000 ≤ F) {x1 : Int32} {k2 : Int32 → Mem → Option (Unit × Mem)} {τ : Mem} (hk2 : ∀ (x1 : Int32) (σ : Mem), fr wf_46 τ σ → pf wf_46 (k2 x1 σ) τ) : ∀ (N : Nat) (x2 : Int32) (σ : Mem), fr wf_46 τ σ → pf wf_46 (lp_X4_layBrings_12 F k2 x1 N x2 σ) τ := by
  intro N
  induction N with
  | zero => intro _ _ _; exact pf_none rfl
  | succ N ih =>
    intro x2 σ f_σ
    rw [lp_X4_layBrings_12_s]
    refine pf_ite ?_ ?_
    · exact hk2 _ _ f_σ
    · refine pf_bnd (fr_X4_bringsOf hF) (fun _ h => h.elim) f_σ (fun r1 s2 f_s2 => ?_)
      refine pf_chk (fun v3 => ?_)
      refine pf_up2 (c := 109) f_s2 (rfl) (⟨by omega, by omega⟩) (fun s4 f_s4 => ?_)
      exact ih _ _ f_s4
set_option maxRecDepth 100000 in
theorem fl_X4_layBrings_2 {F : Nat} (hF : 1000 ≤ F) {τ : Mem} : ∀ (N : Nat) (x1 : Int32) (σ : Mem), fr wf_46 τ σ → pf wf_46 (lp_X4_layBrings_2 F N x1 σ) τ := by
  intro N
  induction N with
  | zero => intro _ _ _; exact pf_none rfl
  | succ N ih =>
    intro x1 σ f_σ
    rw [lp_X4_layBrings_2_s]
    refine pf_ite ?_ ?_
    · exact pf_ret f_σ
    · exact fl_X4_layBrings_12 hF ih _ _ _ f_σ
set_option maxRecDepth 100000 in
theorem fr_X4_layBrings {F : Nat} (hF : 1000 ≤ F) {σ : Mem} : pf wf_46 (f_X4_layBrings F σ) σ := by
  have f_σ : fr wf_46 σ σ := fr_rf
  rw [f_X4_layBrings_e]
  exact fl_X4_layBrings_2 hF _ _ _ f_σ
set_option maxRecDepth 100000 in
theorem fr_X4_held {F : Nat} (hF : 1000 ≤ F) {x0 : Int32} {σ : Mem} : pf wf_1 (f_X4_held F x0 σ) σ := by
  have f_σ : fr wf_1 σ σ := fr_rf
  rw [f_X4_held_e]
  refine pf_ite ?_ ?_
  · exact pf_ret f_σ
  · exact pf_ret f_σ
set_option maxRecDepth 100000 in
theorem fl_X4_ownerLooked_13 {F : Nat} (hF : 1000 ≤ F) {τ : Mem} : ∀ (N : Nat) (x1 : Int32) (x2 : Int32) (x3 : Int32) (x4 : Int32) (x5 : Int32) (σ : Mem), fr wf_1 τ σ → pf wf_1 (lp_X4_ownerLooked_13 F N x1 x2 x3 x4 x5 σ) τ := by
  intro N
  induction N with
  | zero => intro _ _ _ _ _ _ _; exact pf_none rfl
  | succ N ih =>
    intro x1 x2 x3 x4 x5 σ f_σ
    rw [lp_X4_ownerLooked_13_s]
    refine pf_ite ?_ ?_
    · refine pf_ite ?_ ?_
      · rw [j_X4_ownerLooked_156_e]
        rw [j_X4_ownerLooked_157_e]
        refine pf_ite ?_ ?_
        · exact pf_ret f_σ
        · exact pf_ret f_σ
      · refine pf_ite ?_ ?_
        · rw [j_X4_ownerLooked_152_e]
          rw [j_X4_ownerLooked_157_e]
          refine pf_ite ?_ ?_
          · exact pf_ret f_σ
          · exact pf_ret f_σ
        · refine pf_ite ?_ ?_
          · refine pf_ite ?_ ?_
            · rw [j_X4_ownerLooked_137_e]
              refine pf_ite ?_ ?_
              · refine pf_ite ?_ ?_
                · rw [j_X4_ownerLooked_156_e]
                  rw [j_X4_ownerLooked_157_e]
                  refine pf_ite ?_ ?_
                  · exact pf_ret f_σ
                  · exact pf_ret f_σ
                · rw [j_X4_ownerLooked_152_e]
                  rw [j_X4_ownerLooked_157_e]
                  refine pf_ite ?_ ?_
                  · exact pf_ret f_σ
                  · exact pf_ret f_σ
              · rw [j_X4_ownerLooked_156_e]
                rw [j_X4_ownerLooked_157_e]
                refine pf_ite ?_ ?_
                · exact pf_ret f_σ
                · exact pf_ret f_σ
            · rw [j_X4_ownerLooked_152_e]
              rw [j_X4_ownerLooked_157_e]
              refine pf_ite ?_ ?_
              · exact pf_ret f_σ
              · exact pf_ret f_σ
          · rw [j_X4_ownerLooked_137_e]
            refine pf_ite ?_ ?_
            · refine pf_ite ?_ ?_
              · rw [j_X4_ownerLooked_156_e]
                rw [j_X4_ownerLooked_157_e]
                refine pf_ite ?_ ?_
                · exact pf_ret f_σ
                · exact pf_ret f_σ
              · rw [j_X4_ownerLooked_152_e]
                rw [j_X4_ownerLooked_157_e]
                refine pf_ite ?_ ?_
                · exact pf_ret f_σ
                · exact pf_ret f_σ
            · rw [j_X4_ownerLooked_156_e]
              rw [j_X4_ownerLooked_157_e]
              refine pf_ite ?_ ?_
              · exact pf_ret f_σ
              · exact pf_ret f_σ
    · refine pf_chk (fun v1 => ?_)
      refine pf_ite ?_ ?_
      · rw [j_X4_ownerLooked_49_e]
        rw [j_X4_ownerLooked_54_e]
        refine pf_chk (fun v2 => ?_)
        refine pf_ite ?_ ?_
        · rw [j_X4_ownerLooked_73_e]
          refine pf_chk (fun v3 => ?_)
          refine pf_ite ?_ ?_
          · rw [j_X4_ownerLooked_96_e]
            refine pf_chk (fun v4 => ?_)
            refine pf_lt (fun z5 _ => ?_)
            exact ih _ _ _ _ _ _ f_σ
          · rw [j_X4_ownerLooked_96_e]
            refine pf_chk (fun v6 => ?_)
            refine pf_lt (fun z7 _ => ?_)
            exact ih _ _ _ _ _ _ f_σ
        · rw [j_X4_ownerLooked_73_e]
          refine pf_chk (fun v8 => ?_)
          refine pf_ite ?_ ?_
          · rw [j_X4_ownerLooked_96_e]
            refine pf_chk (fun v9 => ?_)
            refine pf_lt (fun z10 _ => ?_)
            exact ih _ _ _ _ _ _ f_σ
          · rw [j_X4_ownerLooked_96_e]
            refine pf_chk (fun v11 => ?_)
            refine pf_lt (fun z12 _ => ?_)
            exact ih _ _ _ _ _ _ f_σ
      · refine pf_ite ?_ ?_
        · rw [j_X4_ownerLooked_53_e]
          rw [j_X4_ownerLooked_54_e]
          refine pf_chk (fun v13 => ?_)
          refine pf_ite ?_ ?_
          · rw [j_X4_ownerLooked_73_e]
            refine pf_chk (fun v14 => ?_)
            refine pf_ite ?_ ?_
            · rw [j_X4_ownerLooked_96_e]
              refine pf_chk (fun v15 => ?_)
              refine pf_lt (fun z16 _ => ?_)
              exact ih _ _ _ _ _ _ f_σ
            · rw [j_X4_ownerLooked_96_e]
              refine pf_chk (fun v17 => ?_)
              refine pf_lt (fun z18 _ => ?_)
              exact ih _ _ _ _ _ _ f_σ
          · rw [j_X4_ownerLooked_73_e]
            refine pf_chk (fun v19 => ?_)
            refine pf_ite ?_ ?_
            · rw [j_X4_ownerLooked_96_e]
              refine pf_chk (fun v20 => ?_)
              refine pf_lt (fun z21 _ => ?_)
              exact ih _ _ _ _ _ _ f_σ
            · rw [j_X4_ownerLooked_96_e]
              refine pf_chk (fun v22 => ?_)
              refine pf_lt (fun z23 _ => ?_)
              exact ih _ _ _ _ _ _ f_σ
        · refine pf_ite ?_ ?_
          · rw [j_X4_ownerLooked_53_e]
            rw [j_X4_ownerLooked_54_e]
            refine pf_chk (fun v24 => ?_)
            refine pf_ite ?_ ?_
            · rw [j_X4_ownerLooked_73_e]
              refine pf_chk (fun v25 => ?_)
              refine pf_ite ?_ ?_
              · rw [j_X4_ownerLooked_96_e]
                refine pf_chk (fun v26 => ?_)
                refine pf_lt (fun z27 _ => ?_)
                exact ih _ _ _ _ _ _ f_σ
              · rw [j_X4_ownerLooked_96_e]
                refine pf_chk (fun v28 => ?_)
                refine pf_lt (fun z29 _ => ?_)
                exact ih _ _ _ _ _ _ f_σ
            · rw [j_X4_ownerLooked_73_e]
              refine pf_chk (fun v30 => ?_)
              refine pf_ite ?_ ?_
              · rw [j_X4_ownerLooked_96_e]
                refine pf_chk (fun v31 => ?_)
                refine pf_lt (fun z32 _ => ?_)
                exact ih _ _ _ _ _ _ f_σ
              · rw [j_X4_ownerLooked_96_e]
                refine pf_chk (fun v33 => ?_)
                refine pf_lt (fun z34 _ => ?_)
                exact ih _ _ _ _ _ _ f_σ
          · rw [j_X4_ownerLooked_49_e]
            rw [j_X4_ownerLooked_54_e]
            refine pf_chk (fun v35 => ?_)
            refine pf_ite ?_ ?_
            · rw [j_X4_ownerLooked_73_e]
              refine pf_chk (fun v36 => ?_)
              refine pf_ite ?_ ?_
              · rw [j_X4_ownerLooked_96_e]
                refine pf_chk (fun v37 => ?_)
                refine pf_lt (fun z38 _ => ?_)
                exact ih _ _ _ _ _ _ f_σ
              · rw [j_X4_ownerLooked_96_e]
                refine pf_chk (fun v39 => ?_)
                refine pf_lt (fun z40 _ => ?_)
                exact ih _ _ _ _ _ _ f_σ
            · rw [j_X4_ownerLooked_73_e]
              refine pf_chk (fun v41 => ?_)
              refine pf_ite ?_ ?_
              · rw [j_X4_ownerLooked_96_e]
                refine pf_chk (fun v42 => ?_)
                refine pf_lt (fun z43 _ => ?_)
                exact ih _ _ _ _ _ _ f_σ
              · rw [j_X4_ownerLooked_96_e]
                refine pf_chk (fun v44 => ?_)
                refine pf_lt (fun z45 _ => ?_)
                exact ih _ _ _ _ _ _ f_σ
set_option maxRecDepth 100000 in
theorem fr_X4_ownerLooked {F : Nat} (hF : 1000 ≤ F) {σ : Mem} : pf wf_1 (f_X4_ownerLooked F σ) σ := by
  have f_σ : fr wf_1 σ σ := fr_rf
  rw [f_X4_ownerLooked_e]
  exact fl_X4_ownerLooked_13 hF _ _ _ _ _ _ _ f_σ
def wf_47 (c : Nat) : Prop := (110 ≤ c ∧ c ≤ 110)
set_option maxRecDepth 100000 in
theorem fl_X4_ownerIn_2 {F : Nat} (hF : 1000 ≤ F) {x1 : Int32} {x2 : Int32} {τ : Mem} : ∀ (N : Nat) (x3 : Int32) (σ : Mem), fr wf_47 τ σ → pf wf_47 (lp_X4_ownerIn_2 F x1 x2 N x3 σ) τ := by
  intro N
  induction N with
  | zero => intro _ _ _; exact pf_none rfl
  | succ N ih =>
    intro x3 σ f_σ
    rw [lp_X4_ownerIn_2_s]
    refine pf_ite ?_ ?_
    · refine pf_bnd (fr_X4_ownerLooked hF) (fun _ h => h.elim) f_σ (fun r1 s2 f_s2 => ?_)
      exact pf_ret f_s2
    · refine pf_chk (fun v3 => ?_)
      refine pf_bnd (fr_X4_held hF) (fun _ h => h.elim) f_σ (fun r4 s5 f_s5 => ?_)
      refine pf_chk (fun v6 => ?_)
      refine pf_up2 (c := 110) f_s5 (rfl) (⟨by omega, by omega⟩) (fun s7 f_s7 => ?_)
      exact ih _ _ f_s7
set_option maxRecDepth 100000 in
theorem fr_X4_ownerIn {F : Nat} (hF : 1000 ≤ F) {x1 : Int32} {x2 : Int32} {σ : Mem} : pf wf_47 (f_X4_ownerIn F x1 x2 σ) σ := by
  have f_σ : fr wf_47 σ σ := fr_rf
  rw [f_X4_ownerIn_e]
  exact fl_X4_ownerIn_2 hF _ _ _ f_σ
set_option maxRecDepth 100000 in
theorem fl_X4_viewsIn_5 {F : Nat} (hF : 1000 ≤ F) {x1 : Int32} {x2 : Int32} {τ : Mem} : ∀ (N : Nat) (x3 : Int32) (x4 : Int32) (σ : Mem), fr wf_47 τ σ → pf wf_47 (lp_X4_viewsIn_5 F x1 x2 N x3 x4 σ) τ := by
  intro N
  induction N with
  | zero => intro _ _ _ _; exact pf_none rfl
  | succ N ih =>
    intro x3 x4 σ f_σ
    rw [lp_X4_viewsIn_5_s]
    refine pf_ite ?_ ?_
    · exact pf_ret f_σ
    · refine pf_bnd (fr_X4_ownerIn hF) (fun _ h => h) f_σ (fun r1 s2 f_s2 => ?_)
      refine pf_ite ?_ ?_
      · rw [j_X4_viewsIn_32_e]
        exact ih _ _ _ f_s2
      · rw [j_X4_viewsIn_32_e]
        exact ih _ _ _ f_s2
set_option maxRecDepth 100000 in
theorem fr_X4_viewsIn {F : Nat} (hF : 1000 ≤ F) {x1 : Int32} {x2 : Int32} {σ : Mem} : pf wf_47 (f_X4_viewsIn F x1 x2 σ) σ := by
  have f_σ : fr wf_47 σ σ := fr_rf
  rw [f_X4_viewsIn_e]
  exact fl_X4_viewsIn_5 hF _ _ _ _ f_σ
set_option maxRecDepth 100000 in
theorem fl_X4_worthBy_4 {F : Nat} (hF : 1000 ≤ F) {x1 : Int32} {τ : Mem} : ∀ (N : Nat) (x2 : Int32) (x3 : Int32) (σ : Mem), fr wf_1 τ σ → pf wf_1 (lp_X4_worthBy_4 F x1 N x2 x3 σ) τ := by
  intro N
  induction N with
  | zero => intro _ _ _ _; exact pf_none rfl
  | succ N ih =>
    intro x2 x3 σ f_σ
    rw [lp_X4_worthBy_4_s]
    refine pf_ite ?_ ?_
    · exact pf_ret f_σ
    · refine pf_bnd (fr_X4_hasBit hF) (fun _ h => h.elim) f_σ (fun r1 s2 f_s2 => ?_)
      refine pf_ite ?_ ?_
      · rw [j_X4_worthBy_29_e]
        exact ih _ _ _ f_s2
      · refine pf_chk (fun v3 => ?_)
        rw [j_X4_worthBy_29_e]
        exact ih _ _ _ f_s2
set_option maxRecDepth 100000 in
theorem fr_X4_worthBy {F : Nat} (hF : 1000 ≤ F) {x1 : Int32} {σ : Mem} : pf wf_1 (f_X4_worthBy F x1 σ) σ := by
  have f_σ : fr wf_1 σ σ := fr_rf
  rw [f_X4_worthBy_e]
  exact fl_X4_worthBy_4 hF _ _ _ _ f_σ
set_option maxRecDepth 100000 in
theorem fr_X4_worthIn {F : Nat} (hF : 1000 ≤ F) {x1 : Int32} {x2 : Int32} {σ : Mem} : pf wf_47 (f_X4_worthIn F x1 x2 σ) σ := by
  have f_σ : fr wf_47 σ σ := fr_rf
  rw [f_X4_worthIn_e]
  refine pf_bnd (fr_X4_viewsIn hF) (fun _ h => h) f_σ (fun r1 s2 f_s2 => ?_)
  refine pf_bnd (fr_X4_worthBy hF) (fun _ h => h.elim) f_s2 (fun r3 s4 f_s4 => ?_)
  exact pf_ret f_s4
def wf_48 (c : Nat) : Prop := (109 ≤ c ∧ c ≤ 110)
theorem ww_36 : ∀ c, wf_46 c → wf_48 c := fun c h => ⟨Nat.le_trans (by omega) (h).1, Nat.le_trans (h).2 (by omega)⟩
theorem ww_37 : ∀ c, wf_47 c → wf_48 c := fun c h => ⟨Nat.le_trans (by omega) (h).1, Nat.le_trans (h).2 (by omega)⟩
set_option maxRecDepth 100000 in
theorem fr_X4_worthAnew {F : Nat} (hF : 1000 ≤ F) {x1 : Int32} {x2 : Int32} {σ : Mem} : pf wf_48 (f_X4_worthAnew F x1 x2 σ) σ := by
  have f_σ : fr wf_48 σ σ := fr_rf
  rw [f_X4_worthAnew_e]
  refine pf_bnd (fr_X4_layBrings hF) (ww_36) f_σ (fun r1 s2 f_s2 => ?_)
  refine pf_bnd (fr_X4_worthIn hF) (ww_37) f_s2 (fun r3 s4 f_s4 => ?_)
  exact pf_ret f_s4
set_option maxRecDepth 100000 in
theorem fl_X4_hoursOf_4 {F : Nat} (hF : 1000 ≤ F) {x1 : Int32} {τ : Mem} : ∀ (N : Nat) (x2 : Int32) (x3 : Int32) (σ : Mem), fr wf_1 τ σ → pf wf_1 (lp_X4_hoursOf_4 F x1 N x2 x3 σ) τ := by
  intro N
  induction N with
  | zero => intro _ _ _ _; exact pf_none rfl
  | succ N ih =>
    intro x2 x3 σ f_σ
    rw [lp_X4_hoursOf_4_s]
    refine pf_ite ?_ ?_
    · exact pf_ret f_σ
    · refine pf_chk (fun v1 => ?_)
      refine pf_ite ?_ ?_
      · rw [j_X4_hoursOf_30_e]
        exact ih _ _ _ f_σ
      · rw [j_X4_hoursOf_30_e]
        exact ih _ _ _ f_σ
set_option maxRecDepth 100000 in
theorem fr_X4_hoursOf {F : Nat} (hF : 1000 ≤ F) {x1 : Int32} {σ : Mem} : pf wf_1 (f_X4_hoursOf F x1 σ) σ := by
  have f_σ : fr wf_1 σ σ := fr_rf
  rw [f_X4_hoursOf_e]
  exact fl_X4_hoursOf_4 hF _ _ _ _ f_σ
def wf_49 (c : Nat) : Prop := (107 ≤ c ∧ c ≤ 107) ∨ (109 ≤ c ∧ c ≤ 109) ∨ (1009 ≤ c ∧ c ≤ 1009)
theorem ww_38 : ∀ c, wf_46 c → wf_49 c := fun c h => Or.inr (Or.inl (h))
set_option maxRecDepth 100000 in
theorem fl_X4_goDays_6 {F : Nat} (hF : 1000 ≤ F) {x1 : Int32} {τ : Mem} : ∀ (N : Nat) (x2 : Int32) (σ : Mem), fr wf_49 τ σ → pf wf_49 (lp_X4_goDays_6 F x1 N x2 σ) τ := by
  intro N
  induction N with
  | zero => intro _ _ _; exact pf_none rfl
  | succ N ih =>
    intro x2 σ f_σ
    rw [lp_X4_goDays_6_s]
    refine pf_ite ?_ ?_
    · refine pf_up2 (c := 1009) f_σ (rfl) (Or.inr (Or.inr (⟨by omega, by omega⟩))) (fun s1 f_s1 => ?_)
      exact pf_ret f_s1
    · refine pf_chk (fun v2 => ?_)
      refine pf_bnd (fr_X4_held hF) (fun _ h => h.elim) f_σ (fun r3 s4 f_s4 => ?_)
      refine pf_up2 (c := 107) f_s4 (rfl) (Or.inl (⟨by omega, by omega⟩)) (fun s5 f_s5 => ?_)
      exact ih _ _ f_s5
set_option maxRecDepth 100000 in
theorem fr_X4_goDays {F : Nat} (hF : 1000 ≤ F) {x1 : Int32} {σ : Mem} : pf wf_49 (f_X4_goDays F x1 σ) σ := by
  have f_σ : fr wf_49 σ σ := fr_rf
  rw [f_X4_goDays_e]
  refine pf_bnd (fr_X4_layBrings hF) (ww_38) f_σ (fun r1 s2 f_s2 => ?_)
  exact fl_X4_goDays_6 hF _ _ _ f_s2
set_option maxRecDepth 100000 in
theorem fl_X4_owned_8 {F : Nat} (hF : 1000 ≤ F) {τ : Mem} : ∀ (N : Nat) (x1 : Int32) (x2 : Int32) (σ : Mem), fr wf_48 τ σ → pf wf_48 (lp_X4_owned_8 F N x1 x2 σ) τ := by
  intro N
  induction N with
  | zero => intro _ _ _ _; exact pf_none rfl
  | succ N ih =>
    intro x1 x2 σ f_σ
    rw [lp_X4_owned_8_s]
    refine pf_ite ?_ ?_
    · exact pf_ret f_σ
    · refine pf_bnd (fr_X4_ownerIn hF) (ww_37) f_σ (fun r1 s2 f_s2 => ?_)
      refine pf_ite ?_ ?_
      · rw [j_X4_owned_29_e]
        exact ih _ _ _ f_s2
      · rw [j_X4_owned_29_e]
        exact ih _ _ _ f_s2
set_option maxRecDepth 100000 in
theorem fr_X4_owned {F : Nat} (hF : 1000 ≤ F) {σ : Mem} : pf wf_48 (f_X4_owned F σ) σ := by
  have f_σ : fr wf_48 σ σ := fr_rf
  rw [f_X4_owned_e]
  refine pf_bnd (fr_X4_layBrings hF) (ww_36) f_σ (fun r1 s2 f_s2 => ?_)
  exact fl_X4_owned_8 hF _ _ _ _ f_s2
def wf_50 (c : Nat) : Prop := (108 ≤ c ∧ c ≤ 108) ∨ (111 ≤ c ∧ c ≤ 111) ∨ (1010 ≤ c ∧ c ≤ 1010) ∨ (1015 ≤ c ∧ c ≤ 1015)
theorem ww_39 : ∀ c, wf_45 c → wf_50 c := fun c h => Or.inl (h)
set_option maxRecDepth 100000 in
theorem fr_X4_feed {F : Nat} (hF : 1000 ≤ F) {x1 : Int32} {σ : Mem} : pf wf_50 (f_X4_feed F x1 σ) σ := by
  have f_σ : fr wf_50 σ σ := fr_rf
  rw [f_X4_feed_e]
  refine pf_up2 (c := 1010) f_σ (rfl) (Or.inr (Or.inr (Or.inl (⟨by omega, by omega⟩)))) (fun s1 f_s1 => ?_)
  refine pf_ite ?_ ?_
  · refine pf_ite ?_ ?_
    · rw [j_X4_feed_32_e]
      refine pf_bnd (fr_X4_refuse hF) (ww_39) f_s1 (fun r2 s3 f_s3 => ?_)
      exact pf_ret f_s3
    · refine pf_ite ?_ ?_
      · rw [j_X4_feed_32_e]
        refine pf_bnd (fr_X4_refuse hF) (ww_39) f_s1 (fun r4 s5 f_s5 => ?_)
        exact pf_ret f_s5
      · refine pf_chk (fun v6 => ?_)
        refine pf_up2 (c := 111) f_s1 (rfl) (Or.inr (Or.inl (⟨by omega, by omega⟩))) (fun s7 f_s7 => ?_)
        refine pf_up2 (c := 1015) f_s7 (rfl) (Or.inr (Or.inr (Or.inr (⟨by omega, by omega⟩)))) (fun s8 f_s8 => ?_)
        exact pf_ret f_s8
  · refine pf_bnd (fr_X4_refuse hF) (ww_39) f_s1 (fun r9 s10 f_s10 => ?_)
    exact pf_ret f_s10
set_option maxRecDepth 100000 in
theorem fr_X4_here {F : Nat} (hF : 1000 ≤ F) {σ : Mem} : pf wf_1 (f_X4_here F σ) σ := by
  have f_σ : fr wf_1 σ σ := fr_rf
  rw [f_X4_here_e]
  refine pf_ite ?_ ?_
  · exact pf_ret f_σ
  · refine pf_chk (fun v1 => ?_)
    exact pf_ret f_σ
def wf_51 (c : Nat) : Prop := (1016 ≤ c ∧ c ≤ 1017)
set_option maxRecDepth 100000 in
theorem fl_X4_readDigits_4 {F : Nat} (hF : 1000 ≤ F) {x1 : Int32} {τ : Mem} : ∀ (N : Nat) (x2 : Int32) (x3 : Int32) (σ : Mem), fr wf_51 τ σ → pf wf_51 (lp_X4_readDigits_4 F x1 N x2 x3 σ) τ := by
  intro N
  induction N with
  | zero => intro _ _ _ _; exact pf_none rfl
  | succ N ih =>
    intro x2 x3 σ f_σ
    rw [lp_X4_readDigits_4_s]
    refine pf_ite ?_ ?_
    · exact pf_ret f_σ
    · refine pf_ite ?_ ?_
      · refine pf_bnd (fr_X4_here hF) (fun _ h => h.elim) f_σ (fun r1 s2 f_s2 => ?_)
        refine pf_bnd (fr_X4_in hF) (fun _ h => h.elim) f_s2 (fun r3 s4 f_s4 => ?_)
        refine pf_ite ?_ ?_
        · rw [j_X4_readDigits_34_e]
          rw [j_X4_readDigits_39_e]
          refine pf_bz ?_
          refine pf_up2 (c := 1017) f_s4 (rfl) (⟨by omega, by omega⟩) (fun s5 f_s5 => ?_)
          refine pf_ite ?_ ?_
          · refine pf_chk (fun v6 => ?_)
            rw [j_X4_readDigits_70_e]
            refine pf_ite ?_ ?_
            · rw [j_X4_readDigits_88_e]
              refine pf_up2 (c := 1016) f_s5 (rfl) (⟨by omega, by omega⟩) (fun s7 f_s7 => ?_)
              exact ih _ _ _ f_s7
            · rw [j_X4_readDigits_88_e]
              refine pf_up2 (c := 1016) f_s5 (rfl) (⟨by omega, by omega⟩) (fun s8 f_s8 => ?_)
              exact ih _ _ _ f_s8
          · rw [j_X4_readDigits_70_e]
            refine pf_ite ?_ ?_
            · rw [j_X4_readDigits_88_e]
              refine pf_up2 (c := 1016) f_s5 (rfl) (⟨by omega, by omega⟩) (fun s9 f_s9 => ?_)
              exact ih _ _ _ f_s9
            · rw [j_X4_readDigits_88_e]
              refine pf_up2 (c := 1016) f_s5 (rfl) (⟨by omega, by omega⟩) (fun s10 f_s10 => ?_)
              exact ih _ _ _ f_s10
        · rw [j_X4_readDigits_39_e]
          refine pf_bz ?_
          refine pf_up2 (c := 1017) f_s4 (rfl) (⟨by omega, by omega⟩) (fun s11 f_s11 => ?_)
          refine pf_ite ?_ ?_
          · refine pf_chk (fun v12 => ?_)
            rw [j_X4_readDigits_70_e]
            refine pf_ite ?_ ?_
            · rw [j_X4_readDigits_88_e]
              refine pf_up2 (c := 1016) f_s11 (rfl) (⟨by omega, by omega⟩) (fun s13 f_s13 => ?_)
              exact ih _ _ _ f_s13
            · rw [j_X4_readDigits_88_e]
              refine pf_up2 (c := 1016) f_s11 (rfl) (⟨by omega, by omega⟩) (fun s14 f_s14 => ?_)
              exact ih _ _ _ f_s14
          · rw [j_X4_readDigits_70_e]
            refine pf_ite ?_ ?_
            · rw [j_X4_readDigits_88_e]
              refine pf_up2 (c := 1016) f_s11 (rfl) (⟨by omega, by omega⟩) (fun s15 f_s15 => ?_)
              exact ih _ _ _ f_s15
            · rw [j_X4_readDigits_88_e]
              refine pf_up2 (c := 1016) f_s11 (rfl) (⟨by omega, by omega⟩) (fun s16 f_s16 => ?_)
              exact ih _ _ _ f_s16
      · rw [j_X4_readDigits_34_e]
        rw [j_X4_readDigits_39_e]
        refine pf_bz ?_
        refine pf_up2 (c := 1017) f_σ (rfl) (⟨by omega, by omega⟩) (fun s17 f_s17 => ?_)
        refine pf_ite ?_ ?_
        · refine pf_chk (fun v18 => ?_)
          rw [j_X4_readDigits_70_e]
          refine pf_ite ?_ ?_
          · rw [j_X4_readDigits_88_e]
            refine pf_up2 (c := 1016) f_s17 (rfl) (⟨by omega, by omega⟩) (fun s19 f_s19 => ?_)
            exact ih _ _ _ f_s19
          · rw [j_X4_readDigits_88_e]
            refine pf_up2 (c := 1016) f_s17 (rfl) (⟨by omega, by omega⟩) (fun s20 f_s20 => ?_)
            exact ih _ _ _ f_s20
        · rw [j_X4_readDigits_70_e]
          refine pf_ite ?_ ?_
          · rw [j_X4_readDigits_88_e]
            refine pf_up2 (c := 1016) f_s17 (rfl) (⟨by omega, by omega⟩) (fun s21 f_s21 => ?_)
            exact ih _ _ _ f_s21
          · rw [j_X4_readDigits_88_e]
            refine pf_up2 (c := 1016) f_s17 (rfl) (⟨by omega, by omega⟩) (fun s22 f_s22 => ?_)
            exact ih _ _ _ f_s22
set_option maxRecDepth 100000 in
theorem fr_X4_readDigits {F : Nat} (hF : 1000 ≤ F) {x1 : Int32} {σ : Mem} : pf wf_51 (f_X4_readDigits F x1 σ) σ := by
  have f_σ : fr wf_51 σ σ := fr_rf
  rw [f_X4_readDigits_e]
  exact fl_X4_readDigits_4 hF _ _ _ _ f_σ
set_option maxRecDepth 100000 in
theorem fr_X4_isLetter {F : Nat} (hF : 1000 ≤ F) {x0 : Int32} {σ : Mem} : pf wf_1 (f_X4_isLetter F x0 σ) σ := by
  have f_σ : fr wf_1 σ σ := fr_rf
  rw [f_X4_isLetter_e]
  refine pf_ite ?_ ?_
  · rw [j_X4_isLetter_42_e]
    exact pf_ret f_σ
  · refine pf_ite ?_ ?_
    · rw [j_X4_isLetter_42_e]
      exact pf_ret f_σ
    · refine pf_ite ?_ ?_
      · rw [j_X4_isLetter_42_e]
        exact pf_ret f_σ
      · refine pf_ite ?_ ?_
        · rw [j_X4_isLetter_42_e]
          exact pf_ret f_σ
        · refine pf_ite ?_ ?_
          · rw [j_X4_isLetter_42_e]
            exact pf_ret f_σ
          · refine pf_ite ?_ ?_
            · rw [j_X4_isLetter_42_e]
              exact pf_ret f_σ
            · refine pf_ite ?_ ?_
              · rw [j_X4_isLetter_42_e]
                exact pf_ret f_σ
              · exact pf_ret f_σ
def wf_52 (c : Nat) : Prop := (114 ≤ c ∧ c ≤ 114) ∨ (1016 ≤ c ∧ c ≤ 1017)
theorem ww_40 : ∀ c, wf_51 c → wf_52 c := fun c h => Or.inr (h)
set_option maxRecDepth 100000 in
theorem fr_X4_readNumbers {F : Nat} (hF : 1000 ≤ F) {x1 : Int32} {x2 : Int32} {σ : Mem} : pf wf_52 (f_X4_readNumbers F x1 x2 σ) σ := by
  have f_σ : fr wf_52 σ σ := fr_rf
  rw [f_X4_readNumbers_e]
  refine pf_ite ?_ ?_
  · refine pf_bnd (fr_X4_readDigits hF) (ww_40) f_σ (fun r1 s2 f_s2 => ?_)
    refine pf_chk (fun v3 => ?_)
    refine pf_up2 (c := 114) f_s2 (rfl) (Or.inl (⟨by omega, by omega⟩)) (fun s4 f_s4 => ?_)
    exact pf_ret f_s4
  · refine pf_ite ?_ ?_
    · refine pf_bnd (fr_X4_readDigits hF) (ww_40) f_σ (fun r5 s6 f_s6 => ?_)
      refine pf_chk (fun v7 => ?_)
      refine pf_up2 (c := 114) f_s6 (rfl) (Or.inl (⟨by omega, by omega⟩)) (fun s8 f_s8 => ?_)
      exact pf_ret f_s8
    · refine pf_ite ?_ ?_
      · refine pf_bnd (fr_X4_readDigits hF) (ww_40) f_σ (fun r9 s10 f_s10 => ?_)
        refine pf_chk (fun v11 => ?_)
        refine pf_up2 (c := 114) f_s10 (rfl) (Or.inl (⟨by omega, by omega⟩)) (fun s12 f_s12 => ?_)
        refine pf_bnd (fr_X4_readDigits hF) (ww_40) f_s12 (fun r13 s14 f_s14 => ?_)
        refine pf_chk (fun v15 => ?_)
        refine pf_up2 (c := 114) f_s14 (rfl) (Or.inl (⟨by omega, by omega⟩)) (fun s16 f_s16 => ?_)
        refine pf_bnd (fr_X4_readDigits hF) (ww_40) f_s16 (fun r17 s18 f_s18 => ?_)
        refine pf_chk (fun v19 => ?_)
        refine pf_up2 (c := 114) f_s18 (rfl) (Or.inl (⟨by omega, by omega⟩)) (fun s20 f_s20 => ?_)
        refine pf_bnd (fr_X4_readDigits hF) (ww_40) f_s20 (fun r21 s22 f_s22 => ?_)
        refine pf_chk (fun v23 => ?_)
        refine pf_up2 (c := 114) f_s22 (rfl) (Or.inl (⟨by omega, by omega⟩)) (fun s24 f_s24 => ?_)
        exact pf_ret f_s24
      · refine pf_ite ?_ ?_
        · refine pf_bnd (fr_X4_readDigits hF) (ww_40) f_σ (fun r25 s26 f_s26 => ?_)
          refine pf_chk (fun v27 => ?_)
          refine pf_up2 (c := 114) f_s26 (rfl) (Or.inl (⟨by omega, by omega⟩)) (fun s28 f_s28 => ?_)
          exact pf_ret f_s28
        · refine pf_bnd (fr_X4_readDigits hF) (ww_40) f_σ (fun r29 s30 f_s30 => ?_)
          refine pf_chk (fun v31 => ?_)
          refine pf_up2 (c := 114) f_s30 (rfl) (Or.inl (⟨by omega, by omega⟩)) (fun s32 f_s32 => ?_)
          refine pf_bnd (fr_X4_readDigits hF) (ww_40) f_s32 (fun r33 s34 f_s34 => ?_)
          refine pf_chk (fun v35 => ?_)
          refine pf_up2 (c := 114) f_s34 (rfl) (Or.inl (⟨by omega, by omega⟩)) (fun s36 f_s36 => ?_)
          exact pf_ret f_s36
def wf_53 (c : Nat) : Prop := (112 ≤ c ∧ c ≤ 114) ∨ (1016 ≤ c ∧ c ≤ 1018)
theorem ww_41 : ∀ c, wf_52 c → wf_53 c := fun c h => h.elim (fun a => Or.inl (⟨Nat.le_trans (by omega) (a).1, Nat.le_trans (a).2 (by omega)⟩)) (fun b0 => Or.inr (⟨Nat.le_trans (by omega) (b0).1, Nat.le_trans (b0).2 (by omega)⟩))
set_option maxRecDepth 100000 in
theorem fr_X4_readStatement {F : Nat} (hF : 1000 ≤ F) {σ : Mem} : pf wf_53 (f_X4_readStatement F σ) σ := by
  have f_σ : fr wf_53 σ σ := fr_rf
  rw [f_X4_readStatement_e]
  refine pf_bnd (fr_X4_here hF) (fun _ h => h.elim) f_σ (fun r1 s2 f_s2 => ?_)
  refine pf_chk (fun v3 => ?_)
  refine pf_up2 (c := 112) f_s2 (rfl) (Or.inl (⟨by omega, by omega⟩)) (fun s4 f_s4 => ?_)
  refine pf_up2 (c := 113) f_s4 (rfl) (Or.inl (⟨by omega, by omega⟩)) (fun s5 f_s5 => ?_)
  refine pf_ite ?_ ?_
  · refine pf_bnd (fr_X4_isLetter hF) (fun _ h => h.elim) f_s5 (fun r6 s7 f_s7 => ?_)
    refine pf_ite ?_ ?_
    · rw [j_X4_readStatement_42_e]
      rw [j_X4_readStatement_47_e]
      refine pf_bz ?_
      refine pf_up2 (c := 1017) f_s7 (rfl) (Or.inr (⟨by omega, by omega⟩)) (fun s8 f_s8 => ?_)
      refine pf_ite ?_ ?_
      · rw [j_X4_readStatement_67_e]
        refine pf_up2 (c := 1016) f_s8 (rfl) (Or.inr (⟨by omega, by omega⟩)) (fun s9 f_s9 => ?_)
        refine pf_ite ?_ ?_
        · refine pf_bnd (fr_X4_readNumbers hF) (ww_41) f_s9 (fun r10 s11 f_s11 => ?_)
          rw [j_X4_readStatement_86_e]
          refine pf_ite ?_ ?_
          · refine pf_bnd (fr_X4_here hF) (fun _ h => h.elim) f_s11 (fun r12 s13 f_s13 => ?_)
            refine pf_ite ?_ ?_
            · rw [j_X4_readStatement_108_e]
              refine pf_bz ?_
              refine pf_up2 (c := 1017) f_s13 (rfl) (Or.inr (⟨by omega, by omega⟩)) (fun s14 f_s14 => ?_)
              refine pf_ite ?_ ?_
              · rw [j_X4_readStatement_128_e]
                refine pf_up2 (c := 1016) f_s14 (rfl) (Or.inr (⟨by omega, by omega⟩)) (fun s15 f_s15 => ?_)
                refine pf_up2 (c := 1018) f_s15 (rfl) (Or.inr (⟨by omega, by omega⟩)) (fun s16 f_s16 => ?_)
                exact pf_ret f_s16
              · rw [j_X4_readStatement_128_e]
                refine pf_up2 (c := 1016) f_s14 (rfl) (Or.inr (⟨by omega, by omega⟩)) (fun s17 f_s17 => ?_)
                refine pf_up2 (c := 1018) f_s17 (rfl) (Or.inr (⟨by omega, by omega⟩)) (fun s18 f_s18 => ?_)
                exact pf_ret f_s18
            · rw [j_X4_readStatement_103_e]
              rw [j_X4_readStatement_108_e]
              refine pf_bz ?_
              refine pf_up2 (c := 1017) f_s13 (rfl) (Or.inr (⟨by omega, by omega⟩)) (fun s19 f_s19 => ?_)
              refine pf_ite ?_ ?_
              · rw [j_X4_readStatement_128_e]
                refine pf_up2 (c := 1016) f_s19 (rfl) (Or.inr (⟨by omega, by omega⟩)) (fun s20 f_s20 => ?_)
                refine pf_up2 (c := 1018) f_s20 (rfl) (Or.inr (⟨by omega, by omega⟩)) (fun s21 f_s21 => ?_)
                exact pf_ret f_s21
              · rw [j_X4_readStatement_128_e]
                refine pf_up2 (c := 1016) f_s19 (rfl) (Or.inr (⟨by omega, by omega⟩)) (fun s22 f_s22 => ?_)
                refine pf_up2 (c := 1018) f_s22 (rfl) (Or.inr (⟨by omega, by omega⟩)) (fun s23 f_s23 => ?_)
                exact pf_ret f_s23
          · rw [j_X4_readStatement_103_e]
            rw [j_X4_readStatement_108_e]
            refine pf_bz ?_
            refine pf_up2 (c := 1017) f_s11 (rfl) (Or.inr (⟨by omega, by omega⟩)) (fun s24 f_s24 => ?_)
            refine pf_ite ?_ ?_
            · rw [j_X4_readStatement_128_e]
              refine pf_up2 (c := 1016) f_s24 (rfl) (Or.inr (⟨by omega, by omega⟩)) (fun s25 f_s25 => ?_)
              refine pf_up2 (c := 1018) f_s25 (rfl) (Or.inr (⟨by omega, by omega⟩)) (fun s26 f_s26 => ?_)
              exact pf_ret f_s26
            · rw [j_X4_readStatement_128_e]
              refine pf_up2 (c := 1016) f_s24 (rfl) (Or.inr (⟨by omega, by omega⟩)) (fun s27 f_s27 => ?_)
              refine pf_up2 (c := 1018) f_s27 (rfl) (Or.inr (⟨by omega, by omega⟩)) (fun s28 f_s28 => ?_)
              exact pf_ret f_s28
        · rw [j_X4_readStatement_86_e]
          refine pf_ite ?_ ?_
          · refine pf_bnd (fr_X4_here hF) (fun _ h => h.elim) f_s9 (fun r29 s30 f_s30 => ?_)
            refine pf_ite ?_ ?_
            · rw [j_X4_readStatement_108_e]
              refine pf_bz ?_
              refine pf_up2 (c := 1017) f_s30 (rfl) (Or.inr (⟨by omega, by omega⟩)) (fun s31 f_s31 => ?_)
              refine pf_ite ?_ ?_
              · rw [j_X4_readStatement_128_e]
                refine pf_up2 (c := 1016) f_s31 (rfl) (Or.inr (⟨by omega, by omega⟩)) (fun s32 f_s32 => ?_)
                refine pf_up2 (c := 1018) f_s32 (rfl) (Or.inr (⟨by omega, by omega⟩)) (fun s33 f_s33 => ?_)
                exact pf_ret f_s33
              · rw [j_X4_readStatement_128_e]
                refine pf_up2 (c := 1016) f_s31 (rfl) (Or.inr (⟨by omega, by omega⟩)) (fun s34 f_s34 => ?_)
                refine pf_up2 (c := 1018) f_s34 (rfl) (Or.inr (⟨by omega, by omega⟩)) (fun s35 f_s35 => ?_)
                exact pf_ret f_s35
            · rw [j_X4_readStatement_103_e]
              rw [j_X4_readStatement_108_e]
              refine pf_bz ?_
              refine pf_up2 (c := 1017) f_s30 (rfl) (Or.inr (⟨by omega, by omega⟩)) (fun s36 f_s36 => ?_)
              refine pf_ite ?_ ?_
              · rw [j_X4_readStatement_128_e]
                refine pf_up2 (c := 1016) f_s36 (rfl) (Or.inr (⟨by omega, by omega⟩)) (fun s37 f_s37 => ?_)
                refine pf_up2 (c := 1018) f_s37 (rfl) (Or.inr (⟨by omega, by omega⟩)) (fun s38 f_s38 => ?_)
                exact pf_ret f_s38
              · rw [j_X4_readStatement_128_e]
                refine pf_up2 (c := 1016) f_s36 (rfl) (Or.inr (⟨by omega, by omega⟩)) (fun s39 f_s39 => ?_)
                refine pf_up2 (c := 1018) f_s39 (rfl) (Or.inr (⟨by omega, by omega⟩)) (fun s40 f_s40 => ?_)
                exact pf_ret f_s40
          · rw [j_X4_readStatement_103_e]
            rw [j_X4_readStatement_108_e]
            refine pf_bz ?_
            refine pf_up2 (c := 1017) f_s9 (rfl) (Or.inr (⟨by omega, by omega⟩)) (fun s41 f_s41 => ?_)
            refine pf_ite ?_ ?_
            · rw [j_X4_readStatement_128_e]
              refine pf_up2 (c := 1016) f_s41 (rfl) (Or.inr (⟨by omega, by omega⟩)) (fun s42 f_s42 => ?_)
              refine pf_up2 (c := 1018) f_s42 (rfl) (Or.inr (⟨by omega, by omega⟩)) (fun s43 f_s43 => ?_)
              exact pf_ret f_s43
            · rw [j_X4_readStatement_128_e]
              refine pf_up2 (c := 1016) f_s41 (rfl) (Or.inr (⟨by omega, by omega⟩)) (fun s44 f_s44 => ?_)
              refine pf_up2 (c := 1018) f_s44 (rfl) (Or.inr (⟨by omega, by omega⟩)) (fun s45 f_s45 => ?_)
              exact pf_ret f_s45
      · rw [j_X4_readStatement_67_e]
        refine pf_up2 (c := 1016) f_s8 (rfl) (Or.inr (⟨by omega, by omega⟩)) (fun s46 f_s46 => ?_)
        refine pf_ite ?_ ?_
        · refine pf_bnd (fr_X4_readNumbers hF) (ww_41) f_s46 (fun r47 s48 f_s48 => ?_)
          rw [j_X4_readStatement_86_e]
          refine pf_ite ?_ ?_
          · refine pf_bnd (fr_X4_here hF) (fun _ h => h.elim) f_s48 (fun r49 s50 f_s50 => ?_)
            refine pf_ite ?_ ?_
            · rw [j_X4_readStatement_108_e]
              refine pf_bz ?_
              refine pf_up2 (c := 1017) f_s50 (rfl) (Or.inr (⟨by omega, by omega⟩)) (fun s51 f_s51 => ?_)
              refine pf_ite ?_ ?_
              · rw [j_X4_readStatement_128_e]
                refine pf_up2 (c := 1016) f_s51 (rfl) (Or.inr (⟨by omega, by omega⟩)) (fun s52 f_s52 => ?_)
                refine pf_up2 (c := 1018) f_s52 (rfl) (Or.inr (⟨by omega, by omega⟩)) (fun s53 f_s53 => ?_)
                exact pf_ret f_s53
              · rw [j_X4_readStatement_128_e]
                refine pf_up2 (c := 1016) f_s51 (rfl) (Or.inr (⟨by omega, by omega⟩)) (fun s54 f_s54 => ?_)
                refine pf_up2 (c := 1018) f_s54 (rfl) (Or.inr (⟨by omega, by omega⟩)) (fun s55 f_s55 => ?_)
                exact pf_ret f_s55
            · rw [j_X4_readStatement_103_e]
              rw [j_X4_readStatement_108_e]
              refine pf_bz ?_
              refine pf_up2 (c := 1017) f_s50 (rfl) (Or.inr (⟨by omega, by omega⟩)) (fun s56 f_s56 => ?_)
              refine pf_ite ?_ ?_
              · rw [j_X4_readStatement_128_e]
                refine pf_up2 (c := 1016) f_s56 (rfl) (Or.inr (⟨by omega, by omega⟩)) (fun s57 f_s57 => ?_)
                refine pf_up2 (c := 1018) f_s57 (rfl) (Or.inr (⟨by omega, by omega⟩)) (fun s58 f_s58 => ?_)
                exact pf_ret f_s58
              · rw [j_X4_readStatement_128_e]
                refine pf_up2 (c := 1016) f_s56 (rfl) (Or.inr (⟨by omega, by omega⟩)) (fun s59 f_s59 => ?_)
                refine pf_up2 (c := 1018) f_s59 (rfl) (Or.inr (⟨by omega, by omega⟩)) (fun s60 f_s60 => ?_)
                exact pf_ret f_s60
          · rw [j_X4_readStatement_103_e]
            rw [j_X4_readStatement_108_e]
            refine pf_bz ?_
            refine pf_up2 (c := 1017) f_s48 (rfl) (Or.inr (⟨by omega, by omega⟩)) (fun s61 f_s61 => ?_)
            refine pf_ite ?_ ?_
            · rw [j_X4_readStatement_128_e]
              refine pf_up2 (c := 1016) f_s61 (rfl) (Or.inr (⟨by omega, by omega⟩)) (fun s62 f_s62 => ?_)
              refine pf_up2 (c := 1018) f_s62 (rfl) (Or.inr (⟨by omega, by omega⟩)) (fun s63 f_s63 => ?_)
              exact pf_ret f_s63
            · rw [j_X4_readStatement_128_e]
              refine pf_up2 (c := 1016) f_s61 (rfl) (Or.inr (⟨by omega, by omega⟩)) (fun s64 f_s64 => ?_)
              refine pf_up2 (c := 1018) f_s64 (rfl) (Or.inr (⟨by omega, by omega⟩)) (fun s65 f_s65 => ?_)
              exact pf_ret f_s65
        · rw [j_X4_readStatement_86_e]
          refine pf_ite ?_ ?_
          · refine pf_bnd (fr_X4_here hF) (fun _ h => h.elim) f_s46 (fun r66 s67 f_s67 => ?_)
            refine pf_ite ?_ ?_
            · rw [j_X4_readStatement_108_e]
              refine pf_bz ?_
              refine pf_up2 (c := 1017) f_s67 (rfl) (Or.inr (⟨by omega, by omega⟩)) (fun s68 f_s68 => ?_)
              refine pf_ite ?_ ?_
              · rw [j_X4_readStatement_128_e]
                refine pf_up2 (c := 1016) f_s68 (rfl) (Or.inr (⟨by omega, by omega⟩)) (fun s69 f_s69 => ?_)
                refine pf_up2 (c := 1018) f_s69 (rfl) (Or.inr (⟨by omega, by omega⟩)) (fun s70 f_s70 => ?_)
                exact pf_ret f_s70
              · rw [j_X4_readStatement_128_e]
                refine pf_up2 (c := 1016) f_s68 (rfl) (Or.inr (⟨by omega, by omega⟩)) (fun s71 f_s71 => ?_)
                refine pf_up2 (c := 1018) f_s71 (rfl) (Or.inr (⟨by omega, by omega⟩)) (fun s72 f_s72 => ?_)
                exact pf_ret f_s72
            · rw [j_X4_readStatement_103_e]
              rw [j_X4_readStatement_108_e]
              refine pf_bz ?_
              refine pf_up2 (c := 1017) f_s67 (rfl) (Or.inr (⟨by omega, by omega⟩)) (fun s73 f_s73 => ?_)
              refine pf_ite ?_ ?_
              · rw [j_X4_readStatement_128_e]
                refine pf_up2 (c := 1016) f_s73 (rfl) (Or.inr (⟨by omega, by omega⟩)) (fun s74 f_s74 => ?_)
                refine pf_up2 (c := 1018) f_s74 (rfl) (Or.inr (⟨by omega, by omega⟩)) (fun s75 f_s75 => ?_)
                exact pf_ret f_s75
              · rw [j_X4_readStatement_128_e]
                refine pf_up2 (c := 1016) f_s73 (rfl) (Or.inr (⟨by omega, by omega⟩)) (fun s76 f_s76 => ?_)
                refine pf_up2 (c := 1018) f_s76 (rfl) (Or.inr (⟨by omega, by omega⟩)) (fun s77 f_s77 => ?_)
                exact pf_ret f_s77
          · rw [j_X4_readStatement_103_e]
            rw [j_X4_readStatement_108_e]
            refine pf_bz ?_
            refine pf_up2 (c := 1017) f_s46 (rfl) (Or.inr (⟨by omega, by omega⟩)) (fun s78 f_s78 => ?_)
            refine pf_ite ?_ ?_
            · rw [j_X4_readStatement_128_e]
              refine pf_up2 (c := 1016) f_s78 (rfl) (Or.inr (⟨by omega, by omega⟩)) (fun s79 f_s79 => ?_)
              refine pf_up2 (c := 1018) f_s79 (rfl) (Or.inr (⟨by omega, by omega⟩)) (fun s80 f_s80 => ?_)
              exact pf_ret f_s80
            · rw [j_X4_readStatement_128_e]
              refine pf_up2 (c := 1016) f_s78 (rfl) (Or.inr (⟨by omega, by omega⟩)) (fun s81 f_s81 => ?_)
              refine pf_up2 (c := 1018) f_s81 (rfl) (Or.inr (⟨by omega, by omega⟩)) (fun s82 f_s82 => ?_)
              exact pf_ret f_s82
    · rw [j_X4_readStatement_47_e]
      refine pf_bz ?_
      refine pf_up2 (c := 1017) f_s7 (rfl) (Or.inr (⟨by omega, by omega⟩)) (fun s83 f_s83 => ?_)
      refine pf_ite ?_ ?_
      · rw [j_X4_readStatement_67_e]
        refine pf_up2 (c := 1016) f_s83 (rfl) (Or.inr (⟨by omega, by omega⟩)) (fun s84 f_s84 => ?_)
        refine pf_ite ?_ ?_
        · refine pf_bnd (fr_X4_readNumbers hF) (ww_41) f_s84 (fun r85 s86 f_s86 => ?_)
          rw [j_X4_readStatement_86_e]
          refine pf_ite ?_ ?_
          · refine pf_bnd (fr_X4_here hF) (fun _ h => h.elim) f_s86 (fun r87 s88 f_s88 => ?_)
            refine pf_ite ?_ ?_
            · rw [j_X4_readStatement_108_e]
              refine pf_bz ?_
              refine pf_up2 (c := 1017) f_s88 (rfl) (Or.inr (⟨by omega, by omega⟩)) (fun s89 f_s89 => ?_)
              refine pf_ite ?_ ?_
              · rw [j_X4_readStatement_128_e]
                refine pf_up2 (c := 1016) f_s89 (rfl) (Or.inr (⟨by omega, by omega⟩)) (fun s90 f_s90 => ?_)
                refine pf_up2 (c := 1018) f_s90 (rfl) (Or.inr (⟨by omega, by omega⟩)) (fun s91 f_s91 => ?_)
                exact pf_ret f_s91
              · rw [j_X4_readStatement_128_e]
                refine pf_up2 (c := 1016) f_s89 (rfl) (Or.inr (⟨by omega, by omega⟩)) (fun s92 f_s92 => ?_)
                refine pf_up2 (c := 1018) f_s92 (rfl) (Or.inr (⟨by omega, by omega⟩)) (fun s93 f_s93 => ?_)
                exact pf_ret f_s93
            · rw [j_X4_readStatement_103_e]
              rw [j_X4_readStatement_108_e]
              refine pf_bz ?_
              refine pf_up2 (c := 1017) f_s88 (rfl) (Or.inr (⟨by omega, by omega⟩)) (fun s94 f_s94 => ?_)
              refine pf_ite ?_ ?_
              · rw [j_X4_readStatement_128_e]
                refine pf_up2 (c := 1016) f_s94 (rfl) (Or.inr (⟨by omega, by omega⟩)) (fun s95 f_s95 => ?_)
                refine pf_up2 (c := 1018) f_s95 (rfl) (Or.inr (⟨by omega, by omega⟩)) (fun s96 f_s96 => ?_)
                exact pf_ret f_s96
              · rw [j_X4_readStatement_128_e]
                refine pf_up2 (c := 1016) f_s94 (rfl) (Or.inr (⟨by omega, by omega⟩)) (fun s97 f_s97 => ?_)
                refine pf_up2 (c := 1018) f_s97 (rfl) (Or.inr (⟨by omega, by omega⟩)) (fun s98 f_s98 => ?_)
                exact pf_ret f_s98
          · rw [j_X4_readStatement_103_e]
            rw [j_X4_readStatement_108_e]
            refine pf_bz ?_
            refine pf_up2 (c := 1017) f_s86 (rfl) (Or.inr (⟨by omega, by omega⟩)) (fun s99 f_s99 => ?_)
            refine pf_ite ?_ ?_
            · rw [j_X4_readStatement_128_e]
              refine pf_up2 (c := 1016) f_s99 (rfl) (Or.inr (⟨by omega, by omega⟩)) (fun s100 f_s100 => ?_)
              refine pf_up2 (c := 1018) f_s100 (rfl) (Or.inr (⟨by omega, by omega⟩)) (fun s101 f_s101 => ?_)
              exact pf_ret f_s101
            · rw [j_X4_readStatement_128_e]
              refine pf_up2 (c := 1016) f_s99 (rfl) (Or.inr (⟨by omega, by omega⟩)) (fun s102 f_s102 => ?_)
              refine pf_up2 (c := 1018) f_s102 (rfl) (Or.inr (⟨by omega, by omega⟩)) (fun s103 f_s103 => ?_)
              exact pf_ret f_s103
        · rw [j_X4_readStatement_86_e]
          refine pf_ite ?_ ?_
          · refine pf_bnd (fr_X4_here hF) (fun _ h => h.elim) f_s84 (fun r104 s105 f_s105 => ?_)
            refine pf_ite ?_ ?_
            · rw [j_X4_readStatement_108_e]
              refine pf_bz ?_
              refine pf_up2 (c := 1017) f_s105 (rfl) (Or.inr (⟨by omega, by omega⟩)) (fun s106 f_s106 => ?_)
              refine pf_ite ?_ ?_
              · rw [j_X4_readStatement_128_e]
                refine pf_up2 (c := 1016) f_s106 (rfl) (Or.inr (⟨by omega, by omega⟩)) (fun s107 f_s107 => ?_)
                refine pf_up2 (c := 1018) f_s107 (rfl) (Or.inr (⟨by omega, by omega⟩)) (fun s108 f_s108 => ?_)
                exact pf_ret f_s108
              · rw [j_X4_readStatement_128_e]
                refine pf_up2 (c := 1016) f_s106 (rfl) (Or.inr (⟨by omega, by omega⟩)) (fun s109 f_s109 => ?_)
                refine pf_up2 (c := 1018) f_s109 (rfl) (Or.inr (⟨by omega, by omega⟩)) (fun s110 f_s110 => ?_)
                exact pf_ret f_s110
            · rw [j_X4_readStatement_103_e]
              rw [j_X4_readStatement_108_e]
              refine pf_bz ?_
              refine pf_up2 (c := 1017) f_s105 (rfl) (Or.inr (⟨by omega, by omega⟩)) (fun s111 f_s111 => ?_)
              refine pf_ite ?_ ?_
              · rw [j_X4_readStatement_128_e]
                refine pf_up2 (c := 1016) f_s111 (rfl) (Or.inr (⟨by omega, by omega⟩)) (fun s112 f_s112 => ?_)
                refine pf_up2 (c := 1018) f_s112 (rfl) (Or.inr (⟨by omega, by omega⟩)) (fun s113 f_s113 => ?_)
                exact pf_ret f_s113
              · rw [j_X4_readStatement_128_e]
                refine pf_up2 (c := 1016) f_s111 (rfl) (Or.inr (⟨by omega, by omega⟩)) (fun s114 f_s114 => ?_)
                refine pf_up2 (c := 1018) f_s114 (rfl) (Or.inr (⟨by omega, by omega⟩)) (fun s115 f_s115 => ?_)
                exact pf_ret f_s115
          · rw [j_X4_readStatement_103_e]
            rw [j_X4_readStatement_108_e]
            refine pf_bz ?_
            refine pf_up2 (c := 1017) f_s84 (rfl) (Or.inr (⟨by omega, by omega⟩)) (fun s116 f_s116 => ?_)
            refine pf_ite ?_ ?_
            · rw [j_X4_readStatement_128_e]
              refine pf_up2 (c := 1016) f_s116 (rfl) (Or.inr (⟨by omega, by omega⟩)) (fun s117 f_s117 => ?_)
              refine pf_up2 (c := 1018) f_s117 (rfl) (Or.inr (⟨by omega, by omega⟩)) (fun s118 f_s118 => ?_)
              exact pf_ret f_s118
            · rw [j_X4_readStatement_128_e]
              refine pf_up2 (c := 1016) f_s116 (rfl) (Or.inr (⟨by omega, by omega⟩)) (fun s119 f_s119 => ?_)
              refine pf_up2 (c := 1018) f_s119 (rfl) (Or.inr (⟨by omega, by omega⟩)) (fun s120 f_s120 => ?_)
              exact pf_ret f_s120
      · rw [j_X4_readStatement_67_e]
        refine pf_up2 (c := 1016) f_s83 (rfl) (Or.inr (⟨by omega, by omega⟩)) (fun s121 f_s121 => ?_)
        refine pf_ite ?_ ?_
        · refine pf_bnd (fr_X4_readNumbers hF) (ww_41) f_s121 (fun r122 s123 f_s123 => ?_)
          rw [j_X4_readStatement_86_e]
          refine pf_ite ?_ ?_
          · refine pf_bnd (fr_X4_here hF) (fun _ h => h.elim) f_s123 (fun r124 s125 f_s125 => ?_)
            refine pf_ite ?_ ?_
            · rw [j_X4_readStatement_108_e]
              refine pf_bz ?_
              refine pf_up2 (c := 1017) f_s125 (rfl) (Or.inr (⟨by omega, by omega⟩)) (fun s126 f_s126 => ?_)
              refine pf_ite ?_ ?_
              · rw [j_X4_readStatement_128_e]
                refine pf_up2 (c := 1016) f_s126 (rfl) (Or.inr (⟨by omega, by omega⟩)) (fun s127 f_s127 => ?_)
                refine pf_up2 (c := 1018) f_s127 (rfl) (Or.inr (⟨by omega, by omega⟩)) (fun s128 f_s128 => ?_)
                exact pf_ret f_s128
              · rw [j_X4_readStatement_128_e]
                refine pf_up2 (c := 1016) f_s126 (rfl) (Or.inr (⟨by omega, by omega⟩)) (fun s129 f_s129 => ?_)
                refine pf_up2 (c := 1018) f_s129 (rfl) (Or.inr (⟨by omega, by omega⟩)) (fun s130 f_s130 => ?_)
                exact pf_ret f_s130
            · rw [j_X4_readStatement_103_e]
              rw [j_X4_readStatement_108_e]
              refine pf_bz ?_
              refine pf_up2 (c := 1017) f_s125 (rfl) (Or.inr (⟨by omega, by omega⟩)) (fun s131 f_s131 => ?_)
              refine pf_ite ?_ ?_
              · rw [j_X4_readStatement_128_e]
                refine pf_up2 (c := 1016) f_s131 (rfl) (Or.inr (⟨by omega, by omega⟩)) (fun s132 f_s132 => ?_)
                refine pf_up2 (c := 1018) f_s132 (rfl) (Or.inr (⟨by omega, by omega⟩)) (fun s133 f_s133 => ?_)
                exact pf_ret f_s133
              · rw [j_X4_readStatement_128_e]
                refine pf_up2 (c := 1016) f_s131 (rfl) (Or.inr (⟨by omega, by omega⟩)) (fun s134 f_s134 => ?_)
                refine pf_up2 (c := 1018) f_s134 (rfl) (Or.inr (⟨by omega, by omega⟩)) (fun s135 f_s135 => ?_)
                exact pf_ret f_s135
          · rw [j_X4_readStatement_103_e]
            rw [j_X4_readStatement_108_e]
            refine pf_bz ?_
            refine pf_up2 (c := 1017) f_s123 (rfl) (Or.inr (⟨by omega, by omega⟩)) (fun s136 f_s136 => ?_)
            refine pf_ite ?_ ?_
            · rw [j_X4_readStatement_128_e]
              refine pf_up2 (c := 1016) f_s136 (rfl) (Or.inr (⟨by omega, by omega⟩)) (fun s137 f_s137 => ?_)
              refine pf_up2 (c := 1018) f_s137 (rfl) (Or.inr (⟨by omega, by omega⟩)) (fun s138 f_s138 => ?_)
              exact pf_ret f_s138
            · rw [j_X4_readStatement_128_e]
              refine pf_up2 (c := 1016) f_s136 (rfl) (Or.inr (⟨by omega, by omega⟩)) (fun s139 f_s139 => ?_)
              refine pf_up2 (c := 1018) f_s139 (rfl) (Or.inr (⟨by omega, by omega⟩)) (fun s140 f_s140 => ?_)
              exact pf_ret f_s140
        · rw [j_X4_readStatement_86_e]
          refine pf_ite ?_ ?_
          · refine pf_bnd (fr_X4_here hF) (fun _ h => h.elim) f_s121 (fun r141 s142 f_s142 => ?_)
            refine pf_ite ?_ ?_
            · rw [j_X4_readStatement_108_e]
              refine pf_bz ?_
              refine pf_up2 (c := 1017) f_s142 (rfl) (Or.inr (⟨by omega, by omega⟩)) (fun s143 f_s143 => ?_)
              refine pf_ite ?_ ?_
              · rw [j_X4_readStatement_128_e]
                refine pf_up2 (c := 1016) f_s143 (rfl) (Or.inr (⟨by omega, by omega⟩)) (fun s144 f_s144 => ?_)
                refine pf_up2 (c := 1018) f_s144 (rfl) (Or.inr (⟨by omega, by omega⟩)) (fun s145 f_s145 => ?_)
                exact pf_ret f_s145
              · rw [j_X4_readStatement_128_e]
                refine pf_up2 (c := 1016) f_s143 (rfl) (Or.inr (⟨by omega, by omega⟩)) (fun s146 f_s146 => ?_)
                refine pf_up2 (c := 1018) f_s146 (rfl) (Or.inr (⟨by omega, by omega⟩)) (fun s147 f_s147 => ?_)
                exact pf_ret f_s147
            · rw [j_X4_readStatement_103_e]
              rw [j_X4_readStatement_108_e]
              refine pf_bz ?_
              refine pf_up2 (c := 1017) f_s142 (rfl) (Or.inr (⟨by omega, by omega⟩)) (fun s148 f_s148 => ?_)
              refine pf_ite ?_ ?_
              · rw [j_X4_readStatement_128_e]
                refine pf_up2 (c := 1016) f_s148 (rfl) (Or.inr (⟨by omega, by omega⟩)) (fun s149 f_s149 => ?_)
                refine pf_up2 (c := 1018) f_s149 (rfl) (Or.inr (⟨by omega, by omega⟩)) (fun s150 f_s150 => ?_)
                exact pf_ret f_s150
              · rw [j_X4_readStatement_128_e]
                refine pf_up2 (c := 1016) f_s148 (rfl) (Or.inr (⟨by omega, by omega⟩)) (fun s151 f_s151 => ?_)
                refine pf_up2 (c := 1018) f_s151 (rfl) (Or.inr (⟨by omega, by omega⟩)) (fun s152 f_s152 => ?_)
                exact pf_ret f_s152
          · rw [j_X4_readStatement_103_e]
            rw [j_X4_readStatement_108_e]
            refine pf_bz ?_
            refine pf_up2 (c := 1017) f_s121 (rfl) (Or.inr (⟨by omega, by omega⟩)) (fun s153 f_s153 => ?_)
            refine pf_ite ?_ ?_
            · rw [j_X4_readStatement_128_e]
              refine pf_up2 (c := 1016) f_s153 (rfl) (Or.inr (⟨by omega, by omega⟩)) (fun s154 f_s154 => ?_)
              refine pf_up2 (c := 1018) f_s154 (rfl) (Or.inr (⟨by omega, by omega⟩)) (fun s155 f_s155 => ?_)
              exact pf_ret f_s155
            · rw [j_X4_readStatement_128_e]
              refine pf_up2 (c := 1016) f_s153 (rfl) (Or.inr (⟨by omega, by omega⟩)) (fun s156 f_s156 => ?_)
              refine pf_up2 (c := 1018) f_s156 (rfl) (Or.inr (⟨by omega, by omega⟩)) (fun s157 f_s157 => ?_)
              exact pf_ret f_s157
  · rw [j_X4_readStatement_42_e]
    rw [j_X4_readStatement_47_e]
    refine pf_bz ?_
    refine pf_up2 (c := 1017) f_s5 (rfl) (Or.inr (⟨by omega, by omega⟩)) (fun s158 f_s158 => ?_)
    refine pf_ite ?_ ?_
    · rw [j_X4_readStatement_67_e]
      refine pf_up2 (c := 1016) f_s158 (rfl) (Or.inr (⟨by omega, by omega⟩)) (fun s159 f_s159 => ?_)
      refine pf_ite ?_ ?_
      · refine pf_bnd (fr_X4_readNumbers hF) (ww_41) f_s159 (fun r160 s161 f_s161 => ?_)
        rw [j_X4_readStatement_86_e]
        refine pf_ite ?_ ?_
        · refine pf_bnd (fr_X4_here hF) (fun _ h => h.elim) f_s161 (fun r162 s163 f_s163 => ?_)
          refine pf_ite ?_ ?_
          · rw [j_X4_readStatement_108_e]
            refine pf_bz ?_
            refine pf_up2 (c := 1017) f_s163 (rfl) (Or.inr (⟨by omega, by omega⟩)) (fun s164 f_s164 => ?_)
            refine pf_ite ?_ ?_
            · rw [j_X4_readStatement_128_e]
              refine pf_up2 (c := 1016) f_s164 (rfl) (Or.inr (⟨by omega, by omega⟩)) (fun s165 f_s165 => ?_)
              refine pf_up2 (c := 1018) f_s165 (rfl) (Or.inr (⟨by omega, by omega⟩)) (fun s166 f_s166 => ?_)
              exact pf_ret f_s166
            · rw [j_X4_readStatement_128_e]
              refine pf_up2 (c := 1016) f_s164 (rfl) (Or.inr (⟨by omega, by omega⟩)) (fun s167 f_s167 => ?_)
              refine pf_up2 (c := 1018) f_s167 (rfl) (Or.inr (⟨by omega, by omega⟩)) (fun s168 f_s168 => ?_)
              exact pf_ret f_s168
          · rw [j_X4_readStatement_103_e]
            rw [j_X4_readStatement_108_e]
            refine pf_bz ?_
            refine pf_up2 (c := 1017) f_s163 (rfl) (Or.inr (⟨by omega, by omega⟩)) (fun s169 f_s169 => ?_)
            refine pf_ite ?_ ?_
            · rw [j_X4_readStatement_128_e]
              refine pf_up2 (c := 1016) f_s169 (rfl) (Or.inr (⟨by omega, by omega⟩)) (fun s170 f_s170 => ?_)
              refine pf_up2 (c := 1018) f_s170 (rfl) (Or.inr (⟨by omega, by omega⟩)) (fun s171 f_s171 => ?_)
              exact pf_ret f_s171
            · rw [j_X4_readStatement_128_e]
              refine pf_up2 (c := 1016) f_s169 (rfl) (Or.inr (⟨by omega, by omega⟩)) (fun s172 f_s172 => ?_)
              refine pf_up2 (c := 1018) f_s172 (rfl) (Or.inr (⟨by omega, by omega⟩)) (fun s173 f_s173 => ?_)
              exact pf_ret f_s173
        · rw [j_X4_readStatement_103_e]
          rw [j_X4_readStatement_108_e]
          refine pf_bz ?_
          refine pf_up2 (c := 1017) f_s161 (rfl) (Or.inr (⟨by omega, by omega⟩)) (fun s174 f_s174 => ?_)
          refine pf_ite ?_ ?_
          · rw [j_X4_readStatement_128_e]
            refine pf_up2 (c := 1016) f_s174 (rfl) (Or.inr (⟨by omega, by omega⟩)) (fun s175 f_s175 => ?_)
            refine pf_up2 (c := 1018) f_s175 (rfl) (Or.inr (⟨by omega, by omega⟩)) (fun s176 f_s176 => ?_)
            exact pf_ret f_s176
          · rw [j_X4_readStatement_128_e]
            refine pf_up2 (c := 1016) f_s174 (rfl) (Or.inr (⟨by omega, by omega⟩)) (fun s177 f_s177 => ?_)
            refine pf_up2 (c := 1018) f_s177 (rfl) (Or.inr (⟨by omega, by omega⟩)) (fun s178 f_s178 => ?_)
            exact pf_ret f_s178
      · rw [j_X4_readStatement_86_e]
        refine pf_ite ?_ ?_
        · refine pf_bnd (fr_X4_here hF) (fun _ h => h.elim) f_s159 (fun r179 s180 f_s180 => ?_)
          refine pf_ite ?_ ?_
          · rw [j_X4_readStatement_108_e]
            refine pf_bz ?_
            refine pf_up2 (c := 1017) f_s180 (rfl) (Or.inr (⟨by omega, by omega⟩)) (fun s181 f_s181 => ?_)
            refine pf_ite ?_ ?_
            · rw [j_X4_readStatement_128_e]
              refine pf_up2 (c := 1016) f_s181 (rfl) (Or.inr (⟨by omega, by omega⟩)) (fun s182 f_s182 => ?_)
              refine pf_up2 (c := 1018) f_s182 (rfl) (Or.inr (⟨by omega, by omega⟩)) (fun s183 f_s183 => ?_)
              exact pf_ret f_s183
            · rw [j_X4_readStatement_128_e]
              refine pf_up2 (c := 1016) f_s181 (rfl) (Or.inr (⟨by omega, by omega⟩)) (fun s184 f_s184 => ?_)
              refine pf_up2 (c := 1018) f_s184 (rfl) (Or.inr (⟨by omega, by omega⟩)) (fun s185 f_s185 => ?_)
              exact pf_ret f_s185
          · rw [j_X4_readStatement_103_e]
            rw [j_X4_readStatement_108_e]
            refine pf_bz ?_
            refine pf_up2 (c := 1017) f_s180 (rfl) (Or.inr (⟨by omega, by omega⟩)) (fun s186 f_s186 => ?_)
            refine pf_ite ?_ ?_
            · rw [j_X4_readStatement_128_e]
              refine pf_up2 (c := 1016) f_s186 (rfl) (Or.inr (⟨by omega, by omega⟩)) (fun s187 f_s187 => ?_)
              refine pf_up2 (c := 1018) f_s187 (rfl) (Or.inr (⟨by omega, by omega⟩)) (fun s188 f_s188 => ?_)
              exact pf_ret f_s188
            · rw [j_X4_readStatement_128_e]
              refine pf_up2 (c := 1016) f_s186 (rfl) (Or.inr (⟨by omega, by omega⟩)) (fun s189 f_s189 => ?_)
              refine pf_up2 (c := 1018) f_s189 (rfl) (Or.inr (⟨by omega, by omega⟩)) (fun s190 f_s190 => ?_)
              exact pf_ret f_s190
        · rw [j_X4_readStatement_103_e]
          rw [j_X4_readStatement_108_e]
          refine pf_bz ?_
          refine pf_up2 (c := 1017) f_s159 (rfl) (Or.inr (⟨by omega, by omega⟩)) (fun s191 f_s191 => ?_)
          refine pf_ite ?_ ?_
          · rw [j_X4_readStatement_128_e]
            refine pf_up2 (c := 1016) f_s191 (rfl) (Or.inr (⟨by omega, by omega⟩)) (fun s192 f_s192 => ?_)
            refine pf_up2 (c := 1018) f_s192 (rfl) (Or.inr (⟨by omega, by omega⟩)) (fun s193 f_s193 => ?_)
            exact pf_ret f_s193
          · rw [j_X4_readStatement_128_e]
            refine pf_up2 (c := 1016) f_s191 (rfl) (Or.inr (⟨by omega, by omega⟩)) (fun s194 f_s194 => ?_)
            refine pf_up2 (c := 1018) f_s194 (rfl) (Or.inr (⟨by omega, by omega⟩)) (fun s195 f_s195 => ?_)
            exact pf_ret f_s195
    · rw [j_X4_readStatement_67_e]
      refine pf_up2 (c := 1016) f_s158 (rfl) (Or.inr (⟨by omega, by omega⟩)) (fun s196 f_s196 => ?_)
      refine pf_ite ?_ ?_
      · refine pf_bnd (fr_X4_readNumbers hF) (ww_41) f_s196 (fun r197 s198 f_s198 => ?_)
        rw [j_X4_readStatement_86_e]
        refine pf_ite ?_ ?_
        · refine pf_bnd (fr_X4_here hF) (fun _ h => h.elim) f_s198 (fun r199 s200 f_s200 => ?_)
          refine pf_ite ?_ ?_
          · rw [j_X4_readStatement_108_e]
            refine pf_bz ?_
            refine pf_up2 (c := 1017) f_s200 (rfl) (Or.inr (⟨by omega, by omega⟩)) (fun s201 f_s201 => ?_)
            refine pf_ite ?_ ?_
            · rw [j_X4_readStatement_128_e]
              refine pf_up2 (c := 1016) f_s201 (rfl) (Or.inr (⟨by omega, by omega⟩)) (fun s202 f_s202 => ?_)
              refine pf_up2 (c := 1018) f_s202 (rfl) (Or.inr (⟨by omega, by omega⟩)) (fun s203 f_s203 => ?_)
              exact pf_ret f_s203
            · rw [j_X4_readStatement_128_e]
              refine pf_up2 (c := 1016) f_s201 (rfl) (Or.inr (⟨by omega, by omega⟩)) (fun s204 f_s204 => ?_)
              refine pf_up2 (c := 1018) f_s204 (rfl) (Or.inr (⟨by omega, by omega⟩)) (fun s205 f_s205 => ?_)
              exact pf_ret f_s205
          · rw [j_X4_readStatement_103_e]
            rw [j_X4_readStatement_108_e]
            refine pf_bz ?_
            refine pf_up2 (c := 1017) f_s200 (rfl) (Or.inr (⟨by omega, by omega⟩)) (fun s206 f_s206 => ?_)
            refine pf_ite ?_ ?_
            · rw [j_X4_readStatement_128_e]
              refine pf_up2 (c := 1016) f_s206 (rfl) (Or.inr (⟨by omega, by omega⟩)) (fun s207 f_s207 => ?_)
              refine pf_up2 (c := 1018) f_s207 (rfl) (Or.inr (⟨by omega, by omega⟩)) (fun s208 f_s208 => ?_)
              exact pf_ret f_s208
            · rw [j_X4_readStatement_128_e]
              refine pf_up2 (c := 1016) f_s206 (rfl) (Or.inr (⟨by omega, by omega⟩)) (fun s209 f_s209 => ?_)
              refine pf_up2 (c := 1018) f_s209 (rfl) (Or.inr (⟨by omega, by omega⟩)) (fun s210 f_s210 => ?_)
              exact pf_ret f_s210
        · rw [j_X4_readStatement_103_e]
          rw [j_X4_readStatement_108_e]
          refine pf_bz ?_
          refine pf_up2 (c := 1017) f_s198 (rfl) (Or.inr (⟨by omega, by omega⟩)) (fun s211 f_s211 => ?_)
          refine pf_ite ?_ ?_
          · rw [j_X4_readStatement_128_e]
            refine pf_up2 (c := 1016) f_s211 (rfl) (Or.inr (⟨by omega, by omega⟩)) (fun s212 f_s212 => ?_)
            refine pf_up2 (c := 1018) f_s212 (rfl) (Or.inr (⟨by omega, by omega⟩)) (fun s213 f_s213 => ?_)
            exact pf_ret f_s213
          · rw [j_X4_readStatement_128_e]
            refine pf_up2 (c := 1016) f_s211 (rfl) (Or.inr (⟨by omega, by omega⟩)) (fun s214 f_s214 => ?_)
            refine pf_up2 (c := 1018) f_s214 (rfl) (Or.inr (⟨by omega, by omega⟩)) (fun s215 f_s215 => ?_)
            exact pf_ret f_s215
      · rw [j_X4_readStatement_86_e]
        refine pf_ite ?_ ?_
        · refine pf_bnd (fr_X4_here hF) (fun _ h => h.elim) f_s196 (fun r216 s217 f_s217 => ?_)
          refine pf_ite ?_ ?_
          · rw [j_X4_readStatement_108_e]
            refine pf_bz ?_
            refine pf_up2 (c := 1017) f_s217 (rfl) (Or.inr (⟨by omega, by omega⟩)) (fun s218 f_s218 => ?_)
            refine pf_ite ?_ ?_
            · rw [j_X4_readStatement_128_e]
              refine pf_up2 (c := 1016) f_s218 (rfl) (Or.inr (⟨by omega, by omega⟩)) (fun s219 f_s219 => ?_)
              refine pf_up2 (c := 1018) f_s219 (rfl) (Or.inr (⟨by omega, by omega⟩)) (fun s220 f_s220 => ?_)
              exact pf_ret f_s220
            · rw [j_X4_readStatement_128_e]
              refine pf_up2 (c := 1016) f_s218 (rfl) (Or.inr (⟨by omega, by omega⟩)) (fun s221 f_s221 => ?_)
              refine pf_up2 (c := 1018) f_s221 (rfl) (Or.inr (⟨by omega, by omega⟩)) (fun s222 f_s222 => ?_)
              exact pf_ret f_s222
          · rw [j_X4_readStatement_103_e]
            rw [j_X4_readStatement_108_e]
            refine pf_bz ?_
            refine pf_up2 (c := 1017) f_s217 (rfl) (Or.inr (⟨by omega, by omega⟩)) (fun s223 f_s223 => ?_)
            refine pf_ite ?_ ?_
            · rw [j_X4_readStatement_128_e]
              refine pf_up2 (c := 1016) f_s223 (rfl) (Or.inr (⟨by omega, by omega⟩)) (fun s224 f_s224 => ?_)
              refine pf_up2 (c := 1018) f_s224 (rfl) (Or.inr (⟨by omega, by omega⟩)) (fun s225 f_s225 => ?_)
              exact pf_ret f_s225
            · rw [j_X4_readStatement_128_e]
              refine pf_up2 (c := 1016) f_s223 (rfl) (Or.inr (⟨by omega, by omega⟩)) (fun s226 f_s226 => ?_)
              refine pf_up2 (c := 1018) f_s226 (rfl) (Or.inr (⟨by omega, by omega⟩)) (fun s227 f_s227 => ?_)
              exact pf_ret f_s227
        · rw [j_X4_readStatement_103_e]
          rw [j_X4_readStatement_108_e]
          refine pf_bz ?_
          refine pf_up2 (c := 1017) f_s196 (rfl) (Or.inr (⟨by omega, by omega⟩)) (fun s228 f_s228 => ?_)
          refine pf_ite ?_ ?_
          · rw [j_X4_readStatement_128_e]
            refine pf_up2 (c := 1016) f_s228 (rfl) (Or.inr (⟨by omega, by omega⟩)) (fun s229 f_s229 => ?_)
            refine pf_up2 (c := 1018) f_s229 (rfl) (Or.inr (⟨by omega, by omega⟩)) (fun s230 f_s230 => ?_)
            exact pf_ret f_s230
          · rw [j_X4_readStatement_128_e]
            refine pf_up2 (c := 1016) f_s228 (rfl) (Or.inr (⟨by omega, by omega⟩)) (fun s231 f_s231 => ?_)
            refine pf_up2 (c := 1018) f_s231 (rfl) (Or.inr (⟨by omega, by omega⟩)) (fun s232 f_s232 => ?_)
            exact pf_ret f_s232
def wf_54 (c : Nat) : Prop := (104 ≤ c ∧ c ≤ 107) ∨ (1003 ≤ c ∧ c ≤ 1003)
set_option maxRecDepth 100000 in
theorem fl_X4_lookerComes_52 {F : Nat} (hF : 1000 ≤ F) {τ : Mem} : ∀ (N : Nat) (x3 : Int32) (σ : Mem), fr wf_54 τ σ → pf wf_54 (lp_X4_lookerComes_52 F N x3 σ) τ := by
  intro N
  induction N with
  | zero => intro _ _ _; exact pf_none rfl
  | succ N ih =>
    intro x3 σ f_σ
    rw [lp_X4_lookerComes_52_s]
    refine pf_ite ?_ ?_
    · refine pf_up2 (c := 1003) f_σ (rfl) (Or.inr (⟨by omega, by omega⟩)) (fun s1 f_s1 => ?_)
      exact pf_ret f_s1
    · refine pf_chk (fun v2 => ?_)
      refine pf_up2 (c := 107) f_σ (rfl) (Or.inl (⟨by omega, by omega⟩)) (fun s3 f_s3 => ?_)
      exact ih _ _ f_s3
set_option maxRecDepth 100000 in
theorem fl_X4_lookerComes_22 {F : Nat} (hF : 1000 ≤ F) {τ : Mem} : ∀ (N : Nat) (x3 : Int32) (σ : Mem), fr wf_54 τ σ → pf wf_54 (lp_X4_lookerComes_22 F N x3 σ) τ := by
  intro N
  induction N with
  | zero => intro _ _ _; exact pf_none rfl
  | succ N ih =>
    intro x3 σ f_σ
    rw [lp_X4_lookerComes_22_s]
    refine pf_ite ?_ ?_
    · exact fl_X4_lookerComes_52 hF _ _ _ f_σ
    · refine pf_chk (fun v1 => ?_)
      refine pf_up2 (c := 106) f_σ (rfl) (Or.inl (⟨by omega, by omega⟩)) (fun s2 f_s2 => ?_)
      exact ih _ _ f_s2
set_option maxRecDepth 100000 in
theorem fr_X4_lookerComes {F : Nat} (hF : 1000 ≤ F) {x1 : Int32} {x2 : Int32} {σ : Mem} : pf wf_54 (f_X4_lookerComes F x1 x2 σ) σ := by
  have f_σ : fr wf_54 σ σ := fr_rf
  rw [f_X4_lookerComes_e]
  refine pf_chk (fun v1 => ?_)
  refine pf_up2 (c := 104) f_σ (rfl) (Or.inl (⟨by omega, by omega⟩)) (fun s2 f_s2 => ?_)
  refine pf_chk (fun v3 => ?_)
  refine pf_up2 (c := 105) f_s2 (rfl) (Or.inl (⟨by omega, by omega⟩)) (fun s4 f_s4 => ?_)
  exact fl_X4_lookerComes_22 hF _ _ _ f_s4
def wf_55 (c : Nat) : Prop := (106 ≤ c ∧ c ≤ 106)
set_option maxRecDepth 100000 in
theorem fl_X4_stand_3 {F : Nat} (hF : 1000 ≤ F) {x1 : Int32} {x3 : Int32} {x4 : Int32} {τ : Mem} : ∀ (N : Nat) (x5 : Int32) (σ : Mem), fr wf_55 τ σ → pf wf_55 (lp_X4_stand_3 F x1 x3 x4 N x5 σ) τ := by
  intro N
  induction N with
  | zero => intro _ _ _; exact pf_none rfl
  | succ N ih =>
    intro x5 σ f_σ
    rw [lp_X4_stand_3_s]
    refine pf_ite ?_ ?_
    · exact pf_ret f_σ
    · refine pf_ite ?_ ?_
      · rw [j_X4_stand_34_e]
        refine pf_chk (fun v1 => ?_)
        refine pf_up2 (c := 106) f_σ (rfl) (⟨by omega, by omega⟩) (fun s2 f_s2 => ?_)
        exact ih _ _ f_s2
      · rw [j_X4_stand_34_e]
        refine pf_chk (fun v3 => ?_)
        refine pf_up2 (c := 106) f_σ (rfl) (⟨by omega, by omega⟩) (fun s4 f_s4 => ?_)
        exact ih _ _ f_s4
set_option maxRecDepth 100000 in
theorem fr_X4_stand {F : Nat} (hF : 1000 ≤ F) {x1 : Int32} {x2 : Int32} {x3 : Int32} {x4 : Int32} {σ : Mem} : pf wf_55 (f_X4_stand F x1 x2 x3 x4 σ) σ := by
  have f_σ : fr wf_55 σ σ := fr_rf
  rw [f_X4_stand_e]
  exact fl_X4_stand_3 hF _ _ _ f_σ
def wf_56 (c : Nat) : Prop := (102 ≤ c ∧ c ≤ 107) ∨ (109 ≤ c ∧ c ≤ 109) ∨ (1001 ≤ c ∧ c ≤ 1001) ∨ (1003 ≤ c ∧ c ≤ 1003) ∨ (1008 ≤ c ∧ c ≤ 1009)
theorem ww_42 : ∀ c, wf_54 c → wf_56 c := fun c h => h.elim (fun a => Or.inl (⟨Nat.le_trans (by omega) (a).1, Nat.le_trans (a).2 (by omega)⟩)) (fun b0 => Or.inr (Or.inr (Or.inr (Or.inl (b0)))))
theorem ww_43 : ∀ c, wf_55 c → wf_56 c := fun c h => Or.inl (⟨Nat.le_trans (by omega) (h).1, Nat.le_trans (h).2 (by omega)⟩)
theorem ww_44 : ∀ c, wf_49 c → wf_56 c := fun c h => h.elim (fun a => Or.inl (⟨Nat.le_trans (by omega) (a).1, Nat.le_trans (a).2 (by omega)⟩)) (fun b0 => b0.elim (fun a => Or.inr (Or.inl (a))) (fun b1 => Or.inr (Or.inr (Or.inr (Or.inr (⟨Nat.le_trans (by omega) (b1).1, Nat.le_trans (b1).2 (by omega)⟩))))))
set_option maxRecDepth 100000 in
theorem fr_X4_comesTold {F : Nat} (hF : 1000 ≤ F) {x1 : Int32} {σ : Mem} : pf wf_56 (f_X4_comesTold F x1 σ) σ := by
  have f_σ : fr wf_56 σ σ := fr_rf
  rw [f_X4_comesTold_e]
  refine pf_chk (fun v1 => ?_)
  refine pf_lt (fun z2 _ => ?_)
  refine pf_chk (fun v3 => ?_)
  refine pf_lt (fun z4 _ => ?_)
  refine pf_chk (fun v5 => ?_)
  refine pf_lt (fun z6 _ => ?_)
  refine pf_chk (fun v7 => ?_)
  refine pf_lt (fun z8 _ => ?_)
  refine pf_chk (fun v9 => ?_)
  refine pf_ite ?_ ?_
  · refine pf_ite ?_ ?_
    · rw [j_X4_comesTold_185_e]
      rw [j_X4_comesTold_186_e]
      refine pf_ite ?_ ?_
      · rw [j_X4_comesTold_199_e]
        refine pf_bz ?_
        exact pf_ret f_σ
      · refine pf_bnd (fr_X4_lookerComes hF) (ww_42) f_σ (fun r10 s11 f_s11 => ?_)
        rw [j_X4_comesTold_199_e]
        refine pf_bz ?_
        exact pf_ret f_s11
    · refine pf_ite ?_ ?_
      · rw [j_X4_comesTold_185_e]
        rw [j_X4_comesTold_186_e]
        refine pf_ite ?_ ?_
        · rw [j_X4_comesTold_199_e]
          refine pf_bz ?_
          exact pf_ret f_σ
        · refine pf_bnd (fr_X4_lookerComes hF) (ww_42) f_σ (fun r12 s13 f_s13 => ?_)
          rw [j_X4_comesTold_199_e]
          refine pf_bz ?_
          exact pf_ret f_s13
      · rw [j_X4_comesTold_186_e]
        refine pf_ite ?_ ?_
        · rw [j_X4_comesTold_199_e]
          refine pf_bz ?_
          exact pf_ret f_σ
        · refine pf_bnd (fr_X4_lookerComes hF) (ww_42) f_σ (fun r14 s15 f_s15 => ?_)
          rw [j_X4_comesTold_199_e]
          refine pf_bz ?_
          exact pf_ret f_s15
  · refine pf_ite ?_ ?_
    · refine pf_ite ?_ ?_
      · rw [j_X4_comesTold_136_e]
        rw [j_X4_comesTold_137_e]
        refine pf_ite ?_ ?_
        · rw [j_X4_comesTold_164_e]
          refine pf_bz ?_
          exact pf_ret f_σ
        · refine pf_chk (fun v16 => ?_)
          refine pf_up2 (c := 103) f_σ (rfl) (Or.inl (⟨by omega, by omega⟩)) (fun s17 f_s17 => ?_)
          refine pf_up2 (c := 1001) f_s17 (rfl) (Or.inr (Or.inr (Or.inl (⟨by omega, by omega⟩)))) (fun s18 f_s18 => ?_)
          rw [j_X4_comesTold_164_e]
          refine pf_bz ?_
          exact pf_ret f_s18
      · refine pf_ite ?_ ?_
        · rw [j_X4_comesTold_136_e]
          rw [j_X4_comesTold_137_e]
          refine pf_ite ?_ ?_
          · rw [j_X4_comesTold_164_e]
            refine pf_bz ?_
            exact pf_ret f_σ
          · refine pf_chk (fun v19 => ?_)
            refine pf_up2 (c := 103) f_σ (rfl) (Or.inl (⟨by omega, by omega⟩)) (fun s20 f_s20 => ?_)
            refine pf_up2 (c := 1001) f_s20 (rfl) (Or.inr (Or.inr (Or.inl (⟨by omega, by omega⟩)))) (fun s21 f_s21 => ?_)
            rw [j_X4_comesTold_164_e]
            refine pf_bz ?_
            exact pf_ret f_s21
        · rw [j_X4_comesTold_137_e]
          refine pf_ite ?_ ?_
          · rw [j_X4_comesTold_164_e]
            refine pf_bz ?_
            exact pf_ret f_σ
          · refine pf_chk (fun v22 => ?_)
            refine pf_up2 (c := 103) f_σ (rfl) (Or.inl (⟨by omega, by omega⟩)) (fun s23 f_s23 => ?_)
            refine pf_up2 (c := 1001) f_s23 (rfl) (Or.inr (Or.inr (Or.inl (⟨by omega, by omega⟩)))) (fun s24 f_s24 => ?_)
            rw [j_X4_comesTold_164_e]
            refine pf_bz ?_
            exact pf_ret f_s24
    · refine pf_ite ?_ ?_
      · refine pf_bnd (fr_X4_isLooker hF) (fun _ h => h.elim) f_σ (fun r25 s26 f_s26 => ?_)
        refine pf_ite ?_ ?_
        · rw [j_X4_comesTold_243_e]
          rw [j_X4_comesTold_244_e]
          refine pf_ite ?_ ?_
          · rw [j_X4_comesTold_261_e]
            refine pf_bz ?_
            exact pf_ret f_s26
          · refine pf_bnd (fr_X4_stand hF) (ww_43) f_s26 (fun r27 s28 f_s28 => ?_)
            rw [j_X4_comesTold_261_e]
            refine pf_bz ?_
            exact pf_ret f_s28
        · refine pf_ite ?_ ?_
          · rw [j_X4_comesTold_243_e]
            rw [j_X4_comesTold_244_e]
            refine pf_ite ?_ ?_
            · rw [j_X4_comesTold_261_e]
              refine pf_bz ?_
              exact pf_ret f_s26
            · refine pf_bnd (fr_X4_stand hF) (ww_43) f_s26 (fun r29 s30 f_s30 => ?_)
              rw [j_X4_comesTold_261_e]
              refine pf_bz ?_
              exact pf_ret f_s30
          · refine pf_ite ?_ ?_
            · rw [j_X4_comesTold_243_e]
              rw [j_X4_comesTold_244_e]
              refine pf_ite ?_ ?_
              · rw [j_X4_comesTold_261_e]
                refine pf_bz ?_
                exact pf_ret f_s26
              · refine pf_bnd (fr_X4_stand hF) (ww_43) f_s26 (fun r31 s32 f_s32 => ?_)
                rw [j_X4_comesTold_261_e]
                refine pf_bz ?_
                exact pf_ret f_s32
            · refine pf_ite ?_ ?_
              · rw [j_X4_comesTold_239_e]
                rw [j_X4_comesTold_244_e]
                refine pf_ite ?_ ?_
                · rw [j_X4_comesTold_261_e]
                  refine pf_bz ?_
                  exact pf_ret f_s26
                · refine pf_bnd (fr_X4_stand hF) (ww_43) f_s26 (fun r33 s34 f_s34 => ?_)
                  rw [j_X4_comesTold_261_e]
                  refine pf_bz ?_
                  exact pf_ret f_s34
              · refine pf_bnd (fr_X4_isPane hF) (fun _ h => h.elim) f_s26 (fun r35 s36 f_s36 => ?_)
                refine pf_ite ?_ ?_
                · rw [j_X4_comesTold_243_e]
                  rw [j_X4_comesTold_244_e]
                  refine pf_ite ?_ ?_
                  · rw [j_X4_comesTold_261_e]
                    refine pf_bz ?_
                    exact pf_ret f_s36
                  · refine pf_bnd (fr_X4_stand hF) (ww_43) f_s36 (fun r37 s38 f_s38 => ?_)
                    rw [j_X4_comesTold_261_e]
                    refine pf_bz ?_
                    exact pf_ret f_s38
                · rw [j_X4_comesTold_239_e]
                  rw [j_X4_comesTold_244_e]
                  refine pf_ite ?_ ?_
                  · rw [j_X4_comesTold_261_e]
                    refine pf_bz ?_
                    exact pf_ret f_s36
                  · refine pf_bnd (fr_X4_stand hF) (ww_43) f_s36 (fun r39 s40 f_s40 => ?_)
                    rw [j_X4_comesTold_261_e]
                    refine pf_bz ?_
                    exact pf_ret f_s40
      · refine pf_ite ?_ ?_
        · refine pf_up2 (c := 1008) f_σ (rfl) (Or.inr (Or.inr (Or.inr (Or.inr (⟨by omega, by omega⟩))))) (fun s41 f_s41 => ?_)
          refine pf_ite ?_ ?_
          · exact pf_ret f_s41
          · exact pf_ret f_s41
        · refine pf_ite ?_ ?_
          · refine pf_ite ?_ ?_
            · rw [j_X4_comesTold_275_e]
              refine pf_ite ?_ ?_
              · rw [j_X4_comesTold_289_e]
                refine pf_bz ?_
                exact pf_ret f_σ
              · refine pf_chk (fun v42 => ?_)
                refine pf_up2 (c := 102) f_σ (rfl) (Or.inl (⟨by omega, by omega⟩)) (fun s43 f_s43 => ?_)
                rw [j_X4_comesTold_289_e]
                refine pf_bz ?_
                exact pf_ret f_s43
            · rw [j_X4_comesTold_275_e]
              refine pf_ite ?_ ?_
              · rw [j_X4_comesTold_289_e]
                refine pf_bz ?_
                exact pf_ret f_σ
              · refine pf_chk (fun v44 => ?_)
                refine pf_up2 (c := 102) f_σ (rfl) (Or.inl (⟨by omega, by omega⟩)) (fun s45 f_s45 => ?_)
                rw [j_X4_comesTold_289_e]
                refine pf_bz ?_
                exact pf_ret f_s45
          · refine pf_ite ?_ ?_
            · refine pf_bnd (fr_X4_isPane hF) (fun _ h => h.elim) f_σ (fun r46 s47 f_s47 => ?_)
              refine pf_ite ?_ ?_
              · rw [j_X4_comesTold_310_e]
                rw [j_X4_comesTold_311_e]
                refine pf_ite ?_ ?_
                · rw [j_X4_comesTold_330_e]
                  refine pf_bz ?_
                  exact pf_ret f_s47
                · refine pf_chk (fun v48 => ?_)
                  refine pf_up2 (c := 103) f_s47 (rfl) (Or.inl (⟨by omega, by omega⟩)) (fun s49 f_s49 => ?_)
                  rw [j_X4_comesTold_330_e]
                  refine pf_bz ?_
                  exact pf_ret f_s49
              · refine pf_ite ?_ ?_
                · rw [j_X4_comesTold_310_e]
                  rw [j_X4_comesTold_311_e]
                  refine pf_ite ?_ ?_
                  · rw [j_X4_comesTold_330_e]
                    refine pf_bz ?_
                    exact pf_ret f_s47
                  · refine pf_chk (fun v50 => ?_)
                    refine pf_up2 (c := 103) f_s47 (rfl) (Or.inl (⟨by omega, by omega⟩)) (fun s51 f_s51 => ?_)
                    rw [j_X4_comesTold_330_e]
                    refine pf_bz ?_
                    exact pf_ret f_s51
                · rw [j_X4_comesTold_311_e]
                  refine pf_ite ?_ ?_
                  · rw [j_X4_comesTold_330_e]
                    refine pf_bz ?_
                    exact pf_ret f_s47
                  · refine pf_chk (fun v52 => ?_)
                    refine pf_up2 (c := 103) f_s47 (rfl) (Or.inl (⟨by omega, by omega⟩)) (fun s53 f_s53 => ?_)
                    rw [j_X4_comesTold_330_e]
                    refine pf_bz ?_
                    exact pf_ret f_s53
            · refine pf_bnd (fr_X4_in hF) (fun _ h => h.elim) f_σ (fun r54 s55 f_s55 => ?_)
              refine pf_ite ?_ ?_
              · rw [j_X4_comesTold_377_e]
                rw [j_X4_comesTold_378_e]
                refine pf_ite ?_ ?_
                · rw [j_X4_comesTold_390_e]
                  refine pf_bz ?_
                  exact pf_ret f_s55
                · refine pf_bnd (fr_X4_goDays hF) (ww_44) f_s55 (fun r56 s57 f_s57 => ?_)
                  rw [j_X4_comesTold_390_e]
                  refine pf_bz ?_
                  exact pf_ret f_s57
              · refine pf_ite ?_ ?_
                · rw [j_X4_comesTold_377_e]
                  rw [j_X4_comesTold_378_e]
                  refine pf_ite ?_ ?_
                  · rw [j_X4_comesTold_390_e]
                    refine pf_bz ?_
                    exact pf_ret f_s55
                  · refine pf_bnd (fr_X4_goDays hF) (ww_44) f_s55 (fun r58 s59 f_s59 => ?_)
                    rw [j_X4_comesTold_390_e]
                    refine pf_bz ?_
                    exact pf_ret f_s59
                · rw [j_X4_comesTold_378_e]
                  refine pf_ite ?_ ?_
                  · rw [j_X4_comesTold_390_e]
                    refine pf_bz ?_
                    exact pf_ret f_s55
                  · refine pf_bnd (fr_X4_goDays hF) (ww_44) f_s55 (fun r60 s61 f_s61 => ?_)
                    rw [j_X4_comesTold_390_e]
                    refine pf_bz ?_
                    exact pf_ret f_s61
def wf_57 (c : Nat) : Prop := (115 ≤ c ∧ c ≤ 115) ∨ (1025 ≤ c ∧ c ≤ 1027)
set_option maxRecDepth 100000 in
theorem fr_X4_think {F : Nat} (hF : 1000 ≤ F) {σ : Mem} : pf wf_57 (f_X4_think F σ) σ := by
  rw [f_X4_think_e]
  refine pf_bnd (pf_sf (wt_carryAll (by omega) (Or.inr rfl) (by unfold wiK; omega)) (fun _ s hC => wt_Car_fr1 (by unfold wiK; omega) (by decide) hC)) (fun c h => by unfold wf_57; omega) fr_rf (fun _ _ f => pf_ret f)
def wf_58 (c : Nat) : Prop := (102 ≤ c ∧ c ≤ 107) ∨ (1001 ≤ c ∧ c ≤ 1001) ∨ (1003 ≤ c ∧ c ≤ 1003) ∨ (1008 ≤ c ∧ c ≤ 1009) ∨ (1025 ≤ c ∧ c ≤ 1027)
set_option maxRecDepth 100000 in
theorem fr_X4_again {F : Nat} (hF : 1000 ≤ F) {σ : Mem} : pf wf_58 (f_X4_again F σ) σ := by
  rw [f_X4_again_e]
  refine pf_bnd (pf_sf (wt_carryAll (by omega) (Or.inl rfl) (by unfold wiK; omega)) (fun _ s hC => wt_Car_fr0 hC)) (fun c h => by unfold wf_58; omega) fr_rf (fun _ _ f => pf_ret f)
def wf_59 (c : Nat) : Prop := (102 ≤ c ∧ c ≤ 107) ∨ (109 ≤ c ∧ c ≤ 109) ∨ (112 ≤ c ∧ c ≤ 115) ∨ (1001 ≤ c ∧ c ≤ 1001) ∨ (1003 ≤ c ∧ c ≤ 1003) ∨ (1008 ≤ c ∧ c ≤ 1010) ∨ (1015 ≤ c ∧ c ≤ 1018) ∨ (1025 ≤ c ∧ c ≤ 1027) ∨ (1030 ≤ c ∧ c ≤ 1030)
theorem ww_45 : ∀ c, wf_56 c → wf_59 c := fun c h => h.elim (fun a => Or.inl (a)) (fun b0 => b0.elim (fun a => Or.inr (Or.inl (a))) (fun b1 => b1.elim (fun a => Or.inr (Or.inr (Or.inr (Or.inl (a))))) (fun b2 => b2.elim (fun a => Or.inr (Or.inr (Or.inr (Or.inr (Or.inl (a)))))) (fun b3 => Or.inr (Or.inr (Or.inr (Or.inr (Or.inr (Or.inl (⟨Nat.le_trans (by omega) (b3).1, Nat.le_trans (b3).2 (by omega)⟩))))))))))
theorem ww_46 : ∀ c, wf_58 c → wf_59 c := fun c h => h.elim (fun a => Or.inl (a)) (fun b0 => b0.elim (fun a => Or.inr (Or.inr (Or.inr (Or.inl (a))))) (fun b1 => b1.elim (fun a => Or.inr (Or.inr (Or.inr (Or.inr (Or.inl (a)))))) (fun b2 => b2.elim (fun a => Or.inr (Or.inr (Or.inr (Or.inr (Or.inr (Or.inl (⟨Nat.le_trans (by omega) (a).1, Nat.le_trans (a).2 (by omega)⟩))))))) (fun b3 => Or.inr (Or.inr (Or.inr (Or.inr (Or.inr (Or.inr (Or.inr (Or.inl (b3))))))))))))
theorem ww_47 : ∀ c, wf_53 c → wf_59 c := fun c h => h.elim (fun a => Or.inr (Or.inr (Or.inl (⟨Nat.le_trans (by omega) (a).1, Nat.le_trans (a).2 (by omega)⟩)))) (fun b0 => Or.inr (Or.inr (Or.inr (Or.inr (Or.inr (Or.inr (Or.inl (⟨Nat.le_trans (by omega) (b0).1, Nat.le_trans (b0).2 (by omega)⟩))))))))
theorem ww_48 : ∀ c, wf_57 c → wf_59 c := fun c h => h.elim (fun a => Or.inr (Or.inr (Or.inl (⟨Nat.le_trans (by omega) (a).1, Nat.le_trans (a).2 (by omega)⟩)))) (fun b0 => Or.inr (Or.inr (Or.inr (Or.inr (Or.inr (Or.inr (Or.inr (Or.inl (b0)))))))))
set_option maxRecDepth 100000 in
theorem fl_X4_terrace_79 {F : Nat} (hF : 1000 ≤ F) {τ : Mem} : ∀ (N : Nat) (x1 : Int32) (σ : Mem), fr wf_59 τ σ → pf wf_59 (lp_X4_terrace_79 F N x1 σ) τ := by
  intro N
  induction N with
  | zero => intro _ _ _; exact pf_none rfl
  | succ N ih =>
    intro x1 σ f_σ
    rw [lp_X4_terrace_79_s]
    refine pf_ite ?_ ?_
    · refine pf_up2 (c := 1030) f_σ (rfl) (Or.inr (Or.inr (Or.inr (Or.inr (Or.inr (Or.inr (Or.inr (Or.inr (⟨by omega, by omega⟩))))))))) (fun s1 f_s1 => ?_)
      exact pf_ret f_s1
    · refine pf_bnd (fr_X4_comesTold hF) (ww_45) f_σ (fun r2 s3 f_s3 => ?_)
      refine pf_ite ?_ ?_
      · refine pf_bnd (fr_X4_again hF) (ww_46) f_s3 (fun r4 s5 f_s5 => ?_)
        refine pf_chk (fun v6 => ?_)
        exact pf_ret f_s5
      · exact ih _ _ f_s3
set_option maxRecDepth 100000 in
theorem fl_X4_terrace_20 {F : Nat} (hF : 1000 ≤ F) {τ : Mem} : ∀ (N : Nat) (σ : Mem), fr wf_59 τ σ → pf wf_59 (lp_X4_terrace_20 F N σ) τ := by
  intro N
  induction N with
  | zero => intro _ _; exact pf_none rfl
  | succ N ih =>
    intro σ f_σ
    rw [lp_X4_terrace_20_s]
    refine pf_ite ?_ ?_
    · refine pf_ite ?_ ?_
      · rw [j_X4_terrace_45_e]
        refine pf_bnd (fr_X4_readStatement hF) (ww_47) f_σ (fun r1 s2 f_s2 => ?_)
        exact ih _ f_s2
      · refine pf_ite ?_ ?_
        · rw [j_X4_terrace_52_e]
          refine pf_up2 (c := 1015) f_σ (rfl) (Or.inr (Or.inr (Or.inr (Or.inr (Or.inr (Or.inr (Or.inl (⟨by omega, by omega⟩)))))))) (fun s3 f_s3 => ?_)
          refine pf_ite ?_ ?_
          · refine pf_bnd (fr_X4_think hF) (ww_48) f_s3 (fun r4 s5 f_s5 => ?_)
            exact fl_X4_terrace_79 hF _ _ _ f_s5
          · exact pf_ret f_s3
        · rw [j_X4_terrace_45_e]
          refine pf_bnd (fr_X4_readStatement hF) (ww_47) f_σ (fun r6 s7 f_s7 => ?_)
          exact ih _ f_s7
    · rw [j_X4_terrace_52_e]
      refine pf_up2 (c := 1015) f_σ (rfl) (Or.inr (Or.inr (Or.inr (Or.inr (Or.inr (Or.inr (Or.inl (⟨by omega, by omega⟩)))))))) (fun s8 f_s8 => ?_)
      refine pf_ite ?_ ?_
      · refine pf_bnd (fr_X4_think hF) (ww_48) f_s8 (fun r9 s10 f_s10 => ?_)
        exact fl_X4_terrace_79 hF _ _ _ f_s10
      · exact pf_ret f_s8
set_option maxRecDepth 100000 in
theorem fr_X4_terrace {F : Nat} (hF : 1000 ≤ F) {σ : Mem} : pf wf_59 (f_X4_terrace F σ) σ := by
  have f_σ : fr wf_59 σ σ := fr_rf
  rw [f_X4_terrace_e]
  refine pf_up2 (c := 1010) f_σ (rfl) (Or.inr (Or.inr (Or.inr (Or.inr (Or.inr (Or.inl (⟨by omega, by omega⟩))))))) (fun s1 f_s1 => ?_)
  refine pf_up2 (c := 1016) f_s1 (rfl) (Or.inr (Or.inr (Or.inr (Or.inr (Or.inr (Or.inr (Or.inl (⟨by omega, by omega⟩)))))))) (fun s2 f_s2 => ?_)
  refine pf_up2 (c := 1017) f_s2 (rfl) (Or.inr (Or.inr (Or.inr (Or.inr (Or.inr (Or.inr (Or.inl (⟨by omega, by omega⟩)))))))) (fun s3 f_s3 => ?_)
  refine pf_up2 (c := 1018) f_s3 (rfl) (Or.inr (Or.inr (Or.inr (Or.inr (Or.inr (Or.inr (Or.inl (⟨by omega, by omega⟩)))))))) (fun s4 f_s4 => ?_)
  exact fl_X4_terrace_20 hF _ _ f_s4
def wf_60 (c : Nat) : Prop := (108 ≤ c ∧ c ≤ 108) ∨ (1010 ≤ c ∧ c ≤ 1010)
theorem ww_49 : ∀ c, wf_45 c → wf_60 c := fun c h => Or.inl (h)
set_option maxRecDepth 100000 in
theorem fl_X4_paneOf_47 {F : Nat} (hF : 1000 ≤ F) {x1 : Int32} {x2 : Int32} {τ : Mem} : ∀ (N : Nat) (x3 : Int32) (x4 : Int32) (σ : Mem), fr wf_60 τ σ → pf wf_60 (lp_X4_paneOf_47 F x1 x2 N x3 x4 σ) τ := by
  intro N
  induction N with
  | zero => intro _ _ _ _; exact pf_none rfl
  | succ N ih =>
    intro x3 x4 σ f_σ
    rw [lp_X4_paneOf_47_s]
    refine pf_ite ?_ ?_
    · refine pf_ite ?_ ?_
      · refine pf_chk (fun v1 => ?_)
        exact pf_ret f_σ
      · exact pf_ret f_σ
    · refine pf_chk (fun v2 => ?_)
      refine pf_ite ?_ ?_
      · rw [j_X4_paneOf_76_e]
        exact ih _ _ _ f_σ
      · rw [j_X4_paneOf_76_e]
        exact ih _ _ _ f_σ
set_option maxRecDepth 100000 in
theorem fr_X4_paneOf {F : Nat} (hF : 1000 ≤ F) {x1 : Int32} {x2 : Int32} {σ : Mem} : pf wf_60 (f_X4_paneOf F x1 x2 σ) σ := by
  have f_σ : fr wf_60 σ σ := fr_rf
  rw [f_X4_paneOf_e]
  refine pf_up2 (c := 1010) f_σ (rfl) (Or.inr (⟨by omega, by omega⟩)) (fun s1 f_s1 => ?_)
  refine pf_bnd (fr_X4_isPane hF) (fun _ h => h.elim) f_s1 (fun r2 s3 f_s3 => ?_)
  refine pf_ite ?_ ?_
  · rw [j_X4_paneOf_23_e]
    refine pf_bnd (fr_X4_isPane hF) (fun _ h => h.elim) f_s3 (fun r4 s5 f_s5 => ?_)
    refine pf_ite ?_ ?_
    · rw [j_X4_paneOf_38_e]
      refine pf_bnd (fr_X4_refuse hF) (ww_49) f_s5 (fun r6 s7 f_s7 => ?_)
      exact pf_ret f_s7
    · rw [j_X4_paneOf_38_e]
      refine pf_bnd (fr_X4_refuse hF) (ww_49) f_s5 (fun r8 s9 f_s9 => ?_)
      exact pf_ret f_s9
  · refine pf_bnd (fr_X4_in hF) (fun _ h => h.elim) f_s3 (fun r10 s11 f_s11 => ?_)
    refine pf_ite ?_ ?_
    · rw [j_X4_paneOf_23_e]
      refine pf_bnd (fr_X4_isPane hF) (fun _ h => h.elim) f_s11 (fun r12 s13 f_s13 => ?_)
      refine pf_ite ?_ ?_
      · rw [j_X4_paneOf_38_e]
        refine pf_bnd (fr_X4_refuse hF) (ww_49) f_s13 (fun r14 s15 f_s15 => ?_)
        exact pf_ret f_s15
      · rw [j_X4_paneOf_38_e]
        refine pf_bnd (fr_X4_refuse hF) (ww_49) f_s13 (fun r16 s17 f_s17 => ?_)
        exact pf_ret f_s17
    · exact fl_X4_paneOf_47 hF _ _ _ _ f_s11
def wf_61 (c : Nat) : Prop := (108 ≤ c ∧ c ≤ 110) ∨ (1010 ≤ c ∧ c ≤ 1010)
theorem ww_50 : ∀ c, wf_45 c → wf_61 c := fun c h => Or.inl (⟨Nat.le_trans (by omega) (h).1, Nat.le_trans (h).2 (by omega)⟩)
theorem ww_51 : ∀ c, wf_46 c → wf_61 c := fun c h => Or.inl (⟨Nat.le_trans (by omega) (h).1, Nat.le_trans (h).2 (by omega)⟩)
theorem ww_52 : ∀ c, wf_47 c → wf_61 c := fun c h => Or.inl (⟨Nat.le_trans (by omega) (h).1, Nat.le_trans (h).2 (by omega)⟩)
set_option maxRecDepth 100000 in
theorem fr_X4_lookerOf {F : Nat} (hF : 1000 ≤ F) {x1 : Int32} {x2 : Int32} {σ : Mem} : pf wf_61 (f_X4_lookerOf F x1 x2 σ) σ := by
  have f_σ : fr wf_61 σ σ := fr_rf
  rw [f_X4_lookerOf_e]
  refine pf_up2 (c := 1010) f_σ (rfl) (Or.inr (⟨by omega, by omega⟩)) (fun s1 f_s1 => ?_)
  refine pf_bnd (fr_X4_isLooker hF) (fun _ h => h.elim) f_s1 (fun r2 s3 f_s3 => ?_)
  refine pf_ite ?_ ?_
  · rw [j_X4_lookerOf_25_e]
    refine pf_bnd (fr_X4_isLooker hF) (fun _ h => h.elim) f_s3 (fun r4 s5 f_s5 => ?_)
    refine pf_ite ?_ ?_
    · rw [j_X4_lookerOf_40_e]
      refine pf_bnd (fr_X4_refuse hF) (ww_50) f_s5 (fun r6 s7 f_s7 => ?_)
      exact pf_ret f_s7
    · rw [j_X4_lookerOf_40_e]
      refine pf_bnd (fr_X4_refuse hF) (ww_50) f_s5 (fun r8 s9 f_s9 => ?_)
      exact pf_ret f_s9
  · refine pf_bnd (fr_X4_in hF) (fun _ h => h.elim) f_s3 (fun r10 s11 f_s11 => ?_)
    refine pf_ite ?_ ?_
    · rw [j_X4_lookerOf_25_e]
      refine pf_bnd (fr_X4_isLooker hF) (fun _ h => h.elim) f_s11 (fun r12 s13 f_s13 => ?_)
      refine pf_ite ?_ ?_
      · rw [j_X4_lookerOf_40_e]
        refine pf_bnd (fr_X4_refuse hF) (ww_50) f_s13 (fun r14 s15 f_s15 => ?_)
        exact pf_ret f_s15
      · rw [j_X4_lookerOf_40_e]
        refine pf_bnd (fr_X4_refuse hF) (ww_50) f_s13 (fun r16 s17 f_s17 => ?_)
        exact pf_ret f_s17
    · refine pf_bnd (fr_X4_layBrings hF) (ww_51) f_s11 (fun r18 s19 f_s19 => ?_)
      refine pf_ite ?_ ?_
      · refine pf_chk (fun v20 => ?_)
        exact pf_ret f_s19
      · refine pf_ite ?_ ?_
        · refine pf_chk (fun v21 => ?_)
          exact pf_ret f_s19
        · refine pf_ite ?_ ?_
          · refine pf_bnd (fr_X4_hoursOf hF) (fun _ h => h.elim) f_s19 (fun r22 s23 f_s23 => ?_)
            exact pf_ret f_s23
          · refine pf_bnd (fr_X4_viewsIn hF) (ww_52) f_s19 (fun r24 s25 f_s25 => ?_)
            exact pf_ret f_s25
def wf_62 (c : Nat) : Prop := (103 ≤ c ∧ c ≤ 103) ∨ (108 ≤ c ∧ c ≤ 108) ∨ (1001 ≤ c ∧ c ≤ 1001) ∨ (1010 ≤ c ∧ c ≤ 1010) ∨ (1030 ≤ c ∧ c ≤ 1030)
theorem ww_53 : ∀ c, wf_45 c → wf_62 c := fun c h => Or.inr (Or.inl (h))
set_option maxRecDepth 100000 in
theorem fr_X4_pane {F : Nat} (hF : 1000 ≤ F) {x1 : Int32} {σ : Mem} : pf wf_62 (f_X4_pane F x1 σ) σ := by
  have f_σ : fr wf_62 σ σ := fr_rf
  rw [f_X4_pane_e]
  refine pf_up2 (c := 1010) f_σ (rfl) (Or.inr (Or.inr (Or.inr (Or.inl (⟨by omega, by omega⟩))))) (fun s1 f_s1 => ?_)
  refine pf_bnd (fr_X4_wrongNumber hF) (fun _ h => h.elim) f_s1 (fun r2 s3 f_s3 => ?_)
  refine pf_ite ?_ ?_
  · refine pf_ite ?_ ?_
    · rw [j_X4_pane_33_e]
      refine pf_ite ?_ ?_
      · refine pf_chk (fun v4 => ?_)
        refine pf_up2 (c := 103) f_s3 (rfl) (Or.inl (⟨by omega, by omega⟩)) (fun s5 f_s5 => ?_)
        refine pf_up2 (c := 1001) f_s5 (rfl) (Or.inr (Or.inr (Or.inl (⟨by omega, by omega⟩)))) (fun s6 f_s6 => ?_)
        refine pf_up2 (c := 1030) f_s6 (rfl) (Or.inr (Or.inr (Or.inr (Or.inr (⟨by omega, by omega⟩))))) (fun s7 f_s7 => ?_)
        exact pf_ret f_s7
      · refine pf_bnd (fr_X4_refuse hF) (ww_53) f_s3 (fun r8 s9 f_s9 => ?_)
        exact pf_ret f_s9
    · rw [j_X4_pane_32_e]
      rw [j_X4_pane_33_e]
      refine pf_ite ?_ ?_
      · refine pf_chk (fun v10 => ?_)
        refine pf_up2 (c := 103) f_s3 (rfl) (Or.inl (⟨by omega, by omega⟩)) (fun s11 f_s11 => ?_)
        refine pf_up2 (c := 1001) f_s11 (rfl) (Or.inr (Or.inr (Or.inl (⟨by omega, by omega⟩)))) (fun s12 f_s12 => ?_)
        refine pf_up2 (c := 1030) f_s12 (rfl) (Or.inr (Or.inr (Or.inr (Or.inr (⟨by omega, by omega⟩))))) (fun s13 f_s13 => ?_)
        exact pf_ret f_s13
      · refine pf_bnd (fr_X4_refuse hF) (ww_53) f_s3 (fun r14 s15 f_s15 => ?_)
        exact pf_ret f_s15
  · rw [j_X4_pane_32_e]
    rw [j_X4_pane_33_e]
    refine pf_ite ?_ ?_
    · refine pf_chk (fun v16 => ?_)
      refine pf_up2 (c := 103) f_s3 (rfl) (Or.inl (⟨by omega, by omega⟩)) (fun s17 f_s17 => ?_)
      refine pf_up2 (c := 1001) f_s17 (rfl) (Or.inr (Or.inr (Or.inl (⟨by omega, by omega⟩)))) (fun s18 f_s18 => ?_)
      refine pf_up2 (c := 1030) f_s18 (rfl) (Or.inr (Or.inr (Or.inr (Or.inr (⟨by omega, by omega⟩))))) (fun s19 f_s19 => ?_)
      exact pf_ret f_s19
    · refine pf_bnd (fr_X4_refuse hF) (ww_53) f_s3 (fun r20 s21 f_s21 => ?_)
      exact pf_ret f_s21
def wf_63 (c : Nat) : Prop := (104 ≤ c ∧ c ≤ 108) ∨ (1003 ≤ c ∧ c ≤ 1003) ∨ (1010 ≤ c ∧ c ≤ 1010) ∨ (1030 ≤ c ∧ c ≤ 1030)
theorem ww_54 : ∀ c, wf_54 c → wf_63 c := fun c h => h.elim (fun a => Or.inl (⟨Nat.le_trans (by omega) (a).1, Nat.le_trans (a).2 (by omega)⟩)) (fun b0 => Or.inr (Or.inl (b0)))
theorem ww_55 : ∀ c, wf_45 c → wf_63 c := fun c h => Or.inl (⟨Nat.le_trans (by omega) (h).1, Nat.le_trans (h).2 (by omega)⟩)
set_option maxRecDepth 100000 in
theorem fr_X4_looker {F : Nat} (hF : 1000 ≤ F) {x1 : Int32} {x2 : Int32} {σ : Mem} : pf wf_63 (f_X4_looker F x1 x2 σ) σ := by
  have f_σ : fr wf_63 σ σ := fr_rf
  rw [f_X4_looker_e]
  refine pf_up2 (c := 1010) f_σ (rfl) (Or.inr (Or.inr (Or.inl (⟨by omega, by omega⟩)))) (fun s1 f_s1 => ?_)
  refine pf_bnd (fr_X4_in hF) (fun _ h => h.elim) f_s1 (fun r2 s3 f_s3 => ?_)
  refine pf_ite ?_ ?_
  · rw [j_X4_looker_29_e]
    refine pf_ite ?_ ?_
    · refine pf_ite ?_ ?_
      · rw [j_X4_looker_48_e]
        refine pf_ite ?_ ?_
        · refine pf_bnd (fr_X4_lookerComes hF) (ww_54) f_s3 (fun r4 s5 f_s5 => ?_)
          refine pf_up2 (c := 1030) f_s5 (rfl) (Or.inr (Or.inr (Or.inr (⟨by omega, by omega⟩)))) (fun s6 f_s6 => ?_)
          exact pf_ret f_s6
        · refine pf_bnd (fr_X4_refuse hF) (ww_55) f_s3 (fun r7 s8 f_s8 => ?_)
          exact pf_ret f_s8
      · rw [j_X4_looker_47_e]
        rw [j_X4_looker_48_e]
        refine pf_ite ?_ ?_
        · refine pf_bnd (fr_X4_lookerComes hF) (ww_54) f_s3 (fun r9 s10 f_s10 => ?_)
          refine pf_up2 (c := 1030) f_s10 (rfl) (Or.inr (Or.inr (Or.inr (⟨by omega, by omega⟩)))) (fun s11 f_s11 => ?_)
          exact pf_ret f_s11
        · refine pf_bnd (fr_X4_refuse hF) (ww_55) f_s3 (fun r12 s13 f_s13 => ?_)
          exact pf_ret f_s13
    · rw [j_X4_looker_47_e]
      rw [j_X4_looker_48_e]
      refine pf_ite ?_ ?_
      · refine pf_bnd (fr_X4_lookerComes hF) (ww_54) f_s3 (fun r14 s15 f_s15 => ?_)
        refine pf_up2 (c := 1030) f_s15 (rfl) (Or.inr (Or.inr (Or.inr (⟨by omega, by omega⟩)))) (fun s16 f_s16 => ?_)
        exact pf_ret f_s16
      · refine pf_bnd (fr_X4_refuse hF) (ww_55) f_s3 (fun r17 s18 f_s18 => ?_)
        exact pf_ret f_s18
  · refine pf_bnd (fr_X4_wrongNumber hF) (fun _ h => h.elim) f_s3 (fun r19 s20 f_s20 => ?_)
    rw [j_X4_looker_29_e]
    refine pf_ite ?_ ?_
    · refine pf_ite ?_ ?_
      · rw [j_X4_looker_48_e]
        refine pf_ite ?_ ?_
        · refine pf_bnd (fr_X4_lookerComes hF) (ww_54) f_s20 (fun r21 s22 f_s22 => ?_)
          refine pf_up2 (c := 1030) f_s22 (rfl) (Or.inr (Or.inr (Or.inr (⟨by omega, by omega⟩)))) (fun s23 f_s23 => ?_)
          exact pf_ret f_s23
        · refine pf_bnd (fr_X4_refuse hF) (ww_55) f_s20 (fun r24 s25 f_s25 => ?_)
          exact pf_ret f_s25
      · rw [j_X4_looker_47_e]
        rw [j_X4_looker_48_e]
        refine pf_ite ?_ ?_
        · refine pf_bnd (fr_X4_lookerComes hF) (ww_54) f_s20 (fun r26 s27 f_s27 => ?_)
          refine pf_up2 (c := 1030) f_s27 (rfl) (Or.inr (Or.inr (Or.inr (⟨by omega, by omega⟩)))) (fun s28 f_s28 => ?_)
          exact pf_ret f_s28
        · refine pf_bnd (fr_X4_refuse hF) (ww_55) f_s20 (fun r29 s30 f_s30 => ?_)
          exact pf_ret f_s30
    · rw [j_X4_looker_47_e]
      rw [j_X4_looker_48_e]
      refine pf_ite ?_ ?_
      · refine pf_bnd (fr_X4_lookerComes hF) (ww_54) f_s20 (fun r31 s32 f_s32 => ?_)
        refine pf_up2 (c := 1030) f_s32 (rfl) (Or.inr (Or.inr (Or.inr (⟨by omega, by omega⟩)))) (fun s33 f_s33 => ?_)
        exact pf_ret f_s33
      · refine pf_bnd (fr_X4_refuse hF) (ww_55) f_s20 (fun r34 s35 f_s35 => ?_)
        exact pf_ret f_s35
set_option maxRecDepth 100000 in
theorem fr_X4_roster {F : Nat} (hF : 1000 ≤ F) {x1 : Int32} {x2 : Int32} {σ : Mem} : pf wf_60 (f_X4_roster F x1 x2 σ) σ := by
  have f_σ : fr wf_60 σ σ := fr_rf
  rw [f_X4_roster_e]
  refine pf_up2 (c := 1010) f_σ (rfl) (Or.inr (⟨by omega, by omega⟩)) (fun s1 f_s1 => ?_)
  refine pf_bnd (fr_X4_isLooker hF) (fun _ h => h.elim) f_s1 (fun r2 s3 f_s3 => ?_)
  refine pf_ite ?_ ?_
  · rw [j_X4_roster_34_e]
    refine pf_bnd (fr_X4_refuse hF) (ww_49) f_s3 (fun r4 s5 f_s5 => ?_)
    exact pf_ret f_s5
  · refine pf_bnd (fr_X4_isHour hF) (fun _ h => h.elim) f_s3 (fun r6 s7 f_s7 => ?_)
    refine pf_ite ?_ ?_
    · rw [j_X4_roster_34_e]
      refine pf_bnd (fr_X4_refuse hF) (ww_49) f_s7 (fun r8 s9 f_s9 => ?_)
      exact pf_ret f_s9
    · refine pf_chk (fun v10 => ?_)
      exact pf_ret f_s7
def wf_64 (c : Nat) : Prop := (107 ≤ c ∧ c ≤ 110) ∨ (1009 ≤ c ∧ c ≤ 1010) ∨ (1030 ≤ c ∧ c ≤ 1030)
theorem ww_56 : ∀ c, wf_49 c → wf_64 c := fun c h => h.elim (fun a => Or.inl (⟨Nat.le_trans (by omega) (a).1, Nat.le_trans (a).2 (by omega)⟩)) (fun b0 => b0.elim (fun a => Or.inl (⟨Nat.le_trans (by omega) (a).1, Nat.le_trans (a).2 (by omega)⟩)) (fun b1 => Or.inr (Or.inl (⟨Nat.le_trans (by omega) (b1).1, Nat.le_trans (b1).2 (by omega)⟩))))
theorem ww_57 : ∀ c, wf_48 c → wf_64 c := fun c h => Or.inl (⟨Nat.le_trans (by omega) (h).1, Nat.le_trans (h).2 (by omega)⟩)
theorem ww_58 : ∀ c, wf_45 c → wf_64 c := fun c h => Or.inl (⟨Nat.le_trans (by omega) (h).1, Nat.le_trans (h).2 (by omega)⟩)
set_option maxRecDepth 100000 in
theorem fr_X4_days {F : Nat} (hF : 1000 ≤ F) {x1 : Int32} {σ : Mem} : pf wf_64 (f_X4_days F x1 σ) σ := by
  have f_σ : fr wf_64 σ σ := fr_rf
  rw [f_X4_days_e]
  refine pf_up2 (c := 1010) f_σ (rfl) (Or.inr (Or.inl (⟨by omega, by omega⟩))) (fun s1 f_s1 => ?_)
  refine pf_bnd (fr_X4_wrongNumber hF) (fun _ h => h.elim) f_s1 (fun r2 s3 f_s3 => ?_)
  refine pf_ite ?_ ?_
  · refine pf_ite ?_ ?_
    · rw [j_X4_days_34_e]
      rw [j_X4_days_35_e]
      refine pf_ite ?_ ?_
      · refine pf_bnd (fr_X4_goDays hF) (ww_56) f_s3 (fun r4 s5 f_s5 => ?_)
        refine pf_up2 (c := 1030) f_s5 (rfl) (Or.inr (Or.inr (⟨by omega, by omega⟩))) (fun s6 f_s6 => ?_)
        refine pf_bnd (fr_X4_owned hF) (ww_57) f_s6 (fun r7 s8 f_s8 => ?_)
        exact pf_ret f_s8
      · refine pf_bnd (fr_X4_refuse hF) (ww_58) f_s3 (fun r9 s10 f_s10 => ?_)
        exact pf_ret f_s10
    · rw [j_X4_days_35_e]
      refine pf_ite ?_ ?_
      · refine pf_bnd (fr_X4_goDays hF) (ww_56) f_s3 (fun r11 s12 f_s12 => ?_)
        refine pf_up2 (c := 1030) f_s12 (rfl) (Or.inr (Or.inr (⟨by omega, by omega⟩))) (fun s13 f_s13 => ?_)
        refine pf_bnd (fr_X4_owned hF) (ww_57) f_s13 (fun r14 s15 f_s15 => ?_)
        exact pf_ret f_s15
      · refine pf_bnd (fr_X4_refuse hF) (ww_58) f_s3 (fun r16 s17 f_s17 => ?_)
        exact pf_ret f_s17
  · rw [j_X4_days_34_e]
    rw [j_X4_days_35_e]
    refine pf_ite ?_ ?_
    · refine pf_bnd (fr_X4_goDays hF) (ww_56) f_s3 (fun r18 s19 f_s19 => ?_)
      refine pf_up2 (c := 1030) f_s19 (rfl) (Or.inr (Or.inr (⟨by omega, by omega⟩))) (fun s20 f_s20 => ?_)
      refine pf_bnd (fr_X4_owned hF) (ww_57) f_s20 (fun r21 s22 f_s22 => ?_)
      exact pf_ret f_s22
    · refine pf_bnd (fr_X4_refuse hF) (ww_58) f_s3 (fun r23 s24 f_s24 => ?_)
      exact pf_ret f_s24
set_option maxRecDepth 100000 in
theorem fr_X4_counts {F : Nat} (hF : 1000 ≤ F) {x1 : Int32} {x2 : Int32} {x3 : Int32} {σ : Mem} : pf wf_60 (f_X4_counts F x1 x2 x3 σ) σ := by
  have f_σ : fr wf_60 σ σ := fr_rf
  rw [f_X4_counts_e]
  refine pf_up2 (c := 1010) f_σ (rfl) (Or.inr (⟨by omega, by omega⟩)) (fun s1 f_s1 => ?_)
  refine pf_bnd (fr_X4_isLooker hF) (fun _ h => h.elim) f_s1 (fun r2 s3 f_s3 => ?_)
  refine pf_ite ?_ ?_
  · rw [j_X4_counts_29_e]
    rw [j_X4_counts_30_e]
    refine pf_ite ?_ ?_
    · refine pf_ite ?_ ?_
      · refine pf_chk (fun v4 => ?_)
        exact pf_ret f_s3
      · refine pf_bnd (fr_X4_bringsOf hF) (fun _ h => h.elim) f_s3 (fun r5 s6 f_s6 => ?_)
        exact pf_ret f_s6
    · refine pf_bnd (fr_X4_refuse hF) (ww_49) f_s3 (fun r7 s8 f_s8 => ?_)
      exact pf_ret f_s8
  · refine pf_bnd (fr_X4_isView hF) (fun _ h => h.elim) f_s3 (fun r9 s10 f_s10 => ?_)
    refine pf_ite ?_ ?_
    · rw [j_X4_counts_29_e]
      rw [j_X4_counts_30_e]
      refine pf_ite ?_ ?_
      · refine pf_ite ?_ ?_
        · refine pf_chk (fun v11 => ?_)
          exact pf_ret f_s10
        · refine pf_bnd (fr_X4_bringsOf hF) (fun _ h => h.elim) f_s10 (fun r12 s13 f_s13 => ?_)
          exact pf_ret f_s13
      · refine pf_bnd (fr_X4_refuse hF) (ww_49) f_s10 (fun r14 s15 f_s15 => ?_)
        exact pf_ret f_s15
    · refine pf_bnd (fr_X4_wrongBit hF) (fun _ h => h.elim) f_s10 (fun r16 s17 f_s17 => ?_)
      rw [j_X4_counts_30_e]
      refine pf_ite ?_ ?_
      · refine pf_ite ?_ ?_
        · refine pf_chk (fun v18 => ?_)
          exact pf_ret f_s17
        · refine pf_bnd (fr_X4_bringsOf hF) (fun _ h => h.elim) f_s17 (fun r19 s20 f_s20 => ?_)
          exact pf_ret f_s20
      · refine pf_bnd (fr_X4_refuse hF) (ww_49) f_s17 (fun r21 s22 f_s22 => ?_)
        exact pf_ret f_s22
set_option maxRecDepth 100000 in
theorem fr_X4_owner {F : Nat} (hF : 1000 ≤ F) {x1 : Int32} {x2 : Int32} {σ : Mem} : pf wf_61 (f_X4_owner F x1 x2 σ) σ := by
  have f_σ : fr wf_61 σ σ := fr_rf
  rw [f_X4_owner_e]
  refine pf_up2 (c := 1010) f_σ (rfl) (Or.inr (⟨by omega, by omega⟩)) (fun s1 f_s1 => ?_)
  refine pf_bnd (fr_X4_isView hF) (fun _ h => h.elim) f_s1 (fun r2 s3 f_s3 => ?_)
  refine pf_ite ?_ ?_
  · rw [j_X4_owner_24_e]
    refine pf_ite ?_ ?_
    · refine pf_bnd (fr_X4_layBrings hF) (ww_51) f_s3 (fun r4 s5 f_s5 => ?_)
      refine pf_bnd (fr_X4_ownerIn hF) (ww_52) f_s5 (fun r6 s7 f_s7 => ?_)
      exact pf_ret f_s7
    · refine pf_bnd (fr_X4_refuse hF) (ww_50) f_s3 (fun r8 s9 f_s9 => ?_)
      exact pf_ret f_s9
  · refine pf_bnd (fr_X4_wrongNumber hF) (fun _ h => h.elim) f_s3 (fun r10 s11 f_s11 => ?_)
    rw [j_X4_owner_24_e]
    refine pf_ite ?_ ?_
    · refine pf_bnd (fr_X4_layBrings hF) (ww_51) f_s11 (fun r12 s13 f_s13 => ?_)
      refine pf_bnd (fr_X4_ownerIn hF) (ww_52) f_s13 (fun r14 s15 f_s15 => ?_)
      exact pf_ret f_s15
    · refine pf_bnd (fr_X4_refuse hF) (ww_50) f_s11 (fun r16 s17 f_s17 => ?_)
      exact pf_ret f_s17
set_option maxRecDepth 100000 in
theorem fr_X4_owns {F : Nat} (hF : 1000 ≤ F) {x1 : Int32} {x2 : Int32} {x3 : Int32} {σ : Mem} : pf wf_61 (f_X4_owns F x1 x2 x3 σ) σ := by
  have f_σ : fr wf_61 σ σ := fr_rf
  rw [f_X4_owns_e]
  refine pf_up2 (c := 1010) f_σ (rfl) (Or.inr (⟨by omega, by omega⟩)) (fun s1 f_s1 => ?_)
  refine pf_bnd (fr_X4_isLooker hF) (fun _ h => h.elim) f_s1 (fun r2 s3 f_s3 => ?_)
  refine pf_ite ?_ ?_
  · rw [j_X4_owns_25_e]
    refine pf_bnd (fr_X4_wrongBit hF) (fun _ h => h.elim) f_s3 (fun r4 s5 f_s5 => ?_)
    refine pf_ite ?_ ?_
    · refine pf_bnd (fr_X4_layBrings hF) (ww_51) f_s5 (fun r6 s7 f_s7 => ?_)
      refine pf_ite ?_ ?_
      · refine pf_bnd (fr_X4_viewsIn hF) (ww_52) f_s7 (fun r8 s9 f_s9 => ?_)
        exact pf_ret f_s9
      · refine pf_bnd (fr_X4_worthIn hF) (ww_52) f_s7 (fun r10 s11 f_s11 => ?_)
        exact pf_ret f_s11
    · refine pf_bnd (fr_X4_refuse hF) (ww_50) f_s5 (fun r12 s13 f_s13 => ?_)
      exact pf_ret f_s13
  · refine pf_bnd (fr_X4_wrongNumber hF) (fun _ h => h.elim) f_s3 (fun r14 s15 f_s15 => ?_)
    rw [j_X4_owns_25_e]
    refine pf_bnd (fr_X4_wrongBit hF) (fun _ h => h.elim) f_s15 (fun r16 s17 f_s17 => ?_)
    refine pf_ite ?_ ?_
    · refine pf_bnd (fr_X4_layBrings hF) (ww_51) f_s17 (fun r18 s19 f_s19 => ?_)
      refine pf_ite ?_ ?_
      · refine pf_bnd (fr_X4_viewsIn hF) (ww_52) f_s19 (fun r20 s21 f_s21 => ?_)
        exact pf_ret f_s21
      · refine pf_bnd (fr_X4_worthIn hF) (ww_52) f_s19 (fun r22 s23 f_s23 => ?_)
        exact pf_ret f_s23
    · refine pf_bnd (fr_X4_refuse hF) (ww_50) f_s17 (fun r24 s25 f_s25 => ?_)
      exact pf_ret f_s25
set_option maxRecDepth 100000 in
theorem fr_X4_nobodys {F : Nat} (hF : 1000 ≤ F) {x1 : Int32} {σ : Mem} : pf wf_61 (f_X4_nobodys F x1 σ) σ := by
  have f_σ : fr wf_61 σ σ := fr_rf
  rw [f_X4_nobodys_e]
  refine pf_up2 (c := 1010) f_σ (rfl) (Or.inr (⟨by omega, by omega⟩)) (fun s1 f_s1 => ?_)
  refine pf_bnd (fr_X4_wrongNumber hF) (fun _ h => h.elim) f_s1 (fun r2 s3 f_s3 => ?_)
  refine pf_ite ?_ ?_
  · refine pf_bnd (fr_X4_layBrings hF) (ww_51) f_s3 (fun r4 s5 f_s5 => ?_)
    refine pf_bnd (fr_X4_viewsIn hF) (ww_52) f_s5 (fun r6 s7 f_s7 => ?_)
    exact pf_ret f_s7
  · refine pf_bnd (fr_X4_wrongNumber hF) (fun _ h => h.elim) f_s3 (fun r8 s9 f_s9 => ?_)
    refine pf_bnd (fr_X4_refuse hF) (ww_50) f_s9 (fun r10 s11 f_s11 => ?_)
    exact pf_ret f_s11
set_option maxRecDepth 100000 in
theorem fl_X4_from_32 {F : Nat} (hF : 1000 ≤ F) {x1 : Int32} {x2 : Int32} {τ : Mem} : ∀ (N : Nat) (x3 : Int32) (σ : Mem), fr wf_61 τ σ → pf wf_61 (lp_X4_from_32 F x1 x2 N x3 σ) τ := by
  intro N
  induction N with
  | zero => intro _ _ _; exact pf_none rfl
  | succ N ih =>
    intro x3 σ f_σ
    rw [lp_X4_from_32_s]
    refine pf_ite ?_ ?_
    · exact pf_ret f_σ
    · refine pf_bnd (fr_X4_ownerIn hF) (ww_52) f_σ (fun r1 s2 f_s2 => ?_)
      refine pf_ite ?_ ?_
      · exact pf_ret f_s2
      · exact ih _ _ f_s2
set_option maxRecDepth 100000 in
theorem fr_X4_from {F : Nat} (hF : 1000 ≤ F) {x1 : Int32} {x2 : Int32} {σ : Mem} : pf wf_61 (f_X4_from F x1 x2 σ) σ := by
  have f_σ : fr wf_61 σ σ := fr_rf
  rw [f_X4_from_e]
  refine pf_up2 (c := 1010) f_σ (rfl) (Or.inr (⟨by omega, by omega⟩)) (fun s1 f_s1 => ?_)
  refine pf_bnd (fr_X4_isLooker hF) (fun _ h => h.elim) f_s1 (fun r2 s3 f_s3 => ?_)
  refine pf_ite ?_ ?_
  · rw [j_X4_from_20_e]
    refine pf_bnd (fr_X4_refuse hF) (ww_50) f_s3 (fun r4 s5 f_s5 => ?_)
    exact pf_ret f_s5
  · refine pf_bnd (fr_X4_isView hF) (fun _ h => h.elim) f_s3 (fun r6 s7 f_s7 => ?_)
    refine pf_ite ?_ ?_
    · rw [j_X4_from_20_e]
      refine pf_bnd (fr_X4_refuse hF) (ww_50) f_s7 (fun r8 s9 f_s9 => ?_)
      exact pf_ret f_s9
    · refine pf_bnd (fr_X4_layBrings hF) (ww_51) f_s7 (fun r10 s11 f_s11 => ?_)
      exact fl_X4_from_32 hF _ _ _ f_s11
set_option maxRecDepth 100000 in
theorem fl_X4_lost_42 {F : Nat} (hF : 1000 ≤ F) {x1 : Int32} {x2 : Int32} {τ : Mem} : ∀ (N : Nat) (x3 : Int32) (σ : Mem), fr wf_61 τ σ → pf wf_61 (lp_X4_lost_42 F x1 x2 N x3 σ) τ := by
  intro N
  induction N with
  | zero => intro _ _ _; exact pf_none rfl
  | succ N ih =>
    intro x3 σ f_σ
    rw [lp_X4_lost_42_s]
    refine pf_ite ?_ ?_
    · exact pf_ret f_σ
    · refine pf_bnd (fr_X4_ownerIn hF) (ww_52) f_σ (fun r1 s2 f_s2 => ?_)
      refine pf_ite ?_ ?_
      · exact ih _ _ f_s2
      · exact pf_ret f_s2
set_option maxRecDepth 100000 in
theorem fr_X4_lost {F : Nat} (hF : 1000 ≤ F) {x1 : Int32} {σ : Mem} : pf wf_61 (f_X4_lost F x1 σ) σ := by
  have f_σ : fr wf_61 σ σ := fr_rf
  rw [f_X4_lost_e]
  refine pf_up2 (c := 1010) f_σ (rfl) (Or.inr (⟨by omega, by omega⟩)) (fun s1 f_s1 => ?_)
  refine pf_bnd (fr_X4_isView hF) (fun _ h => h.elim) f_s1 (fun r2 s3 f_s3 => ?_)
  refine pf_ite ?_ ?_
  · refine pf_bnd (fr_X4_refuse hF) (ww_50) f_s3 (fun r4 s5 f_s5 => ?_)
    exact pf_ret f_s5
  · refine pf_bnd (fr_X4_layBrings hF) (ww_51) f_s3 (fun r6 s7 f_s7 => ?_)
    refine pf_bnd (fr_X4_ownerIn hF) (ww_52) f_s7 (fun r8 s9 f_s9 => ?_)
    refine pf_ite ?_ ?_
    · exact fl_X4_lost_42 hF _ _ _ f_s9
    · refine pf_bnd (fr_X4_refuse hF) (ww_50) f_s9 (fun r10 s11 f_s11 => ?_)
      exact pf_ret f_s11
set_option maxRecDepth 100000 in
theorem fl_X4_richestIn_5 {F : Nat} (hF : 1000 ≤ F) {x1 : Int32} {τ : Mem} : ∀ (N : Nat) (x2 : Int32) (x3 : Int32) (σ : Mem), fr wf_47 τ σ → pf wf_47 (lp_X4_richestIn_5 F x1 N x2 x3 σ) τ := by
  intro N
  induction N with
  | zero => intro _ _ _ _; exact pf_none rfl
  | succ N ih =>
    intro x2 x3 σ f_σ
    rw [lp_X4_richestIn_5_s]
    refine pf_ite ?_ ?_
    · exact pf_ret f_σ
    · refine pf_ite ?_ ?_
      · rw [j_X4_richestIn_32_e]
        rw [j_X4_richestIn_37_e]
        exact ih _ _ _ f_σ
      · refine pf_bnd (fr_X4_worthIn hF) (fun _ h => h) f_σ (fun r1 s2 f_s2 => ?_)
        refine pf_bnd (fr_X4_worthIn hF) (fun _ h => h) f_s2 (fun r3 s4 f_s4 => ?_)
        refine pf_ite ?_ ?_
        · rw [j_X4_richestIn_37_e]
          exact ih _ _ _ f_s4
        · rw [j_X4_richestIn_32_e]
          rw [j_X4_richestIn_37_e]
          exact ih _ _ _ f_s4
set_option maxRecDepth 100000 in
theorem fr_X4_richestIn {F : Nat} (hF : 1000 ≤ F) {x1 : Int32} {σ : Mem} : pf wf_47 (f_X4_richestIn F x1 σ) σ := by
  have f_σ : fr wf_47 σ σ := fr_rf
  rw [f_X4_richestIn_e]
  exact fl_X4_richestIn_5 hF _ _ _ _ f_σ
set_option maxRecDepth 100000 in
theorem fr_X4_richest {F : Nat} (hF : 1000 ≤ F) {x1 : Int32} {x2 : Int32} {σ : Mem} : pf wf_61 (f_X4_richest F x1 x2 σ) σ := by
  have f_σ : fr wf_61 σ σ := fr_rf
  rw [f_X4_richest_e]
  refine pf_up2 (c := 1010) f_σ (rfl) (Or.inr (⟨by omega, by omega⟩)) (fun s1 f_s1 => ?_)
  refine pf_bnd (fr_X4_wrongNumber hF) (fun _ h => h.elim) f_s1 (fun r2 s3 f_s3 => ?_)
  refine pf_bnd (fr_X4_wrongBit hF) (fun _ h => h.elim) f_s3 (fun r4 s5 f_s5 => ?_)
  refine pf_ite ?_ ?_
  · refine pf_bnd (fr_X4_layBrings hF) (ww_51) f_s5 (fun r6 s7 f_s7 => ?_)
    refine pf_bnd (fr_X4_richestIn hF) (ww_52) f_s7 (fun r8 s9 f_s9 => ?_)
    refine pf_ite ?_ ?_
    · rw [j_X4_richest_49_e]
      exact pf_ret f_s9
    · refine pf_ite ?_ ?_
      · refine pf_bnd (fr_X4_worthIn hF) (ww_52) f_s9 (fun r10 s11 f_s11 => ?_)
        exact pf_ret f_s11
      · rw [j_X4_richest_49_e]
        exact pf_ret f_s9
  · refine pf_bnd (fr_X4_refuse hF) (ww_50) f_s5 (fun r12 s13 f_s13 => ?_)
    exact pf_ret f_s13
set_option maxRecDepth 100000 in
theorem fr_X4_staredOut {F : Nat} (hF : 1000 ≤ F) {x1 : Int32} {x2 : Int32} {x3 : Int32} {σ : Mem} : pf wf_61 (f_X4_staredOut F x1 x2 x3 σ) σ := by
  have f_σ : fr wf_61 σ σ := fr_rf
  rw [f_X4_staredOut_e]
  refine pf_up2 (c := 1010) f_σ (rfl) (Or.inr (⟨by omega, by omega⟩)) (fun s1 f_s1 => ?_)
  refine pf_bnd (fr_X4_areTwo hF) (fun _ h => h.elim) f_s1 (fun r2 s3 f_s3 => ?_)
  refine pf_ite ?_ ?_
  · rw [j_X4_staredOut_26_e]
    refine pf_ite ?_ ?_
    · refine pf_bnd (fr_X4_layBrings hF) (ww_51) f_s3 (fun r4 s5 f_s5 => ?_)
      refine pf_bnd (fr_X4_viewsIn hF) (ww_52) f_s5 (fun r6 s7 f_s7 => ?_)
      refine pf_bnd (fr_X4_viewsIn hF) (ww_52) f_s7 (fun r8 s9 f_s9 => ?_)
      exact pf_ret f_s9
    · refine pf_bnd (fr_X4_refuse hF) (ww_50) f_s3 (fun r10 s11 f_s11 => ?_)
      exact pf_ret f_s11
  · refine pf_bnd (fr_X4_wrongNumber hF) (fun _ h => h.elim) f_s3 (fun r12 s13 f_s13 => ?_)
    rw [j_X4_staredOut_26_e]
    refine pf_ite ?_ ?_
    · refine pf_bnd (fr_X4_layBrings hF) (ww_51) f_s13 (fun r14 s15 f_s15 => ?_)
      refine pf_bnd (fr_X4_viewsIn hF) (ww_52) f_s15 (fun r16 s17 f_s17 => ?_)
      refine pf_bnd (fr_X4_viewsIn hF) (ww_52) f_s17 (fun r18 s19 f_s19 => ?_)
      exact pf_ret f_s19
    · refine pf_bnd (fr_X4_refuse hF) (ww_50) f_s13 (fun r20 s21 f_s21 => ?_)
      exact pf_ret f_s21
set_option maxRecDepth 100000 in
theorem fl_X4_moreHours_101 {F : Nat} (hF : 1000 ≤ F) {x1 : Int32} {x2 : Int32} {x3 : Int32} {x6 : Int32} {k93 : Int32 → Int32 → Mem → Option (Int32 × Mem)} {τ : Mem} (hk93 : ∀ (x5 : Int32) (x6 : Int32) (σ : Mem), fr wf_61 τ σ → pf wf_61 (k93 x5 x6 σ) τ) : ∀ (N : Nat) (x5 : Int32) (x7 : Int32) (σ : Mem), fr wf_61 τ σ → pf wf_61 (lp_X4_moreHours_101 F k93 x1 x2 x3 x6 N x5 x7 σ) τ := by
  intro N
  induction N with
  | zero => intro _ _ _ _; exact pf_none rfl
  | succ N ih =>
    intro x5 x7 σ f_σ
    rw [lp_X4_moreHours_101_s]
    refine pf_ite ?_ ?_
    · exact hk93 _ _ _ f_σ
    · refine pf_chk (fun v1 => ?_)
      refine pf_ite ?_ ?_
      · rw [j_X4_moreHours_167_e]
        exact ih _ _ _ f_σ
      · refine pf_bnd (fr_X4_pullOf hF) (fun _ h => h.elim) f_σ (fun r2 s3 f_s3 => ?_)
        refine pf_ite ?_ ?_
        · refine pf_chk (fun v4 => ?_)
          refine pf_up2 (c := 109) f_s3 (rfl) (Or.inl (⟨by omega, by omega⟩)) (fun s5 f_s5 => ?_)
          refine pf_bnd (fr_X4_ownerIn hF) (ww_52) f_s5 (fun r6 s7 f_s7 => ?_)
          refine pf_ite ?_ ?_
          · exact pf_ret f_s7
          · rw [j_X4_moreHours_167_e]
            exact ih _ _ _ f_s7
        · rw [j_X4_moreHours_167_e]
          exact ih _ _ _ f_s3
set_option maxRecDepth 100000 in
theorem fl_X4_moreHours_93 {F : Nat} (hF : 1000 ≤ F) {x1 : Int32} {x2 : Int32} {x3 : Int32} {τ : Mem} : ∀ (N : Nat) (x5 : Int32) (x6 : Int32) (σ : Mem), fr wf_61 τ σ → pf wf_61 (lp_X4_moreHours_93 F x1 x2 x3 N x5 x6 σ) τ := by
  intro N
  induction N with
  | zero => intro _ _ _ _; exact pf_none rfl
  | succ N ih =>
    intro x5 x6 σ f_σ
    rw [lp_X4_moreHours_93_s]
    refine pf_ite ?_ ?_
    · exact pf_ret f_σ
    · exact fl_X4_moreHours_101 hF ih _ _ _ _ f_σ
set_option maxRecDepth 100000 in
theorem fr_X4_moreHours {F : Nat} (hF : 1000 ≤ F) {x1 : Int32} {x2 : Int32} {x3 : Int32} {σ : Mem} : pf wf_61 (f_X4_moreHours F x1 x2 x3 σ) σ := by
  have f_σ : fr wf_61 σ σ := fr_rf
  rw [f_X4_moreHours_e]
  refine pf_up2 (c := 1010) f_σ (rfl) (Or.inr (⟨by omega, by omega⟩)) (fun s1 f_s1 => ?_)
  refine pf_bnd (fr_X4_isLooker hF) (fun _ h => h.elim) f_s1 (fun r2 s3 f_s3 => ?_)
  refine pf_ite ?_ ?_
  · rw [j_X4_moreHours_31_e]
    rw [j_X4_moreHours_32_e]
    refine pf_ite ?_ ?_
    · refine pf_bnd (fr_X4_layBrings hF) (ww_51) f_s3 (fun r4 s5 f_s5 => ?_)
      refine pf_bnd (fr_X4_ownerIn hF) (ww_52) f_s5 (fun r6 s7 f_s7 => ?_)
      refine pf_ite ?_ ?_
      · exact pf_ret f_s7
      · refine pf_chk (fun v8 => ?_)
        refine pf_ite ?_ ?_
        · rw [j_X4_moreHours_83_e]
          exact pf_ret f_s7
        · refine pf_bnd (fr_X4_allShown hF) (fun _ h => h.elim) f_s7 (fun r9 s10 f_s10 => ?_)
          refine pf_bnd (fr_X4_hasBit hF) (fun _ h => h.elim) f_s10 (fun r11 s12 f_s12 => ?_)
          refine pf_ite ?_ ?_
          · rw [j_X4_moreHours_83_e]
            exact pf_ret f_s12
          · exact fl_X4_moreHours_93 hF _ _ _ _ f_s12
    · refine pf_bnd (fr_X4_refuse hF) (ww_50) f_s3 (fun r13 s14 f_s14 => ?_)
      exact pf_ret f_s14
  · refine pf_bnd (fr_X4_isView hF) (fun _ h => h.elim) f_s3 (fun r15 s16 f_s16 => ?_)
    refine pf_ite ?_ ?_
    · rw [j_X4_moreHours_31_e]
      rw [j_X4_moreHours_32_e]
      refine pf_ite ?_ ?_
      · refine pf_bnd (fr_X4_layBrings hF) (ww_51) f_s16 (fun r17 s18 f_s18 => ?_)
        refine pf_bnd (fr_X4_ownerIn hF) (ww_52) f_s18 (fun r19 s20 f_s20 => ?_)
        refine pf_ite ?_ ?_
        · exact pf_ret f_s20
        · refine pf_chk (fun v21 => ?_)
          refine pf_ite ?_ ?_
          · rw [j_X4_moreHours_83_e]
            exact pf_ret f_s20
          · refine pf_bnd (fr_X4_allShown hF) (fun _ h => h.elim) f_s20 (fun r22 s23 f_s23 => ?_)
            refine pf_bnd (fr_X4_hasBit hF) (fun _ h => h.elim) f_s23 (fun r24 s25 f_s25 => ?_)
            refine pf_ite ?_ ?_
            · rw [j_X4_moreHours_83_e]
              exact pf_ret f_s25
            · exact fl_X4_moreHours_93 hF _ _ _ _ f_s25
      · refine pf_bnd (fr_X4_refuse hF) (ww_50) f_s16 (fun r26 s27 f_s27 => ?_)
        exact pf_ret f_s27
    · refine pf_bnd (fr_X4_wrongNumber hF) (fun _ h => h.elim) f_s16 (fun r28 s29 f_s29 => ?_)
      rw [j_X4_moreHours_32_e]
      refine pf_ite ?_ ?_
      · refine pf_bnd (fr_X4_layBrings hF) (ww_51) f_s29 (fun r30 s31 f_s31 => ?_)
        refine pf_bnd (fr_X4_ownerIn hF) (ww_52) f_s31 (fun r32 s33 f_s33 => ?_)
        refine pf_ite ?_ ?_
        · exact pf_ret f_s33
        · refine pf_chk (fun v34 => ?_)
          refine pf_ite ?_ ?_
          · rw [j_X4_moreHours_83_e]
            exact pf_ret f_s33
          · refine pf_bnd (fr_X4_allShown hF) (fun _ h => h.elim) f_s33 (fun r35 s36 f_s36 => ?_)
            refine pf_bnd (fr_X4_hasBit hF) (fun _ h => h.elim) f_s36 (fun r37 s38 f_s38 => ?_)
            refine pf_ite ?_ ?_
            · rw [j_X4_moreHours_83_e]
              exact pf_ret f_s38
            · exact fl_X4_moreHours_93 hF _ _ _ _ f_s38
      · refine pf_bnd (fr_X4_refuse hF) (ww_50) f_s29 (fun r39 s40 f_s40 => ?_)
        exact pf_ret f_s40
def wf_65 (c : Nat) : Prop := (106 ≤ c ∧ c ≤ 106) ∨ (108 ≤ c ∧ c ≤ 110) ∨ (1010 ≤ c ∧ c ≤ 1010)
theorem ww_59 : ∀ c, wf_48 c → wf_65 c := fun c h => Or.inr (Or.inl (⟨Nat.le_trans (by omega) (h).1, Nat.le_trans (h).2 (by omega)⟩))
theorem ww_60 : ∀ c, wf_45 c → wf_65 c := fun c h => Or.inr (Or.inl (⟨Nat.le_trans (by omega) (h).1, Nat.le_trans (h).2 (by omega)⟩))
set_option maxRecDepth 100000 in
theorem fl_X4_bestPane_74 {F : Nat} (hF : 1000 ≤ F) {x1 : Int32} {x2 : Int32} {x3 : Int32} {x4 : Int32} {x6 : Int32} {τ : Mem} : ∀ (N : Nat) (x7 : Int32) (x8 : Int32) (x9 : Int32) (σ : Mem), fr wf_65 τ σ → pf wf_65 (lp_X4_bestPane_74 F x1 x2 x3 x4 x6 N x7 x8 x9 σ) τ := by
  intro N
  induction N with
  | zero => intro _ _ _ _ _; exact pf_none rfl
  | succ N ih =>
    intro x7 x8 x9 σ f_σ
    rw [lp_X4_bestPane_74_s]
    refine pf_ite ?_ ?_
    · refine pf_chk (fun v1 => ?_)
      refine pf_up2 (c := 106) f_σ (rfl) (Or.inl (⟨by omega, by omega⟩)) (fun s2 f_s2 => ?_)
      refine pf_ite ?_ ?_
      · exact pf_ret f_s2
      · exact pf_ret f_s2
    · refine pf_ite ?_ ?_
      · rw [j_X4_bestPane_109_e]
        refine pf_chk (fun v3 => ?_)
        refine pf_up2 (c := 106) f_σ (rfl) (Or.inl (⟨by omega, by omega⟩)) (fun s4 f_s4 => ?_)
        refine pf_bnd (fr_X4_worthAnew hF) (ww_59) f_s4 (fun r5 s6 f_s6 => ?_)
        refine pf_ite ?_ ?_
        · rw [j_X4_bestPane_146_e]
          refine pf_ite ?_ ?_
          · rw [j_X4_bestPane_162_e]
            exact ih _ _ _ _ f_s6
          · rw [j_X4_bestPane_162_e]
            exact ih _ _ _ _ f_s6
        · refine pf_ite ?_ ?_
          · rw [j_X4_bestPane_146_e]
            refine pf_ite ?_ ?_
            · rw [j_X4_bestPane_162_e]
              exact ih _ _ _ _ f_s6
            · rw [j_X4_bestPane_162_e]
              exact ih _ _ _ _ f_s6
          · rw [j_X4_bestPane_146_e]
            refine pf_ite ?_ ?_
            · rw [j_X4_bestPane_162_e]
              exact ih _ _ _ _ f_s6
            · rw [j_X4_bestPane_162_e]
              exact ih _ _ _ _ f_s6
      · rw [j_X4_bestPane_109_e]
        refine pf_chk (fun v7 => ?_)
        refine pf_up2 (c := 106) f_σ (rfl) (Or.inl (⟨by omega, by omega⟩)) (fun s8 f_s8 => ?_)
        refine pf_bnd (fr_X4_worthAnew hF) (ww_59) f_s8 (fun r9 s10 f_s10 => ?_)
        refine pf_ite ?_ ?_
        · rw [j_X4_bestPane_146_e]
          refine pf_ite ?_ ?_
          · rw [j_X4_bestPane_162_e]
            exact ih _ _ _ _ f_s10
          · rw [j_X4_bestPane_162_e]
            exact ih _ _ _ _ f_s10
        · refine pf_ite ?_ ?_
          · rw [j_X4_bestPane_146_e]
            refine pf_ite ?_ ?_
            · rw [j_X4_bestPane_162_e]
              exact ih _ _ _ _ f_s10
            · rw [j_X4_bestPane_162_e]
              exact ih _ _ _ _ f_s10
          · rw [j_X4_bestPane_146_e]
            refine pf_ite ?_ ?_
            · rw [j_X4_bestPane_162_e]
              exact ih _ _ _ _ f_s10
            · rw [j_X4_bestPane_162_e]
              exact ih _ _ _ _ f_s10
set_option maxRecDepth 100000 in
theorem fr_X4_bestPane {F : Nat} (hF : 1000 ≤ F) {x1 : Int32} {x2 : Int32} {x3 : Int32} {x4 : Int32} {σ : Mem} : pf wf_65 (f_X4_bestPane F x1 x2 x3 x4 σ) σ := by
  have f_σ : fr wf_65 σ σ := fr_rf
  rw [f_X4_bestPane_e]
  refine pf_up2 (c := 1010) f_σ (rfl) (Or.inr (Or.inr (⟨by omega, by omega⟩))) (fun s1 f_s1 => ?_)
  refine pf_bnd (fr_X4_isLooker hF) (fun _ h => h.elim) f_s1 (fun r2 s3 f_s3 => ?_)
  refine pf_ite ?_ ?_
  · rw [j_X4_bestPane_31_e]
    rw [j_X4_bestPane_32_e]
    refine pf_bnd (fr_X4_wrongBit hF) (fun _ h => h.elim) f_s3 (fun r4 s5 f_s5 => ?_)
    refine pf_ite ?_ ?_
    · refine pf_chk (fun v6 => ?_)
      refine pf_lt (fun z7 _ => ?_)
      exact fl_X4_bestPane_74 hF _ _ _ _ _ f_s5
    · refine pf_bnd (fr_X4_refuse hF) (ww_60) f_s5 (fun r8 s9 f_s9 => ?_)
      exact pf_ret f_s9
  · refine pf_bnd (fr_X4_isHour hF) (fun _ h => h.elim) f_s3 (fun r10 s11 f_s11 => ?_)
    refine pf_ite ?_ ?_
    · rw [j_X4_bestPane_31_e]
      rw [j_X4_bestPane_32_e]
      refine pf_bnd (fr_X4_wrongBit hF) (fun _ h => h.elim) f_s11 (fun r12 s13 f_s13 => ?_)
      refine pf_ite ?_ ?_
      · refine pf_chk (fun v14 => ?_)
        refine pf_lt (fun z15 _ => ?_)
        exact fl_X4_bestPane_74 hF _ _ _ _ _ f_s13
      · refine pf_bnd (fr_X4_refuse hF) (ww_60) f_s13 (fun r16 s17 f_s17 => ?_)
        exact pf_ret f_s17
    · refine pf_bnd (fr_X4_wrongNumber hF) (fun _ h => h.elim) f_s11 (fun r18 s19 f_s19 => ?_)
      rw [j_X4_bestPane_32_e]
      refine pf_bnd (fr_X4_wrongBit hF) (fun _ h => h.elim) f_s19 (fun r20 s21 f_s21 => ?_)
      refine pf_ite ?_ ?_
      · refine pf_chk (fun v22 => ?_)
        refine pf_lt (fun z23 _ => ?_)
        exact fl_X4_bestPane_74 hF _ _ _ _ _ f_s21
      · refine pf_bnd (fr_X4_refuse hF) (ww_60) f_s21 (fun r24 s25 f_s25 => ?_)
        exact pf_ret f_s25
theorem ww_61 : ∀ c, wf_46 c → wf_65 c := fun c h => Or.inr (Or.inl (⟨Nat.le_trans (by omega) (h).1, Nat.le_trans (h).2 (by omega)⟩))
theorem ww_62 : ∀ c, wf_47 c → wf_65 c := fun c h => Or.inr (Or.inl (⟨Nat.le_trans (by omega) (h).1, Nat.le_trans (h).2 (by omega)⟩))
set_option maxRecDepth 100000 in
theorem fl_X4_freeHours_54 {F : Nat} (hF : 1000 ≤ F) {x1 : Int32} {x2 : Int32} {x4 : Int32} {τ : Mem} : ∀ (N : Nat) (x5 : Int32) (x6 : Int32) (σ : Mem), fr wf_65 τ σ → pf wf_65 (lp_X4_freeHours_54 F x1 x2 x4 N x5 x6 σ) τ := by
  intro N
  induction N with
  | zero => intro _ _ _ _; exact pf_none rfl
  | succ N ih =>
    intro x5 x6 σ f_σ
    rw [lp_X4_freeHours_54_s]
    refine pf_ite ?_ ?_
    · exact pf_ret f_σ
    · refine pf_chk (fun v1 => ?_)
      refine pf_lt (fun z2 _ => ?_)
      refine pf_up2 (c := 106) f_σ (rfl) (Or.inl (⟨by omega, by omega⟩)) (fun s3 f_s3 => ?_)
      refine pf_bnd (fr_X4_layBrings hF) (ww_61) f_s3 (fun r4 s5 f_s5 => ?_)
      refine pf_ite ?_ ?_
      · rw [j_X4_freeHours_118_e]
        rw [j_X4_freeHours_119_e]
        refine pf_chk (fun v6 => ?_)
        refine pf_up2 (c := 106) f_s5 (rfl) (Or.inl (⟨by omega, by omega⟩)) (fun s7 f_s7 => ?_)
        exact ih _ _ _ f_s7
      · refine pf_bnd (fr_X4_viewsIn hF) (ww_62) f_s5 (fun r8 s9 f_s9 => ?_)
        refine pf_ite ?_ ?_
        · rw [j_X4_freeHours_119_e]
          refine pf_chk (fun v10 => ?_)
          refine pf_up2 (c := 106) f_s9 (rfl) (Or.inl (⟨by omega, by omega⟩)) (fun s11 f_s11 => ?_)
          exact ih _ _ _ f_s11
        · rw [j_X4_freeHours_118_e]
          rw [j_X4_freeHours_119_e]
          refine pf_chk (fun v12 => ?_)
          refine pf_up2 (c := 106) f_s9 (rfl) (Or.inl (⟨by omega, by omega⟩)) (fun s13 f_s13 => ?_)
          exact ih _ _ _ f_s13
set_option maxRecDepth 100000 in
theorem fr_X4_freeHours {F : Nat} (hF : 1000 ≤ F) {x1 : Int32} {x2 : Int32} {σ : Mem} : pf wf_65 (f_X4_freeHours F x1 x2 σ) σ := by
  have f_σ : fr wf_65 σ σ := fr_rf
  rw [f_X4_freeHours_e]
  refine pf_up2 (c := 1010) f_σ (rfl) (Or.inr (Or.inr (⟨by omega, by omega⟩))) (fun s1 f_s1 => ?_)
  refine pf_bnd (fr_X4_isLooker hF) (fun _ h => h.elim) f_s1 (fun r2 s3 f_s3 => ?_)
  refine pf_ite ?_ ?_
  · rw [j_X4_freeHours_25_e]
    refine pf_ite ?_ ?_
    · refine pf_bnd (fr_X4_layBrings hF) (ww_61) f_s3 (fun r4 s5 f_s5 => ?_)
      refine pf_bnd (fr_X4_viewsIn hF) (ww_62) f_s5 (fun r6 s7 f_s7 => ?_)
      exact fl_X4_freeHours_54 hF _ _ _ _ f_s7
    · refine pf_bnd (fr_X4_refuse hF) (ww_60) f_s3 (fun r8 s9 f_s9 => ?_)
      exact pf_ret f_s9
  · refine pf_bnd (fr_X4_wrongNumber hF) (fun _ h => h.elim) f_s3 (fun r10 s11 f_s11 => ?_)
    rw [j_X4_freeHours_25_e]
    refine pf_ite ?_ ?_
    · refine pf_bnd (fr_X4_layBrings hF) (ww_61) f_s11 (fun r12 s13 f_s13 => ?_)
      refine pf_bnd (fr_X4_viewsIn hF) (ww_62) f_s13 (fun r14 s15 f_s15 => ?_)
      exact fl_X4_freeHours_54 hF _ _ _ _ f_s15
    · refine pf_bnd (fr_X4_refuse hF) (ww_60) f_s11 (fun r16 s17 f_s17 => ?_)
      exact pf_ret f_s17
def wf_66 (c : Nat) : Prop := (1010 ≤ c ∧ c ≤ 1010)
set_option maxRecDepth 100000 in
theorem fl_X4_cover_31 {F : Nat} (hF : 1000 ≤ F) {x1 : Int32} {x2 : Int32} {x3 : Int32} {k21 : Int32 → Int32 → Mem → Option (Int32 × Mem)} {τ : Mem} (hk21 : ∀ (x2 : Int32) (x3 : Int32) (σ : Mem), fr wf_66 τ σ → pf wf_66 (k21 x2 x3 σ) τ) : ∀ (N : Nat) (x4 : Int32) (x5 : Int32) (σ : Mem), fr wf_66 τ σ → pf wf_66 (lp_X4_cover_31 F k21 x1 x2 x3 N x4 x5 σ) τ := by
  intro N
  induction N with
  | zero => intro _ _ _ _; exact pf_none rfl
  | succ N ih =>
    intro x4 x5 σ f_σ
    rw [lp_X4_cover_31_s]
    refine pf_ite ?_ ?_
    · refine pf_ite ?_ ?_
      · refine pf_bnd (fr_X4_onesOf hF) (fun _ h => h.elim) f_σ (fun r1 s2 f_s2 => ?_)
        refine pf_bnd (fr_X4_onesOf hF) (fun _ h => h.elim) f_s2 (fun r3 s4 f_s4 => ?_)
        refine pf_ite ?_ ?_
        · rw [j_X4_cover_92_e]
          rw [j_X4_cover_93_e]
          exact hk21 _ _ _ f_s4
        · rw [j_X4_cover_93_e]
          exact hk21 _ _ _ f_s4
      · rw [j_X4_cover_92_e]
        rw [j_X4_cover_93_e]
        exact hk21 _ _ _ f_σ
    · refine pf_bnd (fr_X4_hasBit hF) (fun _ h => h.elim) f_σ (fun r5 s6 f_s6 => ?_)
      refine pf_ite ?_ ?_
      · rw [j_X4_cover_62_e]
        exact ih _ _ _ f_s6
      · refine pf_chk (fun v7 => ?_)
        rw [j_X4_cover_62_e]
        exact ih _ _ _ f_s6
set_option maxRecDepth 100000 in
theorem fl_X4_cover_21 {F : Nat} (hF : 1000 ≤ F) {x1 : Int32} {τ : Mem} : ∀ (N : Nat) (x2 : Int32) (x3 : Int32) (σ : Mem), fr wf_66 τ σ → pf wf_66 (lp_X4_cover_21 F x1 N x2 x3 σ) τ := by
  intro N
  induction N with
  | zero => intro _ _ _ _; exact pf_none rfl
  | succ N ih =>
    intro x2 x3 σ f_σ
    rw [lp_X4_cover_21_s]
    refine pf_ite ?_ ?_
    · exact pf_ret f_σ
    · exact fl_X4_cover_31 hF ih _ _ _ _ f_σ
set_option maxRecDepth 100000 in
theorem fr_X4_cover {F : Nat} (hF : 1000 ≤ F) {σ : Mem} : pf wf_66 (f_X4_cover F σ) σ := by
  have f_σ : fr wf_66 σ σ := fr_rf
  rw [f_X4_cover_e]
  refine pf_up2 (c := 1010) f_σ (rfl) (⟨by omega, by omega⟩) (fun s1 f_s1 => ?_)
  refine pf_bnd (fr_X4_allShown hF) (fun _ h => h.elim) f_s1 (fun r2 s3 f_s3 => ?_)
  refine pf_lt (fun z4 _ => ?_)
  exact fl_X4_cover_21 hF _ _ _ _ f_s3
set_option maxRecDepth 100000 in
theorem fl_X4_shown_22 {F : Nat} (hF : 1000 ≤ F) {x1 : Int32} {τ : Mem} : ∀ (N : Nat) (x2 : Int32) (x3 : Int32) (σ : Mem), fr wf_60 τ σ → pf wf_60 (lp_X4_shown_22 F x1 N x2 x3 σ) τ := by
  intro N
  induction N with
  | zero => intro _ _ _ _; exact pf_none rfl
  | succ N ih =>
    intro x2 x3 σ f_σ
    rw [lp_X4_shown_22_s]
    refine pf_ite ?_ ?_
    · exact pf_ret f_σ
    · refine pf_chk (fun v1 => ?_)
      refine pf_bnd (fr_X4_hasBit hF) (fun _ h => h.elim) f_σ (fun r2 s3 f_s3 => ?_)
      refine pf_ite ?_ ?_
      · rw [j_X4_shown_49_e]
        exact ih _ _ _ f_s3
      · rw [j_X4_shown_49_e]
        exact ih _ _ _ f_s3
set_option maxRecDepth 100000 in
theorem fr_X4_shown {F : Nat} (hF : 1000 ≤ F) {x1 : Int32} {σ : Mem} : pf wf_60 (f_X4_shown F x1 σ) σ := by
  have f_σ : fr wf_60 σ σ := fr_rf
  rw [f_X4_shown_e]
  refine pf_up2 (c := 1010) f_σ (rfl) (Or.inr (⟨by omega, by omega⟩)) (fun s1 f_s1 => ?_)
  refine pf_bnd (fr_X4_isView hF) (fun _ h => h.elim) f_s1 (fun r2 s3 f_s3 => ?_)
  refine pf_ite ?_ ?_
  · refine pf_bnd (fr_X4_refuse hF) (ww_49) f_s3 (fun r4 s5 f_s5 => ?_)
    exact pf_ret f_s5
  · exact fl_X4_shown_22 hF _ _ _ _ f_s3
def wf_67 (c : Nat) : Prop := (103 ≤ c ∧ c ≤ 103) ∨ (108 ≤ c ∧ c ≤ 110) ∨ (1010 ≤ c ∧ c ≤ 1010)
theorem ww_63 : ∀ c, wf_48 c → wf_67 c := fun c h => Or.inr (Or.inl (⟨Nat.le_trans (by omega) (h).1, Nat.le_trans (h).2 (by omega)⟩))
theorem ww_64 : ∀ c, wf_45 c → wf_67 c := fun c h => Or.inr (Or.inl (⟨Nat.le_trans (by omega) (h).1, Nat.le_trans (h).2 (by omega)⟩))
set_option maxRecDepth 100000 in
theorem fl_X4_walls_74 {F : Nat} (hF : 1000 ≤ F) {x1 : Int32} {x2 : Int32} {x3 : Int32} {x5 : Int32} {x8 : Int32} {k62 : Int32 → Int32 → Int32 → Mem → Option (Int32 × Mem)} {τ : Mem} (hk62 : ∀ (x6 : Int32) (x7 : Int32) (x8 : Int32) (σ : Mem), fr wf_67 τ σ → pf wf_67 (k62 x6 x7 x8 σ) τ) : ∀ (N : Nat) (x6 : Int32) (x7 : Int32) (x9 : Int32) (σ : Mem), fr wf_67 τ σ → pf wf_67 (lp_X4_walls_74 F k62 x1 x2 x3 x5 x8 N x6 x7 x9 σ) τ := by
  intro N
  induction N with
  | zero => intro _ _ _ _ _; exact pf_none rfl
  | succ N ih =>
    intro x6 x7 x9 σ f_σ
    rw [lp_X4_walls_74_s]
    refine pf_ite ?_ ?_
    · exact hk62 _ _ _ _ f_σ
    · refine pf_chk (fun v1 => ?_)
      refine pf_bnd (fr_X4_hasBit hF) (fun _ h => h.elim) f_σ (fun r2 s3 f_s3 => ?_)
      refine pf_ite ?_ ?_
      · rw [j_X4_walls_173_e]
        exact ih _ _ _ _ f_s3
      · refine pf_up2 (c := 103) f_s3 (rfl) (Or.inl (⟨by omega, by omega⟩)) (fun s4 f_s4 => ?_)
        refine pf_bnd (fr_X4_worthAnew hF) (ww_63) f_s4 (fun r5 s6 f_s6 => ?_)
        refine pf_up2 (c := 103) f_s6 (rfl) (Or.inl (⟨by omega, by omega⟩)) (fun s7 f_s7 => ?_)
        refine pf_ite ?_ ?_
        · rw [j_X4_walls_155_e]
          refine pf_ite ?_ ?_
          · rw [j_X4_walls_171_e]
            rw [j_X4_walls_173_e]
            exact ih _ _ _ _ f_s7
          · rw [j_X4_walls_171_e]
            rw [j_X4_walls_173_e]
            exact ih _ _ _ _ f_s7
        · rw [j_X4_walls_155_e]
          refine pf_ite ?_ ?_
          · rw [j_X4_walls_171_e]
            rw [j_X4_walls_173_e]
            exact ih _ _ _ _ f_s7
          · rw [j_X4_walls_171_e]
            rw [j_X4_walls_173_e]
            exact ih _ _ _ _ f_s7
set_option maxRecDepth 100000 in
theorem fl_X4_walls_62 {F : Nat} (hF : 1000 ≤ F) {x1 : Int32} {x2 : Int32} {x3 : Int32} {x5 : Int32} {τ : Mem} : ∀ (N : Nat) (x6 : Int32) (x7 : Int32) (x8 : Int32) (σ : Mem), fr wf_67 τ σ → pf wf_67 (lp_X4_walls_62 F x1 x2 x3 x5 N x6 x7 x8 σ) τ := by
  intro N
  induction N with
  | zero => intro _ _ _ _ _; exact pf_none rfl
  | succ N ih =>
    intro x6 x7 x8 σ f_σ
    rw [lp_X4_walls_62_s]
    refine pf_ite ?_ ?_
    · refine pf_ite ?_ ?_
      · rw [j_X4_walls_194_e]
        exact pf_ret f_σ
      · refine pf_ite ?_ ?_
        · exact pf_ret f_σ
        · rw [j_X4_walls_194_e]
          exact pf_ret f_σ
    · exact fl_X4_walls_74 hF ih _ _ _ _ _ f_σ
set_option maxRecDepth 100000 in
theorem fr_X4_walls {F : Nat} (hF : 1000 ≤ F) {x1 : Int32} {x2 : Int32} {x3 : Int32} {σ : Mem} : pf wf_67 (f_X4_walls F x1 x2 x3 σ) σ := by
  have f_σ : fr wf_67 σ σ := fr_rf
  rw [f_X4_walls_e]
  refine pf_up2 (c := 1010) f_σ (rfl) (Or.inr (Or.inr (⟨by omega, by omega⟩))) (fun s1 f_s1 => ?_)
  refine pf_bnd (fr_X4_isLooker hF) (fun _ h => h.elim) f_s1 (fun r2 s3 f_s3 => ?_)
  refine pf_ite ?_ ?_
  · rw [j_X4_walls_25_e]
    refine pf_bnd (fr_X4_wrongBit hF) (fun _ h => h.elim) f_s3 (fun r4 s5 f_s5 => ?_)
    refine pf_ite ?_ ?_
    · refine pf_bnd (fr_X4_worthAnew hF) (ww_63) f_s5 (fun r6 s7 f_s7 => ?_)
      exact fl_X4_walls_62 hF _ _ _ _ _ f_s7
    · refine pf_bnd (fr_X4_refuse hF) (ww_64) f_s5 (fun r8 s9 f_s9 => ?_)
      exact pf_ret f_s9
  · refine pf_bnd (fr_X4_wrongNumber hF) (fun _ h => h.elim) f_s3 (fun r10 s11 f_s11 => ?_)
    rw [j_X4_walls_25_e]
    refine pf_bnd (fr_X4_wrongBit hF) (fun _ h => h.elim) f_s11 (fun r12 s13 f_s13 => ?_)
    refine pf_ite ?_ ?_
    · refine pf_bnd (fr_X4_worthAnew hF) (ww_63) f_s13 (fun r14 s15 f_s15 => ?_)
      exact fl_X4_walls_62 hF _ _ _ _ _ f_s15
    · refine pf_bnd (fr_X4_refuse hF) (ww_64) f_s13 (fun r16 s17 f_s17 => ?_)
      exact pf_ret f_s17
set_option maxRecDepth 100000 in
theorem fl_X4_divisor_6 {F : Nat} (hF : 1000 ≤ F) {τ : Mem} : ∀ (N : Nat) (y4 : Int64) (y6 : Int64) (σ : Mem), fr wf_1 τ σ → pf wf_1 (lp_X4_divisor_6 F N y4 y6 σ) τ := by
  intro N
  induction N with
  | zero => intro _ _ _ _; exact pf_none rfl
  | succ N ih =>
    intro y4 y6 σ f_σ
    rw [lp_X4_divisor_6_s]
    refine pf_ite ?_ ?_
    · exact pf_ret f_σ
    · refine pf_nzl ?_
      exact ih _ _ _ f_σ
set_option maxRecDepth 100000 in
theorem fr_X4_divisor {F : Nat} (hF : 1000 ≤ F) {y0 : Int64} {y2 : Int64} {σ : Mem} : pf wf_1 (f_X4_divisor F y0 y2 σ) σ := by
  have f_σ : fr wf_1 σ σ := fr_rf
  rw [f_X4_divisor_e]
  exact fl_X4_divisor_6 hF _ _ _ _ f_σ
set_option maxRecDepth 100000 in
theorem fr_X4_partOf {F : Nat} (hF : 1000 ≤ F) {y0 : Int64} {y2 : Int64} {x4 : Int32} {σ : Mem} : pf wf_1 (f_X4_partOf F y0 y2 x4 σ) σ := by
  have f_σ : fr wf_1 σ σ := fr_rf
  rw [f_X4_partOf_e]
  refine pf_ite ?_ ?_
  · exact pf_ret f_σ
  · refine pf_bnd (fr_X4_divisor hF) (fun _ h => h.elim) f_σ (fun r1 s2 f_s2 => ?_)
    refine pf_ite ?_ ?_
    · refine pf_nzl ?_
      exact pf_ret f_s2
    · refine pf_nzl ?_
      exact pf_ret f_s2
set_option maxRecDepth 100000 in
theorem fl_X4_share_55 {F : Nat} (hF : 1000 ≤ F) {x1 : Int32} {x2 : Int32} {x3 : Int32} {τ : Mem} : ∀ (N : Nat) (y5 : Int64) (x7 : Int32) (σ : Mem), fr wf_60 τ σ → pf wf_60 (lp_X4_share_55 F x1 x2 x3 N y5 x7 σ) τ := by
  intro N
  induction N with
  | zero => intro _ _ _ _; exact pf_none rfl
  | succ N ih =>
    intro y5 x7 σ f_σ
    rw [lp_X4_share_55_s]
    refine pf_ite ?_ ?_
    · refine pf_chk (fun v1 => ?_)
      refine pf_bnd (fr_X4_partOf hF) (fun _ h => h.elim) f_σ (fun r2 s3 f_s3 => ?_)
      exact pf_ret f_s3
    · refine pf_chk (fun v4 => ?_)
      refine pf_lt (fun z5 _ => ?_)
      exact ih _ _ _ f_σ
set_option maxRecDepth 100000 in
theorem fr_X4_share {F : Nat} (hF : 1000 ≤ F) {x1 : Int32} {x2 : Int32} {x3 : Int32} {σ : Mem} : pf wf_60 (f_X4_share F x1 x2 x3 σ) σ := by
  have f_σ : fr wf_60 σ σ := fr_rf
  rw [f_X4_share_e]
  refine pf_up2 (c := 1010) f_σ (rfl) (Or.inr (⟨by omega, by omega⟩)) (fun s1 f_s1 => ?_)
  refine pf_bnd (fr_X4_isLooker hF) (fun _ h => h.elim) f_s1 (fun r2 s3 f_s3 => ?_)
  refine pf_ite ?_ ?_
  · rw [j_X4_share_29_e]
    rw [j_X4_share_30_e]
    refine pf_ite ?_ ?_
    · exact fl_X4_share_55 hF _ _ _ _ f_s3
    · refine pf_bnd (fr_X4_refuse hF) (ww_49) f_s3 (fun r4 s5 f_s5 => ?_)
      exact pf_ret f_s5
  · refine pf_bnd (fr_X4_isView hF) (fun _ h => h.elim) f_s3 (fun r6 s7 f_s7 => ?_)
    refine pf_ite ?_ ?_
    · rw [j_X4_share_29_e]
      rw [j_X4_share_30_e]
      refine pf_ite ?_ ?_
      · exact fl_X4_share_55 hF _ _ _ _ f_s7
      · refine pf_bnd (fr_X4_refuse hF) (ww_49) f_s7 (fun r8 s9 f_s9 => ?_)
        exact pf_ret f_s9
    · refine pf_bnd (fr_X4_wrongBit hF) (fun _ h => h.elim) f_s7 (fun r10 s11 f_s11 => ?_)
      rw [j_X4_share_30_e]
      refine pf_ite ?_ ?_
      · exact fl_X4_share_55 hF _ _ _ _ f_s11
      · refine pf_bnd (fr_X4_refuse hF) (ww_49) f_s11 (fun r12 s13 f_s13 => ?_)
        exact pf_ret f_s13
set_option maxRecDepth 100000 in
theorem fl_X4_areResting_36 {F : Nat} (hF : 1000 ≤ F) {x1 : Int32} {x2 : Int32} {x3 : Int32} {τ : Mem} : ∀ (N : Nat) (x4 : Int32) (x5 : Int32) (σ : Mem), fr wf_1 τ σ → pf wf_1 (lp_X4_areResting_36 F x1 x2 x3 N x4 x5 σ) τ := by
  intro N
  induction N with
  | zero => intro _ _ _ _; exact pf_none rfl
  | succ N ih =>
    intro x4 x5 σ f_σ
    rw [lp_X4_areResting_36_s]
    refine pf_ite ?_ ?_
    · rw [j_X4_areResting_105_e]
      refine pf_bz ?_
      exact pf_ret f_σ
    · refine pf_ite ?_ ?_
      · rw [j_X4_areResting_105_e]
        refine pf_bz ?_
        exact pf_ret f_σ
      · refine pf_chk (fun v1 => ?_)
        refine pf_chk (fun v2 => ?_)
        refine pf_ite ?_ ?_
        · rw [j_X4_areResting_96_e]
          rw [j_X4_areResting_97_e]
          exact ih _ _ _ f_σ
        · refine pf_chk (fun v3 => ?_)
          refine pf_ite ?_ ?_
          · rw [j_X4_areResting_96_e]
            rw [j_X4_areResting_97_e]
            exact ih _ _ _ f_σ
          · rw [j_X4_areResting_97_e]
            exact ih _ _ _ f_σ
set_option maxRecDepth 100000 in
theorem fr_X4_areResting {F : Nat} (hF : 1000 ≤ F) {x1 : Int32} {σ : Mem} : pf wf_1 (f_X4_areResting F x1 σ) σ := by
  have f_σ : fr wf_1 σ σ := fr_rf
  rw [f_X4_areResting_e]
  refine pf_lt (fun z1 _ => ?_)
  refine pf_ite ?_ ?_
  · rw [j_X4_areResting_30_e]
    rw [j_X4_areResting_31_e]
    exact fl_X4_areResting_36 hF _ _ _ _ f_σ
  · refine pf_ite ?_ ?_
    · rw [j_X4_areResting_30_e]
      rw [j_X4_areResting_31_e]
      exact fl_X4_areResting_36 hF _ _ _ _ f_σ
    · rw [j_X4_areResting_31_e]
      exact fl_X4_areResting_36 hF _ _ _ _ f_σ
def wf_68 (c : Nat) : Prop := (106 ≤ c ∧ c ≤ 106) ∨ (108 ≤ c ∧ c ≤ 110) ∨ (119 ≤ c ∧ c ≤ 120) ∨ (1010 ≤ c ∧ c ≤ 1010)
theorem ww_65 : ∀ c, wf_48 c → wf_68 c := fun c h => Or.inr (Or.inl (⟨Nat.le_trans (by omega) (h).1, Nat.le_trans (h).2 (by omega)⟩))
theorem ww_66 : ∀ c, wf_47 c → wf_68 c := fun c h => Or.inr (Or.inl (⟨Nat.le_trans (by omega) (h).1, Nat.le_trans (h).2 (by omega)⟩))
theorem ww_67 : ∀ c, wf_45 c → wf_68 c := fun c h => Or.inr (Or.inl (⟨Nat.le_trans (by omega) (h).1, Nat.le_trans (h).2 (by omega)⟩))
set_option maxRecDepth 100000 in
theorem fl_X4_two_89 {F : Nat} (hF : 1000 ≤ F) {x1 : Int32} {x2 : Int32} {x3 : Int32} {x4 : Int32} {x6 : Int32} {x7 : Int32} {x8 : Int32} {k77 : Int32 → Mem → Option (Int32 × Mem)} {τ : Mem} (hk77 : ∀ (x8 : Int32) (σ : Mem), fr wf_68 τ σ → pf wf_68 (k77 x8 σ) τ) : ∀ (N : Nat) (x9 : Int32) (σ : Mem), fr wf_68 τ σ → pf wf_68 (lp_X4_two_89 F k77 x1 x2 x3 x4 x6 x7 x8 N x9 σ) τ := by
  intro N
  induction N with
  | zero => intro _ _ _; exact pf_none rfl
  | succ N ih =>
    intro x9 σ f_σ
    rw [lp_X4_two_89_s]
    refine pf_ite ?_ ?_
    · exact hk77 _ _ f_σ
    · refine pf_chk (fun v1 => ?_)
      refine pf_up2 (c := 106) f_σ (rfl) (Or.inl (⟨by omega, by omega⟩)) (fun s2 f_s2 => ?_)
      refine pf_chk (fun v3 => ?_)
      refine pf_up2 (c := 106) f_s2 (rfl) (Or.inl (⟨by omega, by omega⟩)) (fun s4 f_s4 => ?_)
      refine pf_bnd (fr_X4_worthAnew hF) (ww_65) f_s4 (fun r5 s6 f_s6 => ?_)
      refine pf_chk (fun v7 => ?_)
      refine pf_up2 (c := 119) f_s6 (rfl) (Or.inr (Or.inr (Or.inl (⟨by omega, by omega⟩)))) (fun s8 f_s8 => ?_)
      refine pf_bnd (fr_X4_worthIn hF) (ww_66) f_s8 (fun r9 s10 f_s10 => ?_)
      refine pf_up2 (c := 120) f_s10 (rfl) (Or.inr (Or.inr (Or.inl (⟨by omega, by omega⟩)))) (fun s11 f_s11 => ?_)
      exact ih _ _ f_s11
set_option maxRecDepth 100000 in
theorem fl_X4_two_205 {F : Nat} (hF : 1000 ≤ F) {τ : Mem} : ∀ (N : Nat) (x8 : Int32) (σ : Mem), fr wf_68 τ σ → pf wf_68 (lp_X4_two_205 F N x8 σ) τ := by
  intro N
  induction N with
  | zero => intro _ _ _; exact pf_none rfl
  | succ N ih =>
    intro x8 σ f_σ
    rw [lp_X4_two_205_s]
    refine pf_ite ?_ ?_
    · exact pf_ret f_σ
    · refine pf_bnd (fr_X4_areResting hF) (fun _ h => h.elim) f_σ (fun r1 s2 f_s2 => ?_)
      refine pf_ite ?_ ?_
      · exact ih _ _ f_s2
      · exact pf_ret f_s2
set_option maxRecDepth 100000 in
theorem fl_X4_two_77 {F : Nat} (hF : 1000 ≤ F) {x1 : Int32} {x2 : Int32} {x3 : Int32} {x4 : Int32} {x6 : Int32} {x7 : Int32} {τ : Mem} : ∀ (N : Nat) (x8 : Int32) (σ : Mem), fr wf_68 τ σ → pf wf_68 (lp_X4_two_77 F x1 x2 x3 x4 x6 x7 N x8 σ) τ := by
  intro N
  induction N with
  | zero => intro _ _ _; exact pf_none rfl
  | succ N ih =>
    intro x8 σ f_σ
    rw [lp_X4_two_77_s]
    refine pf_ite ?_ ?_
    · refine pf_chk (fun v1 => ?_)
      refine pf_up2 (c := 106) f_σ (rfl) (Or.inl (⟨by omega, by omega⟩)) (fun s2 f_s2 => ?_)
      refine pf_chk (fun v3 => ?_)
      refine pf_up2 (c := 106) f_s2 (rfl) (Or.inl (⟨by omega, by omega⟩)) (fun s4 f_s4 => ?_)
      exact fl_X4_two_205 hF _ _ _ f_s4
    · exact fl_X4_two_89 hF ih _ _ _ f_σ
set_option maxRecDepth 100000 in
theorem fr_X4_two {F : Nat} (hF : 1000 ≤ F) {x1 : Int32} {x2 : Int32} {x3 : Int32} {x4 : Int32} {σ : Mem} : pf wf_68 (f_X4_two F x1 x2 x3 x4 σ) σ := by
  have f_σ : fr wf_68 σ σ := fr_rf
  rw [f_X4_two_e]
  refine pf_up2 (c := 1010) f_σ (rfl) (Or.inr (Or.inr (Or.inr (⟨by omega, by omega⟩)))) (fun s1 f_s1 => ?_)
  refine pf_bnd (fr_X4_areTwo hF) (fun _ h => h.elim) f_s1 (fun r2 s3 f_s3 => ?_)
  refine pf_ite ?_ ?_
  · rw [j_X4_two_33_e]
    rw [j_X4_two_34_e]
    refine pf_ite ?_ ?_
    · refine pf_chk (fun v4 => ?_)
      refine pf_lt (fun z5 _ => ?_)
      refine pf_chk (fun v6 => ?_)
      refine pf_lt (fun z7 _ => ?_)
      exact fl_X4_two_77 hF _ _ _ f_s3
    · refine pf_bnd (fr_X4_refuse hF) (ww_67) f_s3 (fun r8 s9 f_s9 => ?_)
      exact pf_ret f_s9
  · refine pf_bnd (fr_X4_isHour hF) (fun _ h => h.elim) f_s3 (fun r10 s11 f_s11 => ?_)
    refine pf_ite ?_ ?_
    · rw [j_X4_two_33_e]
      rw [j_X4_two_34_e]
      refine pf_ite ?_ ?_
      · refine pf_chk (fun v12 => ?_)
        refine pf_lt (fun z13 _ => ?_)
        refine pf_chk (fun v14 => ?_)
        refine pf_lt (fun z15 _ => ?_)
        exact fl_X4_two_77 hF _ _ _ f_s11
      · refine pf_bnd (fr_X4_refuse hF) (ww_67) f_s11 (fun r16 s17 f_s17 => ?_)
        exact pf_ret f_s17
    · refine pf_bnd (fr_X4_wrongNumber hF) (fun _ h => h.elim) f_s11 (fun r18 s19 f_s19 => ?_)
      rw [j_X4_two_34_e]
      refine pf_ite ?_ ?_
      · refine pf_chk (fun v20 => ?_)
        refine pf_lt (fun z21 _ => ?_)
        refine pf_chk (fun v22 => ?_)
        refine pf_lt (fun z23 _ => ?_)
        exact fl_X4_two_77 hF _ _ _ f_s19
      · refine pf_bnd (fr_X4_refuse hF) (ww_67) f_s19 (fun r24 s25 f_s25 => ?_)
        exact pf_ret f_s25
set_option maxRecDepth 100000 in
theorem fl_X4_isRow_8 {F : Nat} (hF : 1000 ≤ F) {x1 : Int32} {τ : Mem} : ∀ (N : Nat) (x2 : Int32) (x3 : Int32) (σ : Mem), fr wf_48 τ σ → pf wf_48 (lp_X4_isRow_8 F x1 N x2 x3 σ) τ := by
  intro N
  induction N with
  | zero => intro _ _ _ _; exact pf_none rfl
  | succ N ih =>
    intro x2 x3 σ f_σ
    rw [lp_X4_isRow_8_s]
    refine pf_ite ?_ ?_
    · refine pf_bz ?_
      exact pf_ret f_σ
    · refine pf_bnd (fr_X4_ownerIn hF) (ww_37) f_σ (fun r1 s2 f_s2 => ?_)
      refine pf_ite ?_ ?_
      · rw [j_X4_isRow_53_e]
        rw [j_X4_isRow_54_e]
        exact ih _ _ _ f_s2
      · refine pf_chk (fun v3 => ?_)
        refine pf_ite ?_ ?_
        · rw [j_X4_isRow_46_e]
          refine pf_ite ?_ ?_
          · rw [j_X4_isRow_54_e]
            exact ih _ _ _ f_s2
          · rw [j_X4_isRow_53_e]
            rw [j_X4_isRow_54_e]
            exact ih _ _ _ f_s2
        · rw [j_X4_isRow_46_e]
          refine pf_ite ?_ ?_
          · rw [j_X4_isRow_54_e]
            exact ih _ _ _ f_s2
          · rw [j_X4_isRow_53_e]
            rw [j_X4_isRow_54_e]
            exact ih _ _ _ f_s2
set_option maxRecDepth 100000 in
theorem fr_X4_isRow {F : Nat} (hF : 1000 ≤ F) {x1 : Int32} {σ : Mem} : pf wf_48 (f_X4_isRow F x1 σ) σ := by
  have f_σ : fr wf_48 σ σ := fr_rf
  rw [f_X4_isRow_e]
  refine pf_bnd (fr_X4_layBrings hF) (ww_36) f_σ (fun r1 s2 f_s2 => ?_)
  exact fl_X4_isRow_8 hF _ _ _ _ f_s2
def wf_69 (c : Nat) : Prop := (108 ≤ c ∧ c ≤ 110) ∨ (1008 ≤ c ∧ c ≤ 1008) ∨ (1010 ≤ c ∧ c ≤ 1010)
theorem ww_68 : ∀ c, wf_48 c → wf_69 c := fun c h => Or.inl (⟨Nat.le_trans (by omega) (h).1, Nat.le_trans (h).2 (by omega)⟩)
theorem ww_69 : ∀ c, wf_45 c → wf_69 c := fun c h => Or.inl (⟨Nat.le_trans (by omega) (h).1, Nat.le_trans (h).2 (by omega)⟩)
set_option maxRecDepth 100000 in
theorem fl_X4_whichLaw_30 {F : Nat} (hF : 1000 ≤ F) {x1 : Int32} {τ : Mem} : ∀ (N : Nat) (x2 : Int32) (x3 : Int32) (σ : Mem), fr wf_69 τ σ → pf wf_69 (lp_X4_whichLaw_30 F x1 N x2 x3 σ) τ := by
  intro N
  induction N with
  | zero => intro _ _ _ _; exact pf_none rfl
  | succ N ih =>
    intro x2 x3 σ f_σ
    rw [lp_X4_whichLaw_30_s]
    refine pf_ite ?_ ?_
    · refine pf_up2 (c := 1008) f_σ (rfl) (Or.inr (Or.inl (⟨by omega, by omega⟩))) (fun s1 f_s1 => ?_)
      exact pf_ret f_s1
    · refine pf_up2 (c := 1008) f_σ (rfl) (Or.inr (Or.inl (⟨by omega, by omega⟩))) (fun s2 f_s2 => ?_)
      refine pf_bnd (fr_X4_isRow hF) (ww_68) f_s2 (fun r3 s4 f_s4 => ?_)
      refine pf_ite ?_ ?_
      · rw [j_X4_whichLaw_56_e]
        exact ih _ _ _ f_s4
      · rw [j_X4_whichLaw_56_e]
        exact ih _ _ _ f_s4
set_option maxRecDepth 100000 in
theorem fr_X4_whichLaw {F : Nat} (hF : 1000 ≤ F) {σ : Mem} : pf wf_69 (f_X4_whichLaw F σ) σ := by
  have f_σ : fr wf_69 σ σ := fr_rf
  rw [f_X4_whichLaw_e]
  refine pf_up2 (c := 1010) f_σ (rfl) (Or.inr (Or.inr (⟨by omega, by omega⟩))) (fun s1 f_s1 => ?_)
  refine pf_ite ?_ ?_
  · exact fl_X4_whichLaw_30 hF _ _ _ _ f_s1
  · refine pf_bnd (fr_X4_refuse hF) (ww_69) f_s1 (fun r2 s3 f_s3 => ?_)
    exact pf_ret f_s3
def wf_70 (c : Nat) : Prop := (102 ≤ c ∧ c ≤ 110) ∨ (115 ≤ c ∧ c ≤ 115) ∨ (1001 ≤ c ∧ c ≤ 1001) ∨ (1003 ≤ c ∧ c ≤ 1003) ∨ (1008 ≤ c ∧ c ≤ 1010) ∨ (1025 ≤ c ∧ c ≤ 1027)
theorem ww_70 : ∀ c, wf_58 c → wf_70 c := fun c h => h.elim (fun a => Or.inl (⟨Nat.le_trans (by omega) (a).1, Nat.le_trans (a).2 (by omega)⟩)) (fun b0 => b0.elim (fun a => Or.inr (Or.inr (Or.inl (a)))) (fun b1 => b1.elim (fun a => Or.inr (Or.inr (Or.inr (Or.inl (a))))) (fun b2 => b2.elim (fun a => Or.inr (Or.inr (Or.inr (Or.inr (Or.inl (⟨Nat.le_trans (by omega) (a).1, Nat.le_trans (a).2 (by omega)⟩)))))) (fun b3 => Or.inr (Or.inr (Or.inr (Or.inr (Or.inr (b3)))))))))
theorem ww_71 : ∀ c, wf_48 c → wf_70 c := fun c h => Or.inl (⟨Nat.le_trans (by omega) (h).1, Nat.le_trans (h).2 (by omega)⟩)
theorem ww_72 : ∀ c, wf_57 c → wf_70 c := fun c h => h.elim (fun a => Or.inr (Or.inl (a))) (fun b0 => Or.inr (Or.inr (Or.inr (Or.inr (Or.inr (b0))))))
theorem ww_73 : ∀ c, wf_45 c → wf_70 c := fun c h => Or.inl (⟨Nat.le_trans (by omega) (h).1, Nat.le_trans (h).2 (by omega)⟩)
set_option maxRecDepth 100000 in
theorem fl_X4_whichKind_77 {F : Nat} (hF : 1000 ≤ F) {x1 : Int32} {x2 : Int32} {x3 : Int32} {τ : Mem} : ∀ (N : Nat) (x5 : Int32) (x6 : Int32) (σ : Mem), fr wf_70 τ σ → pf wf_70 (lp_X4_whichKind_77 F x1 x2 x3 N x5 x6 σ) τ := by
  intro N
  induction N with
  | zero => intro _ _ _ _; exact pf_none rfl
  | succ N ih =>
    intro x5 x6 σ f_σ
    rw [lp_X4_whichKind_77_s]
    refine pf_ite ?_ ?_
    · rw [j_X4_whichKind_90_e]
      refine pf_ite ?_ ?_
      · refine pf_bnd (fr_X4_again hF) (ww_70) f_σ (fun r1 s2 f_s2 => ?_)
        exact pf_ret f_s2
      · refine pf_ite ?_ ?_
        · rw [j_X4_whichKind_113_e]
          refine pf_chk (fun v3 => ?_)
          refine pf_up2 (c := 104) f_σ (rfl) (Or.inl (⟨by omega, by omega⟩)) (fun s4 f_s4 => ?_)
          refine pf_ite ?_ ?_
          · rw [j_X4_whichKind_135_e]
            refine pf_chk (fun v5 => ?_)
            refine pf_up2 (c := 105) f_s4 (rfl) (Or.inl (⟨by omega, by omega⟩)) (fun s6 f_s6 => ?_)
            refine pf_bnd (fr_X4_isRow hF) (ww_71) f_s6 (fun r7 s8 f_s8 => ?_)
            refine pf_ite ?_ ?_
            · rw [j_X4_whichKind_154_e]
              exact ih _ _ _ f_s8
            · rw [j_X4_whichKind_154_e]
              exact ih _ _ _ f_s8
          · refine pf_chk (fun v9 => ?_)
            rw [j_X4_whichKind_135_e]
            refine pf_chk (fun v10 => ?_)
            refine pf_up2 (c := 105) f_s4 (rfl) (Or.inl (⟨by omega, by omega⟩)) (fun s11 f_s11 => ?_)
            refine pf_bnd (fr_X4_isRow hF) (ww_71) f_s11 (fun r12 s13 f_s13 => ?_)
            refine pf_ite ?_ ?_
            · rw [j_X4_whichKind_154_e]
              exact ih _ _ _ f_s13
            · rw [j_X4_whichKind_154_e]
              exact ih _ _ _ f_s13
        · refine pf_chk (fun v14 => ?_)
          rw [j_X4_whichKind_113_e]
          refine pf_chk (fun v15 => ?_)
          refine pf_up2 (c := 104) f_σ (rfl) (Or.inl (⟨by omega, by omega⟩)) (fun s16 f_s16 => ?_)
          refine pf_ite ?_ ?_
          · rw [j_X4_whichKind_135_e]
            refine pf_chk (fun v17 => ?_)
            refine pf_up2 (c := 105) f_s16 (rfl) (Or.inl (⟨by omega, by omega⟩)) (fun s18 f_s18 => ?_)
            refine pf_bnd (fr_X4_isRow hF) (ww_71) f_s18 (fun r19 s20 f_s20 => ?_)
            refine pf_ite ?_ ?_
            · rw [j_X4_whichKind_154_e]
              exact ih _ _ _ f_s20
            · rw [j_X4_whichKind_154_e]
              exact ih _ _ _ f_s20
          · refine pf_chk (fun v21 => ?_)
            rw [j_X4_whichKind_135_e]
            refine pf_chk (fun v22 => ?_)
            refine pf_up2 (c := 105) f_s16 (rfl) (Or.inl (⟨by omega, by omega⟩)) (fun s23 f_s23 => ?_)
            refine pf_bnd (fr_X4_isRow hF) (ww_71) f_s23 (fun r24 s25 f_s25 => ?_)
            refine pf_ite ?_ ?_
            · rw [j_X4_whichKind_154_e]
              exact ih _ _ _ f_s25
            · rw [j_X4_whichKind_154_e]
              exact ih _ _ _ f_s25
    · rw [j_X4_whichKind_90_e]
      refine pf_ite ?_ ?_
      · refine pf_bnd (fr_X4_again hF) (ww_70) f_σ (fun r26 s27 f_s27 => ?_)
        exact pf_ret f_s27
      · refine pf_ite ?_ ?_
        · rw [j_X4_whichKind_113_e]
          refine pf_chk (fun v28 => ?_)
          refine pf_up2 (c := 104) f_σ (rfl) (Or.inl (⟨by omega, by omega⟩)) (fun s29 f_s29 => ?_)
          refine pf_ite ?_ ?_
          · rw [j_X4_whichKind_135_e]
            refine pf_chk (fun v30 => ?_)
            refine pf_up2 (c := 105) f_s29 (rfl) (Or.inl (⟨by omega, by omega⟩)) (fun s31 f_s31 => ?_)
            refine pf_bnd (fr_X4_isRow hF) (ww_71) f_s31 (fun r32 s33 f_s33 => ?_)
            refine pf_ite ?_ ?_
            · rw [j_X4_whichKind_154_e]
              exact ih _ _ _ f_s33
            · rw [j_X4_whichKind_154_e]
              exact ih _ _ _ f_s33
          · refine pf_chk (fun v34 => ?_)
            rw [j_X4_whichKind_135_e]
            refine pf_chk (fun v35 => ?_)
            refine pf_up2 (c := 105) f_s29 (rfl) (Or.inl (⟨by omega, by omega⟩)) (fun s36 f_s36 => ?_)
            refine pf_bnd (fr_X4_isRow hF) (ww_71) f_s36 (fun r37 s38 f_s38 => ?_)
            refine pf_ite ?_ ?_
            · rw [j_X4_whichKind_154_e]
              exact ih _ _ _ f_s38
            · rw [j_X4_whichKind_154_e]
              exact ih _ _ _ f_s38
        · refine pf_chk (fun v39 => ?_)
          rw [j_X4_whichKind_113_e]
          refine pf_chk (fun v40 => ?_)
          refine pf_up2 (c := 104) f_σ (rfl) (Or.inl (⟨by omega, by omega⟩)) (fun s41 f_s41 => ?_)
          refine pf_ite ?_ ?_
          · rw [j_X4_whichKind_135_e]
            refine pf_chk (fun v42 => ?_)
            refine pf_up2 (c := 105) f_s41 (rfl) (Or.inl (⟨by omega, by omega⟩)) (fun s43 f_s43 => ?_)
            refine pf_bnd (fr_X4_isRow hF) (ww_71) f_s43 (fun r44 s45 f_s45 => ?_)
            refine pf_ite ?_ ?_
            · rw [j_X4_whichKind_154_e]
              exact ih _ _ _ f_s45
            · rw [j_X4_whichKind_154_e]
              exact ih _ _ _ f_s45
          · refine pf_chk (fun v46 => ?_)
            rw [j_X4_whichKind_135_e]
            refine pf_chk (fun v47 => ?_)
            refine pf_up2 (c := 105) f_s41 (rfl) (Or.inl (⟨by omega, by omega⟩)) (fun s48 f_s48 => ?_)
            refine pf_bnd (fr_X4_isRow hF) (ww_71) f_s48 (fun r49 s50 f_s50 => ?_)
            refine pf_ite ?_ ?_
            · rw [j_X4_whichKind_154_e]
              exact ih _ _ _ f_s50
            · rw [j_X4_whichKind_154_e]
              exact ih _ _ _ f_s50
set_option maxRecDepth 100000 in
theorem fr_X4_whichKind {F : Nat} (hF : 1000 ≤ F) {x1 : Int32} {x2 : Int32} {x3 : Int32} {σ : Mem} : pf wf_70 (f_X4_whichKind F x1 x2 x3 σ) σ := by
  have f_σ : fr wf_70 σ σ := fr_rf
  rw [f_X4_whichKind_e]
  refine pf_up2 (c := 1010) f_σ (rfl) (Or.inr (Or.inr (Or.inr (Or.inr (Or.inl (⟨by omega, by omega⟩)))))) (fun s1 f_s1 => ?_)
  refine pf_bnd (fr_X4_isLooker hF) (fun _ h => h.elim) f_s1 (fun r2 s3 f_s3 => ?_)
  refine pf_ite ?_ ?_
  · rw [j_X4_whichKind_25_e]
    refine pf_bnd (fr_X4_wrongBit hF) (fun _ h => h.elim) f_s3 (fun r4 s5 f_s5 => ?_)
    refine pf_ite ?_ ?_
    · refine pf_ite ?_ ?_
      · rw [j_X4_whichKind_51_e]
        rw [j_X4_whichKind_53_e]
        refine pf_ite ?_ ?_
        · refine pf_bnd (fr_X4_think hF) (ww_72) f_s5 (fun r6 s7 f_s7 => ?_)
          exact fl_X4_whichKind_77 hF _ _ _ _ f_s7
        · refine pf_bnd (fr_X4_refuse hF) (ww_73) f_s5 (fun r8 s9 f_s9 => ?_)
          exact pf_ret f_s9
      · rw [j_X4_whichKind_53_e]
        refine pf_ite ?_ ?_
        · refine pf_bnd (fr_X4_think hF) (ww_72) f_s5 (fun r10 s11 f_s11 => ?_)
          exact fl_X4_whichKind_77 hF _ _ _ _ f_s11
        · refine pf_bnd (fr_X4_refuse hF) (ww_73) f_s5 (fun r12 s13 f_s13 => ?_)
          exact pf_ret f_s13
    · rw [j_X4_whichKind_51_e]
      rw [j_X4_whichKind_53_e]
      refine pf_ite ?_ ?_
      · refine pf_bnd (fr_X4_think hF) (ww_72) f_s5 (fun r14 s15 f_s15 => ?_)
        exact fl_X4_whichKind_77 hF _ _ _ _ f_s15
      · refine pf_bnd (fr_X4_refuse hF) (ww_73) f_s5 (fun r16 s17 f_s17 => ?_)
        exact pf_ret f_s17
  · refine pf_bnd (fr_X4_wrongNumber hF) (fun _ h => h.elim) f_s3 (fun r18 s19 f_s19 => ?_)
    rw [j_X4_whichKind_25_e]
    refine pf_bnd (fr_X4_wrongBit hF) (fun _ h => h.elim) f_s19 (fun r20 s21 f_s21 => ?_)
    refine pf_ite ?_ ?_
    · refine pf_ite ?_ ?_
      · rw [j_X4_whichKind_51_e]
        rw [j_X4_whichKind_53_e]
        refine pf_ite ?_ ?_
        · refine pf_bnd (fr_X4_think hF) (ww_72) f_s21 (fun r22 s23 f_s23 => ?_)
          exact fl_X4_whichKind_77 hF _ _ _ _ f_s23
        · refine pf_bnd (fr_X4_refuse hF) (ww_73) f_s21 (fun r24 s25 f_s25 => ?_)
          exact pf_ret f_s25
      · rw [j_X4_whichKind_53_e]
        refine pf_ite ?_ ?_
        · refine pf_bnd (fr_X4_think hF) (ww_72) f_s21 (fun r26 s27 f_s27 => ?_)
          exact fl_X4_whichKind_77 hF _ _ _ _ f_s27
        · refine pf_bnd (fr_X4_refuse hF) (ww_73) f_s21 (fun r28 s29 f_s29 => ?_)
          exact pf_ret f_s29
    · rw [j_X4_whichKind_51_e]
      rw [j_X4_whichKind_53_e]
      refine pf_ite ?_ ?_
      · refine pf_bnd (fr_X4_think hF) (ww_72) f_s21 (fun r30 s31 f_s31 => ?_)
        exact fl_X4_whichKind_77 hF _ _ _ _ f_s31
      · refine pf_bnd (fr_X4_refuse hF) (ww_73) f_s21 (fun r32 s33 f_s33 => ?_)
        exact pf_ret f_s33
set_option maxRecDepth 100000 in
theorem fl_X4_ill_140 {F : Nat} (hF : 1000 ≤ F) {x1 : Int32} {x2 : Int32} {x3 : Int32} {x4 : Int32} {x5 : Int32} {y7 : Int64} {y9 : Int64} {x11 : Int32} {k126 : Int64 → Int32 → Mem → Option (Int64 × Mem)} {τ : Mem} (hk126 : ∀ (y7 : Int64) (x11 : Int32) (σ : Mem), fr wf_61 τ σ → pf wf_61 (k126 y7 x11 σ) τ) : ∀ (N : Nat) (y12 : Int64) (x14 : Int32) (σ : Mem), fr wf_61 τ σ → pf wf_61 (lp_X4_ill_140 F k126 x1 x2 x3 x4 x5 y7 y9 x11 N y12 x14 σ) τ := by
  intro N
  induction N with
  | zero => intro _ _ _ _; exact pf_none rfl
  | succ N ih =>
    intro y12 x14 σ f_σ
    rw [lp_X4_ill_140_s]
    refine pf_ite ?_ ?_
    · refine pf_bnd (fr_X4_ownerIn hF) (ww_52) f_σ (fun r1 s2 f_s2 => ?_)
      refine pf_chk (fun v3 => ?_)
      refine pf_bnd (fr_X4_onesOf hF) (fun _ h => h.elim) f_s2 (fun r4 s5 f_s5 => ?_)
      refine pf_bnd (fr_X4_held hF) (fun _ h => h.elim) f_s5 (fun r6 s7 f_s7 => ?_)
      refine pf_chk (fun v8 => ?_)
      refine pf_up2 (c := 110) f_s7 (rfl) (Or.inl (⟨by omega, by omega⟩)) (fun s9 f_s9 => ?_)
      refine pf_bnd (fr_X4_ownerLooked hF) (fun _ h => h.elim) f_s9 (fun r10 s11 f_s11 => ?_)
      refine pf_ite ?_ ?_
      · rw [j_X4_ill_237_e]
        exact hk126 _ _ _ f_s11
      · rw [j_X4_ill_237_e]
        exact hk126 _ _ _ f_s11
    · refine pf_bnd (fr_X4_hasBit hF) (fun _ h => h.elim) f_σ (fun r12 s13 f_s13 => ?_)
      refine pf_ite ?_ ?_
      · rw [j_X4_ill_167_e]
        exact ih _ _ _ f_s13
      · rw [j_X4_ill_167_e]
        exact ih _ _ _ f_s13
set_option maxRecDepth 100000 in
theorem fl_X4_ill_126 {F : Nat} (hF : 1000 ≤ F) {x1 : Int32} {x2 : Int32} {x3 : Int32} {x4 : Int32} {x5 : Int32} {y9 : Int64} {τ : Mem} : ∀ (N : Nat) (y7 : Int64) (x11 : Int32) (σ : Mem), fr wf_61 τ σ → pf wf_61 (lp_X4_ill_126 F x1 x2 x3 x4 x5 y9 N y7 x11 σ) τ := by
  intro N
  induction N with
  | zero => intro _ _ _ _; exact pf_none rfl
  | succ N ih =>
    intro y7 x11 σ f_σ
    rw [lp_X4_ill_126_s]
    refine pf_ite ?_ ?_
    · refine pf_bnd (fr_X4_partOf hF) (fun _ h => h.elim) f_σ (fun r1 s2 f_s2 => ?_)
      exact pf_ret f_s2
    · exact fl_X4_ill_140 hF ih _ _ _ _ f_σ
set_option maxRecDepth 100000 in
theorem fl_X4_ill_103 {F : Nat} (hF : 1000 ≤ F) {x1 : Int32} {x2 : Int32} {x3 : Int32} {x4 : Int32} {x5 : Int32} {y7 : Int64} {τ : Mem} : ∀ (N : Nat) (y9 : Int64) (x11 : Int32) (σ : Mem), fr wf_61 τ σ → pf wf_61 (lp_X4_ill_103 F x1 x2 x3 x4 x5 y7 N y9 x11 σ) τ := by
  intro N
  induction N with
  | zero => intro _ _ _ _; exact pf_none rfl
  | succ N ih =>
    intro y9 x11 σ f_σ
    rw [lp_X4_ill_103_s]
    refine pf_ite ?_ ?_
    · exact fl_X4_ill_126 hF _ _ _ _ f_σ
    · refine pf_lt (fun z1 _ => ?_)
      exact ih _ _ _ f_σ
set_option maxRecDepth 100000 in
theorem fr_X4_ill {F : Nat} (hF : 1000 ≤ F) {x1 : Int32} {x2 : Int32} {x3 : Int32} {x4 : Int32} {x5 : Int32} {σ : Mem} : pf wf_61 (f_X4_ill F x1 x2 x3 x4 x5 σ) σ := by
  have f_σ : fr wf_61 σ σ := fr_rf
  rw [f_X4_ill_e]
  refine pf_up2 (c := 1010) f_σ (rfl) (Or.inr (⟨by omega, by omega⟩)) (fun s1 f_s1 => ?_)
  refine pf_bnd (fr_X4_isLooker hF) (fun _ h => h.elim) f_s1 (fun r2 s3 f_s3 => ?_)
  refine pf_ite ?_ ?_
  · rw [j_X4_ill_23_e]
    rw [j_X4_ill_63_e]
    refine pf_bnd (fr_X4_wrongBit hF) (fun _ h => h.elim) f_s3 (fun r4 s5 f_s5 => ?_)
    refine pf_ite ?_ ?_
    · refine pf_bnd (fr_X4_layBrings hF) (ww_51) f_s5 (fun r6 s7 f_s7 => ?_)
      exact fl_X4_ill_103 hF _ _ _ _ f_s7
    · refine pf_bnd (fr_X4_refuse hF) (ww_50) f_s5 (fun r8 s9 f_s9 => ?_)
      exact pf_ret f_s9
  · refine pf_bnd (fr_X4_isView hF) (fun _ h => h.elim) f_s3 (fun r10 s11 f_s11 => ?_)
    refine pf_ite ?_ ?_
    · rw [j_X4_ill_23_e]
      rw [j_X4_ill_63_e]
      refine pf_bnd (fr_X4_wrongBit hF) (fun _ h => h.elim) f_s11 (fun r12 s13 f_s13 => ?_)
      refine pf_ite ?_ ?_
      · refine pf_bnd (fr_X4_layBrings hF) (ww_51) f_s13 (fun r14 s15 f_s15 => ?_)
        exact fl_X4_ill_103 hF _ _ _ _ f_s15
      · refine pf_bnd (fr_X4_refuse hF) (ww_50) f_s13 (fun r16 s17 f_s17 => ?_)
        exact pf_ret f_s17
    · refine pf_ite ?_ ?_
      · rw [j_X4_ill_39_e]
        rw [j_X4_ill_63_e]
        refine pf_bnd (fr_X4_wrongBit hF) (fun _ h => h.elim) f_s11 (fun r18 s19 f_s19 => ?_)
        refine pf_ite ?_ ?_
        · refine pf_bnd (fr_X4_layBrings hF) (ww_51) f_s19 (fun r20 s21 f_s21 => ?_)
          exact fl_X4_ill_103 hF _ _ _ _ f_s21
        · refine pf_bnd (fr_X4_refuse hF) (ww_50) f_s19 (fun r22 s23 f_s23 => ?_)
          exact pf_ret f_s23
      · refine pf_ite ?_ ?_
        · refine pf_ite ?_ ?_
          · rw [j_X4_ill_59_e]
            rw [j_X4_ill_63_e]
            refine pf_bnd (fr_X4_wrongBit hF) (fun _ h => h.elim) f_s11 (fun r24 s25 f_s25 => ?_)
            refine pf_ite ?_ ?_
            · refine pf_bnd (fr_X4_layBrings hF) (ww_51) f_s25 (fun r26 s27 f_s27 => ?_)
              exact fl_X4_ill_103 hF _ _ _ _ f_s27
            · refine pf_bnd (fr_X4_refuse hF) (ww_50) f_s25 (fun r28 s29 f_s29 => ?_)
              exact pf_ret f_s29
          · refine pf_ite ?_ ?_
            · rw [j_X4_ill_63_e]
              refine pf_bnd (fr_X4_wrongBit hF) (fun _ h => h.elim) f_s11 (fun r30 s31 f_s31 => ?_)
              refine pf_ite ?_ ?_
              · refine pf_bnd (fr_X4_layBrings hF) (ww_51) f_s31 (fun r32 s33 f_s33 => ?_)
                exact fl_X4_ill_103 hF _ _ _ _ f_s33
              · refine pf_bnd (fr_X4_refuse hF) (ww_50) f_s31 (fun r34 s35 f_s35 => ?_)
                exact pf_ret f_s35
            · rw [j_X4_ill_59_e]
              rw [j_X4_ill_63_e]
              refine pf_bnd (fr_X4_wrongBit hF) (fun _ h => h.elim) f_s11 (fun r36 s37 f_s37 => ?_)
              refine pf_ite ?_ ?_
              · refine pf_bnd (fr_X4_layBrings hF) (ww_51) f_s37 (fun r38 s39 f_s39 => ?_)
                exact fl_X4_ill_103 hF _ _ _ _ f_s39
              · refine pf_bnd (fr_X4_refuse hF) (ww_50) f_s37 (fun r40 s41 f_s41 => ?_)
                exact pf_ret f_s41
        · rw [j_X4_ill_39_e]
          rw [j_X4_ill_63_e]
          refine pf_bnd (fr_X4_wrongBit hF) (fun _ h => h.elim) f_s11 (fun r42 s43 f_s43 => ?_)
          refine pf_ite ?_ ?_
          · refine pf_bnd (fr_X4_layBrings hF) (ww_51) f_s43 (fun r44 s45 f_s45 => ?_)
            exact fl_X4_ill_103 hF _ _ _ _ f_s45
          · refine pf_bnd (fr_X4_refuse hF) (ww_50) f_s43 (fun r46 s47 f_s47 => ?_)
            exact pf_ret f_s47
set_option maxRecDepth 100000 in
theorem fl_X4_standing_4 {F : Nat} (hF : 1000 ≤ F) {x1 : Int32} {τ : Mem} : ∀ (N : Nat) (x2 : Int32) (x3 : Int32) (σ : Mem), fr wf_1 τ σ → pf wf_1 (lp_X4_standing_4 F x1 N x2 x3 σ) τ := by
  intro N
  induction N with
  | zero => intro _ _ _ _; exact pf_none rfl
  | succ N ih =>
    intro x2 x3 σ f_σ
    rw [lp_X4_standing_4_s]
    refine pf_ite ?_ ?_
    · exact pf_ret f_σ
    · refine pf_chk (fun v1 => ?_)
      refine pf_ite ?_ ?_
      · rw [j_X4_standing_32_e]
        exact ih _ _ _ f_σ
      · rw [j_X4_standing_32_e]
        exact ih _ _ _ f_σ
set_option maxRecDepth 100000 in
theorem fr_X4_standing {F : Nat} (hF : 1000 ≤ F) {x1 : Int32} {σ : Mem} : pf wf_1 (f_X4_standing F x1 σ) σ := by
  have f_σ : fr wf_1 σ σ := fr_rf
  rw [f_X4_standing_e]
  exact fl_X4_standing_4 hF _ _ _ _ f_σ
set_option maxRecDepth 100000 in
theorem fl_X4_busy_26 {F : Nat} (hF : 1000 ≤ F) {x1 : Int32} {τ : Mem} : ∀ (N : Nat) (x2 : Int32) (x3 : Int32) (σ : Mem), fr wf_60 τ σ → pf wf_60 (lp_X4_busy_26 F x1 N x2 x3 σ) τ := by
  intro N
  induction N with
  | zero => intro _ _ _ _; exact pf_none rfl
  | succ N ih =>
    intro x2 x3 σ f_σ
    rw [lp_X4_busy_26_s]
    refine pf_ite ?_ ?_
    · refine pf_ite ?_ ?_
      · exact pf_ret f_σ
      · refine pf_bnd (fr_X4_standing hF) (fun _ h => h.elim) f_σ (fun r1 s2 f_s2 => ?_)
        exact pf_ret f_s2
    · refine pf_bnd (fr_X4_standing hF) (fun _ h => h.elim) f_σ (fun r3 s4 f_s4 => ?_)
      refine pf_bnd (fr_X4_standing hF) (fun _ h => h.elim) f_s4 (fun r5 s6 f_s6 => ?_)
      refine pf_ite ?_ ?_
      · rw [j_X4_busy_50_e]
        exact ih _ _ _ f_s6
      · rw [j_X4_busy_50_e]
        exact ih _ _ _ f_s6
set_option maxRecDepth 100000 in
theorem fr_X4_busy {F : Nat} (hF : 1000 ≤ F) {x1 : Int32} {σ : Mem} : pf wf_60 (f_X4_busy F x1 σ) σ := by
  have f_σ : fr wf_60 σ σ := fr_rf
  rw [f_X4_busy_e]
  refine pf_up2 (c := 1010) f_σ (rfl) (Or.inr (⟨by omega, by omega⟩)) (fun s1 f_s1 => ?_)
  refine pf_bnd (fr_X4_in hF) (fun _ h => h.elim) f_s1 (fun r2 s3 f_s3 => ?_)
  refine pf_ite ?_ ?_
  · refine pf_bnd (fr_X4_refuse hF) (ww_49) f_s3 (fun r4 s5 f_s5 => ?_)
    exact pf_ret f_s5
  · exact fl_X4_busy_26 hF _ _ _ _ f_s3
set_option maxRecDepth 100000 in
theorem fl_X4_together_25 {F : Nat} (hF : 1000 ≤ F) {x1 : Int32} {x2 : Int32} {τ : Mem} : ∀ (N : Nat) (x3 : Int32) (x4 : Int32) (σ : Mem), fr wf_60 τ σ → pf wf_60 (lp_X4_together_25 F x1 x2 N x3 x4 σ) τ := by
  intro N
  induction N with
  | zero => intro _ _ _ _; exact pf_none rfl
  | succ N ih =>
    intro x3 x4 σ f_σ
    rw [lp_X4_together_25_s]
    refine pf_ite ?_ ?_
    · exact pf_ret f_σ
    · refine pf_chk (fun v1 => ?_)
      refine pf_lt (fun z2 _ => ?_)
      refine pf_ite ?_ ?_
      · rw [j_X4_together_76_e]
        rw [j_X4_together_77_e]
        exact ih _ _ _ f_σ
      · refine pf_chk (fun v3 => ?_)
        refine pf_ite ?_ ?_
        · rw [j_X4_together_77_e]
          exact ih _ _ _ f_σ
        · rw [j_X4_together_76_e]
          rw [j_X4_together_77_e]
          exact ih _ _ _ f_σ
set_option maxRecDepth 100000 in
theorem fr_X4_together {F : Nat} (hF : 1000 ≤ F) {x1 : Int32} {x2 : Int32} {σ : Mem} : pf wf_60 (f_X4_together F x1 x2 σ) σ := by
  have f_σ : fr wf_60 σ σ := fr_rf
  rw [f_X4_together_e]
  refine pf_up2 (c := 1010) f_σ (rfl) (Or.inr (⟨by omega, by omega⟩)) (fun s1 f_s1 => ?_)
  refine pf_bnd (fr_X4_areTwo hF) (fun _ h => h.elim) f_s1 (fun r2 s3 f_s3 => ?_)
  refine pf_ite ?_ ?_
  · refine pf_bnd (fr_X4_refuse hF) (ww_49) f_s3 (fun r4 s5 f_s5 => ?_)
    exact pf_ret f_s5
  · exact fl_X4_together_25 hF _ _ _ _ f_s3
set_option maxRecDepth 100000 in
theorem fl_X4_swapRosters_2 {F : Nat} (hF : 1000 ≤ F) {x1 : Int32} {x2 : Int32} {τ : Mem} : ∀ (N : Nat) (x3 : Int32) (σ : Mem), fr wf_55 τ σ → pf wf_55 (lp_X4_swapRosters_2 F x1 x2 N x3 σ) τ := by
  intro N
  induction N with
  | zero => intro _ _ _; exact pf_none rfl
  | succ N ih =>
    intro x3 σ f_σ
    rw [lp_X4_swapRosters_2_s]
    refine pf_ite ?_ ?_
    · exact pf_ret f_σ
    · refine pf_chk (fun v1 => ?_)
      refine pf_lt (fun z2 _ => ?_)
      refine pf_chk (fun v3 => ?_)
      refine pf_up2 (c := 106) f_σ (rfl) (⟨by omega, by omega⟩) (fun s4 f_s4 => ?_)
      refine pf_up2 (c := 106) f_s4 (rfl) (⟨by omega, by omega⟩) (fun s5 f_s5 => ?_)
      exact ih _ _ f_s5
set_option maxRecDepth 100000 in
theorem fr_X4_swapRosters {F : Nat} (hF : 1000 ≤ F) {x1 : Int32} {x2 : Int32} {σ : Mem} : pf wf_55 (f_X4_swapRosters F x1 x2 σ) σ := by
  have f_σ : fr wf_55 σ σ := fr_rf
  rw [f_X4_swapRosters_e]
  exact fl_X4_swapRosters_2 hF _ _ _ f_σ
theorem ww_74 : ∀ c, wf_55 c → wf_65 c := fun c h => Or.inl (h)
set_option maxRecDepth 100000 in
theorem fl_X4_swap_52 {F : Nat} (hF : 1000 ≤ F) {x1 : Int32} {x4 : Int32} {k37 : Int32 → Int32 → Int32 → Mem → Option (Int32 × Mem)} {τ : Mem} (hk37 : ∀ (x2 : Int32) (x3 : Int32) (x4 : Int32) (σ : Mem), fr wf_65 τ σ → pf wf_65 (k37 x2 x3 x4 σ) τ) : ∀ (N : Nat) (x2 : Int32) (x3 : Int32) (x5 : Int32) (σ : Mem), fr wf_65 τ σ → pf wf_65 (lp_X4_swap_52 F k37 x1 x4 N x2 x3 x5 σ) τ := by
  intro N
  induction N with
  | zero => intro _ _ _ _ _; exact pf_none rfl
  | succ N ih =>
    intro x2 x3 x5 σ f_σ
    rw [lp_X4_swap_52_s]
    refine pf_ite ?_ ?_
    · exact hk37 _ _ _ _ f_σ
    · refine pf_bnd (fr_X4_worthAnew hF) (ww_59) f_σ (fun r1 s2 f_s2 => ?_)
      refine pf_bnd (fr_X4_worthIn hF) (ww_62) f_s2 (fun r3 s4 f_s4 => ?_)
      refine pf_bnd (fr_X4_swapRosters hF) (ww_74) f_s4 (fun r5 s6 f_s6 => ?_)
      refine pf_bnd (fr_X4_worthAnew hF) (ww_59) f_s6 (fun r7 s8 f_s8 => ?_)
      refine pf_bnd (fr_X4_worthIn hF) (ww_62) f_s8 (fun r9 s10 f_s10 => ?_)
      refine pf_bnd (fr_X4_swapRosters hF) (ww_74) f_s10 (fun r11 s12 f_s12 => ?_)
      refine pf_ite ?_ ?_
      · rw [j_X4_swap_128_e]
        rw [j_X4_swap_129_e]
        refine pf_ite ?_ ?_
        · rw [j_X4_swap_148_e]
          refine pf_ite ?_ ?_
          · rw [j_X4_swap_160_e]
            exact ih _ _ _ _ f_s12
          · rw [j_X4_swap_160_e]
            exact ih _ _ _ _ f_s12
        · rw [j_X4_swap_148_e]
          refine pf_ite ?_ ?_
          · rw [j_X4_swap_160_e]
            exact ih _ _ _ _ f_s12
          · rw [j_X4_swap_160_e]
            exact ih _ _ _ _ f_s12
      · refine pf_ite ?_ ?_
        · rw [j_X4_swap_128_e]
          rw [j_X4_swap_129_e]
          refine pf_ite ?_ ?_
          · rw [j_X4_swap_148_e]
            refine pf_ite ?_ ?_
            · rw [j_X4_swap_160_e]
              exact ih _ _ _ _ f_s12
            · rw [j_X4_swap_160_e]
              exact ih _ _ _ _ f_s12
          · rw [j_X4_swap_148_e]
            refine pf_ite ?_ ?_
            · rw [j_X4_swap_160_e]
              exact ih _ _ _ _ f_s12
            · rw [j_X4_swap_160_e]
              exact ih _ _ _ _ f_s12
        · rw [j_X4_swap_129_e]
          refine pf_ite ?_ ?_
          · rw [j_X4_swap_148_e]
            refine pf_ite ?_ ?_
            · rw [j_X4_swap_160_e]
              exact ih _ _ _ _ f_s12
            · rw [j_X4_swap_160_e]
              exact ih _ _ _ _ f_s12
          · rw [j_X4_swap_148_e]
            refine pf_ite ?_ ?_
            · rw [j_X4_swap_160_e]
              exact ih _ _ _ _ f_s12
            · rw [j_X4_swap_160_e]
              exact ih _ _ _ _ f_s12
set_option maxRecDepth 100000 in
theorem fl_X4_swap_37 {F : Nat} (hF : 1000 ≤ F) {x1 : Int32} {τ : Mem} : ∀ (N : Nat) (x2 : Int32) (x3 : Int32) (x4 : Int32) (σ : Mem), fr wf_65 τ σ → pf wf_65 (lp_X4_swap_37 F x1 N x2 x3 x4 σ) τ := by
  intro N
  induction N with
  | zero => intro _ _ _ _ _; exact pf_none rfl
  | succ N ih =>
    intro x2 x3 x4 σ f_σ
    rw [lp_X4_swap_37_s]
    refine pf_ite ?_ ?_
    · exact pf_ret f_σ
    · exact fl_X4_swap_52 hF ih _ _ _ _ _ f_σ
set_option maxRecDepth 100000 in
theorem fr_X4_swap {F : Nat} (hF : 1000 ≤ F) {x1 : Int32} {σ : Mem} : pf wf_65 (f_X4_swap F x1 σ) σ := by
  have f_σ : fr wf_65 σ σ := fr_rf
  rw [f_X4_swap_e]
  refine pf_up2 (c := 1010) f_σ (rfl) (Or.inr (Or.inr (⟨by omega, by omega⟩))) (fun s1 f_s1 => ?_)
  refine pf_bnd (fr_X4_wrongNumber hF) (fun _ h => h.elim) f_s1 (fun r2 s3 f_s3 => ?_)
  refine pf_ite ?_ ?_
  · exact fl_X4_swap_37 hF _ _ _ _ _ f_s3
  · refine pf_bnd (fr_X4_wrongNumber hF) (fun _ h => h.elim) f_s3 (fun r4 s5 f_s5 => ?_)
    refine pf_bnd (fr_X4_refuse hF) (ww_60) f_s5 (fun r6 s7 f_s7 => ?_)
    exact pf_ret f_s7
theorem ww_75 : ∀ c, wf_46 c → wf_70 c := fun c h => Or.inl (⟨Nat.le_trans (by omega) (h).1, Nat.le_trans (h).2 (by omega)⟩)
theorem ww_76 : ∀ c, wf_47 c → wf_70 c := fun c h => Or.inl (⟨Nat.le_trans (by omega) (h).1, Nat.le_trans (h).2 (by omega)⟩)
theorem ww_77 : ∀ c, wf_55 c → wf_70 c := fun c h => Or.inl (⟨Nat.le_trans (by omega) (h).1, Nat.le_trans (h).2 (by omega)⟩)
set_option maxRecDepth 100000 in
theorem fl_X4_heir_63 {F : Nat} (hF : 1000 ≤ F) {x1 : Int32} {x2 : Int32} {x3 : Int32} {τ : Mem} : ∀ (N : Nat) (x5 : Int32) (σ : Mem), fr wf_70 τ σ → pf wf_70 (lp_X4_heir_63 F x1 x2 x3 N x5 σ) τ := by
  intro N
  induction N with
  | zero => intro _ _ _; exact pf_none rfl
  | succ N ih =>
    intro x5 σ f_σ
    rw [lp_X4_heir_63_s]
    refine pf_ite ?_ ?_
    · refine pf_bnd (fr_X4_layBrings hF) (ww_75) f_σ (fun r1 s2 f_s2 => ?_)
      refine pf_bnd (fr_X4_ownerIn hF) (ww_76) f_s2 (fun r3 s4 f_s4 => ?_)
      refine pf_bnd (fr_X4_again hF) (ww_70) f_s4 (fun r5 s6 f_s6 => ?_)
      exact pf_ret f_s6
    · refine pf_chk (fun v7 => ?_)
      refine pf_up2 (c := 107) f_σ (rfl) (Or.inl (⟨by omega, by omega⟩)) (fun s8 f_s8 => ?_)
      exact ih _ _ f_s8
set_option maxRecDepth 100000 in
theorem fr_X4_heir {F : Nat} (hF : 1000 ≤ F) {x1 : Int32} {x2 : Int32} {x3 : Int32} {σ : Mem} : pf wf_70 (f_X4_heir F x1 x2 x3 σ) σ := by
  have f_σ : fr wf_70 σ σ := fr_rf
  rw [f_X4_heir_e]
  refine pf_up2 (c := 1010) f_σ (rfl) (Or.inr (Or.inr (Or.inr (Or.inr (Or.inl (⟨by omega, by omega⟩)))))) (fun s1 f_s1 => ?_)
  refine pf_bnd (fr_X4_isLooker hF) (fun _ h => h.elim) f_s1 (fun r2 s3 f_s3 => ?_)
  refine pf_ite ?_ ?_
  · rw [j_X4_heir_31_e]
    rw [j_X4_heir_32_e]
    refine pf_ite ?_ ?_
    · refine pf_bnd (fr_X4_think hF) (ww_72) f_s3 (fun r4 s5 f_s5 => ?_)
      refine pf_bnd (fr_X4_stand hF) (ww_77) f_s5 (fun r6 s7 f_s7 => ?_)
      exact fl_X4_heir_63 hF _ _ _ f_s7
    · refine pf_bnd (fr_X4_refuse hF) (ww_73) f_s3 (fun r8 s9 f_s9 => ?_)
      exact pf_ret f_s9
  · refine pf_bnd (fr_X4_isView hF) (fun _ h => h.elim) f_s3 (fun r10 s11 f_s11 => ?_)
    refine pf_ite ?_ ?_
    · rw [j_X4_heir_31_e]
      rw [j_X4_heir_32_e]
      refine pf_ite ?_ ?_
      · refine pf_bnd (fr_X4_think hF) (ww_72) f_s11 (fun r12 s13 f_s13 => ?_)
        refine pf_bnd (fr_X4_stand hF) (ww_77) f_s13 (fun r14 s15 f_s15 => ?_)
        exact fl_X4_heir_63 hF _ _ _ f_s15
      · refine pf_bnd (fr_X4_refuse hF) (ww_73) f_s11 (fun r16 s17 f_s17 => ?_)
        exact pf_ret f_s17
    · refine pf_bnd (fr_X4_wrongNumber hF) (fun _ h => h.elim) f_s11 (fun r18 s19 f_s19 => ?_)
      rw [j_X4_heir_32_e]
      refine pf_ite ?_ ?_
      · refine pf_bnd (fr_X4_think hF) (ww_72) f_s19 (fun r20 s21 f_s21 => ?_)
        refine pf_bnd (fr_X4_stand hF) (ww_77) f_s21 (fun r22 s23 f_s23 => ?_)
        exact fl_X4_heir_63 hF _ _ _ f_s23
      · refine pf_bnd (fr_X4_refuse hF) (ww_73) f_s19 (fun r24 s25 f_s25 => ?_)
        exact pf_ret f_s25
set_option maxRecDepth 100000 in
theorem fl_X4_even_50 {F : Nat} (hF : 1000 ≤ F) {x1 : Int32} {x3 : Int32} {k37 : Int32 → Int32 → Mem → Option (Int32 × Mem)} {τ : Mem} (hk37 : ∀ (x2 : Int32) (x3 : Int32) (σ : Mem), fr wf_61 τ σ → pf wf_61 (k37 x2 x3 σ) τ) : ∀ (N : Nat) (x2 : Int32) (x4 : Int32) (σ : Mem), fr wf_61 τ σ → pf wf_61 (lp_X4_even_50 F k37 x1 x3 N x2 x4 σ) τ := by
  intro N
  induction N with
  | zero => intro _ _ _ _; exact pf_none rfl
  | succ N ih =>
    intro x2 x4 σ f_σ
    rw [lp_X4_even_50_s]
    refine pf_ite ?_ ?_
    · exact hk37 _ _ _ f_σ
    · refine pf_bnd (fr_X4_worthIn hF) (ww_52) f_σ (fun r1 s2 f_s2 => ?_)
      refine pf_bnd (fr_X4_worthIn hF) (ww_52) f_s2 (fun r3 s4 f_s4 => ?_)
      refine pf_ite ?_ ?_
      · rw [j_X4_even_81_e]
        exact ih _ _ _ f_s4
      · rw [j_X4_even_81_e]
        exact ih _ _ _ f_s4
set_option maxRecDepth 100000 in
theorem fl_X4_even_37 {F : Nat} (hF : 1000 ≤ F) {x1 : Int32} {τ : Mem} : ∀ (N : Nat) (x2 : Int32) (x3 : Int32) (σ : Mem), fr wf_61 τ σ → pf wf_61 (lp_X4_even_37 F x1 N x2 x3 σ) τ := by
  intro N
  induction N with
  | zero => intro _ _ _ _; exact pf_none rfl
  | succ N ih =>
    intro x2 x3 σ f_σ
    rw [lp_X4_even_37_s]
    refine pf_ite ?_ ?_
    · exact pf_ret f_σ
    · exact fl_X4_even_50 hF ih _ _ _ _ f_σ
set_option maxRecDepth 100000 in
theorem fr_X4_even {F : Nat} (hF : 1000 ≤ F) {x1 : Int32} {σ : Mem} : pf wf_61 (f_X4_even F x1 σ) σ := by
  have f_σ : fr wf_61 σ σ := fr_rf
  rw [f_X4_even_e]
  refine pf_up2 (c := 1010) f_σ (rfl) (Or.inr (⟨by omega, by omega⟩)) (fun s1 f_s1 => ?_)
  refine pf_bnd (fr_X4_wrongNumber hF) (fun _ h => h.elim) f_s1 (fun r2 s3 f_s3 => ?_)
  refine pf_ite ?_ ?_
  · refine pf_bnd (fr_X4_layBrings hF) (ww_51) f_s3 (fun r4 s5 f_s5 => ?_)
    exact fl_X4_even_37 hF _ _ _ _ f_s5
  · refine pf_bnd (fr_X4_wrongNumber hF) (fun _ h => h.elim) f_s3 (fun r6 s7 f_s7 => ?_)
    refine pf_bnd (fr_X4_refuse hF) (ww_50) f_s7 (fun r8 s9 f_s9 => ?_)
    exact pf_ret f_s9
def wf_71 (c : Nat) : Prop := (109 ≤ c ∧ c ≤ 110) ∨ (1010 ≤ c ∧ c ≤ 1010)
theorem ww_78 : ∀ c, wf_47 c → wf_71 c := fun c h => Or.inl (⟨Nat.le_trans (by omega) (h).1, Nat.le_trans (h).2 (by omega)⟩)
theorem ww_79 : ∀ c, wf_46 c → wf_71 c := fun c h => Or.inl (⟨Nat.le_trans (by omega) (h).1, Nat.le_trans (h).2 (by omega)⟩)
set_option maxRecDepth 100000 in
theorem fl_X4_last_33 {F : Nat} (hF : 1000 ≤ F) {x1 : Int32} {x2 : Int32} {x3 : Int32} {k13 : Int32 → Int32 → Mem → Option (Int32 × Mem)} {τ : Mem} (hk13 : ∀ (x1 : Int32) (x2 : Int32) (σ : Mem), fr wf_71 τ σ → pf wf_71 (k13 x1 x2 σ) τ) : ∀ (N : Nat) (x4 : Int32) (σ : Mem), fr wf_71 τ σ → pf wf_71 (lp_X4_last_33 F k13 x1 x2 x3 N x4 σ) τ := by
  intro N
  induction N with
  | zero => intro _ _ _; exact pf_none rfl
  | succ N ih =>
    intro x4 σ f_σ
    rw [lp_X4_last_33_s]
    refine pf_ite ?_ ?_
    · rw [j_X4_last_57_e]
      refine pf_ite ?_ ?_
      · rw [j_X4_last_69_e]
        exact hk13 _ _ _ f_σ
      · rw [j_X4_last_69_e]
        exact hk13 _ _ _ f_σ
    · refine pf_bnd (fr_X4_ownerIn hF) (ww_78) f_σ (fun r1 s2 f_s2 => ?_)
      refine pf_ite ?_ ?_
      · exact ih _ _ f_s2
      · rw [j_X4_last_57_e]
        refine pf_ite ?_ ?_
        · rw [j_X4_last_69_e]
          exact hk13 _ _ _ f_s2
        · rw [j_X4_last_69_e]
          exact hk13 _ _ _ f_s2
set_option maxRecDepth 100000 in
theorem fl_X4_last_13 {F : Nat} (hF : 1000 ≤ F) {τ : Mem} : ∀ (N : Nat) (x1 : Int32) (x2 : Int32) (σ : Mem), fr wf_71 τ σ → pf wf_71 (lp_X4_last_13 F N x1 x2 σ) τ := by
  intro N
  induction N with
  | zero => intro _ _ _ _; exact pf_none rfl
  | succ N ih =>
    intro x1 x2 σ f_σ
    rw [lp_X4_last_13_s]
    refine pf_ite ?_ ?_
    · exact pf_ret f_σ
    · refine pf_bnd (fr_X4_ownerIn hF) (ww_78) f_σ (fun r1 s2 f_s2 => ?_)
      exact fl_X4_last_33 hF ih _ _ _ f_s2
set_option maxRecDepth 100000 in
theorem fr_X4_last {F : Nat} (hF : 1000 ≤ F) {σ : Mem} : pf wf_71 (f_X4_last F σ) σ := by
  have f_σ : fr wf_71 σ σ := fr_rf
  rw [f_X4_last_e]
  refine pf_up2 (c := 1010) f_σ (rfl) (Or.inr (⟨by omega, by omega⟩)) (fun s1 f_s1 => ?_)
  refine pf_bnd (fr_X4_layBrings hF) (ww_79) f_s1 (fun r2 s3 f_s3 => ?_)
  exact fl_X4_last_13 hF _ _ _ _ f_s3
set_option maxRecDepth 100000 in
theorem fr_X4_countIn {F : Nat} (hF : 1000 ≤ F) {x1 : Int32} {x2 : Int32} {x3 : Int32} {σ : Mem} : pf wf_1 (f_X4_countIn F x1 x2 x3 σ) σ := by
  have f_σ : fr wf_1 σ σ := fr_rf
  rw [f_X4_countIn_e]
  refine pf_chk (fun v1 => ?_)
  refine pf_bnd (fr_X4_held hF) (fun _ h => h.elim) f_σ (fun r2 s3 f_s3 => ?_)
  exact pf_ret f_s3
def wf_72 (c : Nat) : Prop := (108 ≤ c ∧ c ≤ 109) ∨ (1010 ≤ c ∧ c ≤ 1010)
theorem ww_80 : ∀ c, wf_46 c → wf_72 c := fun c h => Or.inl (⟨Nat.le_trans (by omega) (h).1, Nat.le_trans (h).2 (by omega)⟩)
theorem ww_81 : ∀ c, wf_45 c → wf_72 c := fun c h => Or.inl (⟨Nat.le_trans (by omega) (h).1, Nat.le_trans (h).2 (by omega)⟩)
set_option maxRecDepth 100000 in
theorem fl_X4_joint_91 {F : Nat} (hF : 1000 ≤ F) {x1 : Int32} {x2 : Int32} {x3 : Int32} {x5 : Int32} {x6 : Int32} {x7 : Int32} {k50 : Int32 → Int32 → Mem → Option (Int32 × Mem)} {τ : Mem} (hk50 : ∀ (x5 : Int32) (x6 : Int32) (σ : Mem), fr wf_72 τ σ → pf wf_72 (k50 x5 x6 σ) τ) : ∀ (N : Nat) (x8 : Int32) (x9 : Int32) (σ : Mem), fr wf_72 τ σ → pf wf_72 (lp_X4_joint_91 F k50 x1 x2 x3 x5 x6 x7 N x8 x9 σ) τ := by
  intro N
  induction N with
  | zero => intro _ _ _ _; exact pf_none rfl
  | succ N ih =>
    intro x8 x9 σ f_σ
    rw [lp_X4_joint_91_s]
    refine pf_ite ?_ ?_
    · refine pf_ite ?_ ?_
      · rw [j_X4_joint_159_e]
        exact hk50 _ _ _ f_σ
      · rw [j_X4_joint_159_e]
        exact hk50 _ _ _ f_σ
    · refine pf_ite ?_ ?_
      · rw [j_X4_joint_135_e]
        rw [j_X4_joint_136_e]
        exact ih _ _ _ f_σ
      · refine pf_ite ?_ ?_
        · rw [j_X4_joint_131_e]
          rw [j_X4_joint_136_e]
          exact ih _ _ _ f_σ
        · refine pf_ite ?_ ?_
          · rw [j_X4_joint_131_e]
            rw [j_X4_joint_136_e]
            exact ih _ _ _ f_σ
          · refine pf_bnd (fr_X4_countIn hF) (fun _ h => h.elim) f_σ (fun r1 s2 f_s2 => ?_)
            refine pf_ite ?_ ?_
            · rw [j_X4_joint_135_e]
              rw [j_X4_joint_136_e]
              exact ih _ _ _ f_s2
            · rw [j_X4_joint_131_e]
              rw [j_X4_joint_136_e]
              exact ih _ _ _ f_s2
set_option maxRecDepth 100000 in
theorem fl_X4_joint_50 {F : Nat} (hF : 1000 ≤ F) {x1 : Int32} {x2 : Int32} {x3 : Int32} {τ : Mem} : ∀ (N : Nat) (x5 : Int32) (x6 : Int32) (σ : Mem), fr wf_72 τ σ → pf wf_72 (lp_X4_joint_50 F x1 x2 x3 N x5 x6 σ) τ := by
  intro N
  induction N with
  | zero => intro _ _ _ _; exact pf_none rfl
  | succ N ih =>
    intro x5 x6 σ f_σ
    rw [lp_X4_joint_50_s]
    refine pf_ite ?_ ?_
    · exact pf_ret f_σ
    · refine pf_bnd (fr_X4_countIn hF) (fun _ h => h.elim) f_σ (fun r1 s2 f_s2 => ?_)
      refine pf_bnd (fr_X4_countIn hF) (fun _ h => h.elim) f_s2 (fun r3 s4 f_s4 => ?_)
      refine pf_ite ?_ ?_
      · rw [j_X4_joint_86_e]
        exact fl_X4_joint_91 hF ih _ _ _ _ f_s4
      · rw [j_X4_joint_86_e]
        exact fl_X4_joint_91 hF ih _ _ _ _ f_s4
set_option maxRecDepth 100000 in
theorem fr_X4_joint {F : Nat} (hF : 1000 ≤ F) {x1 : Int32} {x2 : Int32} {x3 : Int32} {σ : Mem} : pf wf_72 (f_X4_joint F x1 x2 x3 σ) σ := by
  have f_σ : fr wf_72 σ σ := fr_rf
  rw [f_X4_joint_e]
  refine pf_up2 (c := 1010) f_σ (rfl) (Or.inr (⟨by omega, by omega⟩)) (fun s1 f_s1 => ?_)
  refine pf_bnd (fr_X4_areTwo hF) (fun _ h => h.elim) f_s1 (fun r2 s3 f_s3 => ?_)
  refine pf_ite ?_ ?_
  · rw [j_X4_joint_26_e]
    refine pf_ite ?_ ?_
    · refine pf_bnd (fr_X4_layBrings hF) (ww_80) f_s3 (fun r4 s5 f_s5 => ?_)
      exact fl_X4_joint_50 hF _ _ _ _ f_s5
    · refine pf_bnd (fr_X4_refuse hF) (ww_81) f_s3 (fun r6 s7 f_s7 => ?_)
      exact pf_ret f_s7
  · refine pf_bnd (fr_X4_wrongNumber hF) (fun _ h => h.elim) f_s3 (fun r8 s9 f_s9 => ?_)
    rw [j_X4_joint_26_e]
    refine pf_ite ?_ ?_
    · refine pf_bnd (fr_X4_layBrings hF) (ww_80) f_s9 (fun r10 s11 f_s11 => ?_)
      exact fl_X4_joint_50 hF _ _ _ _ f_s11
    · refine pf_bnd (fr_X4_refuse hF) (ww_81) f_s9 (fun r12 s13 f_s13 => ?_)
      exact pf_ret f_s13
