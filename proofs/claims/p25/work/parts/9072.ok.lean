theorem wl_k0 {F : Nat} (hF : 73786976294838206464 ≤ F) : wl_ok_0 (wR 188) F := fun σ a1 h => by
  obtain ⟨r1, s1, r2, s2, e1, e2, w, -⟩ := (mu_feed hF (by omega) h : ∃ r1 s1 r2 s2, f_X3_feed F a1 σ = some (r1, s1) ∧ f_X4_feed F a1 s1 = some (r2, s2) ∧ wR 188 s2 ∧ r1 = r2)
  exact ⟨r1, s1, r2, s2, e1, e2, w⟩
theorem wl_k1 {F : Nat} (hF : 73786976294838206464 ≤ F) : wl_ok_1 (wR 188) F := fun σ h => by
  obtain ⟨r1, s1, r2, s2, e1, e2, w, -⟩ := (mu_terrace hF h : ∃ r1 s1 r2 s2, f_X3_terrace F σ = some (r1, s1) ∧ f_X4_terrace F s1 = some (r2, s2) ∧ wR 188 s2 ∧ r1 = r2)
  exact ⟨r1, s1, r2, s2, e1, e2, w⟩
theorem wl_k2 {F : Nat} (hF : 73786976294838206464 ≤ F) : wl_ok_2 (wR 188) F := fun σ a1 a2 h => mu_paneOf hF (by omega) h
theorem wl_k3 {F : Nat} (hF : 73786976294838206464 ≤ F) : wl_ok_3 (wR 188) F := fun σ a1 a2 h => mu_lookerOf hF (by omega) h
theorem wl_k4 {F : Nat} (hF : 73786976294838206464 ≤ F) : wl_ok_4 (wR 188) F := fun σ a1 h => by
  obtain ⟨r1, s1, r2, s2, e1, e2, w, -⟩ := (mu_pane hF (by omega) h : ∃ r1 s1 r2 s2, f_X3_pane F a1 σ = some (r1, s1) ∧ f_X4_pane F a1 s1 = some (r2, s2) ∧ wR 188 s2 ∧ r1 = r2)
  exact ⟨r1, s1, r2, s2, e1, e2, w⟩
theorem wl_k5 {F : Nat} (hF : 73786976294838206464 ≤ F) : wl_ok_5 (wR 188) F := fun σ a1 a2 h => by
  obtain ⟨r1, s1, r2, s2, e1, e2, w, -⟩ := (mu_looker hF (by omega) h : ∃ r1 s1 r2 s2, f_X3_looker F a1 a2 σ = some (r1, s1) ∧ f_X4_looker F a1 a2 s1 = some (r2, s2) ∧ wR 188 s2 ∧ r1 = r2)
  exact ⟨r1, s1, r2, s2, e1, e2, w⟩
theorem wl_k6 {F : Nat} (hF : 73786976294838206464 ≤ F) : wl_ok_6 (wR 188) F := fun σ a1 a2 a3 a4 h => by
  obtain ⟨r1, s1, r2, s2, e1, e2, w, -⟩ := (mu_stands hF (by omega) h : ∃ r1 s1 r2 s2, f_X3_stands F a1 a2 a3 a4 σ = some (r1, s1) ∧ f_X4_stands F a1 a2 a3 a4 s1 = some (r2, s2) ∧ wR 188 s2 ∧ r1 = r2)
  exact ⟨r1, s1, r2, s2, e1, e2, w⟩
theorem wl_k7 {F : Nat} (hF : 73786976294838206464 ≤ F) : wl_ok_7 (wR 188) F := fun σ a1 a2 h => mu_roster hF (by omega) h
theorem wl_k8 {F : Nat} (hF : 73786976294838206464 ≤ F) : wl_ok_8 (wR 188) F := fun σ a1 a2 h => by
  obtain ⟨r1, s1, r2, s2, e1, e2, w, -⟩ := (mu_wall hF (by omega) h : ∃ r1 s1 r2 s2, f_X3_wall F a1 a2 σ = some (r1, s1) ∧ f_X4_wall F a1 a2 s1 = some (r2, s2) ∧ wR 188 s2 ∧ r1 = r2)
  exact ⟨r1, s1, r2, s2, e1, e2, w⟩
theorem wl_k9 {F : Nat} (hF : 73786976294838206464 ≤ F) : wl_ok_9 (wR 188) F := fun σ a1 a2 h => by
  obtain ⟨r1, s1, r2, s2, e1, e2, w, -⟩ := (mu_worth hF (by omega) h : ∃ r1 s1 r2 s2, f_X3_worth F a1 a2 σ = some (r1, s1) ∧ f_X4_worth F a1 a2 s1 = some (r2, s2) ∧ wR 188 s2 ∧ r1 = r2)
  exact ⟨r1, s1, r2, s2, e1, e2, w⟩
theorem wl_k10 {F : Nat} (hF : 73786976294838206464 ≤ F) : wl_ok_10 (wR 188) F := fun σ a1 h => by
  obtain ⟨r1, s1, r2, s2, e1, e2, w, -⟩ := (mu_law hF (by omega) h : ∃ r1 s1 r2 s2, f_X3_law F a1 σ = some (r1, s1) ∧ f_X4_law F a1 s1 = some (r2, s2) ∧ wR 188 s2 ∧ r1 = r2)
  exact ⟨r1, s1, r2, s2, e1, e2, w⟩
theorem wl_k11 {F : Nat} (hF : 73786976294838206464 ≤ F) : wl_ok_11 (wR 188) F := fun σ a1 h => mu_days hF h
theorem wl_k12 {F : Nat} (hF : 73786976294838206464 ≤ F) : wl_ok_12 (wR 188) F := fun σ h => by
  obtain ⟨r1, s1, r2, s2, e1, e2, w, -⟩ := (mu_back hF (by omega) h : ∃ r1 s1 r2 s2, f_X3_back F σ = some (r1, s1) ∧ f_X4_back F s1 = some (r2, s2) ∧ wR 188 s2 ∧ r1 = r2)
  exact ⟨r1, s1, r2, s2, e1, e2, w⟩
theorem wl_k13 {F : Nat} (hF : 73786976294838206464 ≤ F) : wl_ok_13 (wR 188) F := fun σ a1 a2 a3 h => mu_counts hF (by omega) h
theorem wl_k14 {F : Nat} (hF : 73786976294838206464 ≤ F) : wl_ok_14 (wR 188) F := fun σ a1 a2 h => mu_owner hF (by omega) h
theorem wl_k15 {F : Nat} (hF : 73786976294838206464 ≤ F) : wl_ok_15 (wR 188) F := fun σ a1 a2 a3 h => mu_owns hF (by omega) h
theorem wl_k16 {F : Nat} (hF : 73786976294838206464 ≤ F) : wl_ok_16 (wR 188) F := fun σ a1 h => mu_nobodys hF (by omega) h
theorem wl_k17 {F : Nat} (hF : 73786976294838206464 ≤ F) : wl_ok_17 (wR 188) F := fun σ a1 a2 h => mu_from hF (by omega) h
theorem wl_k18 {F : Nat} (hF : 73786976294838206464 ≤ F) : wl_ok_18 (wR 188) F := fun σ a1 h => mu_lost hF (by omega) h
theorem wl_k19 {F : Nat} (hF : 73786976294838206464 ≤ F) : wl_ok_19 (wR 188) F := fun σ a1 a2 h => mu_richest hF (by omega) h
theorem wl_k20 {F : Nat} (hF : 73786976294838206464 ≤ F) : wl_ok_20 (wR 188) F := fun σ a1 a2 a3 h => mu_staredOut hF (by omega) h
theorem wl_k21 {F : Nat} (hF : 73786976294838206464 ≤ F) : wl_ok_21 (wR 188) F := fun σ a1 a2 a3 h => mu_moreHours hF (by omega) h
theorem wl_k22 {F : Nat} (hF : 73786976294838206464 ≤ F) : wl_ok_22 (wR 188) F := fun σ a1 a2 a3 a4 h => mu_bestPane hF (by omega) h
theorem wl_k23 {F : Nat} (hF : 73786976294838206464 ≤ F) : wl_ok_23 (wR 188) F := fun σ a1 a2 h => eq_freeHours hF h
theorem wl_k24 {F : Nat} (hF : 73786976294838206464 ≤ F) : wl_ok_24 (wR 188) F := fun σ h => mu_cover hF (by omega) h
theorem wl_k25 {F : Nat} (hF : 73786976294838206464 ≤ F) : wl_ok_25 (wR 188) F := fun σ a1 h => mu_shown hF (by omega) h
theorem wl_k26 {F : Nat} (hF : 73786976294838206464 ≤ F) : wl_ok_26 (wR 188) F := fun σ a1 a2 a3 h => mu_walls hF (by omega) h
theorem wl_k27 {F : Nat} (hF : 73786976294838206464 ≤ F) : wl_ok_27 (wR 188) F := fun σ a1 a2 a3 h => mu_share hF (by omega) h
theorem wl_k28 {F : Nat} (hF : 73786976294838206464 ≤ F) : wl_ok_28 (wR 188) F := fun σ a1 a2 a3 a4 h => mu_two hF (by omega) h
theorem wl_k29 {F : Nat} (hF : 73786976294838206464 ≤ F) : wl_ok_29 (wR 188) F := fun σ h => mu_whichLaw hF (by omega) h
theorem wl_k30 {F : Nat} (hF : 73786976294838206464 ≤ F) : wl_ok_30 (wR 188) F := fun σ a1 a2 a3 h => mu_whichKind hF (by omega) h
theorem wl_k31 {F : Nat} (hF : 73786976294838206464 ≤ F) : wl_ok_31 (wR 188) F := fun σ a1 a2 a3 a4 a5 h => mu_ill hF (by omega) h
theorem wl_k32 {F : Nat} (hF : 73786976294838206464 ≤ F) : wl_ok_32 (wR 188) F := fun σ a1 h => mu_busy hF (by omega) h
theorem wl_k33 {F : Nat} (hF : 73786976294838206464 ≤ F) : wl_ok_33 (wR 188) F := fun σ a1 a2 h => mu_together hF (by omega) h
theorem wl_k34 {F : Nat} (hF : 73786976294838206464 ≤ F) : wl_ok_34 (wR 188) F := fun σ a1 h => mu_swap hF (by omega) h
theorem wl_k35 {F : Nat} (hF : 73786976294838206464 ≤ F) : wl_ok_35 (wR 188) F := fun σ a1 a2 a3 h => mu_heir hF (by omega) h
theorem wl_k36 {F : Nat} (hF : 73786976294838206464 ≤ F) : wl_ok_36 (wR 188) F := fun σ a1 h => mu_even hF (by omega) h
theorem wl_k37 {F : Nat} (hF : 73786976294838206464 ≤ F) : wl_ok_37 (wR 188) F := fun σ h => mu_last hF (by omega) h
theorem wl_k38 {F : Nat} (hF : 73786976294838206464 ≤ F) : wl_ok_38 (wR 188) F := fun σ a1 a2 a3 h => mu_joint hF (by omega) h
theorem wl_k39 {F : Nat} (hF : 73786976294838206464 ≤ F) : wl_ok_39 (wR 188) F := fun σ a1 a2 h => mu_rank hF (by omega) h
theorem wl_k40 {F : Nat} (hF : 73786976294838206464 ≤ F) : wl_ok_40 (wR 188) F := fun σ a1 a2 h => mu_gap hF (by omega) h
theorem wl_k41 {F : Nat} (hF : 73786976294838206464 ≤ F) : wl_ok_41 (wR 188) F := fun σ a1 a2 h => mu_wasted hF (by omega) h
theorem wl_k42 {F : Nat} (hF : 73786976294838206464 ≤ F) : wl_ok_42 (wR 188) F := fun σ a1 a2 h => mu_ahead hF (by omega) h
theorem wl_k43 {F : Nat} (hF : 73786976294838206464 ≤ F) : wl_ok_43 (wR 188) F := fun σ a1 a2 h => mu_bestLaw hF (by omega) h
theorem wl_k44 {F : Nat} (hF : 73786976294838206464 ≤ F) : wl_ok_44 (wR 188) F := fun σ a1 a2 a3 h => mu_newcomer hF (by omega) h
theorem wl_k45 {F : Nat} (hF : 73786976294838206464 ≤ F) : wl_ok_45 (wR 188) F := fun σ a1 h => mu_mostSeen hF (by omega) h
theorem wl_k46 {F : Nat} (hF : 73786976294838206464 ≤ F) : wl_ok_46 (wR 188) F := fun σ a1 a2 h => mu_duels hF (by omega) h
theorem wl_k47 {F : Nat} (hF : 73786976294838206464 ≤ F) : wl_ok_47 (wR 188) F := fun σ a1 h => by
  obtain ⟨r1, s1, r2, s2, e1, e2, w, -⟩ := (mu_row hF (by omega) h : ∃ r1 s1 r2 s2, f_X3_row F a1 σ = some (r1, s1) ∧ f_X4_row F a1 s1 = some (r2, s2) ∧ wR 188 s2 ∧ r1 = r2)
  exact ⟨r1, s1, r2, s2, e1, e2, w⟩
theorem wl_k48 {F : Nat} (hF : 73786976294838206464 ≤ F) : wl_ok_48 (wR 188) F := fun σ a1 h => mu_judge hF (by omega) h
theorem wl_k49 {F : Nat} (hF : 73786976294838206464 ≤ F) : wl_ok_49 (wR 188) F := fun σ h => by
  obtain ⟨r1, s1, r2, s2, e1, e2, w, -⟩ := (mu_clear hF (by omega) h : ∃ r1 s1 r2 s2, f_X3_clear F σ = some (r1, s1) ∧ f_X4_clear F s1 = some (r2, s2) ∧ wR 188 s2 ∧ r1 = r2)
  exact ⟨r1, s1, r2, s2, e1, e2, w⟩
theorem wl_k50 {F : Nat} (hF : 73786976294838206464 ≤ F) : wl_ok_50 (wR 188) F := fun σ a1 a2 a3 h => mu_lots hF (by omega) h
theorem wl_k51 {F : Nat} (hF : 73786976294838206464 ≤ F) : wl_ok_51 (wR 188) F := fun σ h => by
  obtain ⟨r1, s1, r2, s2, e1, e2, w, -⟩ := (mu_image hF (by omega) h : ∃ r1 s1 r2 s2, f_X3_image F σ = some (r1, s1) ∧ f_X4_image F s1 = some (r2, s2) ∧ wR 188 s2 ∧ r1 = r2)
  exact ⟨r1, s1, r2, s2, e1, e2, w⟩
theorem wl_k52 {F : Nat} (hF : 73786976294838206464 ≤ F) : wl_ok_52 (wR 188) F := fun σ h => by
  obtain ⟨r1, s1, r2, s2, e1, e2, w, -⟩ := (mu_restore hF (by omega) h : ∃ r1 s1 r2 s2, f_X3_restore F σ = some (r1, s1) ∧ f_X4_restore F s1 = some (r2, s2) ∧ wR 188 s2 ∧ r1 = r2)
  exact ⟨r1, s1, r2, s2, e1, e2, w⟩
theorem wl_k53 {F : Nat} (hF : 73786976294838206464 ≤ F) : wl_ok_53 (wR 188) F := fun σ a1 h => mu_count hF (by omega) h
theorem wl_all {F : Nat} (hF : 73786976294838206464 ≤ F) : wl_OK (wR 188) F := ⟨wl_k0 hF, wl_k1 hF, wl_k2 hF, wl_k3 hF, wl_k4 hF, wl_k5 hF, wl_k6 hF, wl_k7 hF, wl_k8 hF, wl_k9 hF, wl_k10 hF, wl_k11 hF, wl_k12 hF, wl_k13 hF, wl_k14 hF, wl_k15 hF, wl_k16 hF, wl_k17 hF, wl_k18 hF, wl_k19 hF, wl_k20 hF, wl_k21 hF, wl_k22 hF, wl_k23 hF, wl_k24 hF, wl_k25 hF, wl_k26 hF, wl_k27 hF, wl_k28 hF, wl_k29 hF, wl_k30 hF, wl_k31 hF, wl_k32 hF, wl_k33 hF, wl_k34 hF, wl_k35 hF, wl_k36 hF, wl_k37 hF, wl_k38 hF, wl_k39 hF, wl_k40 hF, wl_k41 hF, wl_k42 hF, wl_k43 hF, wl_k44 hF, wl_k45 hF, wl_k46 hF, wl_k47 hF, wl_k48 hF, wl_k49 hF, wl_k50 hF, wl_k51 hF, wl_k52 hF, wl_k53 hF⟩
