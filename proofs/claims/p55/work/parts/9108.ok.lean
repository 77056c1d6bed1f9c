theorem wl_k0 {F : Nat} (hF : 73786976294838206464 ≤ F) : wl_ok_0 wC F := fun σ a1 h => rc_feed hF h
theorem wl_k1 {F : Nat} (hF : 73786976294838206464 ≤ F) : wl_ok_1 wC F := fun σ h => rc_terrace hF h
theorem wl_k2 {F : Nat} (hF : 73786976294838206464 ≤ F) : wl_ok_2 wC F := fun σ a1 a2 h => rc_paneOf hF h
theorem wl_k3 {F : Nat} (hF : 73786976294838206464 ≤ F) : wl_ok_3 wC F := fun σ a1 a2 h => rc_lookerOf hF h
theorem wl_k4 {F : Nat} (hF : 73786976294838206464 ≤ F) : wl_ok_4 wC F := fun σ a1 h => rc_pane hF h
theorem wl_k5 {F : Nat} (hF : 73786976294838206464 ≤ F) : wl_ok_5 wC F := fun σ a1 a2 h => rc_looker hF h
theorem wl_k6 {F : Nat} (hF : 73786976294838206464 ≤ F) : wl_ok_6 wC F := fun σ a1 a2 a3 a4 h => rc_stands hF h
theorem wl_k7 {F : Nat} (hF : 73786976294838206464 ≤ F) : wl_ok_7 wC F := fun σ a1 a2 h => rc_roster hF h
theorem wl_k8 {F : Nat} (hF : 73786976294838206464 ≤ F) : wl_ok_8 wC F := fun σ a1 a2 h => rc_wall hF h
theorem wl_k9 {F : Nat} (hF : 73786976294838206464 ≤ F) : wl_ok_9 wC F := fun σ a1 a2 h => rc_worth hF h
theorem wl_k10 {F : Nat} (hF : 73786976294838206464 ≤ F) : wl_ok_10 wC F := fun σ a1 h => rc_law hF h
theorem wl_k11 {F : Nat} (hF : 73786976294838206464 ≤ F) : wl_ok_11 wC F := fun σ a1 h => rc_days hF h
theorem wl_k12 {F : Nat} (hF : 73786976294838206464 ≤ F) : wl_ok_12 wC F := fun σ h => rc_back hF h
theorem wl_k13 {F : Nat} (hF : 73786976294838206464 ≤ F) : wl_ok_13 wC F := fun σ a1 a2 a3 h => rc_counts hF h
theorem wl_k14 {F : Nat} (hF : 73786976294838206464 ≤ F) : wl_ok_14 wC F := fun σ a1 a2 h => rc_owner hF h
theorem wl_k15 {F : Nat} (hF : 73786976294838206464 ≤ F) : wl_ok_15 wC F := fun σ a1 a2 a3 h => rc_owns hF h
theorem wl_k16 {F : Nat} (hF : 73786976294838206464 ≤ F) : wl_ok_16 wC F := fun σ a1 h => rc_nobodys hF h
theorem wl_k17 {F : Nat} (hF : 73786976294838206464 ≤ F) : wl_ok_17 wC F := fun σ a1 a2 h => rc_from hF h
theorem wl_k18 {F : Nat} (hF : 73786976294838206464 ≤ F) : wl_ok_18 wC F := fun σ a1 h => rc_lost hF h
theorem wl_k19 {F : Nat} (hF : 73786976294838206464 ≤ F) : wl_ok_19 wC F := fun σ a1 a2 h => rc_richest hF h
theorem wl_k20 {F : Nat} (hF : 73786976294838206464 ≤ F) : wl_ok_20 wC F := fun σ a1 a2 a3 h => rc_staredOut hF h
theorem wl_k21 {F : Nat} (hF : 73786976294838206464 ≤ F) : wl_ok_21 wC F := fun σ a1 a2 a3 h => rc_moreHours hF h
theorem wl_k22 {F : Nat} (hF : 73786976294838206464 ≤ F) : wl_ok_22 wC F := fun σ a1 a2 a3 a4 h => rc_bestPane hF h
theorem wl_k23 {F : Nat} (hF : 73786976294838206464 ≤ F) : wl_ok_23 wC F := fun σ a1 a2 h => rc_freeHours hF h
theorem wl_k24 {F : Nat} (hF : 73786976294838206464 ≤ F) : wl_ok_24 wC F := fun σ h => rc_cover hF h
theorem wl_k25 {F : Nat} (hF : 73786976294838206464 ≤ F) : wl_ok_25 wC F := fun σ a1 h => rc_shown hF h
theorem wl_k26 {F : Nat} (hF : 73786976294838206464 ≤ F) : wl_ok_26 wC F := fun σ a1 a2 a3 h => rc_walls hF h
theorem wl_k27 {F : Nat} (hF : 73786976294838206464 ≤ F) : wl_ok_27 wC F := fun σ a1 a2 a3 h => rc_share hF h
theorem wl_k28 {F : Nat} (hF : 73786976294838206464 ≤ F) : wl_ok_28 wC F := fun σ a1 a2 a3 a4 h => rc_two hF h
theorem wl_k29 {F : Nat} (hF : 73786976294838206464 ≤ F) : wl_ok_29 wC F := fun σ h => rc_whichLaw hF h
theorem wl_k30 {F : Nat} (hF : 73786976294838206464 ≤ F) : wl_ok_30 wC F := fun σ a1 a2 a3 h => rc_whichKind hF h
theorem wl_k31 {F : Nat} (hF : 73786976294838206464 ≤ F) : wl_ok_31 wC F := fun σ a1 a2 a3 a4 a5 h => rc_ill hF h
theorem wl_k32 {F : Nat} (hF : 73786976294838206464 ≤ F) : wl_ok_32 wC F := fun σ a1 h => rc_busy hF h
theorem wl_k33 {F : Nat} (hF : 73786976294838206464 ≤ F) : wl_ok_33 wC F := fun σ a1 a2 h => rc_together hF h
theorem wl_k34 {F : Nat} (hF : 73786976294838206464 ≤ F) : wl_ok_34 wC F := fun σ a1 h => rc_swap hF h
theorem wl_k35 {F : Nat} (hF : 73786976294838206464 ≤ F) : wl_ok_35 wC F := fun σ a1 a2 a3 h => rc_heir hF h
theorem wl_k36 {F : Nat} (hF : 73786976294838206464 ≤ F) : wl_ok_36 wC F := fun σ a1 h => rc_even hF h
theorem wl_k37 {F : Nat} (hF : 73786976294838206464 ≤ F) : wl_ok_37 wC F := fun σ h => rc_last hF h
theorem wl_k38 {F : Nat} (hF : 73786976294838206464 ≤ F) : wl_ok_38 wC F := fun σ a1 a2 a3 h => rc_joint hF h
theorem wl_k39 {F : Nat} (hF : 73786976294838206464 ≤ F) : wl_ok_39 wC F := fun σ a1 a2 h => rc_rank hF h
theorem wl_k40 {F : Nat} (hF : 73786976294838206464 ≤ F) : wl_ok_40 wC F := fun σ a1 a2 h => rc_gap hF h
theorem wl_k41 {F : Nat} (hF : 73786976294838206464 ≤ F) : wl_ok_41 wC F := fun σ a1 a2 h => rc_wasted hF h
theorem wl_k42 {F : Nat} (hF : 73786976294838206464 ≤ F) : wl_ok_42 wC F := fun σ a1 a2 h => rc_ahead hF h
theorem wl_k43 {F : Nat} (hF : 73786976294838206464 ≤ F) : wl_ok_43 wC F := fun σ a1 a2 h => rc_bestLaw hF h
theorem wl_k44 {F : Nat} (hF : 73786976294838206464 ≤ F) : wl_ok_44 wC F := fun σ a1 a2 a3 h => rc_newcomer hF h
theorem wl_k45 {F : Nat} (hF : 73786976294838206464 ≤ F) : wl_ok_45 wC F := fun σ a1 h => rc_mostSeen hF h
theorem wl_k46 {F : Nat} (hF : 73786976294838206464 ≤ F) : wl_ok_46 wC F := fun σ a1 a2 h => rc_duels hF h
theorem wl_k47 {F : Nat} (hF : 73786976294838206464 ≤ F) : wl_ok_47 wC F := fun σ a1 h => rc_row hF h
theorem wl_k48 {F : Nat} (hF : 73786976294838206464 ≤ F) : wl_ok_48 wC F := fun σ a1 h => rc_judge hF h
theorem wl_k49 {F : Nat} (hF : 73786976294838206464 ≤ F) : wl_ok_49 wC F := fun σ h => rc_clear hF h
theorem wl_k50 {F : Nat} (hF : 73786976294838206464 ≤ F) : wl_ok_50 wC F := fun σ a1 a2 a3 h => rc_lots hF h
theorem wl_k51 {F : Nat} (hF : 73786976294838206464 ≤ F) : wl_ok_51 wC F := fun σ h => rc_image hF h
theorem wl_k52 {F : Nat} (hF : 73786976294838206464 ≤ F) : wl_ok_52 wC F := fun σ h => rc_restore hF h
theorem wl_k53 {F : Nat} (hF : 73786976294838206464 ≤ F) : wl_ok_53 wC F := fun σ a1 h => eqc_count hF h
theorem wl_all {F : Nat} (hF : 73786976294838206464 ≤ F) : wl_OK wC F := ⟨wl_k0 hF, wl_k1 hF, wl_k2 hF, wl_k3 hF, wl_k4 hF, wl_k5 hF, wl_k6 hF, wl_k7 hF, wl_k8 hF, wl_k9 hF, wl_k10 hF, wl_k11 hF, wl_k12 hF, wl_k13 hF, wl_k14 hF, wl_k15 hF, wl_k16 hF, wl_k17 hF, wl_k18 hF, wl_k19 hF, wl_k20 hF, wl_k21 hF, wl_k22 hF, wl_k23 hF, wl_k24 hF, wl_k25 hF, wl_k26 hF, wl_k27 hF, wl_k28 hF, wl_k29 hF, wl_k30 hF, wl_k31 hF, wl_k32 hF, wl_k33 hF, wl_k34 hF, wl_k35 hF, wl_k36 hF, wl_k37 hF, wl_k38 hF, wl_k39 hF, wl_k40 hF, wl_k41 hF, wl_k42 hF, wl_k43 hF, wl_k44 hF, wl_k45 hF, wl_k46 hF, wl_k47 hF, wl_k48 hF, wl_k49 hF, wl_k50 hF, wl_k51 hF, wl_k52 hF, wl_k53 hF⟩
