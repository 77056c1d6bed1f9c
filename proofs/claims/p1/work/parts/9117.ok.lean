/-- before the only call; behind it nothing is asked -/
def w1 (i : Nat) (σ : Mem) : Prop := i = 0 → wR 188 σ ∧ σ 86 = σ 108 ∧ σ 1 2 = 0
theorem wl_k0 {F : Nat} (hF : 73786976294838206464 ≤ F) : wl_ok_0 (w1 0) (w1 6) F := fun σ a1 g => by
  obtain ⟨h, e, z⟩ := g rfl
  obtain ⟨r1, s1, r2, s2, e1, e2, -, q⟩ := (mu_feed hF (by omega) h : ∃ r1 s1 r2 s2, f_X3_feed F a1 σ = some (r1, s1) ∧ f_X4_feed F a1 s1 = some (r2, s2) ∧ wR 188 s2 ∧ r1 = r2)
  exact ⟨r1, s1, r2, s2, e1, e2, fun h => absurd h (by decide), q⟩
theorem wl_k1 {F : Nat} (hF : 73786976294838206464 ≤ F) : wl_ok_1 (w1 0) (w1 6) F := fun σ g => by
  obtain ⟨h, e, z⟩ := g rfl
  obtain ⟨r1, s1, r2, s2, e1, e2, -, q⟩ := (mu_terrace hF h : ∃ r1 s1 r2 s2, f_X3_terrace F σ = some (r1, s1) ∧ f_X4_terrace F s1 = some (r2, s2) ∧ wR 188 s2 ∧ r1 = r2)
  exact ⟨r1, s1, r2, s2, e1, e2, fun h => absurd h (by decide), q⟩
theorem wl_k2 {F : Nat} (hF : 73786976294838206464 ≤ F) : wl_ok_2 (w1 0) (w1 6) F := fun σ a1 a2 g => by
  obtain ⟨h, e, z⟩ := g rfl
  obtain ⟨r1, s1, r2, s2, e1, e2, -, q⟩ := (eq_paneOf hF h : ∃ r1 s1 r2 s2, f_X3_paneOf F a1 a2 σ = some (r1, s1) ∧ f_X4_paneOf F a1 a2 s1 = some (r2, s2) ∧ wR 188 s2 ∧ r1 = r2)
  exact ⟨r1, s1, r2, s2, e1, e2, fun h => absurd h (by decide), q⟩
theorem wl_k3 {F : Nat} (hF : 73786976294838206464 ≤ F) : wl_ok_3 (w1 0) (w1 6) F := fun σ a1 a2 g => by
  obtain ⟨h, e, z⟩ := g rfl
  obtain ⟨r1, s1, r2, s2, e1, e2, -, q⟩ := (eq_lookerOf hF h : ∃ r1 s1 r2 s2, f_X3_lookerOf F a1 a2 σ = some (r1, s1) ∧ f_X4_lookerOf F a1 a2 s1 = some (r2, s2) ∧ wR 188 s2 ∧ r1 = r2)
  exact ⟨r1, s1, r2, s2, e1, e2, fun h => absurd h (by decide), q⟩
theorem wl_k4 {F : Nat} (hF : 73786976294838206464 ≤ F) : wl_ok_4 (w1 0) (w1 6) F := fun σ a1 g => by
  obtain ⟨h, e, z⟩ := g rfl
  obtain ⟨r1, s1, r2, s2, e1, e2, -, q⟩ := (mu_pane hF (by omega) h : ∃ r1 s1 r2 s2, f_X3_pane F a1 σ = some (r1, s1) ∧ f_X4_pane F a1 s1 = some (r2, s2) ∧ wR 188 s2 ∧ r1 = r2)
  exact ⟨r1, s1, r2, s2, e1, e2, fun h => absurd h (by decide), q⟩
theorem wl_k5 {F : Nat} (hF : 73786976294838206464 ≤ F) : wl_ok_5 (w1 0) (w1 6) F := fun σ a1 a2 g => by
  obtain ⟨h, e, z⟩ := g rfl
  obtain ⟨r1, s1, r2, s2, e1, e2, -, q⟩ := (mu_looker hF (by omega) h : ∃ r1 s1 r2 s2, f_X3_looker F a1 a2 σ = some (r1, s1) ∧ f_X4_looker F a1 a2 s1 = some (r2, s2) ∧ wR 188 s2 ∧ r1 = r2)
  exact ⟨r1, s1, r2, s2, e1, e2, fun h => absurd h (by decide), q⟩
theorem wl_k6 {F : Nat} (hF : 73786976294838206464 ≤ F) : wl_ok_6 (w1 0) (w1 6) F := fun σ a1 a2 a3 a4 g => by
  obtain ⟨h, e, z⟩ := g rfl
  obtain ⟨r1, s1, r2, s2, e1, e2, -, q⟩ := (mu_stands hF (by omega) h : ∃ r1 s1 r2 s2, f_X3_stands F a1 a2 a3 a4 σ = some (r1, s1) ∧ f_X4_stands F a1 a2 a3 a4 s1 = some (r2, s2) ∧ wR 188 s2 ∧ r1 = r2)
  exact ⟨r1, s1, r2, s2, e1, e2, fun h => absurd h (by decide), q⟩
theorem wl_k7 {F : Nat} (hF : 73786976294838206464 ≤ F) : wl_ok_7 (w1 0) (w1 6) F := fun σ a1 a2 g => by
  obtain ⟨h, e, z⟩ := g rfl
  obtain ⟨r1, s1, r2, s2, e1, e2, -, q⟩ := (eq_roster hF h : ∃ r1 s1 r2 s2, f_X3_roster F a1 a2 σ = some (r1, s1) ∧ f_X4_roster F a1 a2 s1 = some (r2, s2) ∧ wR 188 s2 ∧ r1 = r2)
  exact ⟨r1, s1, r2, s2, e1, e2, fun h => absurd h (by decide), q⟩
theorem wl_k8 {F : Nat} (hF : 73786976294838206464 ≤ F) : wl_ok_8 (w1 0) (w1 6) F := fun σ a1 a2 g => by
  obtain ⟨h, e, z⟩ := g rfl
  obtain ⟨r1, s1, r2, s2, e1, e2, -, q⟩ := (mu_wall hF (by omega) h : ∃ r1 s1 r2 s2, f_X3_wall F a1 a2 σ = some (r1, s1) ∧ f_X4_wall F a1 a2 s1 = some (r2, s2) ∧ wR 188 s2 ∧ r1 = r2)
  exact ⟨r1, s1, r2, s2, e1, e2, fun h => absurd h (by decide), q⟩
theorem wl_k9 {F : Nat} (hF : 73786976294838206464 ≤ F) : wl_ok_9 (w1 0) (w1 6) F := fun σ a1 a2 g => by
  obtain ⟨h, e, z⟩ := g rfl
  obtain ⟨r1, s1, r2, s2, e1, e2, -, q⟩ := (mu_worth hF (by omega) h : ∃ r1 s1 r2 s2, f_X3_worth F a1 a2 σ = some (r1, s1) ∧ f_X4_worth F a1 a2 s1 = some (r2, s2) ∧ wR 188 s2 ∧ r1 = r2)
  exact ⟨r1, s1, r2, s2, e1, e2, fun h => absurd h (by decide), q⟩
theorem wl_k10 {F : Nat} (hF : 73786976294838206464 ≤ F) : wl_ok_10 (w1 0) (w1 6) F := fun σ a1 g => by
  obtain ⟨h, e, z⟩ := g rfl
  obtain ⟨r1, s1, r2, s2, e1, e2, -, q⟩ := (mu_law hF (by omega) h : ∃ r1 s1 r2 s2, f_X3_law F a1 σ = some (r1, s1) ∧ f_X4_law F a1 s1 = some (r2, s2) ∧ wR 188 s2 ∧ r1 = r2)
  exact ⟨r1, s1, r2, s2, e1, e2, fun h => absurd h (by decide), q⟩
theorem wl_k11 {F : Nat} (hF : 73786976294838206464 ≤ F) : wl_ok_11 (w1 0) (w1 6) F := fun σ a1 g => by
  obtain ⟨h, e, z⟩ := g rfl
  obtain ⟨r1, s1, r2, s2, e1, e2, -, q⟩ := (eqd_days hF h : ∃ r1 s1 r2 s2, f_X3_days F a1 σ = some (r1, s1) ∧ f_X4_days F a1 s1 = some (r2, s2) ∧ wR 188 s2 ∧ r1 = r2)
  exact ⟨r1, s1, r2, s2, e1, e2, fun h => absurd h (by decide), q⟩
theorem wl_k12 {F : Nat} (hF : 73786976294838206464 ≤ F) : wl_ok_12 (w1 0) (w1 6) F := fun σ g => by
  obtain ⟨h, e, z⟩ := g rfl
  obtain ⟨r1, s1, r2, s2, e1, e2, -, q⟩ := (mu_back hF (by omega) h : ∃ r1 s1 r2 s2, f_X3_back F σ = some (r1, s1) ∧ f_X4_back F s1 = some (r2, s2) ∧ wR 188 s2 ∧ r1 = r2)
  exact ⟨r1, s1, r2, s2, e1, e2, fun h => absurd h (by decide), q⟩
theorem wl_k13 {F : Nat} (hF : 73786976294838206464 ≤ F) : wl_ok_13 (w1 0) (w1 6) F := fun σ a1 a2 a3 g => by
  obtain ⟨h, e, z⟩ := g rfl
  obtain ⟨r1, s1, r2, s2, e1, e2, -, q⟩ := (eq_counts hF h : ∃ r1 s1 r2 s2, f_X3_counts F a1 a2 a3 σ = some (r1, s1) ∧ f_X4_counts F a1 a2 a3 s1 = some (r2, s2) ∧ wR 188 s2 ∧ r1 = r2)
  exact ⟨r1, s1, r2, s2, e1, e2, fun h => absurd h (by decide), q⟩
theorem wl_k14 {F : Nat} (hF : 73786976294838206464 ≤ F) : wl_ok_14 (w1 0) (w1 6) F := fun σ a1 a2 g => by
  obtain ⟨h, e, z⟩ := g rfl
  obtain ⟨r1, s1, r2, s2, e1, e2, -, q⟩ := (eq_owner hF h : ∃ r1 s1 r2 s2, f_X3_owner F a1 a2 σ = some (r1, s1) ∧ f_X4_owner F a1 a2 s1 = some (r2, s2) ∧ wR 188 s2 ∧ r1 = r2)
  exact ⟨r1, s1, r2, s2, e1, e2, fun h => absurd h (by decide), q⟩
theorem wl_k15 {F : Nat} (hF : 73786976294838206464 ≤ F) : wl_ok_15 (w1 0) (w1 6) F := fun σ a1 a2 a3 g => by
  obtain ⟨h, e, z⟩ := g rfl
  obtain ⟨r1, s1, r2, s2, e1, e2, -, q⟩ := (eq_owns hF h : ∃ r1 s1 r2 s2, f_X3_owns F a1 a2 a3 σ = some (r1, s1) ∧ f_X4_owns F a1 a2 a3 s1 = some (r2, s2) ∧ wR 188 s2 ∧ r1 = r2)
  exact ⟨r1, s1, r2, s2, e1, e2, fun h => absurd h (by decide), q⟩
theorem wl_k16 {F : Nat} (hF : 73786976294838206464 ≤ F) : wl_ok_16 (w1 0) (w1 6) F := fun σ a1 g => by
  obtain ⟨h, e, z⟩ := g rfl
  obtain ⟨r1, s1, r2, s2, e1, e2, -, q⟩ := (eq_nobodys hF h : ∃ r1 s1 r2 s2, f_X3_nobodys F a1 σ = some (r1, s1) ∧ f_X4_nobodys F a1 s1 = some (r2, s2) ∧ wR 188 s2 ∧ r1 = r2)
  exact ⟨r1, s1, r2, s2, e1, e2, fun h => absurd h (by decide), q⟩
theorem wl_k17 {F : Nat} (hF : 73786976294838206464 ≤ F) : wl_ok_17 (w1 0) (w1 6) F := fun σ a1 a2 g => by
  obtain ⟨h, e, z⟩ := g rfl
  obtain ⟨r1, s1, r2, s2, e1, e2, -, q⟩ := (eq_from hF h : ∃ r1 s1 r2 s2, f_X3_from F a1 a2 σ = some (r1, s1) ∧ f_X4_from F a1 a2 s1 = some (r2, s2) ∧ wR 188 s2 ∧ r1 = r2)
  exact ⟨r1, s1, r2, s2, e1, e2, fun h => absurd h (by decide), q⟩
theorem wl_k18 {F : Nat} (hF : 73786976294838206464 ≤ F) : wl_ok_18 (w1 0) (w1 6) F := fun σ a1 g => by
  obtain ⟨h, e, z⟩ := g rfl
  obtain ⟨r1, s1, r2, s2, e1, e2, -, q⟩ := (eq_lost hF h : ∃ r1 s1 r2 s2, f_X3_lost F a1 σ = some (r1, s1) ∧ f_X4_lost F a1 s1 = some (r2, s2) ∧ wR 188 s2 ∧ r1 = r2)
  exact ⟨r1, s1, r2, s2, e1, e2, fun h => absurd h (by decide), q⟩
theorem wl_k19 {F : Nat} (hF : 73786976294838206464 ≤ F) : wl_ok_19 (w1 0) (w1 6) F := fun σ a1 a2 g => by
  obtain ⟨h, e, z⟩ := g rfl
  obtain ⟨r1, s1, r2, s2, e1, e2, -, q⟩ := (eq_richest hF h : ∃ r1 s1 r2 s2, f_X3_richest F a1 a2 σ = some (r1, s1) ∧ f_X4_richest F a1 a2 s1 = some (r2, s2) ∧ wR 188 s2 ∧ r1 = r2)
  exact ⟨r1, s1, r2, s2, e1, e2, fun h => absurd h (by decide), q⟩
theorem wl_k20 {F : Nat} (hF : 73786976294838206464 ≤ F) : wl_ok_20 (w1 0) (w1 6) F := fun σ a1 a2 a3 g => by
  obtain ⟨h, e, z⟩ := g rfl
  obtain ⟨r1, s1, r2, s2, e1, e2, -, q⟩ := (eq_staredOut hF h : ∃ r1 s1 r2 s2, f_X3_staredOut F a1 a2 a3 σ = some (r1, s1) ∧ f_X4_staredOut F a1 a2 a3 s1 = some (r2, s2) ∧ wR 188 s2 ∧ r1 = r2)
  exact ⟨r1, s1, r2, s2, e1, e2, fun h => absurd h (by decide), q⟩
theorem wl_k21 {F : Nat} (hF : 73786976294838206464 ≤ F) : wl_ok_21 (w1 0) (w1 6) F := fun σ a1 a2 a3 g => by
  obtain ⟨h, e, z⟩ := g rfl
  obtain ⟨r1, s1, r2, s2, e1, e2, -, q⟩ := (eq_moreHours hF h : ∃ r1 s1 r2 s2, f_X3_moreHours F a1 a2 a3 σ = some (r1, s1) ∧ f_X4_moreHours F a1 a2 a3 s1 = some (r2, s2) ∧ wR 188 s2 ∧ r1 = r2)
  exact ⟨r1, s1, r2, s2, e1, e2, fun h => absurd h (by decide), q⟩
theorem wl_k22 {F : Nat} (hF : 73786976294838206464 ≤ F) : wl_ok_22 (w1 0) (w1 6) F := fun σ a1 a2 a3 a4 g => by
  obtain ⟨h, e, z⟩ := g rfl
  obtain ⟨r1, s1, r2, s2, e1, e2, -, q⟩ := (eq_bestPane hF h : ∃ r1 s1 r2 s2, f_X3_bestPane F a1 a2 a3 a4 σ = some (r1, s1) ∧ f_X4_bestPane F a1 a2 a3 a4 s1 = some (r2, s2) ∧ wR 188 s2 ∧ r1 = r2)
  exact ⟨r1, s1, r2, s2, e1, e2, fun h => absurd h (by decide), q⟩
theorem wl_k23 {F : Nat} (hF : 73786976294838206464 ≤ F) : wl_ok_23 (w1 0) (w1 6) F := fun σ a1 a2 g => by
  obtain ⟨h, e, z⟩ := g rfl
  obtain ⟨r1, s1, r2, s2, e1, e2, -, q⟩ := (eq_freeHours hF h : ∃ r1 s1 r2 s2, f_X3_freeHours F a1 a2 σ = some (r1, s1) ∧ f_X4_freeHours F a1 a2 s1 = some (r2, s2) ∧ wR 188 s2 ∧ r1 = r2)
  exact ⟨r1, s1, r2, s2, e1, e2, fun h => absurd h (by decide), q⟩
theorem wl_k24 {F : Nat} (hF : 73786976294838206464 ≤ F) : wl_ok_24 (w1 0) (w1 6) F := fun σ g => by
  obtain ⟨h, e, z⟩ := g rfl
  obtain ⟨r1, s1, r2, s2, e1, e2, -, q⟩ := (eq_cover hF h : ∃ r1 s1 r2 s2, f_X3_cover F σ = some (r1, s1) ∧ f_X4_cover F s1 = some (r2, s2) ∧ wR 188 s2 ∧ r1 = r2)
  exact ⟨r1, s1, r2, s2, e1, e2, fun h => absurd h (by decide), q⟩
theorem wl_k25 {F : Nat} (hF : 73786976294838206464 ≤ F) : wl_ok_25 (w1 0) (w1 6) F := fun σ a1 g => by
  obtain ⟨h, e, z⟩ := g rfl
  obtain ⟨r1, s1, r2, s2, e1, e2, -, q⟩ := (eq_shown hF h : ∃ r1 s1 r2 s2, f_X3_shown F a1 σ = some (r1, s1) ∧ f_X4_shown F a1 s1 = some (r2, s2) ∧ wR 188 s2 ∧ r1 = r2)
  exact ⟨r1, s1, r2, s2, e1, e2, fun h => absurd h (by decide), q⟩
theorem wl_k26 {F : Nat} (hF : 73786976294838206464 ≤ F) : wl_ok_26 (w1 0) (w1 6) F := fun σ a1 a2 a3 g => by
  obtain ⟨h, e, z⟩ := g rfl
  obtain ⟨r1, s1, r2, s2, e1, e2, -, q⟩ := (eq_walls hF h : ∃ r1 s1 r2 s2, f_X3_walls F a1 a2 a3 σ = some (r1, s1) ∧ f_X4_walls F a1 a2 a3 s1 = some (r2, s2) ∧ wR 188 s2 ∧ r1 = r2)
  exact ⟨r1, s1, r2, s2, e1, e2, fun h => absurd h (by decide), q⟩
theorem wl_k27 {F : Nat} (hF : 73786976294838206464 ≤ F) : wl_ok_27 (w1 0) (w1 6) F := fun σ a1 a2 a3 g => by
  obtain ⟨h, e, z⟩ := g rfl
  obtain ⟨r1, s1, r2, s2, e1, e2, -, q⟩ := (eq_share hF h : ∃ r1 s1 r2 s2, f_X3_share F a1 a2 a3 σ = some (r1, s1) ∧ f_X4_share F a1 a2 a3 s1 = some (r2, s2) ∧ wR 188 s2 ∧ r1 = r2)
  exact ⟨r1, s1, r2, s2, e1, e2, fun h => absurd h (by decide), q⟩
theorem wl_k28 {F : Nat} (hF : 73786976294838206464 ≤ F) : wl_ok_28 (w1 0) (w1 6) F := fun σ a1 a2 a3 a4 g => by
  obtain ⟨h, e, z⟩ := g rfl
  obtain ⟨r1, s1, r2, s2, e1, e2, -, q⟩ := (eq_two hF h : ∃ r1 s1 r2 s2, f_X3_two F a1 a2 a3 a4 σ = some (r1, s1) ∧ f_X4_two F a1 a2 a3 a4 s1 = some (r2, s2) ∧ wR 188 s2 ∧ r1 = r2)
  exact ⟨r1, s1, r2, s2, e1, e2, fun h => absurd h (by decide), q⟩
theorem wl_k29 {F : Nat} (hF : 73786976294838206464 ≤ F) : wl_ok_29 (w1 0) (w1 6) F := fun σ g => by
  obtain ⟨h, e, z⟩ := g rfl
  obtain ⟨r1, s1, r2, s2, e1, e2, -, q⟩ := (eq_whichLaw hF h : ∃ r1 s1 r2 s2, f_X3_whichLaw F σ = some (r1, s1) ∧ f_X4_whichLaw F s1 = some (r2, s2) ∧ wR 188 s2 ∧ r1 = r2)
  exact ⟨r1, s1, r2, s2, e1, e2, fun h => absurd h (by decide), q⟩
theorem wl_k30 {F : Nat} (hF : 73786976294838206464 ≤ F) : wl_ok_30 (w1 0) (w1 6) F := fun σ a1 a2 a3 g => by
  obtain ⟨h, e, z⟩ := g rfl
  obtain ⟨r1, s1, r2, s2, e1, e2, -, q⟩ := (eq_whichKind hF h : ∃ r1 s1 r2 s2, f_X3_whichKind F a1 a2 a3 σ = some (r1, s1) ∧ f_X4_whichKind F a1 a2 a3 s1 = some (r2, s2) ∧ wR 188 s2 ∧ r1 = r2)
  exact ⟨r1, s1, r2, s2, e1, e2, fun h => absurd h (by decide), q⟩
theorem wl_k31 {F : Nat} (hF : 73786976294838206464 ≤ F) : wl_ok_31 (w1 0) (w1 6) F := fun σ a1 a2 a3 a4 a5 g => by
  obtain ⟨h, e, z⟩ := g rfl
  obtain ⟨r1, s1, r2, s2, e1, e2, -, q⟩ := (eq_ill hF h : ∃ r1 s1 r2 s2, f_X3_ill F a1 a2 a3 a4 a5 σ = some (r1, s1) ∧ f_X4_ill F a1 a2 a3 a4 a5 s1 = some (r2, s2) ∧ wR 188 s2 ∧ r1 = r2)
  exact ⟨r1, s1, r2, s2, e1, e2, fun h => absurd h (by decide), q⟩
theorem wl_k32 {F : Nat} (hF : 73786976294838206464 ≤ F) : wl_ok_32 (w1 0) (w1 6) F := fun σ a1 g => by
  obtain ⟨h, e, z⟩ := g rfl
  obtain ⟨r1, s1, r2, s2, e1, e2, -, q⟩ := (eq_busy hF h : ∃ r1 s1 r2 s2, f_X3_busy F a1 σ = some (r1, s1) ∧ f_X4_busy F a1 s1 = some (r2, s2) ∧ wR 188 s2 ∧ r1 = r2)
  exact ⟨r1, s1, r2, s2, e1, e2, fun h => absurd h (by decide), q⟩
theorem wl_k33 {F : Nat} (hF : 73786976294838206464 ≤ F) : wl_ok_33 (w1 0) (w1 6) F := fun σ a1 a2 g => by
  obtain ⟨h, e, z⟩ := g rfl
  obtain ⟨r1, s1, r2, s2, e1, e2, -, q⟩ := (eq_together hF h : ∃ r1 s1 r2 s2, f_X3_together F a1 a2 σ = some (r1, s1) ∧ f_X4_together F a1 a2 s1 = some (r2, s2) ∧ wR 188 s2 ∧ r1 = r2)
  exact ⟨r1, s1, r2, s2, e1, e2, fun h => absurd h (by decide), q⟩
theorem wl_k34 {F : Nat} (hF : 73786976294838206464 ≤ F) : wl_ok_34 (w1 0) (w1 6) F := fun σ a1 g => by
  obtain ⟨h, e, z⟩ := g rfl
  obtain ⟨r1, s1, r2, s2, e1, e2, -, q⟩ := (eq_swap hF h : ∃ r1 s1 r2 s2, f_X3_swap F a1 σ = some (r1, s1) ∧ f_X4_swap F a1 s1 = some (r2, s2) ∧ wR 188 s2 ∧ r1 = r2)
  exact ⟨r1, s1, r2, s2, e1, e2, fun h => absurd h (by decide), q⟩
theorem wl_k35 {F : Nat} (hF : 73786976294838206464 ≤ F) : wl_ok_35 (w1 0) (w1 6) F := fun σ a1 a2 a3 g => by
  obtain ⟨h, e, z⟩ := g rfl
  obtain ⟨r1, s1, r2, s2, e1, e2, -, q⟩ := (eq_heir hF h : ∃ r1 s1 r2 s2, f_X3_heir F a1 a2 a3 σ = some (r1, s1) ∧ f_X4_heir F a1 a2 a3 s1 = some (r2, s2) ∧ wR 188 s2 ∧ r1 = r2)
  exact ⟨r1, s1, r2, s2, e1, e2, fun h => absurd h (by decide), q⟩
theorem wl_k36 {F : Nat} (hF : 73786976294838206464 ≤ F) : wl_ok_36 (w1 0) (w1 6) F := fun σ a1 g => by
  obtain ⟨h, e, z⟩ := g rfl
  obtain ⟨r1, s1, r2, s2, e1, e2, -, q⟩ := (eq_even hF h : ∃ r1 s1 r2 s2, f_X3_even F a1 σ = some (r1, s1) ∧ f_X4_even F a1 s1 = some (r2, s2) ∧ wR 188 s2 ∧ r1 = r2)
  exact ⟨r1, s1, r2, s2, e1, e2, fun h => absurd h (by decide), q⟩
theorem wl_k37 {F : Nat} (hF : 73786976294838206464 ≤ F) : wl_ok_37 (w1 0) (w1 6) F := fun σ g => by
  obtain ⟨h, e, z⟩ := g rfl
  obtain ⟨r1, s1, r2, s2, e1, e2, -, q⟩ := (eq_last hF h : ∃ r1 s1 r2 s2, f_X3_last F σ = some (r1, s1) ∧ f_X4_last F s1 = some (r2, s2) ∧ wR 188 s2 ∧ r1 = r2)
  exact ⟨r1, s1, r2, s2, e1, e2, fun h => absurd h (by decide), q⟩
theorem wl_k38 {F : Nat} (hF : 73786976294838206464 ≤ F) : wl_ok_38 (w1 0) (w1 6) F := fun σ a1 a2 a3 g => by
  obtain ⟨h, e, z⟩ := g rfl
  obtain ⟨r1, s1, r2, s2, e1, e2, -, q⟩ := (eq_joint1 hF h z : ∃ r1 s1 r2 s2, f_X3_joint F a1 a2 a3 σ = some (r1, s1) ∧ f_X4_joint F a1 a2 a3 s1 = some (r2, s2) ∧ wR 188 s2 ∧ r1 = r2)
  exact ⟨r1, s1, r2, s2, e1, e2, fun h => absurd h (by decide), q⟩
theorem wl_k39 {F : Nat} (hF : 73786976294838206464 ≤ F) : wl_ok_39 (w1 0) (w1 6) F := fun σ a1 a2 g => by
  obtain ⟨h, e, z⟩ := g rfl
  obtain ⟨r1, s1, r2, s2, e1, e2, -, q⟩ := (eq_rank hF h : ∃ r1 s1 r2 s2, f_X3_rank F a1 a2 σ = some (r1, s1) ∧ f_X4_rank F a1 a2 s1 = some (r2, s2) ∧ wR 188 s2 ∧ r1 = r2)
  exact ⟨r1, s1, r2, s2, e1, e2, fun h => absurd h (by decide), q⟩
theorem wl_k40 {F : Nat} (hF : 73786976294838206464 ≤ F) : wl_ok_40 (w1 0) (w1 6) F := fun σ a1 a2 g => by
  obtain ⟨h, e, z⟩ := g rfl
  obtain ⟨r1, s1, r2, s2, e1, e2, -, q⟩ := (eq_gap hF h : ∃ r1 s1 r2 s2, f_X3_gap F a1 a2 σ = some (r1, s1) ∧ f_X4_gap F a1 a2 s1 = some (r2, s2) ∧ wR 188 s2 ∧ r1 = r2)
  exact ⟨r1, s1, r2, s2, e1, e2, fun h => absurd h (by decide), q⟩
theorem wl_k41 {F : Nat} (hF : 73786976294838206464 ≤ F) : wl_ok_41 (w1 0) (w1 6) F := fun σ a1 a2 g => by
  obtain ⟨h, e, z⟩ := g rfl
  obtain ⟨r1, s1, r2, s2, e1, e2, -, q⟩ := (eq_wasted hF h : ∃ r1 s1 r2 s2, f_X3_wasted F a1 a2 σ = some (r1, s1) ∧ f_X4_wasted F a1 a2 s1 = some (r2, s2) ∧ wR 188 s2 ∧ r1 = r2)
  exact ⟨r1, s1, r2, s2, e1, e2, fun h => absurd h (by decide), q⟩
theorem wl_k42 {F : Nat} (hF : 73786976294838206464 ≤ F) : wl_ok_42 (w1 0) (w1 6) F := fun σ a1 a2 g => by
  obtain ⟨h, e, z⟩ := g rfl
  obtain ⟨r1, s1, r2, s2, e1, e2, -, q⟩ := (eq_ahead hF h : ∃ r1 s1 r2 s2, f_X3_ahead F a1 a2 σ = some (r1, s1) ∧ f_X4_ahead F a1 a2 s1 = some (r2, s2) ∧ wR 188 s2 ∧ r1 = r2)
  exact ⟨r1, s1, r2, s2, e1, e2, fun h => absurd h (by decide), q⟩
theorem wl_k43 {F : Nat} (hF : 73786976294838206464 ≤ F) : wl_ok_43 (w1 0) (w1 6) F := fun σ a1 a2 g => by
  obtain ⟨h, e, z⟩ := g rfl
  obtain ⟨r1, s1, r2, s2, e1, e2, -, q⟩ := (eq_bestLaw hF h : ∃ r1 s1 r2 s2, f_X3_bestLaw F a1 a2 σ = some (r1, s1) ∧ f_X4_bestLaw F a1 a2 s1 = some (r2, s2) ∧ wR 188 s2 ∧ r1 = r2)
  exact ⟨r1, s1, r2, s2, e1, e2, fun h => absurd h (by decide), q⟩
theorem wl_k44 {F : Nat} (hF : 73786976294838206464 ≤ F) : wl_ok_44 (w1 0) (w1 6) F := fun σ a1 a2 a3 g => by
  obtain ⟨h, e, z⟩ := g rfl
  obtain ⟨r1, s1, r2, s2, e1, e2, -, q⟩ := (eq_newcomer hF h : ∃ r1 s1 r2 s2, f_X3_newcomer F a1 a2 a3 σ = some (r1, s1) ∧ f_X4_newcomer F a1 a2 a3 s1 = some (r2, s2) ∧ wR 188 s2 ∧ r1 = r2)
  exact ⟨r1, s1, r2, s2, e1, e2, fun h => absurd h (by decide), q⟩
theorem wl_k45 {F : Nat} (hF : 73786976294838206464 ≤ F) : wl_ok_45 (w1 0) (w1 6) F := fun σ a1 g => by
  obtain ⟨h, e, z⟩ := g rfl
  obtain ⟨r1, s1, r2, s2, e1, e2, -, q⟩ := (eq_mostSeen hF h : ∃ r1 s1 r2 s2, f_X3_mostSeen F a1 σ = some (r1, s1) ∧ f_X4_mostSeen F a1 s1 = some (r2, s2) ∧ wR 188 s2 ∧ r1 = r2)
  exact ⟨r1, s1, r2, s2, e1, e2, fun h => absurd h (by decide), q⟩
theorem wl_k46 {F : Nat} (hF : 73786976294838206464 ≤ F) : wl_ok_46 (w1 0) (w1 6) F := fun σ a1 a2 g => by
  obtain ⟨h, e, z⟩ := g rfl
  obtain ⟨r1, s1, r2, s2, e1, e2, -, q⟩ := (eq_duels hF h : ∃ r1 s1 r2 s2, f_X3_duels F a1 a2 σ = some (r1, s1) ∧ f_X4_duels F a1 a2 s1 = some (r2, s2) ∧ wR 188 s2 ∧ r1 = r2)
  exact ⟨r1, s1, r2, s2, e1, e2, fun h => absurd h (by decide), q⟩
theorem wl_k47 {F : Nat} (hF : 73786976294838206464 ≤ F) : wl_ok_47 (w1 0) (w1 6) F := fun σ a1 g => by
  obtain ⟨h, e, z⟩ := g rfl
  obtain ⟨r1, s1, r2, s2, e1, e2, -, q⟩ := (mu_row hF (by omega) h : ∃ r1 s1 r2 s2, f_X3_row F a1 σ = some (r1, s1) ∧ f_X4_row F a1 s1 = some (r2, s2) ∧ wR 188 s2 ∧ r1 = r2)
  exact ⟨r1, s1, r2, s2, e1, e2, fun h => absurd h (by decide), q⟩
theorem wl_k48 {F : Nat} (hF : 73786976294838206464 ≤ F) : wl_ok_48 (w1 0) (w1 6) F := fun σ a1 g => by
  obtain ⟨h, e, z⟩ := g rfl
  obtain ⟨r1, s1, r2, s2, e1, e2, -, q⟩ := (eqd_judge hF h : ∃ r1 s1 r2 s2, f_X3_judge F a1 σ = some (r1, s1) ∧ f_X4_judge F a1 s1 = some (r2, s2) ∧ wR 188 s2 ∧ r1 = r2)
  exact ⟨r1, s1, r2, s2, e1, e2, fun h => absurd h (by decide), q⟩
theorem wl_k49 {F : Nat} (hF : 73786976294838206464 ≤ F) : wl_ok_49 (w1 0) (w1 6) F := fun σ g => by
  obtain ⟨h, e, z⟩ := g rfl
  obtain ⟨r1, s1, r2, s2, e1, e2, -, q⟩ := (mu_clear hF (by omega) h : ∃ r1 s1 r2 s2, f_X3_clear F σ = some (r1, s1) ∧ f_X4_clear F s1 = some (r2, s2) ∧ wR 188 s2 ∧ r1 = r2)
  exact ⟨r1, s1, r2, s2, e1, e2, fun h => absurd h (by decide), q⟩
theorem wl_k50 {F : Nat} (hF : 73786976294838206464 ≤ F) : wl_ok_50 (w1 0) (w1 6) F := fun σ a1 a2 a3 g => by
  obtain ⟨h, e, z⟩ := g rfl
  obtain ⟨r1, s1, r2, s2, e1, e2, -, q⟩ := (eq_lots hF h : ∃ r1 s1 r2 s2, f_X3_lots F a1 a2 a3 σ = some (r1, s1) ∧ f_X4_lots F a1 a2 a3 s1 = some (r2, s2) ∧ wR 188 s2 ∧ r1 = r2)
  exact ⟨r1, s1, r2, s2, e1, e2, fun h => absurd h (by decide), q⟩
theorem wl_k51 {F : Nat} (hF : 73786976294838206464 ≤ F) : wl_ok_51 (w1 0) (w1 6) F := fun σ g => by
  obtain ⟨h, e, z⟩ := g rfl
  obtain ⟨r1, s1, r2, s2, e1, e2, -, q⟩ := (mu_image hF (by omega) h : ∃ r1 s1 r2 s2, f_X3_image F σ = some (r1, s1) ∧ f_X4_image F s1 = some (r2, s2) ∧ wR 188 s2 ∧ r1 = r2)
  exact ⟨r1, s1, r2, s2, e1, e2, fun h => absurd h (by decide), q⟩
theorem wl_k52 {F : Nat} (hF : 73786976294838206464 ≤ F) : wl_ok_52 (w1 0) (w1 6) F := fun σ g => by
  obtain ⟨h, e, z⟩ := g rfl
  obtain ⟨r1, s1, r2, s2, e1, e2, -, q⟩ := (mu_restore hF (by omega) h : ∃ r1 s1 r2 s2, f_X3_restore F σ = some (r1, s1) ∧ f_X4_restore F s1 = some (r2, s2) ∧ wR 188 s2 ∧ r1 = r2)
  exact ⟨r1, s1, r2, s2, e1, e2, fun h => absurd h (by decide), q⟩
theorem wl_k53 {F : Nat} (hF : 73786976294838206464 ≤ F) : wl_ok_53 (w1 0) (w1 6) F := fun σ a1 g => by
  obtain ⟨h, e, z⟩ := g rfl
  obtain ⟨r1, s1, r2, s2, e1, e2, -, q⟩ := (eq_count1 hF h e : ∃ r1 s1 r2 s2, f_X3_count F a1 σ = some (r1, s1) ∧ f_X4_count F a1 s1 = some (r2, s2) ∧ wR 188 s2 ∧ r1 = r2)
  exact ⟨r1, s1, r2, s2, e1, e2, fun h => absurd h (by decide), q⟩
theorem wl_all {F : Nat} (hF : 73786976294838206464 ≤ F) : wl_OK (w1 0) (w1 6) F := ⟨wl_k0 hF, wl_k1 hF, wl_k2 hF, wl_k3 hF, wl_k4 hF, wl_k5 hF, wl_k6 hF, wl_k7 hF, wl_k8 hF, wl_k9 hF, wl_k10 hF, wl_k11 hF, wl_k12 hF, wl_k13 hF, wl_k14 hF, wl_k15 hF, wl_k16 hF, wl_k17 hF, wl_k18 hF, wl_k19 hF, wl_k20 hF, wl_k21 hF, wl_k22 hF, wl_k23 hF, wl_k24 hF, wl_k25 hF, wl_k26 hF, wl_k27 hF, wl_k28 hF, wl_k29 hF, wl_k30 hF, wl_k31 hF, wl_k32 hF, wl_k33 hF, wl_k34 hF, wl_k35 hF, wl_k36 hF, wl_k37 hF, wl_k38 hF, wl_k39 hF, wl_k40 hF, wl_k41 hF, wl_k42 hF, wl_k43 hF, wl_k44 hF, wl_k45 hF, wl_k46 hF, wl_k47 hF, wl_k48 hF, wl_k49 hF, wl_k50 hF, wl_k51 hF, wl_k52 hF, wl_k53 hF⟩
theorem w1_m0 : w1 0 wt_m0 := fun _ => ⟨wR_m0, rfl, rfl⟩
