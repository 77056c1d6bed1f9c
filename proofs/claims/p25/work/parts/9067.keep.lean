theorem mu_paneOf {F lim : Nat} {σ : Mem} {a1 a2 : Int32} (hF : 73786976294838206464 ≤ F) (hl : 28 ≤ lim ∧ lim ≤ 188) (h : wR lim σ) : ∃ r1 s1 r2 s2, f_X3_paneOf F a1 a2 σ = some (r1, s1) ∧ f_X4_paneOf F a1 a2 s1 = some (r2, s2) ∧ wR lim s2 := by
  obtain ⟨hX, hM, hV, -, -, -, -⟩ := id h
  refine two (pc_sf (s_X3_paneOf (F := F) (x1 := a1) (x2 := a2) (by omega) hX) (pc_pf (fr_X3_paneOf (F := F) (x1 := a1) (x2 := a2) (by omega)))) (fun a s q => pc_sf (s_X4_paneOf (F := F) (x1 := a1) (x2 := a2) hF (wm_congr hM q.1.2.1)) (pc_and (Q := fun _ z => VE (wvM s) z) (pc_pf (fr_X4_paneOf (F := F) (x1 := a1) (x2 := a2) (by omega))) ((fun a z e => VE_fr (fun _ _ => rfl) (fr_X4_paneOf (F := F) (x1 := a1) (x2 := a2) (by omega) a z e) (by intro c hc; unfold cM2 at hc; show ¬ _; unfold wf_60; first | exact id | omega))))) (fun a s b z q1 q2 => ?_)
  obtain ⟨⟨x1, x2, -⟩, f1⟩ := q1
  obtain ⟨⟨m1, m2, -⟩, f2, v⟩ := q2
  exact wR_ve hl h x1 m1 m2 (ag_tr (ag_fr f1 (fun c hc => by unfold cRest cX cI cL cW at hc; show ¬ _; unfold wf_17; first | exact id | omega)) (ag_fr f2 (fun c hc => by unfold cRest cX cI cL cW at hc; show ¬ _; unfold wf_60; first | exact id | omega))) (VE_s x2 v)
theorem mu_lookerOf {F lim : Nat} {σ : Mem} {a1 a2 : Int32} (hF : 73786976294838206464 ≤ F) (hl : 28 ≤ lim ∧ lim ≤ 188) (h : wR lim σ) : ∃ r1 s1 r2 s2, f_X3_lookerOf F a1 a2 σ = some (r1, s1) ∧ f_X4_lookerOf F a1 a2 s1 = some (r2, s2) ∧ wR lim s2 := by
  obtain ⟨hX, hM, hV, -, -, -, -⟩ := id h
  refine two (pc_sf (s_X3_lookerOf (F := F) (x1 := a1) (x2 := a2) (by omega) hX) (pc_pf (fr_X3_lookerOf (F := F) (x1 := a1) (x2 := a2) (by omega)))) (fun a s q => pc_sf (s_X4_lookerOf (F := F) (x1 := a1) (x2 := a2) hF (wm_congr hM q.1.2.1)) (pc_and (Q := fun _ z => VE (wvM s) z) (pc_pf (fr_X4_lookerOf (F := F) (x1 := a1) (x2 := a2) (by omega))) ((fun a z e => VE_fr (fun _ _ => rfl) (fr_X4_lookerOf (F := F) (x1 := a1) (x2 := a2) (by omega) a z e) (by intro c hc; unfold cM2 at hc; show ¬ _; unfold wf_61; first | exact id | omega))))) (fun a s b z q1 q2 => ?_)
  obtain ⟨⟨x1, x2, -⟩, f1⟩ := q1
  obtain ⟨⟨m1, m2, -⟩, f2, v⟩ := q2
  exact wR_ve hl h x1 m1 m2 (ag_tr (ag_fr f1 (fun c hc => by unfold cRest cX cI cL cW at hc; show ¬ _; unfold wf_21; first | exact id | omega)) (ag_fr f2 (fun c hc => by unfold cRest cX cI cL cW at hc; show ¬ _; unfold wf_61; first | exact id | omega))) (VE_s x2 v)
theorem mu_roster {F lim : Nat} {σ : Mem} {a1 a2 : Int32} (hF : 73786976294838206464 ≤ F) (hl : 28 ≤ lim ∧ lim ≤ 188) (h : wR lim σ) : ∃ r1 s1 r2 s2, f_X3_roster F a1 a2 σ = some (r1, s1) ∧ f_X4_roster F a1 a2 s1 = some (r2, s2) ∧ wR lim s2 := by
  obtain ⟨hX, hM, hV, -, -, -, -⟩ := id h
  refine two (pc_sf (s_X3_roster (F := F) (x1 := a1) (x2 := a2) (by omega) hX) (pc_pf (fr_X3_roster (F := F) (x1 := a1) (x2 := a2) (by omega)))) (fun a s q => pc_sf (s_X4_roster (F := F) (x1 := a1) (x2 := a2) hF (wm_congr hM q.1.2.1)) (pc_and (Q := fun _ z => VE (wvM s) z) (pc_pf (fr_X4_roster (F := F) (x1 := a1) (x2 := a2) (by omega))) ((fun a z e => VE_fr (fun _ _ => rfl) (fr_X4_roster (F := F) (x1 := a1) (x2 := a2) (by omega) a z e) (by intro c hc; unfold cM2 at hc; show ¬ _; unfold wf_60; first | exact id | omega))))) (fun a s b z q1 q2 => ?_)
  obtain ⟨⟨x1, x2, -⟩, f1⟩ := q1
  obtain ⟨⟨m1, m2, -⟩, f2, v⟩ := q2
  exact wR_ve hl h x1 m1 m2 (ag_tr (ag_fr f1 (fun c hc => by unfold cRest cX cI cL cW at hc; show ¬ _; unfold wf_17; first | exact id | omega)) (ag_fr f2 (fun c hc => by unfold cRest cX cI cL cW at hc; show ¬ _; unfold wf_60; first | exact id | omega))) (VE_s x2 v)
theorem mu_counts {F lim : Nat} {σ : Mem} {a1 a2 a3 : Int32} (hF : 73786976294838206464 ≤ F) (hl : 28 ≤ lim ∧ lim ≤ 188) (h : wR lim σ) : ∃ r1 s1 r2 s2, f_X3_counts F a1 a2 a3 σ = some (r1, s1) ∧ f_X4_counts F a1 a2 a3 s1 = some (r2, s2) ∧ wR lim s2 := by
  obtain ⟨hX, hM, hV, -, -, -, -⟩ := id h
  refine two (pc_sf (s_X3_counts (F := F) (x1 := a1) (x2 := a2) (x3 := a3) (by omega) hX) (pc_pf (fr_X3_counts (F := F) (x1 := a1) (x2 := a2) (x3 := a3) (by omega)))) (fun a s q => pc_sf (s_X4_counts (F := F) (x1 := a1) (x2 := a2) (x3 := a3) hF (wm_congr hM q.1.2.1)) (pc_and (Q := fun _ z => VE (wvM s) z) (pc_pf (fr_X4_counts (F := F) (x1 := a1) (x2 := a2) (x3 := a3) (by omega))) ((fun a z e => VE_fr (fun _ _ => rfl) (fr_X4_counts (F := F) (x1 := a1) (x2 := a2) (x3 := a3) (by omega) a z e) (by intro c hc; unfold cM2 at hc; show ¬ _; unfold wf_60; first | exact id | omega))))) (fun a s b z q1 q2 => ?_)
  obtain ⟨⟨x1, x2, -⟩, f1⟩ := q1
  obtain ⟨⟨m1, m2, -⟩, f2, v⟩ := q2
  exact wR_ve hl h x1 m1 m2 (ag_tr (ag_fr f1 (fun c hc => by unfold cRest cX cI cL cW at hc; show ¬ _; unfold wf_21; first | exact id | omega)) (ag_fr f2 (fun c hc => by unfold cRest cX cI cL cW at hc; show ¬ _; unfold wf_60; first | exact id | omega))) (VE_s x2 v)
theorem mu_owner {F lim : Nat} {σ : Mem} {a1 a2 : Int32} (hF : 73786976294838206464 ≤ F) (hl : 28 ≤ lim ∧ lim ≤ 188) (h : wR lim σ) : ∃ r1 s1 r2 s2, f_X3_owner F a1 a2 σ = some (r1, s1) ∧ f_X4_owner F a1 a2 s1 = some (r2, s2) ∧ wR lim s2 := by
  obtain ⟨hX, hM, hV, -, -, -, -⟩ := id h
  refine two (pc_sf (s_X3_owner (F := F) (x1 := a1) (x2 := a2) (by omega) hX) (pc_pf (fr_X3_owner (F := F) (x1 := a1) (x2 := a2) (by omega)))) (fun a s q => pc_sf (s_X4_owner (F := F) (x1 := a1) (x2 := a2) hF (wm_congr hM q.1.2.1)) (pc_and (Q := fun _ z => VE (wvM s) z) (pc_pf (fr_X4_owner (F := F) (x1 := a1) (x2 := a2) (by omega))) ((fun a z e => VE_fr (fun _ _ => rfl) (fr_X4_owner (F := F) (x1 := a1) (x2 := a2) (by omega) a z e) (by intro c hc; unfold cM2 at hc; show ¬ _; unfold wf_61; first | exact id | omega))))) (fun a s b z q1 q2 => ?_)
  obtain ⟨⟨x1, x2, -⟩, f1⟩ := q1
  obtain ⟨⟨m1, m2, -⟩, f2, v⟩ := q2
  exact wR_ve hl h x1 m1 m2 (ag_tr (ag_fr f1 (fun c hc => by unfold cRest cX cI cL cW at hc; show ¬ _; unfold wf_21; first | exact id | omega)) (ag_fr f2 (fun c hc => by unfold cRest cX cI cL cW at hc; show ¬ _; unfold wf_61; first | exact id | omega))) (VE_s x2 v)
theorem mu_owns {F lim : Nat} {σ : Mem} {a1 a2 a3 : Int32} (hF : 73786976294838206464 ≤ F) (hl : 28 ≤ lim ∧ lim ≤ 188) (h : wR lim σ) : ∃ r1 s1 r2 s2, f_X3_owns F a1 a2 a3 σ = some (r1, s1) ∧ f_X4_owns F a1 a2 a3 s1 = some (r2, s2) ∧ wR lim s2 := by
  obtain ⟨hX, hM, hV, -, -, -, -⟩ := id h
  refine two (pc_sf (s_X3_owns (F := F) (x1 := a1) (x2 := a2) (x3 := a3) (by omega) hX) (pc_pf (fr_X3_owns (F := F) (x1 := a1) (x2 := a2) (x3 := a3) (by omega)))) (fun a s q => pc_sf (s_X4_owns (F := F) (x1 := a1) (x2 := a2) (x3 := a3) hF (wm_congr hM q.1.2.1)) (pc_and (Q := fun _ z => VE (wvM s) z) (pc_pf (fr_X4_owns (F := F) (x1 := a1) (x2 := a2) (x3 := a3) (by omega))) ((fun a z e => VE_fr (fun _ _ => rfl) (fr_X4_owns (F := F) (x1 := a1) (x2 := a2) (x3 := a3) (by omega) a z e) (by intro c hc; unfold cM2 at hc; show ¬ _; unfold wf_61; first | exact id | omega))))) (fun a s b z q1 q2 => ?_)
  obtain ⟨⟨x1, x2, -⟩, f1⟩ := q1
  obtain ⟨⟨m1, m2, -⟩, f2, v⟩ := q2
  exact wR_ve hl h x1 m1 m2 (ag_tr (ag_fr f1 (fun c hc => by unfold cRest cX cI cL cW at hc; show ¬ _; unfold wf_21; first | exact id | omega)) (ag_fr f2 (fun c hc => by unfold cRest cX cI cL cW at hc; show ¬ _; unfold wf_61; first | exact id | omega))) (VE_s x2 v)
theorem mu_nobodys {F lim : Nat} {σ : Mem} {a1 : Int32} (hF : 73786976294838206464 ≤ F) (hl : 28 ≤ lim ∧ lim ≤ 188) (h : wR lim σ) : ∃ r1 s1 r2 s2, f_X3_nobodys F a1 σ = some (r1, s1) ∧ f_X4_nobodys F a1 s1 = some (r2, s2) ∧ wR lim s2 := by
  obtain ⟨hX, hM, hV, -, -, -, -⟩ := id h
  refine two (pc_sf (s_X3_nobodys (F := F) (x1 := a1) (by omega) hX) (pc_pf (fr_X3_nobodys (F := F) (x1 := a1) (by omega)))) (fun a s q => pc_sf (s_X4_nobodys (F := F) (x1 := a1) hF (wm_congr hM q.1.2.1)) (pc_and (Q := fun _ z => VE (wvM s) z) (pc_pf (fr_X4_nobodys (F := F) (x1 := a1) (by omega))) ((fun a z e => VE_fr (fun _ _ => rfl) (fr_X4_nobodys (F := F) (x1 := a1) (by omega) a z e) (by intro c hc; unfold cM2 at hc; show ¬ _; unfold wf_61; first | exact id | omega))))) (fun a s b z q1 q2 => ?_)
  obtain ⟨⟨x1, x2, -⟩, f1⟩ := q1
  obtain ⟨⟨m1, m2, -⟩, f2, v⟩ := q2
  exact wR_ve hl h x1 m1 m2 (ag_tr (ag_fr f1 (fun c hc => by unfold cRest cX cI cL cW at hc; show ¬ _; unfold wf_21; first | exact id | omega)) (ag_fr f2 (fun c hc => by unfold cRest cX cI cL cW at hc; show ¬ _; unfold wf_61; first | exact id | omega))) (VE_s x2 v)
theorem mu_from {F lim : Nat} {σ : Mem} {a1 a2 : Int32} (hF : 73786976294838206464 ≤ F) (hl : 28 ≤ lim ∧ lim ≤ 188) (h : wR lim σ) : ∃ r1 s1 r2 s2, f_X3_from F a1 a2 σ = some (r1, s1) ∧ f_X4_from F a1 a2 s1 = some (r2, s2) ∧ wR lim s2 := by
  obtain ⟨hX, hM, hV, -, -, -, -⟩ := id h
  refine two (pc_sf (s_X3_from (F := F) (x1 := a1) (x2 := a2) (by omega) hX) (pc_pf (fr_X3_from (F := F) (x1 := a1) (x2 := a2) (by omega)))) (fun a s q => pc_sf (s_X4_from (F := F) (x1 := a1) (x2 := a2) hF (wm_congr hM q.1.2.1)) (pc_and (Q := fun _ z => VE (wvM s) z) (pc_pf (fr_X4_from (F := F) (x1 := a1) (x2 := a2) (by omega))) ((fun a z e => VE_fr (fun _ _ => rfl) (fr_X4_from (F := F) (x1 := a1) (x2 := a2) (by omega) a z e) (by intro c hc; unfold cM2 at hc; show ¬ _; unfold wf_61; first | exact id | omega))))) (fun a s b z q1 q2 => ?_)
  obtain ⟨⟨x1, x2, -⟩, f1⟩ := q1
  obtain ⟨⟨m1, m2, -⟩, f2, v⟩ := q2
  exact wR_ve hl h x1 m1 m2 (ag_tr (ag_fr f1 (fun c hc => by unfold cRest cX cI cL cW at hc; show ¬ _; unfold wf_21; first | exact id | omega)) (ag_fr f2 (fun c hc => by unfold cRest cX cI cL cW at hc; show ¬ _; unfold wf_61; first | exact id | omega))) (VE_s x2 v)
theorem mu_lost {F lim : Nat} {σ : Mem} {a1 : Int32} (hF : 73786976294838206464 ≤ F) (hl : 28 ≤ lim ∧ lim ≤ 188) (h : wR lim σ) : ∃ r1 s1 r2 s2, f_X3_lost F a1 σ = some (r1, s1) ∧ f_X4_lost F a1 s1 = some (r2, s2) ∧ wR lim s2 := by
  obtain ⟨hX, hM, hV, -, -, -, -⟩ := id h
  refine two (pc_sf (s_X3_lost (F := F) (x1 := a1) (by omega) hX) (pc_pf (fr_X3_lost (F := F) (x1 := a1) (by omega)))) (fun a s q => pc_sf (s_X4_lost (F := F) (x1 := a1) hF (wm_congr hM q.1.2.1)) (pc_and (Q := fun _ z => VE (wvM s) z) (pc_pf (fr_X4_lost (F := F) (x1 := a1) (by omega))) ((fun a z e => VE_fr (fun _ _ => rfl) (fr_X4_lost (F := F) (x1 := a1) (by omega) a z e) (by intro c hc; unfold cM2 at hc; show ¬ _; unfold wf_61; first | exact id | omega))))) (fun a s b z q1 q2 => ?_)
  obtain ⟨⟨x1, x2, -⟩, f1⟩ := q1
  obtain ⟨⟨m1, m2, -⟩, f2, v⟩ := q2
  exact wR_ve hl h x1 m1 m2 (ag_tr (ag_fr f1 (fun c hc => by unfold cRest cX cI cL cW at hc; show ¬ _; unfold wf_21; first | exact id | omega)) (ag_fr f2 (fun c hc => by unfold cRest cX cI cL cW at hc; show ¬ _; unfold wf_61; first | exact id | omega))) (VE_s x2 v)
theorem mu_richest {F lim : Nat} {σ : Mem} {a1 a2 : Int32} (hF : 73786976294838206464 ≤ F) (hl : 28 ≤ lim ∧ lim ≤ 188) (h : wR lim σ) : ∃ r1 s1 r2 s2, f_X3_richest F a1 a2 σ = some (r1, s1) ∧ f_X4_richest F a1 a2 s1 = some (r2, s2) ∧ wR lim s2 := by
  obtain ⟨hX, hM, hV, -, -, -, -⟩ := id h
  refine two (pc_sf (s_X3_richest (F := F) (x1 := a1) (x2 := a2) (by omega) hX) (pc_pf (fr_X3_richest (F := F) (x1 := a1) (x2 := a2) (by omega)))) (fun a s q => pc_sf (s_X4_richest (F := F) (x1 := a1) (x2 := a2) hF (wm_congr hM q.1.2.1)) (pc_and (Q := fun _ z => VE (wvM s) z) (pc_pf (fr_X4_richest (F := F) (x1 := a1) (x2 := a2) (by omega))) ((fun a z e => VE_fr (fun _ _ => rfl) (fr_X4_richest (F := F) (x1 := a1) (x2 := a2) (by omega) a z e) (by intro c hc; unfold cM2 at hc; show ¬ _; unfold wf_61; first | exact id | omega))))) (fun a s b z q1 q2 => ?_)
  obtain ⟨⟨x1, x2, -⟩, f1⟩ := q1
  obtain ⟨⟨m1, m2, -⟩, f2, v⟩ := q2
  exact wR_ve hl h x1 m1 m2 (ag_tr (ag_fr f1 (fun c hc => by unfold cRest cX cI cL cW at hc; show ¬ _; unfold wf_21; first | exact id | omega)) (ag_fr f2 (fun c hc => by unfold cRest cX cI cL cW at hc; show ¬ _; unfold wf_61; first | exact id | omega))) (VE_s x2 v)
theorem mu_staredOut {F lim : Nat} {σ : Mem} {a1 a2 a3 : Int32} (hF : 73786976294838206464 ≤ F) (hl : 28 ≤ lim ∧ lim ≤ 188) (h : wR lim σ) : ∃ r1 s1 r2 s2, f_X3_staredOut F a1 a2 a3 σ = some (r1, s1) ∧ f_X4_staredOut F a1 a2 a3 s1 = some (r2, s2) ∧ wR lim s2 := by
  obtain ⟨hX, hM, hV, -, -, -, -⟩ := id h
  refine two (pc_sf (s_X3_staredOut (F := F) (x1 := a1) (x2 := a2) (x3 := a3) (by omega) hX) (pc_pf (fr_X3_staredOut (F := F) (x1 := a1) (x2 := a2) (x3 := a3) (by omega)))) (fun a s q => pc_sf (s_X4_staredOut (F := F) (x1 := a1) (x2 := a2) (x3 := a3) hF (wm_congr hM q.1.2.1)) (pc_and (Q := fun _ z => VE (wvM s) z) (pc_pf (fr_X4_staredOut (F := F) (x1 := a1) (x2 := a2) (x3 := a3) (by omega))) ((fun a z e => VE_fr (fun _ _ => rfl) (fr_X4_staredOut (F := F) (x1 := a1) (x2 := a2) (x3 := a3) (by omega) a z e) (by intro c hc; unfold cM2 at hc; show ¬ _; unfold wf_61; first | exact id | omega))))) (fun a s b z q1 q2 => ?_)
  obtain ⟨⟨x1, x2, -⟩, f1⟩ := q1
  obtain ⟨⟨m1, m2, -⟩, f2, v⟩ := q2
  exact wR_ve hl h x1 m1 m2 (ag_tr (ag_fr f1 (fun c hc => by unfold cRest cX cI cL cW at hc; show ¬ _; unfold wf_21; first | exact id | omega)) (ag_fr f2 (fun c hc => by unfold cRest cX cI cL cW at hc; show ¬ _; unfold wf_61; first | exact id | omega))) (VE_s x2 v)
theorem mu_moreHours {F lim : Nat} {σ : Mem} {a1 a2 a3 : Int32} (hF : 73786976294838206464 ≤ F) (hl : 28 ≤ lim ∧ lim ≤ 188) (h : wR lim σ) : ∃ r1 s1 r2 s2, f_X3_moreHours F a1 a2 a3 σ = some (r1, s1) ∧ f_X4_moreHours F a1 a2 a3 s1 = some (r2, s2) ∧ wR lim s2 := by
  obtain ⟨hX, hM, hV, -, -, -, -⟩ := id h
  refine two (pc_sf (s_X3_moreHours (F := F) (x1 := a1) (x2 := a2) (x3 := a3) (by omega) hX) (pc_pf (fr_X3_moreHours (F := F) (x1 := a1) (x2 := a2) (x3 := a3) (by omega)))) (fun a s q => pc_sf (s_X4_moreHours (F := F) (x1 := a1) (x2 := a2) (x3 := a3) hF (wm_congr hM q.1.2.1)) (pc_and (Q := fun _ z => VE (wvM s) z) (pc_pf (fr_X4_moreHours (F := F) (x1 := a1) (x2 := a2) (x3 := a3) (by omega))) ((fun a z e => VE_fr (fun _ _ => rfl) (fr_X4_moreHours (F := F) (x1 := a1) (x2 := a2) (x3 := a3) (by omega) a z e) (by intro c hc; unfold cM2 at hc; show ¬ _; unfold wf_61; first | exact id | omega))))) (fun a s b z q1 q2 => ?_)
  obtain ⟨⟨x1, x2, -⟩, f1⟩ := q1
  obtain ⟨⟨m1, m2, -⟩, f2, v⟩ := q2
  exact wR_ve hl h x1 m1 m2 (ag_tr (ag_fr f1 (fun c hc => by unfold cRest cX cI cL cW at hc; show ¬ _; unfold wf_31; first | exact id | omega)) (ag_fr f2 (fun c hc => by unfold cRest cX cI cL cW at hc; show ¬ _; unfold wf_61; first | exact id | omega))) (VE_s x2 v)
theorem mu_bestPane {F lim : Nat} {σ : Mem} {a1 a2 a3 a4 : Int32} (hF : 73786976294838206464 ≤ F) (hl : 28 ≤ lim ∧ lim ≤ 188) (h : wR lim σ) : ∃ r1 s1 r2 s2, f_X3_bestPane F a1 a2 a3 a4 σ = some (r1, s1) ∧ f_X4_bestPane F a1 a2 a3 a4 s1 = some (r2, s2) ∧ wR lim s2 := by
  obtain ⟨hX, hM, hV, -, -, -, -⟩ := id h
  refine two (pc_sf (s_X3_bestPane (F := F) (x1 := a1) (x2 := a2) (x3 := a3) (x4 := a4) (by omega) hX) (pc_pf (fr_X3_bestPane (F := F) (x1 := a1) (x2 := a2) (x3 := a3) (x4 := a4) (by omega)))) (fun a s q => pc_sf (s_X4_bestPane (F := F) (x1 := a1) (x2 := a2) (x3 := a3) (x4 := a4) hF (wm_congr hM q.1.2.1)) (pc_and (Q := fun _ z => VE (wvM s) z) (pc_pf (fr_X4_bestPane (F := F) (x1 := a1) (x2 := a2) (x3 := a3) (x4 := a4) (by omega))) (rst_bestPane (by omega)))) (fun a s b z q1 q2 => ?_)
  obtain ⟨⟨x1, x2, -⟩, f1⟩ := q1
  obtain ⟨⟨m1, m2, -⟩, f2, v⟩ := q2
  exact wR_ve hl h x1 m1 m2 (ag_tr (ag_fr f1 (fun c hc => by unfold cRest cX cI cL cW at hc; show ¬ _; unfold wf_33; first | exact id | omega)) (ag_fr f2 (fun c hc => by unfold cRest cX cI cL cW at hc; show ¬ _; unfold wf_65; first | exact id | omega))) (VE_s x2 v)
theorem mu_freeHours {F lim : Nat} {σ : Mem} {a1 a2 : Int32} (hF : 73786976294838206464 ≤ F) (hl : 28 ≤ lim ∧ lim ≤ 188) (h : wR lim σ) : ∃ r1 s1 r2 s2, f_X3_freeHours F a1 a2 σ = some (r1, s1) ∧ f_X4_freeHours F a1 a2 s1 = some (r2, s2) ∧ wR lim s2 := by
  obtain ⟨hX, hM, hV, -, -, -, -⟩ := id h
  refine two (pc_sf (s_X3_freeHours (F := F) (x1 := a1) (x2 := a2) (by omega) hX) (pc_pf (fr_X3_freeHours (F := F) (x1 := a1) (x2 := a2) (by omega)))) (fun a s q => pc_sf (s_X4_freeHours (F := F) (x1 := a1) (x2 := a2) hF (wm_congr hM q.1.2.1)) (pc_and (Q := fun _ z => VE (wvM s) z) (pc_pf (fr_X4_freeHours (F := F) (x1 := a1) (x2 := a2) (by omega))) (rst_freeHours (by omega)))) (fun a s b z q1 q2 => ?_)
  obtain ⟨⟨x1, x2, -⟩, f1⟩ := q1
  obtain ⟨⟨m1, m2, -⟩, f2, v⟩ := q2
  exact wR_ve hl h x1 m1 m2 (ag_tr (ag_fr f1 (fun c hc => by unfold cRest cX cI cL cW at hc; show ¬ _; unfold wf_31; first | exact id | omega)) (ag_fr f2 (fun c hc => by unfold cRest cX cI cL cW at hc; show ¬ _; unfold wf_65; first | exact id | omega))) (VE_s x2 v)
theorem mu_cover {F lim : Nat} {σ : Mem} (hF : 73786976294838206464 ≤ F) (hl : 28 ≤ lim ∧ lim ≤ 188) (h : wR lim σ) : ∃ r1 s1 r2 s2, f_X3_cover F σ = some (r1, s1) ∧ f_X4_cover F s1 = some (r2, s2) ∧ wR lim s2 := by
  obtain ⟨hX, hM, hV, -, -, -, -⟩ := id h
  refine two (pc_sf (s_X3_cover (F := F) (by omega) hX) (pc_pf (fr_X3_cover (F := F) (by omega)))) (fun a s q => pc_sf (s_X4_cover (F := F) hF (wm_congr hM (fun k _ => by rw [q.1.1]))) (pc_and (Q := fun _ z => VE (wvM s) z) (pc_pf (fr_X4_cover (F := F) (by omega))) ((fun a z e => VE_fr (fun _ _ => rfl) (fr_X4_cover (F := F) (by omega) a z e) (by intro c hc; unfold cM2 at hc; show ¬ _; unfold wf_66; first | exact id | omega))))) (fun a s b z q1 q2 => ?_)
  obtain ⟨⟨e0, -⟩, f1⟩ := q1
  have x1 : wiX s := by rw [e0]; exact hX
  have x2 : ∀ k, 101 ≤ k → s k = σ k := fun k _ => by rw [e0]
  obtain ⟨⟨m1, m2, -⟩, f2, v⟩ := q2
  exact wR_ve hl h x1 m1 m2 (ag_tr (ag_fr f1 (fun c hc => by unfold cRest cX cI cL cW at hc; show ¬ _; unfold wf_1; first | exact id | omega)) (ag_fr f2 (fun c hc => by unfold cRest cX cI cL cW at hc; show ¬ _; unfold wf_66; first | exact id | omega))) (VE_s x2 v)
theorem mu_shown {F lim : Nat} {σ : Mem} {a1 : Int32} (hF : 73786976294838206464 ≤ F) (hl : 28 ≤ lim ∧ lim ≤ 188) (h : wR lim σ) : ∃ r1 s1 r2 s2, f_X3_shown F a1 σ = some (r1, s1) ∧ f_X4_shown F a1 s1 = some (r2, s2) ∧ wR lim s2 := by
  obtain ⟨hX, hM, hV, -, -, -, -⟩ := id h
  refine two (pc_sf (s_X3_shown (F := F) (x1 := a1) (by omega) hX) (pc_pf (fr_X3_shown (F := F) (x1 := a1) (by omega)))) (fun a s q => pc_sf (s_X4_shown (F := F) (x1 := a1) hF (wm_congr hM q.1.2.1)) (pc_and (Q := fun _ z => VE (wvM s) z) (pc_pf (fr_X4_shown (F := F) (x1 := a1) (by omega))) ((fun a z e => VE_fr (fun _ _ => rfl) (fr_X4_shown (F := F) (x1 := a1) (by omega) a z e) (by intro c hc; unfold cM2 at hc; show ¬ _; unfold wf_60; first | exact id | omega))))) (fun a s b z q1 q2 => ?_)
  obtain ⟨⟨x1, x2, -⟩, f1⟩ := q1
  obtain ⟨⟨m1, m2, -⟩, f2, v⟩ := q2
  exact wR_ve hl h x1 m1 m2 (ag_tr (ag_fr f1 (fun c hc => by unfold cRest cX cI cL cW at hc; show ¬ _; unfold wf_17; first | exact id | omega)) (ag_fr f2 (fun c hc => by unfold cRest cX cI cL cW at hc; show ¬ _; unfold wf_60; first | exact id | omega))) (VE_s x2 v)
theorem mu_walls {F lim : Nat} {σ : Mem} {a1 a2 a3 : Int32} (hF : 73786976294838206464 ≤ F) (hl : 28 ≤ lim ∧ lim ≤ 188) (h : wR lim σ) : ∃ r1 s1 r2 s2, f_X3_walls F a1 a2 a3 σ = some (r1, s1) ∧ f_X4_walls F a1 a2 a3 s1 = some (r2, s2) ∧ wR lim s2 := by
  obtain ⟨hX, hM, hV, -, -, -, -⟩ := id h
  refine two (pc_sf (s_X3_walls (F := F) (x1 := a1) (x2 := a2) (x3 := a3) (by omega) hX) (pc_pf (fr_X3_walls (F := F) (x1 := a1) (x2 := a2) (x3 := a3) (by omega)))) (fun a s q => pc_sf (s_X4_walls (F := F) (x1 := a1) (x2 := a2) (x3 := a3) hF (wm_congr hM q.1.2.1)) (pc_and (Q := fun _ z => VE (wvM s) z) (pc_pf (fr_X4_walls (F := F) (x1 := a1) (x2 := a2) (x3 := a3) (by omega))) (rst_walls (by omega)))) (fun a s b z q1 q2 => ?_)
  obtain ⟨⟨x1, x2, -⟩, f1⟩ := q1
  obtain ⟨⟨m1, m2, -⟩, f2, v⟩ := q2
  exact wR_ve hl h x1 m1 m2 (ag_tr (ag_fr f1 (fun c hc => by unfold cRest cX cI cL cW at hc; show ¬ _; unfold wf_31; first | exact id | omega)) (ag_fr f2 (fun c hc => by unfold cRest cX cI cL cW at hc; show ¬ _; unfold wf_67; first | exact id | omega))) (VE_s x2 v)
theorem mu_share {F lim : Nat} {σ : Mem} {a1 a2 a3 : Int32} (hF : 73786976294838206464 ≤ F) (hl : 28 ≤ lim ∧ lim ≤ 188) (h : wR lim σ) : ∃ r1 s1 r2 s2, f_X3_share F a1 a2 a3 σ = some (r1, s1) ∧ f_X4_share F a1 a2 a3 s1 = some (r2, s2) ∧ wR lim s2 := by
  obtain ⟨hX, hM, hV, -, -, -, -⟩ := id h
  refine two (pc_sf (s_X3_share (F := F) (x1 := a1) (x2 := a2) (x3 := a3) (by omega) hX) (pc_pf (fr_X3_share (F := F) (x1 := a1) (x2 := a2) (x3 := a3) (by omega)))) (fun a s q => pc_sf (s_X4_share (F := F) (x1 := a1) (x2 := a2) (x3 := a3) hF (wm_congr hM q.1.2.1)) (pc_and (Q := fun _ z => VE (wvM s) z) (pc_pf (fr_X4_share (F := F) (x1 := a1) (x2 := a2) (x3 := a3) (by omega))) ((fun a z e => VE_fr (fun _ _ => rfl) (fr_X4_share (F := F) (x1 := a1) (x2 := a2) (x3 := a3) (by omega) a z e) (by intro c hc; unfold cM2 at hc; show ¬ _; unfold wf_60; first | exact id | omega))))) (fun a s b z q1 q2 => ?_)
  obtain ⟨⟨x1, x2, -⟩, f1⟩ := q1
  obtain ⟨⟨m1, m2, -⟩, f2, v⟩ := q2
  exact wR_ve hl h x1 m1 m2 (ag_tr (ag_fr f1 (fun c hc => by unfold cRest cX cI cL cW at hc; show ¬ _; unfold wf_17; first | exact id | omega)) (ag_fr f2 (fun c hc => by unfold cRest cX cI cL cW at hc; show ¬ _; unfold wf_60; first | exact id | omega))) (VE_s x2 v)
theorem mu_two {F lim : Nat} {σ : Mem} {a1 a2 a3 a4 : Int32} (hF : 73786976294838206464 ≤ F) (hl : 28 ≤ lim ∧ lim ≤ 188) (h : wR lim σ) : ∃ r1 s1 r2 s2, f_X3_two F a1 a2 a3 a4 σ = some (r1, s1) ∧ f_X4_two F a1 a2 a3 a4 s1 = some (r2, s2) ∧ wR lim s2 := by
  obtain ⟨hX, hM, hV, -, -, -, -⟩ := id h
  refine two (pc_sf (s_X3_two (F := F) (x1 := a1) (x2 := a2) (x3 := a3) (x4 := a4) (by omega) hX) (pc_pf (fr_X3_two (F := F) (x1 := a1) (x2 := a2) (x3 := a3) (x4 := a4) (by omega)))) (fun a s q => pc_sf (s_X4_two (F := F) (x1 := a1) (x2 := a2) (x3 := a3) (x4 := a4) hF (wm_congr hM q.1.2.1)) (pc_and (Q := fun _ z => VE (wvM s) z) (pc_pf (fr_X4_two (F := F) (x1 := a1) (x2 := a2) (x3 := a3) (x4 := a4) (by omega))) (rst_two (by omega)))) (fun a s b z q1 q2 => ?_)
  obtain ⟨⟨x1, x2, -⟩, f1⟩ := q1
  obtain ⟨⟨m1, m2, -⟩, f2, v⟩ := q2
  exact wR_ve hl h x1 m1 m2 (ag_tr (ag_fr f1 (fun c hc => by unfold cRest cX cI cL cW at hc; show ¬ _; unfold wf_36; first | exact id | omega)) (ag_fr f2 (fun c hc => by unfold cRest cX cI cL cW at hc; show ¬ _; unfold wf_68; first | exact id | omega))) (VE_s x2 v)
theorem mu_whichLaw {F lim : Nat} {σ : Mem} (hF : 73786976294838206464 ≤ F) (hl : 28 ≤ lim ∧ lim ≤ 188) (h : wR lim σ) : ∃ r1 s1 r2 s2, f_X3_whichLaw F σ = some (r1, s1) ∧ f_X4_whichLaw F s1 = some (r2, s2) ∧ wR lim s2 := by
  obtain ⟨hX, hM, hV, -, -, -, -⟩ := id h
  refine two (pc_sf (s_X3_whichLaw (F := F) (by omega) hX) (pc_pf (fr_X3_whichLaw (F := F) (by omega)))) (fun a s q => pc_sf (s_X4_whichLaw (F := F) hF (wm_congr hM q.1.2.1)) (pc_and (Q := fun _ z => VE (wvM s) z) (pc_pf (fr_X4_whichLaw (F := F) (by omega))) (rst_whichLaw (by omega)))) (fun a s b z q1 q2 => ?_)
  obtain ⟨⟨x1, x2, -⟩, f1⟩ := q1
  obtain ⟨⟨m1, m2, -⟩, f2, v⟩ := q2
  exact wR_ve hl h x1 m1 m2 (ag_tr (ag_fr f1 (fun c hc => by unfold cRest cX cI cL cW at hc; show ¬ _; unfold wf_33; first | exact id | omega)) (ag_fr f2 (fun c hc => by unfold cRest cX cI cL cW at hc; show ¬ _; unfold wf_69; first | exact id | omega))) (VE_s x2 v)
theorem mu_whichKind {F lim : Nat} {σ : Mem} {a1 a2 a3 : Int32} (hF : 73786976294838206464 ≤ F) (hl : 28 ≤ lim ∧ lim ≤ 188) (h : wR lim σ) : ∃ r1 s1 r2 s2, f_X3_whichKind F a1 a2 a3 σ = some (r1, s1) ∧ f_X4_whichKind F a1 a2 a3 s1 = some (r2, s2) ∧ wR lim s2 := by
  obtain ⟨hX, hM, hV, -, -, -, -⟩ := id h
  refine two (pc_sf (s_X3_whichKind (F := F) (x1 := a1) (x2 := a2) (x3 := a3) (by omega) hX) (pc_pf (fr_X3_whichKind (F := F) (x1 := a1) (x2 := a2) (x3 := a3) (by omega)))) (fun a s q => pc_sf (s_X4_whichKind (F := F) (x1 := a1) (x2 := a2) (x3 := a3) hF (wm_congr hM q.1.2.1)) (pc_and (Q := fun _ z => VE (wvM s) z) (pc_pf (fr_X4_whichKind (F := F) (x1 := a1) (x2 := a2) (x3 := a3) (by omega))) (rst_whichKind (by omega)))) (fun a s b z q1 q2 => ?_)
  obtain ⟨⟨x1, x2, -⟩, f1⟩ := q1
  obtain ⟨⟨m1, m2, -⟩, f2, v⟩ := q2
  exact wR_ve hl h x1 m1 m2 (ag_tr (ag_fr f1 (fun c hc => by unfold cRest cX cI cL cW at hc; show ¬ _; unfold wf_33; first | exact id | omega)) (ag_fr f2 (fun c hc => by unfold cRest cX cI cL cW at hc; show ¬ _; unfold wf_70; first | exact id | omega))) (VE_s x2 v)
theorem mu_ill {F lim : Nat} {σ : Mem} {a1 a2 a3 a4 a5 : Int32} (hF : 73786976294838206464 ≤ F) (hl : 28 ≤ lim ∧ lim ≤ 188) (h : wR lim σ) : ∃ r1 s1 r2 s2, f_X3_ill F a1 a2 a3 a4 a5 σ = some (r1, s1) ∧ f_X4_ill F a1 a2 a3 a4 a5 s1 = some (r2, s2) ∧ wR lim s2 := by
  obtain ⟨hX, hM, hV, -, -, -, -⟩ := id h
  refine two (pc_sf (s_X3_ill (F := F) (x1 := a1) (x2 := a2) (x3 := a3) (x4 := a4) (x5 := a5) (by omega) hX) (pc_pf (fr_X3_ill (F := F) (x1 := a1) (x2 := a2) (x3 := a3) (x4 := a4) (x5 := a5) (by omega)))) (fun a s q => pc_sf (s_X4_ill (F := F) (x1 := a1) (x2 := a2) (x3 := a3) (x4 := a4) (x5 := a5) hF (wm_congr hM q.1.2.1)) (pc_and (Q := fun _ z => VE (wvM s) z) (pc_pf (fr_X4_ill (F := F) (x1 := a1) (x2 := a2) (x3 := a3) (x4 := a4) (x5 := a5) (by omega))) ((fun a z e => VE_fr (fun _ _ => rfl) (fr_X4_ill (F := F) (x1 := a1) (x2 := a2) (x3 := a3) (x4 := a4) (x5 := a5) (by omega) a z e) (by intro c hc; unfold cM2 at hc; show ¬ _; unfold wf_61; first | exact id | omega))))) (fun a s b z q1 q2 => ?_)
  obtain ⟨⟨x1, x2, -⟩, f1⟩ := q1
  obtain ⟨⟨m1, m2, -⟩, f2, v⟩ := q2
  exact wR_ve hl h x1 m1 m2 (ag_tr (ag_fr f1 (fun c hc => by unfold cRest cX cI cL cW at hc; show ¬ _; unfold wf_31; first | exact id | omega)) (ag_fr f2 (fun c hc => by unfold cRest cX cI cL cW at hc; show ¬ _; unfold wf_61; first | exact id | omega))) (VE_s x2 v)
theorem mu_busy {F lim : Nat} {σ : Mem} {a1 : Int32} (hF : 73786976294838206464 ≤ F) (hl : 28 ≤ lim ∧ lim ≤ 188) (h : wR lim σ) : ∃ r1 s1 r2 s2, f_X3_busy F a1 σ = some (r1, s1) ∧ f_X4_busy F a1 s1 = some (r2, s2) ∧ wR lim s2 := by
  obtain ⟨hX, hM, hV, -, -, -, -⟩ := id h
  refine two (pc_sf (s_X3_busy (F := F) (x1 := a1) (by omega) hX) (pc_pf (fr_X3_busy (F := F) (x1 := a1) (by omega)))) (fun a s q => pc_sf (s_X4_busy (F := F) (x1 := a1) hF (wm_congr hM q.1.2.1)) (pc_and (Q := fun _ z => VE (wvM s) z) (pc_pf (fr_X4_busy (F := F) (x1 := a1) (by omega))) ((fun a z e => VE_fr (fun _ _ => rfl) (fr_X4_busy (F := F) (x1 := a1) (by omega) a z e) (by intro c hc; unfold cM2 at hc; show ¬ _; unfold wf_60; first | exact id | omega))))) (fun a s b z q1 q2 => ?_)
  obtain ⟨⟨x1, x2, -⟩, f1⟩ := q1
  obtain ⟨⟨m1, m2, -⟩, f2, v⟩ := q2
  exact wR_ve hl h x1 m1 m2 (ag_tr (ag_fr f1 (fun c hc => by unfold cRest cX cI cL cW at hc; show ¬ _; unfold wf_17; first | exact id | omega)) (ag_fr f2 (fun c hc => by unfold cRest cX cI cL cW at hc; show ¬ _; unfold wf_60; first | exact id | omega))) (VE_s x2 v)
theorem mu_together {F lim : Nat} {σ : Mem} {a1 a2 : Int32} (hF : 73786976294838206464 ≤ F) (hl : 28 ≤ lim ∧ lim ≤ 188) (h : wR lim σ) : ∃ r1 s1 r2 s2, f_X3_together F a1 a2 σ = some (r1, s1) ∧ f_X4_together F a1 a2 s1 = some (r2, s2) ∧ wR lim s2 := by
  obtain ⟨hX, hM, hV, -, -, -, -⟩ := id h
  refine two (pc_sf (s_X3_together (F := F) (x1 := a1) (x2 := a2) (by omega) hX) (pc_pf (fr_X3_together (F := F) (x1 := a1) (x2 := a2) (by omega)))) (fun a s q => pc_sf (s_X4_together (F := F) (x1 := a1) (x2 := a2) hF (wm_congr hM q.1.2.1)) (pc_and (Q := fun _ z => VE (wvM s) z) (pc_pf (fr_X4_together (F := F) (x1 := a1) (x2 := a2) (by omega))) ((fun a z e => VE_fr (fun _ _ => rfl) (fr_X4_together (F := F) (x1 := a1) (x2 := a2) (by omega) a z e) (by intro c hc; unfold cM2 at hc; show ¬ _; unfold wf_60; first | exact id | omega))))) (fun a s b z q1 q2 => ?_)
  obtain ⟨⟨x1, x2, -⟩, f1⟩ := q1
  obtain ⟨⟨m1, m2, -⟩, f2, v⟩ := q2
  exact wR_ve hl h x1 m1 m2 (ag_tr (ag_fr f1 (fun c hc => by unfold cRest cX cI cL cW at hc; show ¬ _; unfold wf_17; first | exact id | omega)) (ag_fr f2 (fun c hc => by unfold cRest cX cI cL cW at hc; show ¬ _; unfold wf_60; first | exact id | omega))) (VE_s x2 v)
theorem mu_swap {F lim : Nat} {σ : Mem} {a1 : Int32} (hF : 73786976294838206464 ≤ F) (hl : 28 ≤ lim ∧ lim ≤ 188) (h : wR lim σ) : ∃ r1 s1 r2 s2, f_X3_swap F a1 σ = some (r1, s1) ∧ f_X4_swap F a1 s1 = some (r2, s2) ∧ wR lim s2 := by
  obtain ⟨hX, hM, hV, -, -, -, -⟩ := id h
  refine two (pc_sf (s_X3_swap (F := F) (x1 := a1) (by omega) hX) (pc_pf (fr_X3_swap (F := F) (x1 := a1) (by omega)))) (fun a s q => pc_sf (s_X4_swap (F := F) (x1 := a1) hF (wm_congr hM q.1.2.1)) (pc_and (Q := fun _ z => VE (wvM s) z) (pc_pf (fr_X4_swap (F := F) (x1 := a1) (by omega))) (rst_swap (by omega) (wx_X4_3 (wm_congr hM q.1.2.1))))) (fun a s b z q1 q2 => ?_)
  obtain ⟨⟨x1, x2, -⟩, f1⟩ := q1
  obtain ⟨⟨m1, m2, -⟩, f2, v⟩ := q2
  exact wR_ve hl h x1 m1 m2 (ag_tr (ag_fr f1 (fun c hc => by unfold cRest cX cI cL cW at hc; show ¬ _; unfold wf_31; first | exact id | omega)) (ag_fr f2 (fun c hc => by unfold cRest cX cI cL cW at hc; show ¬ _; unfold wf_65; first | exact id | omega))) (VE_s x2 v)
theorem mu_heir {F lim : Nat} {σ : Mem} {a1 a2 a3 : Int32} (hF : 73786976294838206464 ≤ F) (hl : 28 ≤ lim ∧ lim ≤ 188) (h : wR lim σ) : ∃ r1 s1 r2 s2, f_X3_heir F a1 a2 a3 σ = some (r1, s1) ∧ f_X4_heir F a1 a2 a3 s1 = some (r2, s2) ∧ wR lim s2 := by
  obtain ⟨hX, hM, hV, -, -, -, -⟩ := id h
  refine two (pc_sf (s_X3_heir (F := F) (x1 := a1) (x2 := a2) (x3 := a3) (by omega) hX) (pc_pf (fr_X3_heir (F := F) (x1 := a1) (x2 := a2) (x3 := a3) (by omega)))) (fun a s q => pc_sf (s_X4_heir (F := F) (x1 := a1) (x2 := a2) (x3 := a3) hF (wm_congr hM q.1.2.1)) (pc_and (Q := fun _ z => VE (wvM s) z) (pc_pf (fr_X4_heir (F := F) (x1 := a1) (x2 := a2) (x3 := a3) (by omega))) (rst_heir (by omega)))) (fun a s b z q1 q2 => ?_)
  obtain ⟨⟨x1, x2, -⟩, f1⟩ := q1
  obtain ⟨⟨m1, m2, -⟩, f2, v⟩ := q2
  exact wR_ve hl h x1 m1 m2 (ag_tr (ag_fr f1 (fun c hc => by unfold cRest cX cI cL cW at hc; show ¬ _; unfold wf_33; first | exact id | omega)) (ag_fr f2 (fun c hc => by unfold cRest cX cI cL cW at hc; show ¬ _; unfold wf_70; first | exact id | omega))) (VE_s x2 v)
theorem mu_even {F lim : Nat} {σ : Mem} {a1 : Int32} (hF : 73786976294838206464 ≤ F) (hl : 28 ≤ lim ∧ lim ≤ 188) (h : wR lim σ) : ∃ r1 s1 r2 s2, f_X3_even F a1 σ = some (r1, s1) ∧ f_X4_even F a1 s1 = some (r2, s2) ∧ wR lim s2 := by
  obtain ⟨hX, hM, hV, -, -, -, -⟩ := id h
  refine two (pc_sf (s_X3_even (F := F) (x1 := a1) (by omega) hX) (pc_pf (fr_X3_even (F := F) (x1 := a1) (by omega)))) (fun a s q => pc_sf (s_X4_even (F := F) (x1 := a1) hF (wm_congr hM q.1.2.1)) (pc_and (Q := fun _ z => VE (wvM s) z) (pc_pf (fr_X4_even (F := F) (x1 := a1) (by omega))) ((fun a z e => VE_fr (fun _ _ => rfl) (fr_X4_even (F := F) (x1 := a1) (by omega) a z e) (by intro c hc; unfold cM2 at hc; show ¬ _; unfold wf_61; first | exact id | omega))))) (fun a s b z q1 q2 => ?_)
  obtain ⟨⟨x1, x2, -⟩, f1⟩ := q1
  obtain ⟨⟨m1, m2, -⟩, f2, v⟩ := q2
  exact wR_ve hl h x1 m1 m2 (ag_tr (ag_fr f1 (fun c hc => by unfold cRest cX cI cL cW at hc; show ¬ _; unfold wf_21; first | exact id | omega)) (ag_fr f2 (fun c hc => by unfold cRest cX cI cL cW at hc; show ¬ _; unfold wf_61; first | exact id | omega))) (VE_s x2 v)
theorem mu_last {F lim : Nat} {σ : Mem} (hF : 73786976294838206464 ≤ F) (hl : 28 ≤ lim ∧ lim ≤ 188) (h : wR lim σ) : ∃ r1 s1 r2 s2, f_X3_last F σ = some (r1, s1) ∧ f_X4_last F s1 = some (r2, s2) ∧ wR lim s2 := by
  obtain ⟨hX, hM, hV, -, -, -, -⟩ := id h
  refine two (pc_sf (s_X3_last (F := F) (by omega) hX) (pc_pf (fr_X3_last (F := F) (by omega)))) (fun a s q => pc_sf (s_X4_last (F := F) hF (wm_congr hM q.1.2.1)) (pc_and (Q := fun _ z => VE (wvM s) z) (pc_pf (fr_X4_last (F := F) (by omega))) ((fun a z e => VE_fr (fun _ _ => rfl) (fr_X4_last (F := F) (by omega) a z e) (by intro c hc; unfold cM2 at hc; show ¬ _; unfold wf_71; first | exact id | omega))))) (fun a s b z q1 q2 => ?_)
  obtain ⟨⟨x1, x2, -⟩, f1⟩ := q1
  obtain ⟨⟨m1, m2, -⟩, f2, v⟩ := q2
  exact wR_ve hl h x1 m1 m2 (ag_tr (ag_fr f1 (fun c hc => by unfold cRest cX cI cL cW at hc; show ¬ _; unfold wf_38; first | exact id | omega)) (ag_fr f2 (fun c hc => by unfold cRest cX cI cL cW at hc; show ¬ _; unfold wf_71; first | exact id | omega))) (VE_s x2 v)
theorem mu_joint {F lim : Nat} {σ : Mem} {a1 a2 a3 : Int32} (hF : 73786976294838206464 ≤ F) (hl : 28 ≤ lim ∧ lim ≤ 188) (h : wR lim σ) : ∃ r1 s1 r2 s2, f_X3_joint F a1 a2 a3 σ = some (r1, s1) ∧ f_X4_joint F a1 a2 a3 s1 = some (r2, s2) ∧ wR lim s2 := by
  obtain ⟨hX, hM, hV, -, -, -, -⟩ := id h
  refine two (pc_sf (s_X3_joint (F := F) (x1 := a1) (x2 := a2) (x3 := a3) (by omega) hX) (pc_pf (fr_X3_joint (F := F) (x1 := a1) (x2 := a2) (x3 := a3) (by omega)))) (fun a s q => pc_sf (s_X4_joint (F := F) (x1 := a1) (x2 := a2) (x3 := a3) hF (wm_congr hM q.1.2.1)) (pc_and (Q := fun _ z => VE (wvM s) z) (pc_pf (fr_X4_joint (F := F) (x1 := a1) (x2 := a2) (x3 := a3) (by omega))) ((fun a z e => VE_fr (fun _ _ => rfl) (fr_X4_joint (F := F) (x1 := a1) (x2 := a2) (x3 := a3) (by omega) a z e) (by intro c hc; unfold cM2 at hc; show ¬ _; unfold wf_72; first | exact id | omega))))) (fun a s b z q1 q2 => ?_)
  obtain ⟨⟨x1, x2, -⟩, f1⟩ := q1
  obtain ⟨⟨m1, m2, -⟩, f2, v⟩ := q2
  exact wR_ve hl h x1 m1 m2 (ag_tr (ag_fr f1 (fun c hc => by unfold cRest cX cI cL cW at hc; show ¬ _; unfold wf_21; first | exact id | omega)) (ag_fr f2 (fun c hc => by unfold cRest cX cI cL cW at hc; show ¬ _; unfold wf_72; first | exact id | omega))) (VE_s x2 v)
theorem mu_rank {F lim : Nat} {σ : Mem} {a1 a2 : Int32} (hF : 73786976294838206464 ≤ F) (hl : 28 ≤ lim ∧ lim ≤ 188) (h : wR lim σ) : ∃ r1 s1 r2 s2, f_X3_rank F a1 a2 σ = some (r1, s1) ∧ f_X4_rank F a1 a2 s1 = some (r2, s2) ∧ wR lim s2 := by
  obtain ⟨hX, hM, hV, -, -, -, -⟩ := id h
  refine two (pc_sf (s_X3_rank (F := F) (x1 := a1) (x2 := a2) (by omega) hX) (pc_pf (fr_X3_rank (F := F) (x1 := a1) (x2 := a2) (by omega)))) (fun a s q => pc_sf (s_X4_rank (F := F) (x1 := a1) (x2 := a2) hF (wm_congr hM q.1.2.1)) (pc_and (Q := fun _ z => VE (wvM s) z) (pc_pf (fr_X4_rank (F := F) (x1 := a1) (x2 := a2) (by omega))) ((fun a z e => VE_fr (fun _ _ => rfl) (fr_X4_rank (F := F) (x1 := a1) (x2 := a2) (by omega) a z e) (by intro c hc; unfold cM2 at hc; show ¬ _; unfold wf_60; first | exact id | omega))))) (fun a s b z q1 q2 => ?_)
  obtain ⟨⟨x1, x2, -⟩, f1⟩ := q1
  obtain ⟨⟨m1, m2, -⟩, f2, v⟩ := q2
  exact wR_ve hl h x1 m1 m2 (ag_tr (ag_fr f1 (fun c hc => by unfold cRest cX cI cL cW at hc; show ¬ _; unfold wf_17; first | exact id | omega)) (ag_fr f2 (fun c hc => by unfold cRest cX cI cL cW at hc; show ¬ _; unfold wf_60; first | exact id | omega))) (VE_s x2 v)
theorem mu_gap {F lim : Nat} {σ : Mem} {a1 a2 : Int32} (hF : 73786976294838206464 ≤ F) (hl : 28 ≤ lim ∧ lim ≤ 188) (h : wR lim σ) : ∃ r1 s1 r2 s2, f_X3_gap F a1 a2 σ = some (r1, s1) ∧ f_X4_gap F a1 a2 s1 = some (r2, s2) ∧ wR lim s2 := by
  obtain ⟨hX, hM, hV, -, -, -, -⟩ := id h
  refine two (pc_sf (s_X3_gap (F := F) (x1 := a1) (x2 := a2) (by omega) hX) (pc_pf (fr_X3_gap (F := F) (x1 := a1) (x2 := a2) (by omega)))) (fun a s q => pc_sf (s_X4_gap (F := F) (x1 := a1) (x2 := a2) hF (wm_congr hM q.1.2.1)) (pc_and (Q := fun _ z => VE (wvM s) z) (pc_pf (fr_X4_gap (F := F) (x1 := a1) (x2 := a2) (by omega))) ((fun a z e => VE_fr (fun _ _ => rfl) (fr_X4_gap (F := F) (x1 := a1) (x2 := a2) (by omega) a z e) (by intro c hc; unfold cM2 at hc; show ¬ _; unfold wf_72; first | exact id | omega))))) (fun a s b z q1 q2 => ?_)
  obtain ⟨⟨x1, x2, -⟩, f1⟩ := q1
  obtain ⟨⟨m1, m2, -⟩, f2, v⟩ := q2
  exact wR_ve hl h x1 m1 m2 (ag_tr (ag_fr f1 (fun c hc => by unfold cRest cX cI cL cW at hc; show ¬ _; unfold wf_21; first | exact id | omega)) (ag_fr f2 (fun c hc => by unfold cRest cX cI cL cW at hc; show ¬ _; unfold wf_72; first | exact id | omega))) (VE_s x2 v)
theorem mu_wasted {F lim : Nat} {σ : Mem} {a1 a2 : Int32} (hF : 73786976294838206464 ≤ F) (hl : 28 ≤ lim ∧ lim ≤ 188) (h : wR lim σ) : ∃ r1 s1 r2 s2, f_X3_wasted F a1 a2 σ = some (r1, s1) ∧ f_X4_wasted F a1 a2 s1 = some (r2, s2) ∧ wR lim s2 := by
  obtain ⟨hX, hM, hV, -, -, -, -⟩ := id h
  refine two (pc_sf (s_X3_wasted (F := F) (x1 := a1) (x2 := a2) (by omega) hX) (pc_pf (fr_X3_wasted (F := F) (x1 := a1) (x2 := a2) (by omega)))) (fun a s q => pc_sf (s_X4_wasted (F := F) (x1 := a1) (x2 := a2) hF (wm_congr hM q.1.2.1)) (pc_and (Q := fun _ z => VE (wvM s) z) (pc_pf (fr_X4_wasted (F := F) (x1 := a1) (x2 := a2) (by omega))) ((fun a z e => VE_fr (fun _ _ => rfl) (fr_X4_wasted (F := F) (x1 := a1) (x2 := a2) (by omega) a z e) (by intro c hc; unfold cM2 at hc; show ¬ _; unfold wf_60; first | exact id | omega))))) (fun a s b z q1 q2 => ?_)
  obtain ⟨⟨x1, x2, -⟩, f1⟩ := q1
  obtain ⟨⟨m1, m2, -⟩, f2, v⟩ := q2
  exact wR_ve hl h x1 m1 m2 (ag_tr (ag_fr f1 (fun c hc => by unfold cRest cX cI cL cW at hc; show ¬ _; unfold wf_17; first | exact id | omega)) (ag_fr f2 (fun c hc => by unfold cRest cX cI cL cW at hc; show ¬ _; unfold wf_60; first | exact id | omega))) (VE_s x2 v)
theorem mu_ahead {F lim : Nat} {σ : Mem} {a1 a2 : Int32} (hF : 73786976294838206464 ≤ F) (hl : 28 ≤ lim ∧ lim ≤ 188) (h : wR lim σ) : ∃ r1 s1 r2 s2, f_X3_ahead F a1 a2 σ = some (r1, s1) ∧ f_X4_ahead F a1 a2 s1 = some (r2, s2) ∧ wR lim s2 := by
  obtain ⟨hX, hM, hV, -, -, -, -⟩ := id h
  refine two (pc_sf (s_X3_ahead (F := F) (x1 := a1) (x2 := a2) (by omega) hX) (pc_pf (fr_X3_ahead (F := F) (x1 := a1) (x2 := a2) (by omega)))) (fun a s q => pc_sf (s_X4_ahead (F := F) (x1 := a1) (x2 := a2) hF (wm_congr hM q.1.2.1)) (pc_and (Q := fun _ z => VE (wvM s) z) (pc_pf (fr_X4_ahead (F := F) (x1 := a1) (x2 := a2) (by omega))) ((fun a z e => VE_fr (fun _ _ => rfl) (fr_X4_ahead (F := F) (x1 := a1) (x2 := a2) (by omega) a z e) (by intro c hc; unfold cM2 at hc; show ¬ _; unfold wf_61; first | exact id | omega))))) (fun a s b z q1 q2 => ?_)
  obtain ⟨⟨x1, x2, -⟩, f1⟩ := q1
  obtain ⟨⟨m1, m2, -⟩, f2, v⟩ := q2
  exact wR_ve hl h x1 m1 m2 (ag_tr (ag_fr f1 (fun c hc => by unfold cRest cX cI cL cW at hc; show ¬ _; unfold wf_21; first | exact id | omega)) (ag_fr f2 (fun c hc => by unfold cRest cX cI cL cW at hc; show ¬ _; unfold wf_61; first | exact id | omega))) (VE_s x2 v)
theorem mu_bestLaw {F lim : Nat} {σ : Mem} {a1 a2 : Int32} (hF : 73786976294838206464 ≤ F) (hl : 28 ≤ lim ∧ lim ≤ 188) (h : wR lim σ) : ∃ r1 s1 r2 s2, f_X3_bestLaw F a1 a2 σ = some (r1, s1) ∧ f_X4_bestLaw F a1 a2 s1 = some (r2, s2) ∧ wR lim s2 := by
  obtain ⟨hX, hM, hV, -, -, -, -⟩ := id h
  refine two (pc_sf (s_X3_bestLaw (F := F) (x1 := a1) (x2 := a2) (by omega) hX) (pc_pf (fr_X3_bestLaw (F := F) (x1 := a1) (x2 := a2) (by omega)))) (fun a s q => pc_sf (s_X4_bestLaw (F := F) (x1 := a1) (x2 := a2) hF (wm_congr hM q.1.2.1)) (pc_and (Q := fun _ z => VE (wvM s) z) (pc_pf (fr_X4_bestLaw (F := F) (x1 := a1) (x2 := a2) (by omega))) (rst_bestLaw (by omega)))) (fun a s b z q1 q2 => ?_)
  obtain ⟨⟨x1, x2, -⟩, f1⟩ := q1
  obtain ⟨⟨m1, m2, -⟩, f2, v⟩ := q2
  exact wR_ve hl h x1 m1 m2 (ag_tr (ag_fr f1 (fun c hc => by unfold cRest cX cI cL cW at hc; show ¬ _; unfold wf_33; first | exact id | omega)) (ag_fr f2 (fun c hc => by unfold cRest cX cI cL cW at hc; show ¬ _; unfold wf_69; first | exact id | omega))) (VE_s x2 v)
theorem mu_newcomer {F lim : Nat} {σ : Mem} {a1 a2 a3 : Int32} (hF : 73786976294838206464 ≤ F) (hl : 28 ≤ lim ∧ lim ≤ 188) (h : wR lim σ) : ∃ r1 s1 r2 s2, f_X3_newcomer F a1 a2 a3 σ = some (r1, s1) ∧ f_X4_newcomer F a1 a2 a3 s1 = some (r2, s2) ∧ wR lim s2 := by
  obtain ⟨hX, hM, hV, -, -, -, -⟩ := id h
  refine two (pc_sf (s_X3_newcomer (F := F) (x1 := a1) (x2 := a2) (x3 := a3) (by omega) hX) (pc_pf (fr_X3_newcomer (F := F) (x1 := a1) (x2 := a2) (x3 := a3) (by omega)))) (fun a s q => pc_sf (s_X4_newcomer (F := F) (x1 := a1) (x2 := a2) (x3 := a3) hF (wm_congr hM q.1.2.1)) (pc_and (Q := fun _ z => VE (wvM s) z) (pc_pf (fr_X4_newcomer (F := F) (x1 := a1) (x2 := a2) (x3 := a3) (by omega))) (rst_newcomer (by omega)))) (fun a s b z q1 q2 => ?_)
  obtain ⟨⟨x1, x2, -⟩, f1⟩ := q1
  obtain ⟨⟨m1, m2, -⟩, f2, v⟩ := q2
  exact wR_ve hl h x1 m1 m2 (ag_tr (ag_fr f1 (fun c hc => by unfold cRest cX cI cL cW at hc; show ¬ _; unfold wf_33; first | exact id | omega)) (ag_fr f2 (fun c hc => by unfold cRest cX cI cL cW at hc; show ¬ _; unfold wf_70; first | exact id | omega))) (VE_s x2 v)
theorem mu_mostSeen {F lim : Nat} {σ : Mem} {a1 : Int32} (hF : 73786976294838206464 ≤ F) (hl : 28 ≤ lim ∧ lim ≤ 188) (h : wR lim σ) : ∃ r1 s1 r2 s2, f_X3_mostSeen F a1 σ = some (r1, s1) ∧ f_X4_mostSeen F a1 s1 = some (r2, s2) ∧ wR lim s2 := by
  obtain ⟨hX, hM, hV, -, -, -, -⟩ := id h
  refine two (pc_sf (s_X3_mostSeen (F := F) (x1 := a1) (by omega) hX) (pc_pf (fr_X3_mostSeen (F := F) (x1 := a1) (by omega)))) (fun a s q => pc_sf (s_X4_mostSeen (F := F) (x1 := a1) hF (wm_congr hM q.1.2.1)) (pc_and (Q := fun _ z => VE (wvM s) z) (pc_pf (fr_X4_mostSeen (F := F) (x1 := a1) (by omega))) ((fun a z e => VE_fr (fun _ _ => rfl) (fr_X4_mostSeen (F := F) (x1 := a1) (by omega) a z e) (by intro c hc; unfold cM2 at hc; show ¬ _; unfold wf_72; first | exact id | omega))))) (fun a s b z q1 q2 => ?_)
  obtain ⟨⟨x1, x2, -⟩, f1⟩ := q1
  obtain ⟨⟨m1, m2, -⟩, f2, v⟩ := q2
  exact wR_ve hl h x1 m1 m2 (ag_tr (ag_fr f1 (fun c hc => by unfold cRest cX cI cL cW at hc; show ¬ _; unfold wf_21; first | exact id | omega)) (ag_fr f2 (fun c hc => by unfold cRest cX cI cL cW at hc; show ¬ _; unfold wf_72; first | exact id | omega))) (VE_s x2 v)
theorem mu_duels {F lim : Nat} {σ : Mem} {a1 a2 : Int32} (hF : 73786976294838206464 ≤ F) (hl : 28 ≤ lim ∧ lim ≤ 188) (h : wR lim σ) : ∃ r1 s1 r2 s2, f_X3_duels F a1 a2 σ = some (r1, s1) ∧ f_X4_duels F a1 a2 s1 = some (r2, s2) ∧ wR lim s2 := by
  obtain ⟨hX, hM, hV, -, -, -, -⟩ := id h
  refine two (pc_sf (s_X3_duels (F := F) (x1 := a1) (x2 := a2) (by omega) hX) (pc_pf (fr_X3_duels (F := F) (x1 := a1) (x2 := a2) (by omega)))) (fun a s q => pc_sf (s_X4_duels (F := F) (x1 := a1) (x2 := a2) hF (wm_congr hM q.1.2.1)) (pc_and (Q := fun _ z => VE (wvM s) z) (pc_pf (fr_X4_duels (F := F) (x1 := a1) (x2 := a2) (by omega))) ((fun a z e => VE_fr (fun _ _ => rfl) (fr_X4_duels (F := F) (x1 := a1) (x2 := a2) (by omega) a z e) (by intro c hc; unfold cM2 at hc; show ¬ _; unfold wf_60; first | exact id | omega))))) (fun a s b z q1 q2 => ?_)
  obtain ⟨⟨x1, x2, -⟩, f1⟩ := q1
  obtain ⟨⟨m1, m2, -⟩, f2, v⟩ := q2
  exact wR_ve hl h x1 m1 m2 (ag_tr (ag_fr f1 (fun c hc => by unfold cRest cX cI cL cW at hc; show ¬ _; unfold wf_21; first | exact id | omega)) (ag_fr f2 (fun c hc => by unfold cRest cX cI cL cW at hc; show ¬ _; unfold wf_60; first | exact id | omega))) (VE_s x2 v)
theorem mu_lots {F lim : Nat} {σ : Mem} {a1 a2 a3 : Int32} (hF : 73786976294838206464 ≤ F) (hl : 28 ≤ lim ∧ lim ≤ 188) (h : wR lim σ) : ∃ r1 s1 r2 s2, f_X3_lots F a1 a2 a3 σ = some (r1, s1) ∧ f_X4_lots F a1 a2 a3 s1 = some (r2, s2) ∧ wR lim s2 := by
  obtain ⟨hX, hM, hV, -, -, -, -⟩ := id h
  refine two (pc_sf (s_X3_lots (F := F) (x1 := a1) (x2 := a2) (x3 := a3) (by omega) hX) (pc_pf (fr_X3_lots (F := F) (x1 := a1) (x2 := a2) (x3 := a3) (by omega)))) (fun a s q => pc_sf (s_X4_lots (F := F) (x1 := a1) (x2 := a2) (x3 := a3) hF (wm_congr hM q.1.2.1)) (pc_and (Q := fun _ z => VE (wvM s) z) (pc_pf (fr_X4_lots (F := F) (x1 := a1) (x2 := a2) (x3 := a3) (by omega))) (rst_lots (by omega)))) (fun a s b z q1 q2 => ?_)
  obtain ⟨⟨x1, x2, -⟩, f1⟩ := q1
  obtain ⟨⟨m1, m2, -⟩, f2, v⟩ := q2
  exact wR_ve hl h x1 m1 m2 (ag_tr (ag_fr f1 (fun c hc => by unfold cRest cX cI cL cW at hc; show ¬ _; unfold wf_33; first | exact id | omega)) (ag_fr f2 (fun c hc => by unfold cRest cX cI cL cW at hc; show ¬ _; unfold wf_77; first | exact id | omega))) (VE_s x2 v)
theorem mu_count {F lim : Nat} {σ : Mem} {a1 : Int32} (hF : 73786976294838206464 ≤ F) (hl : 28 ≤ lim ∧ lim ≤ 188) (h : wR lim σ) : ∃ r1 s1 r2 s2, f_X3_count F a1 σ = some (r1, s1) ∧ f_X4_count F a1 s1 = some (r2, s2) ∧ wR lim s2 := by
  obtain ⟨hX, hM, hV, -, -, -, -⟩ := id h
  refine two (pc_sf (s_X3_count (F := F) (x1 := a1) (by omega) hX) (pc_pf (fr_X3_count (F := F) (x1 := a1) (by omega)))) (fun a s q => pc_sf (s_X4_count (F := F) (x1 := a1) hF (wm_congr hM q.1.2.1)) (pc_and (Q := fun _ z => VE (wvM s) z) (pc_pf (fr_X4_count (F := F) (x1 := a1) (by omega))) ((fun a z e => VE_fr (fun _ _ => rfl) (fr_X4_count (F := F) (x1 := a1) (by omega) a z e) (by intro c hc; unfold cM2 at hc; show ¬ _; unfold wf_71; first | exact id | omega))))) (fun a s b z q1 q2 => ?_)
  obtain ⟨⟨x1, x2, -⟩, f1⟩ := q1
  obtain ⟨⟨m1, m2, -⟩, f2, v⟩ := q2
  exact wR_ve hl h x1 m1 m2 (ag_tr (ag_fr f1 (fun c hc => by unfold cRest cX cI cL cW at hc; show ¬ _; unfold wf_38; first | exact id | omega)) (ag_fr f2 (fun c hc => by unfold cRest cX cI cL cW at hc; show ¬ _; unfold wf_71; first | exact id | omega))) (VE_s x2 v)
