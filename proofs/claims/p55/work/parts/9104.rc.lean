theorem rc_feed {F : Nat} {σ : Mem} {a1 : Int32} (hF : 73786976294838206464 ≤ F) (g : wC σ) : ∃ r1 s1 r2 s2, f_X3_feed F a1 σ = some (r1, s1) ∧ f_X4_feed F a1 s1 = some (r2, s2) ∧ wC s2 := by
  obtain ⟨h, e⟩ := g
  have p1 := (kx_feed (F := F) (by omega) : pc (f_X3_feed F a1 σ) _)
  exact rc_both (rc_dr (mu_feed hF (by omega) h)) e (pc_mono (sf_pc (s_X3_feed (F := F) (x1 := a1) (by omega) h.1)) (fun _ _ q => q.2.1)) p1 (fun s hs => by
    have w := km_feed (F := F) (x := a1) (σ := s) (by omega) (wx_X4_15 (wm_congr h.2.1 hs)).2 (hs 108 (by decide))
    rw [hs 101 (by decide), ← (show σ 83 1 = σ 101 15 from h.2.2.2.2.2.1.1)] at w
    exact w) (fun s hs => pc_mono (sf_pc (s_X4_feed (F := F) (x1 := a1) hF (wm_congr h.2.1 hs))) (fun _ _ q => q.2.1))
theorem rc_terrace {F : Nat} {σ : Mem} (hF : 73786976294838206464 ≤ F) (g : wC σ) : ∃ r1 s1 r2 s2, f_X3_terrace F σ = some (r1, s1) ∧ f_X4_terrace F s1 = some (r2, s2) ∧ wC s2 := by
  obtain ⟨h, e⟩ := g
  have p1 := (kx_leaf (pf_mono (fr_X3_terrace (F := F) (by omega)) (fun c q => by unfold wf_20 at q; exact kW_mk (by omega) (by omega))) : pc (f_X3_terrace F σ) (fun _ z => z 86 = wB (σ 86) 0))
  exact rc_both (rc_dr (mu_terrace hF h)) e (pc_mono (sf_pc (s_X3_terrace (F := F) (by omega) h.1)) (fun _ _ q => q.2.1)) p1 (fun s hs => km_leaf (hs 108 (by decide)) (pf_mono (fr_X4_terrace (F := F) (by omega)) (fun c q => by unfold wf_59 at q; exact kW_mk (by omega) (by omega)))) (fun s hs => pc_mono (sf_pc (s_X4_terrace (F := F) hF (wm_congr h.2.1 hs))) (fun _ _ q => q.2.1))
theorem rc_paneOf {F : Nat} {σ : Mem} {a1 a2 : Int32} (hF : 73786976294838206464 ≤ F) (g : wC σ) : ∃ r1 s1 r2 s2, f_X3_paneOf F a1 a2 σ = some (r1, s1) ∧ f_X4_paneOf F a1 a2 s1 = some (r2, s2) ∧ wC s2 := by
  obtain ⟨h, e⟩ := g
  have p1 := (kx_paneOf (F := F) (by omega) (vX_of (by omega) h.2.2.1) : pc (f_X3_paneOf F a1 a2 σ) _)
  exact rc_both (mu_paneOf hF (by omega) h) e (pc_mono (sf_pc (s_X3_paneOf (F := F) (x1 := a1) (x2 := a2) (by omega) h.1)) (fun _ _ q => q.2.1)) p1 (fun s hs => km_paneOf (F := F) (by omega) ⟨h.2.2.1.1, eMV hs⟩ (hs 108 (by decide))) (fun s hs => pc_mono (sf_pc (s_X4_paneOf (F := F) (x1 := a1) (x2 := a2) hF (wm_congr h.2.1 hs))) (fun _ _ q => q.2.1))
theorem rc_lookerOf {F : Nat} {σ : Mem} {a1 a2 : Int32} (hF : 73786976294838206464 ≤ F) (g : wC σ) : ∃ r1 s1 r2 s2, f_X3_lookerOf F a1 a2 σ = some (r1, s1) ∧ f_X4_lookerOf F a1 a2 s1 = some (r2, s2) ∧ wC s2 := by
  obtain ⟨h, e⟩ := g
  have p1 := (kx_lookerOf (F := F) (by omega) h.2.2.1 : pc (f_X3_lookerOf F a1 a2 σ) _)
  exact rc_both (mu_lookerOf hF (by omega) h) e (pc_mono (sf_pc (s_X3_lookerOf (F := F) (x1 := a1) (x2 := a2) (by omega) h.1)) (fun _ _ q => q.2.1)) p1 (fun s hs => km_lookerOf (F := F) (by omega) ⟨h.2.2.1.1, eMV hs⟩ (hs 108 (by decide))) (fun s hs => pc_mono (sf_pc (s_X4_lookerOf (F := F) (x1 := a1) (x2 := a2) hF (wm_congr h.2.1 hs))) (fun _ _ q => q.2.1))
theorem rc_pane {F : Nat} {σ : Mem} {a1 : Int32} (hF : 73786976294838206464 ≤ F) (g : wC σ) : ∃ r1 s1 r2 s2, f_X3_pane F a1 σ = some (r1, s1) ∧ f_X4_pane F a1 s1 = some (r2, s2) ∧ wC s2 := by
  obtain ⟨h, e⟩ := g
  have p1 := (kx_pane (F := F) (by omega) : pc (f_X3_pane F a1 σ) _)
  exact rc_both (rc_dr (mu_pane hF (by omega) h)) e (pc_mono (sf_pc (s_X3_pane (F := F) (x1 := a1) (by omega) h.1)) (fun _ _ q => q.2.1)) p1 (fun s hs => by
    have w := km_pane (F := F) (x := a1) (σ := s) (by omega) (wx_X4_1 (wm_congr h.2.1 hs)).2 (hs 108 (by decide))
    rw [hs 101 (by decide), ← (show σ 1 0 = σ 101 1 from weq_lo h.2.2.1.2 (by omega) (p := 0) (by decide))] at w
    exact w) (fun s hs => pc_mono (sf_pc (s_X4_pane (F := F) (x1 := a1) hF (wm_congr h.2.1 hs))) (fun _ _ q => q.2.1))
theorem rc_looker {F : Nat} {σ : Mem} {a1 a2 : Int32} (hF : 73786976294838206464 ≤ F) (g : wC σ) : ∃ r1 s1 r2 s2, f_X3_looker F a1 a2 σ = some (r1, s1) ∧ f_X4_looker F a1 a2 s1 = some (r2, s2) ∧ wC s2 := by
  obtain ⟨h, e⟩ := g
  have p1 := (kx_looker (F := F) (by omega) : pc (f_X3_looker F a1 a2 σ) _)
  exact rc_both (rc_dr (mu_looker hF (by omega) h)) e (pc_mono (sf_pc (s_X3_looker (F := F) (x1 := a1) (x2 := a2) (by omega) h.1)) (fun _ _ q => q.2.1)) p1 (fun s hs => by
    have w := km_looker (F := F) (k := a1) (f := a2) (σ := s) (by omega) (wx_X4_3 (wm_congr h.2.1 hs)).2 (hs 108 (by decide))
    rw [hs 101 (by decide), ← (show σ 1 2 = σ 101 3 from weq_lo h.2.2.1.2 (by omega) (p := 1) (by decide))] at w
    exact w) (fun s hs => pc_mono (sf_pc (s_X4_looker (F := F) (x1 := a1) (x2 := a2) hF (wm_congr h.2.1 hs))) (fun _ _ q => q.2.1))
theorem rc_stands {F : Nat} {σ : Mem} {a1 a2 a3 a4 : Int32} (hF : 73786976294838206464 ≤ F) (g : wC σ) : ∃ r1 s1 r2 s2, f_X3_stands F a1 a2 a3 a4 σ = some (r1, s1) ∧ f_X4_stands F a1 a2 a3 a4 s1 = some (r2, s2) ∧ wC s2 := by
  obtain ⟨h, e⟩ := g
  have p1 := (kx_stands (F := F) (by omega) (wvV_weq h.2.2.1.1 h.2.2.1.2) : pc (f_X3_stands F a1 a2 a3 a4 σ) _)
  exact rc_both (rc_dr (mu_stands hF (by omega) h)) e (pc_mono (sf_pc (s_X3_stands (F := F) (x1 := a1) (x2 := a2) (x3 := a3) (x4 := a4) (by omega) h.1)) (fun _ _ q => q.2.1)) p1 (fun s hs => by
    have w := km_stands (F := F) (x1 := a1) (x2 := a2) (x3 := a3) (x4 := a4) (σ := s) (by omega) (wm_congr h.2.1 hs) (hs 108 (by decide))
    rw [hs 101 (by decide), ← (show σ 1 0 = σ 101 1 from weq_lo h.2.2.1.2 (by omega) (p := 0) (by decide)), ← (show σ 1 2 = σ 101 3 from weq_lo h.2.2.1.2 (by omega) (p := 1) (by decide))] at w
    exact w) (fun s hs => pc_mono (sf_pc (s_X4_stands (F := F) (x1 := a1) (x2 := a2) (x3 := a3) (x4 := a4) hF (wm_congr h.2.1 hs))) (fun _ _ q => q.2.1))
theorem rc_roster {F : Nat} {σ : Mem} {a1 a2 : Int32} (hF : 73786976294838206464 ≤ F) (g : wC σ) : ∃ r1 s1 r2 s2, f_X3_roster F a1 a2 σ = some (r1, s1) ∧ f_X4_roster F a1 a2 s1 = some (r2, s2) ∧ wC s2 := by
  obtain ⟨h, e⟩ := g
  have p1 := (kx_roster (F := F) (by omega) (vX_of (by omega) h.2.2.1) : pc (f_X3_roster F a1 a2 σ) _)
  exact rc_both (mu_roster hF (by omega) h) e (pc_mono (sf_pc (s_X3_roster (F := F) (x1 := a1) (x2 := a2) (by omega) h.1)) (fun _ _ q => q.2.1)) p1 (fun s hs => km_roster (F := F) (by omega) ⟨h.2.2.1.1, eMV hs⟩ (hs 108 (by decide))) (fun s hs => pc_mono (sf_pc (s_X4_roster (F := F) (x1 := a1) (x2 := a2) hF (wm_congr h.2.1 hs))) (fun _ _ q => q.2.1))
theorem rc_wall {F : Nat} {σ : Mem} {a1 a2 : Int32} (hF : 73786976294838206464 ≤ F) (g : wC σ) : ∃ r1 s1 r2 s2, f_X3_wall F a1 a2 σ = some (r1, s1) ∧ f_X4_wall F a1 a2 s1 = some (r2, s2) ∧ wC s2 := by
  obtain ⟨h, e⟩ := g
  have p1 := (kx_wall (F := F) (by omega) (wx_X0_0 h.1 wt_h1).2 : pc (f_X3_wall F a1 a2 σ) _)
  exact rc_both (rc_dr (mu_wall hF (by omega) h)) e (pc_mono (sf_pc (s_X3_wall (F := F) (x1 := a1) (x2 := a2) (by omega) h.1)) (fun _ _ q => q.2.1)) p1 (fun s hs => by
    have w := km_wall (F := F) (x1 := a1) (x2 := a2) (σ := s) (by omega) (wm_congr h.2.1 hs) (hs 108 (by decide))
    rw [hs 101 (by decide), ← (show σ 1 0 = σ 101 1 from weq_lo h.2.2.1.2 (by omega) (p := 0) (by decide))] at w
    exact w) (fun s hs => pc_mono (sf_pc (s_X4_wall (F := F) (x1 := a1) (x2 := a2) hF (wm_congr h.2.1 hs))) (fun _ _ q => q.2.1))
theorem rc_worth {F : Nat} {σ : Mem} {a1 a2 : Int32} (hF : 73786976294838206464 ≤ F) (g : wC σ) : ∃ r1 s1 r2 s2, f_X3_worth F a1 a2 σ = some (r1, s1) ∧ f_X4_worth F a1 a2 s1 = some (r2, s2) ∧ wC s2 := by
  obtain ⟨h, e⟩ := g
  have p1 := (kx_worth (F := F) (by omega) : pc (f_X3_worth F a1 a2 σ) _)
  exact rc_both (rc_dr (mu_worth hF (by omega) h)) e (pc_mono (sf_pc (s_X3_worth (F := F) (x1 := a1) (x2 := a2) (by omega) h.1)) (fun _ _ q => q.2.1)) p1 (fun s hs => km_worth (F := F) (x1 := a1) (x2 := a2) (σ := s) (by omega) (wm_congr h.2.1 hs) (hs 108 (by decide))) (fun s hs => pc_mono (sf_pc (s_X4_worth (F := F) (x1 := a1) (x2 := a2) hF (wm_congr h.2.1 hs))) (fun _ _ q => q.2.1))
theorem rc_law {F : Nat} {σ : Mem} {a1 : Int32} (hF : 73786976294838206464 ≤ F) (g : wC σ) : ∃ r1 s1 r2 s2, f_X3_law F a1 σ = some (r1, s1) ∧ f_X4_law F a1 s1 = some (r2, s2) ∧ wC s2 := by
  obtain ⟨h, e⟩ := g
  have p1 := (kx_law (F := F) (by omega) : pc (f_X3_law F a1 σ) _)
  exact rc_both (rc_dr (mu_law hF (by omega) h)) e (pc_mono (sf_pc (s_X3_law (F := F) (x1 := a1) (by omega) h.1)) (fun _ _ q => q.2.1)) p1 (fun s hs => km_law (F := F) (x := a1) (σ := s) (by omega) (wm_congr h.2.1 hs) (hs 108 (by decide))) (fun s hs => pc_mono (sf_pc (s_X4_law (F := F) (x1 := a1) hF (wm_congr h.2.1 hs))) (fun _ _ q => q.2.1))
theorem rc_days {F : Nat} {σ : Mem} {a1 : Int32} (hF : 73786976294838206464 ≤ F) (g : wC σ) : ∃ r1 s1 r2 s2, f_X3_days F a1 σ = some (r1, s1) ∧ f_X4_days F a1 s1 = some (r2, s2) ∧ wC s2 := by
  obtain ⟨h, e⟩ := g
  have p1 := (kx_days (F := F) (by omega) h.2.2.1 : pc (f_X3_days F a1 σ) _)
  exact rc_both (mu_days hF h) e (pc_mono (sf_pc (s_X3_days (F := F) (x1 := a1) (by omega) h.1)) (fun _ _ q => q.2.1)) p1 (fun s hs => km_days (F := F) (by omega) ⟨h.2.2.1.1, eMV hs⟩ (hs 108 (by decide))) (fun s hs => pc_mono (sf_pc (s_X4_days (F := F) (x1 := a1) hF (wm_congr h.2.1 hs))) (fun _ _ q => q.2.1))
theorem rc_back {F : Nat} {σ : Mem} (hF : 73786976294838206464 ≤ F) (g : wC σ) : ∃ r1 s1 r2 s2, f_X3_back F σ = some (r1, s1) ∧ f_X4_back F s1 = some (r2, s2) ∧ wC s2 := by
  obtain ⟨h, e⟩ := g
  have p1 := (kx_back (F := F) (by omega) : pc (f_X3_back F σ) _)
  exact rc_both (rc_dr (mu_back hF (by omega) h)) e (pc_mono (sf_pc (s_X3_back (F := F) (by omega) h.1)) (fun _ _ q => q.2.1)) p1 (fun s hs => by
    have w := km_back (F := F) (σ := s) (by omega) (hs 108 (by decide))
    rw [hs 101 (by decide), ← (show σ 70 5 = σ 101 30 from h.2.2.2.2.1.1)] at w
    exact w) (fun s hs => pc_mono (sf_pc (s_X4_back (F := F) hF (wm_congr h.2.1 hs))) (fun _ _ q => q.2.1))
theorem rc_counts {F : Nat} {σ : Mem} {a1 a2 a3 : Int32} (hF : 73786976294838206464 ≤ F) (g : wC σ) : ∃ r1 s1 r2 s2, f_X3_counts F a1 a2 a3 σ = some (r1, s1) ∧ f_X4_counts F a1 a2 a3 s1 = some (r2, s2) ∧ wC s2 := by
  obtain ⟨h, e⟩ := g
  have p1 := (kx_counts (F := F) (by omega) h.2.2.1 : pc (f_X3_counts F a1 a2 a3 σ) _)
  exact rc_both (mu_counts hF (by omega) h) e (pc_mono (sf_pc (s_X3_counts (F := F) (x1 := a1) (x2 := a2) (x3 := a3) (by omega) h.1)) (fun _ _ q => q.2.1)) p1 (fun s hs => km_counts (F := F) (by omega) ⟨h.2.2.1.1, eMV hs⟩ (hs 108 (by decide))) (fun s hs => pc_mono (sf_pc (s_X4_counts (F := F) (x1 := a1) (x2 := a2) (x3 := a3) hF (wm_congr h.2.1 hs))) (fun _ _ q => q.2.1))
theorem rc_owner {F : Nat} {σ : Mem} {a1 a2 : Int32} (hF : 73786976294838206464 ≤ F) (g : wC σ) : ∃ r1 s1 r2 s2, f_X3_owner F a1 a2 σ = some (r1, s1) ∧ f_X4_owner F a1 a2 s1 = some (r2, s2) ∧ wC s2 := by
  obtain ⟨h, e⟩ := g
  have p1 := (kx_owner (F := F) (by omega) h.2.2.1 : pc (f_X3_owner F a1 a2 σ) _)
  exact rc_both (mu_owner hF (by omega) h) e (pc_mono (sf_pc (s_X3_owner (F := F) (x1 := a1) (x2 := a2) (by omega) h.1)) (fun _ _ q => q.2.1)) p1 (fun s hs => km_owner (F := F) (by omega) ⟨h.2.2.1.1, eMV hs⟩ (hs 108 (by decide))) (fun s hs => pc_mono (sf_pc (s_X4_owner (F := F) (x1 := a1) (x2 := a2) hF (wm_congr h.2.1 hs))) (fun _ _ q => q.2.1))
theorem rc_owns {F : Nat} {σ : Mem} {a1 a2 a3 : Int32} (hF : 73786976294838206464 ≤ F) (g : wC σ) : ∃ r1 s1 r2 s2, f_X3_owns F a1 a2 a3 σ = some (r1, s1) ∧ f_X4_owns F a1 a2 a3 s1 = some (r2, s2) ∧ wC s2 := by
  obtain ⟨h, e⟩ := g
  have p1 := (kx_owns (F := F) (by omega) h.2.2.1 : pc (f_X3_owns F a1 a2 a3 σ) _)
  exact rc_both (mu_owns hF (by omega) h) e (pc_mono (sf_pc (s_X3_owns (F := F) (x1 := a1) (x2 := a2) (x3 := a3) (by omega) h.1)) (fun _ _ q => q.2.1)) p1 (fun s hs => km_owns (F := F) (by omega) ⟨h.2.2.1.1, eMV hs⟩ (hs 108 (by decide))) (fun s hs => pc_mono (sf_pc (s_X4_owns (F := F) (x1 := a1) (x2 := a2) (x3 := a3) hF (wm_congr h.2.1 hs))) (fun _ _ q => q.2.1))
theorem rc_nobodys {F : Nat} {σ : Mem} {a1 : Int32} (hF : 73786976294838206464 ≤ F) (g : wC σ) : ∃ r1 s1 r2 s2, f_X3_nobodys F a1 σ = some (r1, s1) ∧ f_X4_nobodys F a1 s1 = some (r2, s2) ∧ wC s2 := by
  obtain ⟨h, e⟩ := g
  have p1 := (kx_nobodys (F := F) (by omega) h.2.2.1 : pc (f_X3_nobodys F a1 σ) _)
  exact rc_both (mu_nobodys hF (by omega) h) e (pc_mono (sf_pc (s_X3_nobodys (F := F) (x1 := a1) (by omega) h.1)) (fun _ _ q => q.2.1)) p1 (fun s hs => km_nobodys (F := F) (by omega) ⟨h.2.2.1.1, eMV hs⟩ (hs 108 (by decide))) (fun s hs => pc_mono (sf_pc (s_X4_nobodys (F := F) (x1 := a1) hF (wm_congr h.2.1 hs))) (fun _ _ q => q.2.1))
theorem rc_from {F : Nat} {σ : Mem} {a1 a2 : Int32} (hF : 73786976294838206464 ≤ F) (g : wC σ) : ∃ r1 s1 r2 s2, f_X3_from F a1 a2 σ = some (r1, s1) ∧ f_X4_from F a1 a2 s1 = some (r2, s2) ∧ wC s2 := by
  obtain ⟨h, e⟩ := g
  have p1 := (kx_from (F := F) (by omega) h.2.2.1 : pc (f_X3_from F a1 a2 σ) _)
  exact rc_both (mu_from hF (by omega) h) e (pc_mono (sf_pc (s_X3_from (F := F) (x1 := a1) (x2 := a2) (by omega) h.1)) (fun _ _ q => q.2.1)) p1 (fun s hs => km_from (F := F) (by omega) ⟨h.2.2.1.1, eMV hs⟩ (hs 108 (by decide))) (fun s hs => pc_mono (sf_pc (s_X4_from (F := F) (x1 := a1) (x2 := a2) hF (wm_congr h.2.1 hs))) (fun _ _ q => q.2.1))
theorem rc_lost {F : Nat} {σ : Mem} {a1 : Int32} (hF : 73786976294838206464 ≤ F) (g : wC σ) : ∃ r1 s1 r2 s2, f_X3_lost F a1 σ = some (r1, s1) ∧ f_X4_lost F a1 s1 = some (r2, s2) ∧ wC s2 := by
  obtain ⟨h, e⟩ := g
  have p1 := (kx_lost (F := F) (by omega) h.2.2.1 : pc (f_X3_lost F a1 σ) _)
  exact rc_both (mu_lost hF (by omega) h) e (pc_mono (sf_pc (s_X3_lost (F := F) (x1 := a1) (by omega) h.1)) (fun _ _ q => q.2.1)) p1 (fun s hs => km_lost (F := F) (by omega) ⟨h.2.2.1.1, eMV hs⟩ (hs 108 (by decide))) (fun s hs => pc_mono (sf_pc (s_X4_lost (F := F) (x1 := a1) hF (wm_congr h.2.1 hs))) (fun _ _ q => q.2.1))
theorem rc_richest {F : Nat} {σ : Mem} {a1 a2 : Int32} (hF : 73786976294838206464 ≤ F) (g : wC σ) : ∃ r1 s1 r2 s2, f_X3_richest F a1 a2 σ = some (r1, s1) ∧ f_X4_richest F a1 a2 s1 = some (r2, s2) ∧ wC s2 := by
  obtain ⟨h, e⟩ := g
  have p1 := (kx_richest (F := F) (by omega) h.2.2.1 : pc (f_X3_richest F a1 a2 σ) _)
  exact rc_both (mu_richest hF (by omega) h) e (pc_mono (sf_pc (s_X3_richest (F := F) (x1 := a1) (x2 := a2) (by omega) h.1)) (fun _ _ q => q.2.1)) p1 (fun s hs => km_richest (F := F) (by omega) ⟨h.2.2.1.1, eMV hs⟩ (hs 108 (by decide))) (fun s hs => pc_mono (sf_pc (s_X4_richest (F := F) (x1 := a1) (x2 := a2) hF (wm_congr h.2.1 hs))) (fun _ _ q => q.2.1))
theorem rc_staredOut {F : Nat} {σ : Mem} {a1 a2 a3 : Int32} (hF : 73786976294838206464 ≤ F) (g : wC σ) : ∃ r1 s1 r2 s2, f_X3_staredOut F a1 a2 a3 σ = some (r1, s1) ∧ f_X4_staredOut F a1 a2 a3 s1 = some (r2, s2) ∧ wC s2 := by
  obtain ⟨h, e⟩ := g
  have p1 := (kx_staredOut (F := F) (by omega) h.2.2.1 : pc (f_X3_staredOut F a1 a2 a3 σ) _)
  exact rc_both (mu_staredOut hF (by omega) h) e (pc_mono (sf_pc (s_X3_staredOut (F := F) (x1 := a1) (x2 := a2) (x3 := a3) (by omega) h.1)) (fun _ _ q => q.2.1)) p1 (fun s hs => km_staredOut (F := F) (by omega) ⟨h.2.2.1.1, eMV hs⟩ (hs 108 (by decide))) (fun s hs => pc_mono (sf_pc (s_X4_staredOut (F := F) (x1 := a1) (x2 := a2) (x3 := a3) hF (wm_congr h.2.1 hs))) (fun _ _ q => q.2.1))
theorem rc_moreHours {F : Nat} {σ : Mem} {a1 a2 a3 : Int32} (hF : 73786976294838206464 ≤ F) (g : wC σ) : ∃ r1 s1 r2 s2, f_X3_moreHours F a1 a2 a3 σ = some (r1, s1) ∧ f_X4_moreHours F a1 a2 a3 s1 = some (r2, s2) ∧ wC s2 := by
  obtain ⟨h, e⟩ := g
  have p1 := (kx_moreHours (F := F) (by omega) h.2.2.1 : pc (f_X3_moreHours F a1 a2 a3 σ) _)
  exact rc_both (mu_moreHours hF (by omega) h) e (pc_mono (sf_pc (s_X3_moreHours (F := F) (x1 := a1) (x2 := a2) (x3 := a3) (by omega) h.1)) (fun _ _ q => q.2.1)) p1 (fun s hs => km_moreHours (F := F) (by omega) ⟨h.2.2.1.1, eMV hs⟩ (hs 108 (by decide))) (fun s hs => pc_mono (sf_pc (s_X4_moreHours (F := F) (x1 := a1) (x2 := a2) (x3 := a3) hF (wm_congr h.2.1 hs))) (fun _ _ q => q.2.1))
theorem rc_bestPane {F : Nat} {σ : Mem} {a1 a2 a3 a4 : Int32} (hF : 73786976294838206464 ≤ F) (g : wC σ) : ∃ r1 s1 r2 s2, f_X3_bestPane F a1 a2 a3 a4 σ = some (r1, s1) ∧ f_X4_bestPane F a1 a2 a3 a4 s1 = some (r2, s2) ∧ wC s2 := by
  obtain ⟨h, e⟩ := g
  have p1 := (kx_bestPane (F := F) (by omega) h.2.2.1 : pc (f_X3_bestPane F a1 a2 a3 a4 σ) _)
  exact rc_both (mu_bestPane hF (by omega) h) e (pc_mono (sf_pc (s_X3_bestPane (F := F) (x1 := a1) (x2 := a2) (x3 := a3) (x4 := a4) (by omega) h.1)) (fun _ _ q => q.2.1)) p1 (fun s hs => km_bestPane (F := F) (by omega) ⟨h.2.2.1.1, eMV hs⟩ (hs 108 (by decide))) (fun s hs => pc_mono (sf_pc (s_X4_bestPane (F := F) (x1 := a1) (x2 := a2) (x3 := a3) (x4 := a4) hF (wm_congr h.2.1 hs))) (fun _ _ q => q.2.1))
theorem rc_freeHours {F : Nat} {σ : Mem} {a1 a2 : Int32} (hF : 73786976294838206464 ≤ F) (g : wC σ) : ∃ r1 s1 r2 s2, f_X3_freeHours F a1 a2 σ = some (r1, s1) ∧ f_X4_freeHours F a1 a2 s1 = some (r2, s2) ∧ wC s2 := by
  obtain ⟨h, e⟩ := g
  have p1 := (kx_freeHours (F := F) (by omega) h.2.2.1 : pc (f_X3_freeHours F a1 a2 σ) _)
  exact rc_both (mu_freeHours hF (by omega) h) e (pc_mono (sf_pc (s_X3_freeHours (F := F) (x1 := a1) (x2 := a2) (by omega) h.1)) (fun _ _ q => q.2.1)) p1 (fun s hs => km_freeHours (F := F) (by omega) ⟨h.2.2.1.1, eMV hs⟩ (hs 108 (by decide))) (fun s hs => pc_mono (sf_pc (s_X4_freeHours (F := F) (x1 := a1) (x2 := a2) hF (wm_congr h.2.1 hs))) (fun _ _ q => q.2.1))
theorem rc_cover {F : Nat} {σ : Mem} (hF : 73786976294838206464 ≤ F) (g : wC σ) : ∃ r1 s1 r2 s2, f_X3_cover F σ = some (r1, s1) ∧ f_X4_cover F s1 = some (r2, s2) ∧ wC s2 := by
  obtain ⟨h, e⟩ := g
  have p1 := (kx_leaf (pf_mono (fr_X3_cover (F := F) (by omega)) (fun c q => q.elim)) : pc (f_X3_cover F σ) (fun _ z => z 86 = wB (σ 86) 0))
  exact rc_both (mu_cover hF (by omega) h) e (pc_mono (sf_pc (s_X3_cover (F := F) (by omega) h.1)) (fun _ _ q => fun k _ => by rw [q.1])) p1 (fun s hs => km_leaf (hs 108 (by decide)) (pf_mono (fr_X4_cover (F := F) (by omega)) (fun c q => by unfold wf_66 at q; exact kW_mk (by omega) (by omega)))) (fun s hs => pc_mono (sf_pc (s_X4_cover (F := F) hF (wm_congr h.2.1 hs))) (fun _ _ q => q.2.1))
theorem rc_shown {F : Nat} {σ : Mem} {a1 : Int32} (hF : 73786976294838206464 ≤ F) (g : wC σ) : ∃ r1 s1 r2 s2, f_X3_shown F a1 σ = some (r1, s1) ∧ f_X4_shown F a1 s1 = some (r2, s2) ∧ wC s2 := by
  obtain ⟨h, e⟩ := g
  have p1 := (kx_shown (F := F) (by omega) (vX_of (by omega) h.2.2.1) : pc (f_X3_shown F a1 σ) _)
  exact rc_both (mu_shown hF (by omega) h) e (pc_mono (sf_pc (s_X3_shown (F := F) (x1 := a1) (by omega) h.1)) (fun _ _ q => q.2.1)) p1 (fun s hs => km_shown (F := F) (by omega) ⟨h.2.2.1.1, eMV hs⟩ (hs 108 (by decide))) (fun s hs => pc_mono (sf_pc (s_X4_shown (F := F) (x1 := a1) hF (wm_congr h.2.1 hs))) (fun _ _ q => q.2.1))
theorem rc_walls {F : Nat} {σ : Mem} {a1 a2 a3 : Int32} (hF : 73786976294838206464 ≤ F) (g : wC σ) : ∃ r1 s1 r2 s2, f_X3_walls F a1 a2 a3 σ = some (r1, s1) ∧ f_X4_walls F a1 a2 a3 s1 = some (r2, s2) ∧ wC s2 := by
  obtain ⟨h, e⟩ := g
  have p1 := (kx_walls (F := F) (by omega) h.2.2.1 : pc (f_X3_walls F a1 a2 a3 σ) _)
  exact rc_both (mu_walls hF (by omega) h) e (pc_mono (sf_pc (s_X3_walls (F := F) (x1 := a1) (x2 := a2) (x3 := a3) (by omega) h.1)) (fun _ _ q => q.2.1)) p1 (fun s hs => km_walls (F := F) (by omega) ⟨h.2.2.1.1, eMV hs⟩ (hs 108 (by decide))) (fun s hs => pc_mono (sf_pc (s_X4_walls (F := F) (x1 := a1) (x2 := a2) (x3 := a3) hF (wm_congr h.2.1 hs))) (fun _ _ q => q.2.1))
theorem rc_share {F : Nat} {σ : Mem} {a1 a2 a3 : Int32} (hF : 73786976294838206464 ≤ F) (g : wC σ) : ∃ r1 s1 r2 s2, f_X3_share F a1 a2 a3 σ = some (r1, s1) ∧ f_X4_share F a1 a2 a3 s1 = some (r2, s2) ∧ wC s2 := by
  obtain ⟨h, e⟩ := g
  have p1 := (kx_share (F := F) (by omega) h.2.2.1 : pc (f_X3_share F a1 a2 a3 σ) _)
  exact rc_both (mu_share hF (by omega) h) e (pc_mono (sf_pc (s_X3_share (F := F) (x1 := a1) (x2 := a2) (x3 := a3) (by omega) h.1)) (fun _ _ q => q.2.1)) p1 (fun s hs => km_share (F := F) (by omega) ⟨h.2.2.1.1, eMV hs⟩ (hs 108 (by decide))) (fun s hs => pc_mono (sf_pc (s_X4_share (F := F) (x1 := a1) (x2 := a2) (x3 := a3) hF (wm_congr h.2.1 hs))) (fun _ _ q => q.2.1))
theorem rc_two {F : Nat} {σ : Mem} {a1 a2 a3 a4 : Int32} (hF : 73786976294838206464 ≤ F) (g : wC σ) : ∃ r1 s1 r2 s2, f_X3_two F a1 a2 a3 a4 σ = some (r1, s1) ∧ f_X4_two F a1 a2 a3 a4 s1 = some (r2, s2) ∧ wC s2 := by
  obtain ⟨h, e⟩ := g
  have p1 := (kx_two (F := F) (by omega) h.2.2.1 : pc (f_X3_two F a1 a2 a3 a4 σ) _)
  exact rc_both (mu_two hF (by omega) h) e (pc_mono (sf_pc (s_X3_two (F := F) (x1 := a1) (x2 := a2) (x3 := a3) (x4 := a4) (by omega) h.1)) (fun _ _ q => q.2.1)) p1 (fun s hs => km_two (F := F) (by omega) ⟨h.2.2.1.1, eMV hs⟩ (hs 108 (by decide))) (fun s hs => pc_mono (sf_pc (s_X4_two (F := F) (x1 := a1) (x2 := a2) (x3 := a3) (x4 := a4) hF (wm_congr h.2.1 hs))) (fun _ _ q => q.2.1))
theorem rc_whichLaw {F : Nat} {σ : Mem} (hF : 73786976294838206464 ≤ F) (g : wC σ) : ∃ r1 s1 r2 s2, f_X3_whichLaw F σ = some (r1, s1) ∧ f_X4_whichLaw F s1 = some (r2, s2) ∧ wC s2 := by
  obtain ⟨h, e⟩ := g
  have p1 := (kx_whichLaw (F := F) (by omega) h.2.2.1 (wx_X3_7 h.1) : pc (f_X3_whichLaw F σ) _)
  exact rc_both (mu_whichLaw hF (by omega) h) e (pc_mono (sf_pc (s_X3_whichLaw (F := F) (by omega) h.1)) (fun _ _ q => q.2.1)) p1 (fun s hs => km_whichLaw (F := F) (by omega) ⟨h.2.2.1.1, eMV hs⟩ (hs 108 (by decide)) (wx_X3_7 h.1) (by rw [hs 101 (by decide)]; exact h.2.2.2.2.2.2.1.symm) (fun i hi => by rw [hs 121 (by decide)]; exact (h.2.2.2.2.2.2.2 i (by rw [← h.2.2.2.2.2.2.1]; exact hi)).symm)) (fun s hs => pc_mono (sf_pc (s_X4_whichLaw (F := F) hF (wm_congr h.2.1 hs))) (fun _ _ q => q.2.1))
theorem rc_whichKind {F : Nat} {σ : Mem} {a1 a2 a3 : Int32} (hF : 73786976294838206464 ≤ F) (g : wC σ) : ∃ r1 s1 r2 s2, f_X3_whichKind F a1 a2 a3 σ = some (r1, s1) ∧ f_X4_whichKind F a1 a2 a3 s1 = some (r2, s2) ∧ wC s2 := by
  obtain ⟨h, e⟩ := g
  have p1 := (kx_whichKind (F := F) (by omega) h.2.2.1 (wx_X3_7 h.1) : pc (f_X3_whichKind F a1 a2 a3 σ) _)
  exact rc_both (mu_whichKind hF (by omega) h) e (pc_mono (sf_pc (s_X3_whichKind (F := F) (x1 := a1) (x2 := a2) (x3 := a3) (by omega) h.1)) (fun _ _ q => q.2.1)) p1 (fun s hs => km_whichKind (F := F) (by omega) ⟨h.2.2.1.1, eMV hs⟩ (hs 108 (by decide)) (wx_X3_7 h.1) (by rw [hs 101 (by decide)]; exact h.2.2.2.2.2.2.1.symm) (fun i hi => by rw [hs 121 (by decide)]; exact (h.2.2.2.2.2.2.2 i (by rw [← h.2.2.2.2.2.2.1]; exact hi)).symm)) (fun s hs => pc_mono (sf_pc (s_X4_whichKind (F := F) (x1 := a1) (x2 := a2) (x3 := a3) hF (wm_congr h.2.1 hs))) (fun _ _ q => q.2.1))
theorem rc_ill {F : Nat} {σ : Mem} {a1 a2 a3 a4 a5 : Int32} (hF : 73786976294838206464 ≤ F) (g : wC σ) : ∃ r1 s1 r2 s2, f_X3_ill F a1 a2 a3 a4 a5 σ = some (r1, s1) ∧ f_X4_ill F a1 a2 a3 a4 a5 s1 = some (r2, s2) ∧ wC s2 := by
  obtain ⟨h, e⟩ := g
  have p1 := (kx_ill (F := F) (by omega) h.2.2.1 : pc (f_X3_ill F a1 a2 a3 a4 a5 σ) _)
  exact rc_both (mu_ill hF (by omega) h) e (pc_mono (sf_pc (s_X3_ill (F := F) (x1 := a1) (x2 := a2) (x3 := a3) (x4 := a4) (x5 := a5) (by omega) h.1)) (fun _ _ q => q.2.1)) p1 (fun s hs => km_ill (F := F) (by omega) ⟨h.2.2.1.1, eMV hs⟩ (hs 108 (by decide))) (fun s hs => pc_mono (sf_pc (s_X4_ill (F := F) (x1 := a1) (x2 := a2) (x3 := a3) (x4 := a4) (x5 := a5) hF (wm_congr h.2.1 hs))) (fun _ _ q => q.2.1))
theorem rc_busy {F : Nat} {σ : Mem} {a1 : Int32} (hF : 73786976294838206464 ≤ F) (g : wC σ) : ∃ r1 s1 r2 s2, f_X3_busy F a1 σ = some (r1, s1) ∧ f_X4_busy F a1 s1 = some (r2, s2) ∧ wC s2 := by
  obtain ⟨h, e⟩ := g
  have p1 := (kx_busy (F := F) (by omega) (vX_of (by omega) h.2.2.1) : pc (f_X3_busy F a1 σ) _)
  exact rc_both (mu_busy hF (by omega) h) e (pc_mono (sf_pc (s_X3_busy (F := F) (x1 := a1) (by omega) h.1)) (fun _ _ q => q.2.1)) p1 (fun s hs => km_busy (F := F) (by omega) ⟨h.2.2.1.1, eMV hs⟩ (hs 108 (by decide))) (fun s hs => pc_mono (sf_pc (s_X4_busy (F := F) (x1 := a1) hF (wm_congr h.2.1 hs))) (fun _ _ q => q.2.1))
theorem rc_together {F : Nat} {σ : Mem} {a1 a2 : Int32} (hF : 73786976294838206464 ≤ F) (g : wC σ) : ∃ r1 s1 r2 s2, f_X3_together F a1 a2 σ = some (r1, s1) ∧ f_X4_together F a1 a2 s1 = some (r2, s2) ∧ wC s2 := by
  obtain ⟨h, e⟩ := g
  have p1 := (kx_together (F := F) (by omega) (vX_of (by omega) h.2.2.1) : pc (f_X3_together F a1 a2 σ) _)
  exact rc_both (mu_together hF (by omega) h) e (pc_mono (sf_pc (s_X3_together (F := F) (x1 := a1) (x2 := a2) (by omega) h.1)) (fun _ _ q => q.2.1)) p1 (fun s hs => km_together (F := F) (by omega) ⟨h.2.2.1.1, eMV hs⟩ (hs 108 (by decide))) (fun s hs => pc_mono (sf_pc (s_X4_together (F := F) (x1 := a1) (x2 := a2) hF (wm_congr h.2.1 hs))) (fun _ _ q => q.2.1))
theorem rc_swap {F : Nat} {σ : Mem} {a1 : Int32} (hF : 73786976294838206464 ≤ F) (g : wC σ) : ∃ r1 s1 r2 s2, f_X3_swap F a1 σ = some (r1, s1) ∧ f_X4_swap F a1 s1 = some (r2, s2) ∧ wC s2 := by
  obtain ⟨h, e⟩ := g
  have p1 := (kx_swap (F := F) (by omega) h.2.2.1 : pc (f_X3_swap F a1 σ) _)
  exact rc_both (mu_swap hF (by omega) h) e (pc_mono (sf_pc (s_X3_swap (F := F) (x1 := a1) (by omega) h.1)) (fun _ _ q => q.2.1)) p1 (fun s hs => km_swap (F := F) (by omega) ⟨h.2.2.1.1, eMV hs⟩ (hs 108 (by decide))) (fun s hs => pc_mono (sf_pc (s_X4_swap (F := F) (x1 := a1) hF (wm_congr h.2.1 hs))) (fun _ _ q => q.2.1))
theorem rc_heir {F : Nat} {σ : Mem} {a1 a2 a3 : Int32} (hF : 73786976294838206464 ≤ F) (g : wC σ) : ∃ r1 s1 r2 s2, f_X3_heir F a1 a2 a3 σ = some (r1, s1) ∧ f_X4_heir F a1 a2 a3 s1 = some (r2, s2) ∧ wC s2 := by
  obtain ⟨h, e⟩ := g
  have p1 := (kx_heir (F := F) (by omega) h.2.2.1 : pc (f_X3_heir F a1 a2 a3 σ) _)
  exact rc_both (mu_heir hF (by omega) h) e (pc_mono (sf_pc (s_X3_heir (F := F) (x1 := a1) (x2 := a2) (x3 := a3) (by omega) h.1)) (fun _ _ q => q.2.1)) p1 (fun s hs => km_heir (F := F) (by omega) ⟨h.2.2.1.1, eMV hs⟩ (hs 108 (by decide))) (fun s hs => pc_mono (sf_pc (s_X4_heir (F := F) (x1 := a1) (x2 := a2) (x3 := a3) hF (wm_congr h.2.1 hs))) (fun _ _ q => q.2.1))
theorem rc_even {F : Nat} {σ : Mem} {a1 : Int32} (hF : 73786976294838206464 ≤ F) (g : wC σ) : ∃ r1 s1 r2 s2, f_X3_even F a1 σ = some (r1, s1) ∧ f_X4_even F a1 s1 = some (r2, s2) ∧ wC s2 := by
  obtain ⟨h, e⟩ := g
  have p1 := (kx_even (F := F) (by omega) h.2.2.1 : pc (f_X3_even F a1 σ) _)
  exact rc_both (mu_even hF (by omega) h) e (pc_mono (sf_pc (s_X3_even (F := F) (x1 := a1) (by omega) h.1)) (fun _ _ q => q.2.1)) p1 (fun s hs => km_even (F := F) (by omega) ⟨h.2.2.1.1, eMV hs⟩ (hs 108 (by decide))) (fun s hs => pc_mono (sf_pc (s_X4_even (F := F) (x1 := a1) hF (wm_congr h.2.1 hs))) (fun _ _ q => q.2.1))
theorem rc_last {F : Nat} {σ : Mem} (hF : 73786976294838206464 ≤ F) (g : wC σ) : ∃ r1 s1 r2 s2, f_X3_last F σ = some (r1, s1) ∧ f_X4_last F s1 = some (r2, s2) ∧ wC s2 := by
  obtain ⟨h, e⟩ := g
  have p1 := (kx_leaf (pf_mono (fr_X3_last (F := F) (by omega)) (fun c q => by unfold wf_38 at q; exact kW_mk (by omega) (by omega))) : pc (f_X3_last F σ) (fun _ z => z 86 = wB (σ 86) 0))
  exact rc_both (mu_last hF (by omega) h) e (pc_mono (sf_pc (s_X3_last (F := F) (by omega) h.1)) (fun _ _ q => q.2.1)) p1 (fun s hs => km_leaf (hs 108 (by decide)) (pf_mono (fr_X4_last (F := F) (by omega)) (fun c q => by unfold wf_71 at q; exact kW_mk (by omega) (by omega)))) (fun s hs => pc_mono (sf_pc (s_X4_last (F := F) hF (wm_congr h.2.1 hs))) (fun _ _ q => q.2.1))
theorem rc_joint {F : Nat} {σ : Mem} {a1 a2 a3 : Int32} (hF : 73786976294838206464 ≤ F) (g : wC σ) : ∃ r1 s1 r2 s2, f_X3_joint F a1 a2 a3 σ = some (r1, s1) ∧ f_X4_joint F a1 a2 a3 s1 = some (r2, s2) ∧ wC s2 := by
  obtain ⟨h, e⟩ := g
  have p1 := (kx_joint (F := F) (by omega) h.2.2.1 : pc (f_X3_joint F a1 a2 a3 σ) _)
  exact rc_both (mu_joint hF (by omega) h) e (pc_mono (sf_pc (s_X3_joint (F := F) (x1 := a1) (x2 := a2) (x3 := a3) (by omega) h.1)) (fun _ _ q => q.2.1)) p1 (fun s hs => km_joint (F := F) (by omega) ⟨h.2.2.1.1, eMV hs⟩ (hs 108 (by decide))) (fun s hs => pc_mono (sf_pc (s_X4_joint (F := F) (x1 := a1) (x2 := a2) (x3 := a3) hF (wm_congr h.2.1 hs))) (fun _ _ q => q.2.1))
theorem rc_rank {F : Nat} {σ : Mem} {a1 a2 : Int32} (hF : 73786976294838206464 ≤ F) (g : wC σ) : ∃ r1 s1 r2 s2, f_X3_rank F a1 a2 σ = some (r1, s1) ∧ f_X4_rank F a1 a2 s1 = some (r2, s2) ∧ wC s2 := by
  obtain ⟨h, e⟩ := g
  have p1 := (kx_rank (F := F) (by omega) h.2.2.1 : pc (f_X3_rank F a1 a2 σ) _)
  exact rc_both (mu_rank hF (by omega) h) e (pc_mono (sf_pc (s_X3_rank (F := F) (x1 := a1) (x2 := a2) (by omega) h.1)) (fun _ _ q => q.2.1)) p1 (fun s hs => km_rank (F := F) (by omega) ⟨h.2.2.1.1, eMV hs⟩ (hs 108 (by decide))) (fun s hs => pc_mono (sf_pc (s_X4_rank (F := F) (x1 := a1) (x2 := a2) hF (wm_congr h.2.1 hs))) (fun _ _ q => q.2.1))
theorem rc_gap {F : Nat} {σ : Mem} {a1 a2 : Int32} (hF : 73786976294838206464 ≤ F) (g : wC σ) : ∃ r1 s1 r2 s2, f_X3_gap F a1 a2 σ = some (r1, s1) ∧ f_X4_gap F a1 a2 s1 = some (r2, s2) ∧ wC s2 := by
  obtain ⟨h, e⟩ := g
  have p1 := (kx_gap (F := F) (by omega) h.2.2.1 : pc (f_X3_gap F a1 a2 σ) _)
  exact rc_both (mu_gap hF (by omega) h) e (pc_mono (sf_pc (s_X3_gap (F := F) (x1 := a1) (x2 := a2) (by omega) h.1)) (fun _ _ q => q.2.1)) p1 (fun s hs => km_gap (F := F) (by omega) ⟨h.2.2.1.1, eMV hs⟩ (hs 108 (by decide))) (fun s hs => pc_mono (sf_pc (s_X4_gap (F := F) (x1 := a1) (x2 := a2) hF (wm_congr h.2.1 hs))) (fun _ _ q => q.2.1))
theorem rc_wasted {F : Nat} {σ : Mem} {a1 a2 : Int32} (hF : 73786976294838206464 ≤ F) (g : wC σ) : ∃ r1 s1 r2 s2, f_X3_wasted F a1 a2 σ = some (r1, s1) ∧ f_X4_wasted F a1 a2 s1 = some (r2, s2) ∧ wC s2 := by
  obtain ⟨h, e⟩ := g
  have p1 := (kx_wasted (F := F) (by omega) h.2.2.1 : pc (f_X3_wasted F a1 a2 σ) _)
  exact rc_both (mu_wasted hF (by omega) h) e (pc_mono (sf_pc (s_X3_wasted (F := F) (x1 := a1) (x2 := a2) (by omega) h.1)) (fun _ _ q => q.2.1)) p1 (fun s hs => km_wasted (F := F) (by omega) ⟨h.2.2.1.1, eMV hs⟩ (hs 108 (by decide))) (fun s hs => pc_mono (sf_pc (s_X4_wasted (F := F) (x1 := a1) (x2 := a2) hF (wm_congr h.2.1 hs))) (fun _ _ q => q.2.1))
theorem rc_ahead {F : Nat} {σ : Mem} {a1 a2 : Int32} (hF : 73786976294838206464 ≤ F) (g : wC σ) : ∃ r1 s1 r2 s2, f_X3_ahead F a1 a2 σ = some (r1, s1) ∧ f_X4_ahead F a1 a2 s1 = some (r2, s2) ∧ wC s2 := by
  obtain ⟨h, e⟩ := g
  have p1 := (kx_ahead (F := F) (by omega) h.2.2.1 : pc (f_X3_ahead F a1 a2 σ) _)
  exact rc_both (mu_ahead hF (by omega) h) e (pc_mono (sf_pc (s_X3_ahead (F := F) (x1 := a1) (x2 := a2) (by omega) h.1)) (fun _ _ q => q.2.1)) p1 (fun s hs => km_ahead (F := F) (by omega) ⟨h.2.2.1.1, eMV hs⟩ (hs 108 (by decide))) (fun s hs => pc_mono (sf_pc (s_X4_ahead (F := F) (x1 := a1) (x2 := a2) hF (wm_congr h.2.1 hs))) (fun _ _ q => q.2.1))
theorem rc_bestLaw {F : Nat} {σ : Mem} {a1 a2 : Int32} (hF : 73786976294838206464 ≤ F) (g : wC σ) : ∃ r1 s1 r2 s2, f_X3_bestLaw F a1 a2 σ = some (r1, s1) ∧ f_X4_bestLaw F a1 a2 s1 = some (r2, s2) ∧ wC s2 := by
  obtain ⟨h, e⟩ := g
  have p1 := (kx_bestLaw (F := F) (by omega) h.2.2.1 : pc (f_X3_bestLaw F a1 a2 σ) _)
  exact rc_both (mu_bestLaw hF (by omega) h) e (pc_mono (sf_pc (s_X3_bestLaw (F := F) (x1 := a1) (x2 := a2) (by omega) h.1)) (fun _ _ q => q.2.1)) p1 (fun s hs => km_bestLaw (F := F) (by omega) ⟨h.2.2.1.1, eMV hs⟩ (hs 108 (by decide))) (fun s hs => pc_mono (sf_pc (s_X4_bestLaw (F := F) (x1 := a1) (x2 := a2) hF (wm_congr h.2.1 hs))) (fun _ _ q => q.2.1))
theorem rc_newcomer {F : Nat} {σ : Mem} {a1 a2 a3 : Int32} (hF : 73786976294838206464 ≤ F) (g : wC σ) : ∃ r1 s1 r2 s2, f_X3_newcomer F a1 a2 a3 σ = some (r1, s1) ∧ f_X4_newcomer F a1 a2 a3 s1 = some (r2, s2) ∧ wC s2 := by
  obtain ⟨h, e⟩ := g
  have p1 := (kx_newcomer (F := F) (by omega) h.2.2.1 : pc (f_X3_newcomer F a1 a2 a3 σ) _)
  exact rc_both (mu_newcomer hF (by omega) h) e (pc_mono (sf_pc (s_X3_newcomer (F := F) (x1 := a1) (x2 := a2) (x3 := a3) (by omega) h.1)) (fun _ _ q => q.2.1)) p1 (fun s hs => km_newcomer (F := F) (by omega) ⟨h.2.2.1.1, eMV hs⟩ (hs 108 (by decide))) (fun s hs => pc_mono (sf_pc (s_X4_newcomer (F := F) (x1 := a1) (x2 := a2) (x3 := a3) hF (wm_congr h.2.1 hs))) (fun _ _ q => q.2.1))
theorem rc_mostSeen {F : Nat} {σ : Mem} {a1 : Int32} (hF : 73786976294838206464 ≤ F) (g : wC σ) : ∃ r1 s1 r2 s2, f_X3_mostSeen F a1 σ = some (r1, s1) ∧ f_X4_mostSeen F a1 s1 = some (r2, s2) ∧ wC s2 := by
  obtain ⟨h, e⟩ := g
  have p1 := (kx_mostSeen (F := F) (by omega) h.2.2.1 : pc (f_X3_mostSeen F a1 σ) _)
  exact rc_both (mu_mostSeen hF (by omega) h) e (pc_mono (sf_pc (s_X3_mostSeen (F := F) (x1 := a1) (by omega) h.1)) (fun _ _ q => q.2.1)) p1 (fun s hs => km_mostSeen (F := F) (by omega) ⟨h.2.2.1.1, eMV hs⟩ (hs 108 (by decide))) (fun s hs => pc_mono (sf_pc (s_X4_mostSeen (F := F) (x1 := a1) hF (wm_congr h.2.1 hs))) (fun _ _ q => q.2.1))
theorem rc_duels {F : Nat} {σ : Mem} {a1 a2 : Int32} (hF : 73786976294838206464 ≤ F) (g : wC σ) : ∃ r1 s1 r2 s2, f_X3_duels F a1 a2 σ = some (r1, s1) ∧ f_X4_duels F a1 a2 s1 = some (r2, s2) ∧ wC s2 := by
  obtain ⟨h, e⟩ := g
  have p1 := (kx_duels (F := F) (by omega) h.2.2.1 : pc (f_X3_duels F a1 a2 σ) _)
  exact rc_both (mu_duels hF (by omega) h) e (pc_mono (sf_pc (s_X3_duels (F := F) (x1 := a1) (x2 := a2) (by omega) h.1)) (fun _ _ q => q.2.1)) p1 (fun s hs => km_duels (F := F) (by omega) ⟨h.2.2.1.1, eMV hs⟩ (hs 108 (by decide))) (fun s hs => pc_mono (sf_pc (s_X4_duels (F := F) (x1 := a1) (x2 := a2) hF (wm_congr h.2.1 hs))) (fun _ _ q => q.2.1))
theorem rc_row {F : Nat} {σ : Mem} {a1 : Int32} (hF : 73786976294838206464 ≤ F) (g : wC σ) : ∃ r1 s1 r2 s2, f_X3_row F a1 σ = some (r1, s1) ∧ f_X4_row F a1 s1 = some (r2, s2) ∧ wC s2 := by
  obtain ⟨h, e⟩ := g
  have p1 := (kx_row (F := F) (by omega) : pc (f_X3_row F a1 σ) _)
  exact rc_both (rc_dr (mu_row hF (by omega) h)) e (pc_mono (sf_pc (s_X3_row (F := F) (x1 := a1) (by omega) h.1)) (fun _ _ q => q.2.1)) p1 (fun s hs => by
    have w := km_row (F := F) (x := a1) (σ := s) (by omega) (wx_X4_34 (wm_congr h.2.1 hs)).2 (hs 108 (by decide))
    rw [hs 101 (by decide), ← (show σ 0 7 = σ 101 34 from h.2.2.2.2.2.2.1)] at w
    exact w) (fun s hs => pc_mono (sf_pc (s_X4_row (F := F) (x1 := a1) hF (wm_congr h.2.1 hs))) (fun _ _ q => q.2.1))
theorem rc_judge {F : Nat} {σ : Mem} {a1 : Int32} (hF : 73786976294838206464 ≤ F) (g : wC σ) : ∃ r1 s1 r2 s2, f_X3_judge F a1 σ = some (r1, s1) ∧ f_X4_judge F a1 s1 = some (r2, s2) ∧ wC s2 := by
  obtain ⟨h, e⟩ := g
  have p1 := (kx_judge (F := F) (by omega) h.2.2.1 (wx_X3_7 h.1) : pc (f_X3_judge F a1 σ) _)
  exact rc_both (mu_judge hF (by omega) h) e (pc_mono (sf_pc (s_X3_judge (F := F) (x1 := a1) (by omega) h.1)) (fun _ _ q => q.2.1)) p1 (fun s hs => km_judge (F := F) (by omega) ⟨h.2.2.1.1, eMV hs⟩ (hs 108 (by decide)) (wx_X3_7 h.1) (by rw [hs 101 (by decide)]; exact h.2.2.2.2.2.2.1.symm) (fun i hi => by rw [hs 121 (by decide)]; exact (h.2.2.2.2.2.2.2 i (by rw [← h.2.2.2.2.2.2.1]; exact hi)).symm)) (fun s hs => pc_mono (sf_pc (s_X4_judge (F := F) (x1 := a1) hF (wm_congr h.2.1 hs))) (fun _ _ q => q.2.1))
theorem rc_clear {F : Nat} {σ : Mem} (hF : 73786976294838206464 ≤ F) (g : wC σ) : ∃ r1 s1 r2 s2, f_X3_clear F σ = some (r1, s1) ∧ f_X4_clear F s1 = some (r2, s2) ∧ wC s2 := by
  obtain ⟨h, e⟩ := g
  have p1 := (kx_leaf (pf_mono (fr_X3_clear (F := F) (by omega)) (fun c q => by unfold wf_41 at q; exact kW_mk (by omega) (by omega))) : pc (f_X3_clear F σ) (fun _ z => z 86 = wB (σ 86) 0))
  exact rc_both (rc_dr (mu_clear hF (by omega) h)) e (pc_mono (sf_pc (s_X3_clear (F := F) (by omega) h.1)) (fun _ _ q => q.2.1)) p1 (fun s hs => km_leaf (hs 108 (by decide)) (pf_mono (fr_X4_clear (F := F) (by omega)) (fun c q => by unfold wf_75 at q; exact kW_mk (by omega) (by omega)))) (fun s hs => pc_mono (sf_pc (s_X4_clear (F := F) hF (wm_congr h.2.1 hs))) (fun _ _ q => q.2.1))
theorem rc_lots {F : Nat} {σ : Mem} {a1 a2 a3 : Int32} (hF : 73786976294838206464 ≤ F) (g : wC σ) : ∃ r1 s1 r2 s2, f_X3_lots F a1 a2 a3 σ = some (r1, s1) ∧ f_X4_lots F a1 a2 a3 s1 = some (r2, s2) ∧ wC s2 := by
  obtain ⟨h, e⟩ := g
  have p1 := (kx_lots (F := F) (by omega) h.2.2.1 : pc (f_X3_lots F a1 a2 a3 σ) _)
  exact rc_both (mu_lots hF (by omega) h) e (pc_mono (sf_pc (s_X3_lots (F := F) (x1 := a1) (x2 := a2) (x3 := a3) (by omega) h.1)) (fun _ _ q => q.2.1)) p1 (fun s hs => km_lots (F := F) (by omega) ⟨h.2.2.1.1, eMV hs⟩ (hs 108 (by decide))) (fun s hs => pc_mono (sf_pc (s_X4_lots (F := F) (x1 := a1) (x2 := a2) (x3 := a3) hF (wm_congr h.2.1 hs))) (fun _ _ q => q.2.1))
theorem rc_image {F : Nat} {σ : Mem} (hF : 73786976294838206464 ≤ F) (g : wC σ) : ∃ r1 s1 r2 s2, f_X3_image F σ = some (r1, s1) ∧ f_X4_image F s1 = some (r2, s2) ∧ wC s2 := by
  obtain ⟨h, e⟩ := g
  have p1 := (kx_leaf (pf_mono (fr_X3_image (F := F) (by omega)) (fun c q => by unfold wf_43 at q; exact kW_mk (by omega) (by omega))) : pc (f_X3_image F σ) (fun _ z => z 86 = wB (σ 86) 0))
  exact rc_both (rc_dr (mu_image hF (by omega) h)) e (pc_mono (sf_pc (s_X3_image (F := F) (by omega) h.1)) (fun _ _ q => q.2.1)) p1 (fun s hs => pc_mono (cm_image (F := F) (by omega)) (fun _ z q => by rw [wB_0, show z 108 = s 108 from funext fun i => q.2.2.2 108 i (by decide) (fun w => by have := w.1; omega), hs 108 (by decide)])) (fun s hs => pc_mono (sf_pc (s_X4_image (F := F) hF (wm_congr h.2.1 hs))) (fun _ _ q => q.2.1))
theorem rc_restore {F : Nat} {σ : Mem} (hF : 73786976294838206464 ≤ F) (g : wC σ) : ∃ r1 s1 r2 s2, f_X3_restore F σ = some (r1, s1) ∧ f_X4_restore F s1 = some (r2, s2) ∧ wC s2 := by
  obtain ⟨h, e⟩ := g
  have p1 := (kx_restore (F := F) (by omega) : pc (f_X3_restore F σ) _)
  exact rc_both (rc_dr (mu_restore hF (by omega) h)) e (pc_mono (sf_pc (s_X3_restore (F := F) (by omega) h.1)) (fun _ _ q => q.2.1)) p1 (fun s hs => by
    have w := km_restore (F := F) (σ := s) (by omega) (hs 108 (by decide))
    rw [hs 101 (by decide), ← (show σ 0 3 = σ 101 24 from h.2.2.2.1.1)] at w
    exact w) (fun s hs => pc_mono (sf_pc (s_X4_restore (F := F) hF (wm_congr h.2.1 hs))) (fun _ _ q => q.2.1))
theorem rc_count {F : Nat} {σ : Mem} {a1 : Int32} (hF : 73786976294838206464 ≤ F) (g : wC σ) : ∃ r1 s1 r2 s2, f_X3_count F a1 σ = some (r1, s1) ∧ f_X4_count F a1 s1 = some (r2, s2) ∧ wC s2 := by
  obtain ⟨h, e⟩ := g
  have p1 := (kx_leaf (pf_mono (fr_X3_count (F := F) (x1 := a1) (by omega)) (fun c q => by unfold wf_38 at q; exact kW_mk (by omega) (by omega))) : pc (f_X3_count F a1 σ) (fun _ z => z 86 = wB (σ 86) 0))
  exact rc_both (mu_count hF (by omega) h) e (pc_mono (sf_pc (s_X3_count (F := F) (x1 := a1) (by omega) h.1)) (fun _ _ q => q.2.1)) p1 (fun s hs => km_leaf (hs 108 (by decide)) (pf_mono (fr_X4_count (F := F) (x1 := a1) (by omega)) (fun c q => by unfold wf_71 at q; exact kW_mk (by omega) (by omega)))) (fun s hs => pc_mono (sf_pc (s_X4_count (F := F) (x1 := a1) hF (wm_congr h.2.1 hs))) (fun _ _ q => q.2.1))
theorem eqc_count {F : Nat} {σ : Mem} {a1 : Int32} (hF : 73786976294838206464 ≤ F) (g : wC σ) : ∃ r1 s1 r2 s2, f_X3_count F a1 σ = some (r1, s1) ∧ f_X4_count F a1 s1 = some (r2, s2) ∧ wC s2 ∧ r1 = r2 := rc_eq (rc_count hF g) (fun r1 s1 r2 s2 e1 e2 => by
  obtain ⟨h, e⟩ := g
  have hs : ∀ k, 101 ≤ k → s1 k = σ k := (pc_mono (sf_pc (s_X3_count (F := F) (x1 := a1) (by omega) h.1)) (fun _ _ q => q.2.1)) r1 s1 e1
  rw [kc_count h.2.2.1 r1 s1 e1]
  exact (kd_count ⟨h.2.2.1.1, eMV hs⟩ (by rw [hs 101 (by decide)]; exact h.2.2.2.2.2.1.1.symm) (by rw [hs 101 (by decide)]; exact h.2.2.2.2.2.2.1.symm) (by rw [hs 101 (by decide)]; exact h.2.2.2.2.1.1.symm) (by rw [hs 108 (by decide)]; exact e.symm) r2 s2 e2).symm)
