def wiI (σ : Mem) : Prop := wiX σ ∧ wiM σ ∧ σ 83 1 = σ 101 15 ∧ σ 0 7 = σ 101 34
theorem wl_k0 {F : Nat} (hF : 73786976294838206464 ≤ F) : wl_ok_0 wiI F := by
  intro σ a1 h
  obtain ⟨hX, hM, e1, e2⟩ := h
  obtain ⟨r1, s1, c1, h1⟩ := s_X3_feed (F := F) (x1 := a1) (by omega) hX
  obtain ⟨I1, F1, O1_0_7, lo1, hi1, x1_0⟩ := h1
  have hM1 : wiM s1 := wm_congr hM F1
  obtain ⟨r2, s2, c2, h2⟩ := s_X4_feed (F := F) (x1 := a1) (hF) hM1
  obtain ⟨I2, F2, O2_101_34, O2_101_1, O2_101_30, O2_101_18, lo2, hi2, x2_0⟩ := h2
  have e1i : (σ 83 1).toInt = (σ 101 15).toInt := congrArg Int32.toInt e1
  have e2i : (σ 0 7).toInt = (σ 101 34).toInt := congrArg Int32.toInt e2
  have g1 : s2 83 1 = s2 101 15 := by
    have u3 : (s2 83 1).toInt = (s1 83 1).toInt := congrArg (fun f => Int32.toInt (f 1)) (F2 83 (by decide))
    have u4 : (s1 101 15).toInt = (σ 101 15).toInt := congrArg (fun f => Int32.toInt (f 15)) (F1 101 (by decide))
    exact Int32.toInt_inj.mp (by omega)
  have g2 : s2 0 7 = s2 101 34 := by
    have u1 : (s1 0 7).toInt = (σ 0 7).toInt := congrArg Int32.toInt O1_0_7
    have u2 : (s2 101 34).toInt = (s1 101 34).toInt := congrArg Int32.toInt O2_101_34
    have u3 : (s2 0 7).toInt = (s1 0 7).toInt := congrArg (fun f => Int32.toInt (f 7)) (F2 0 (by decide))
    have u4 : (s1 101 34).toInt = (σ 101 34).toInt := congrArg (fun f => Int32.toInt (f 34)) (F1 101 (by decide))
    exact Int32.toInt_inj.mp (by omega)
  exact ⟨r1, s1, r2, s2, c1, c2, ⟨wx_congr I1 F2, I2, g1, g2⟩⟩
theorem wl_k1 {F : Nat} (hF : 73786976294838206464 ≤ F) : wl_ok_1 wiI F := by
  intro σ h
  obtain ⟨hX, hM, e1, e2⟩ := h
  obtain ⟨r1, s1, c1, h1⟩ := s_X3_terrace (F := F) (by omega) hX
  obtain ⟨I1, F1, O1_0_7, lo1, hi1, x1_0⟩ := h1
  have hM1 : wiM s1 := wm_congr hM F1
  obtain ⟨r2, s2, c2, h2⟩ := s_X4_terrace (F := F) (hF) hM1
  obtain ⟨I2, F2, O2_101_34, lo2, hi2, x2_0⟩ := h2
  have e1i : (σ 83 1).toInt = (σ 101 15).toInt := congrArg Int32.toInt e1
  have e2i : (σ 0 7).toInt = (σ 101 34).toInt := congrArg Int32.toInt e2
  have g1 : s2 83 1 = s2 101 15 := by
    have u3 : (s2 83 1).toInt = (s1 83 1).toInt := congrArg (fun f => Int32.toInt (f 1)) (F2 83 (by decide))
    have u4 : (s1 101 15).toInt = (σ 101 15).toInt := congrArg (fun f => Int32.toInt (f 15)) (F1 101 (by decide))
    exact Int32.toInt_inj.mp (by omega)
  have g2 : s2 0 7 = s2 101 34 := by
    have u1 : (s1 0 7).toInt = (σ 0 7).toInt := congrArg Int32.toInt O1_0_7
    have u2 : (s2 101 34).toInt = (s1 101 34).toInt := congrArg Int32.toInt O2_101_34
    have u3 : (s2 0 7).toInt = (s1 0 7).toInt := congrArg (fun f => Int32.toInt (f 7)) (F2 0 (by decide))
    have u4 : (s1 101 34).toInt = (σ 101 34).toInt := congrArg (fun f => Int32.toInt (f 34)) (F1 101 (by decide))
    exact Int32.toInt_inj.mp (by omega)
  exact ⟨r1, s1, r2, s2, c1, c2, ⟨wx_congr I1 F2, I2, g1, g2⟩⟩
theorem wl_k2 {F : Nat} (hF : 73786976294838206464 ≤ F) : wl_ok_2 wiI F := by
  intro σ a1 a2 h
  obtain ⟨hX, hM, e1, e2⟩ := h
  obtain ⟨r1, s1, c1, h1⟩ := s_X3_paneOf (F := F) (x1 := a1) (x2 := a2) (by omega) hX
  obtain ⟨I1, F1, O1_83_1, O1_0_7, lo1, hi1⟩ := h1
  have hM1 : wiM s1 := wm_congr hM F1
  obtain ⟨r2, s2, c2, h2⟩ := s_X4_paneOf (F := F) (x1 := a1) (x2 := a2) (hF) hM1
  obtain ⟨I2, F2, O2_101_15, O2_101_34, O2_101_1, O2_101_30, O2_101_18, lo2, hi2⟩ := h2
  have e1i : (σ 83 1).toInt = (σ 101 15).toInt := congrArg Int32.toInt e1
  have e2i : (σ 0 7).toInt = (σ 101 34).toInt := congrArg Int32.toInt e2
  have g1 : s2 83 1 = s2 101 15 := by
    have u1 : (s1 83 1).toInt = (σ 83 1).toInt := congrArg Int32.toInt O1_83_1
    have u2 : (s2 101 15).toInt = (s1 101 15).toInt := congrArg Int32.toInt O2_101_15
    have u3 : (s2 83 1).toInt = (s1 83 1).toInt := congrArg (fun f => Int32.toInt (f 1)) (F2 83 (by decide))
    have u4 : (s1 101 15).toInt = (σ 101 15).toInt := congrArg (fun f => Int32.toInt (f 15)) (F1 101 (by decide))
    exact Int32.toInt_inj.mp (by omega)
  have g2 : s2 0 7 = s2 101 34 := by
    have u1 : (s1 0 7).toInt = (σ 0 7).toInt := congrArg Int32.toInt O1_0_7
    have u2 : (s2 101 34).toInt = (s1 101 34).toInt := congrArg Int32.toInt O2_101_34
    have u3 : (s2 0 7).toInt = (s1 0 7).toInt := congrArg (fun f => Int32.toInt (f 7)) (F2 0 (by decide))
    have u4 : (s1 101 34).toInt = (σ 101 34).toInt := congrArg (fun f => Int32.toInt (f 34)) (F1 101 (by decide))
    exact Int32.toInt_inj.mp (by omega)
  exact ⟨r1, s1, r2, s2, c1, c2, ⟨wx_congr I1 F2, I2, g1, g2⟩⟩
theorem wl_k3 {F : Nat} (hF : 73786976294838206464 ≤ F) : wl_ok_3 wiI F := by
  intro σ a1 a2 h
  obtain ⟨hX, hM, e1, e2⟩ := h
  obtain ⟨r1, s1, c1, h1⟩ := s_X3_lookerOf (F := F) (x1 := a1) (x2 := a2) (by omega) hX
  obtain ⟨I1, F1, O1_83_1, O1_0_7, lo1, hi1⟩ := h1
  have hM1 : wiM s1 := wm_congr hM F1
  obtain ⟨r2, s2, c2, h2⟩ := s_X4_lookerOf (F := F) (x1 := a1) (x2 := a2) (hF) hM1
  obtain ⟨I2, F2, O2_101_15, O2_101_34, O2_101_1, O2_101_30, O2_101_18, lo2, hi2⟩ := h2
  have e1i : (σ 83 1).toInt = (σ 101 15).toInt := congrArg Int32.toInt e1
  have e2i : (σ 0 7).toInt = (σ 101 34).toInt := congrArg Int32.toInt e2
  have g1 : s2 83 1 = s2 101 15 := by
    have u1 : (s1 83 1).toInt = (σ 83 1).toInt := congrArg Int32.toInt O1_83_1
    have u2 : (s2 101 15).toInt = (s1 101 15).toInt := congrArg Int32.toInt O2_101_15
    have u3 : (s2 83 1).toInt = (s1 83 1).toInt := congrArg (fun f => Int32.toInt (f 1)) (F2 83 (by decide))
    have u4 : (s1 101 15).toInt = (σ 101 15).toInt := congrArg (fun f => Int32.toInt (f 15)) (F1 101 (by decide))
    exact Int32.toInt_inj.mp (by omega)
  have g2 : s2 0 7 = s2 101 34 := by
    have u1 : (s1 0 7).toInt = (σ 0 7).toInt := congrArg Int32.toInt O1_0_7
    have u2 : (s2 101 34).toInt = (s1 101 34).toInt := congrArg Int32.toInt O2_101_34
    have u3 : (s2 0 7).toInt = (s1 0 7).toInt := congrArg (fun f => Int32.toInt (f 7)) (F2 0 (by decide))
    have u4 : (s1 101 34).toInt = (σ 101 34).toInt := congrArg (fun f => Int32.toInt (f 34)) (F1 101 (by decide))
    exact Int32.toInt_inj.mp (by omega)
  exact ⟨r1, s1, r2, s2, c1, c2, ⟨wx_congr I1 F2, I2, g1, g2⟩⟩
theorem wl_k4 {F : Nat} (hF : 73786976294838206464 ≤ F) : wl_ok_4 wiI F := by
  intro σ a1 h
  obtain ⟨hX, hM, e1, e2⟩ := h
  obtain ⟨r1, s1, c1, h1⟩ := s_X3_pane (F := F) (x1 := a1) (by omega) hX
  obtain ⟨I1, F1, O1_83_1, O1_0_7, lo1, hi1⟩ := h1
  have hM1 : wiM s1 := wm_congr hM F1
  obtain ⟨r2, s2, c2, h2⟩ := s_X4_pane (F := F) (x1 := a1) (hF) hM1
  obtain ⟨I2, F2, O2_101_15, O2_101_34, O2_101_18, lo2, hi2⟩ := h2
  have e1i : (σ 83 1).toInt = (σ 101 15).toInt := congrArg Int32.toInt e1
  have e2i : (σ 0 7).toInt = (σ 101 34).toInt := congrArg Int32.toInt e2
  have g1 : s2 83 1 = s2 101 15 := by
    have u1 : (s1 83 1).toInt = (σ 83 1).toInt := congrArg Int32.toInt O1_83_1
    have u2 : (s2 101 15).toInt = (s1 101 15).toInt := congrArg Int32.toInt O2_101_15
    have u3 : (s2 83 1).toInt = (s1 83 1).toInt := congrArg (fun f => Int32.toInt (f 1)) (F2 83 (by decide))
    have u4 : (s1 101 15).toInt = (σ 101 15).toInt := congrArg (fun f => Int32.toInt (f 15)) (F1 101 (by decide))
    exact Int32.toInt_inj.mp (by omega)
  have g2 : s2 0 7 = s2 101 34 := by
    have u1 : (s1 0 7).toInt = (σ 0 7).toInt := congrArg Int32.toInt O1_0_7
    have u2 : (s2 101 34).toInt = (s1 101 34).toInt := congrArg Int32.toInt O2_101_34
    have u3 : (s2 0 7).toInt = (s1 0 7).toInt := congrArg (fun f => Int32.toInt (f 7)) (F2 0 (by decide))
    have u4 : (s1 101 34).toInt = (σ 101 34).toInt := congrArg (fun f => Int32.toInt (f 34)) (F1 101 (by decide))
    exact Int32.toInt_inj.mp (by omega)
  exact ⟨r1, s1, r2, s2, c1, c2, ⟨wx_congr I1 F2, I2, g1, g2⟩⟩
theorem wl_k5 {F : Nat} (hF : 73786976294838206464 ≤ F) : wl_ok_5 wiI F := by
  intro σ a1 a2 h
  obtain ⟨hX, hM, e1, e2⟩ := h
  obtain ⟨r1, s1, c1, h1⟩ := s_X3_looker (F := F) (x1 := a1) (x2 := a2) (by omega) hX
  obtain ⟨I1, F1, O1_83_1, O1_0_7, lo1, hi1⟩ := h1
  have hM1 : wiM s1 := wm_congr hM F1
  obtain ⟨r2, s2, c2, h2⟩ := s_X4_looker (F := F) (x1 := a1) (x2 := a2) (hF) hM1
  obtain ⟨I2, F2, O2_101_15, O2_101_34, O2_101_1, O2_101_18, lo2, hi2⟩ := h2
  have e1i : (σ 83 1).toInt = (σ 101 15).toInt := congrArg Int32.toInt e1
  have e2i : (σ 0 7).toInt = (σ 101 34).toInt := congrArg Int32.toInt e2
  have g1 : s2 83 1 = s2 101 15 := by
    have u1 : (s1 83 1).toInt = (σ 83 1).toInt := congrArg Int32.toInt O1_83_1
    have u2 : (s2 101 15).toInt = (s1 101 15).toInt := congrArg Int32.toInt O2_101_15
    have u3 : (s2 83 1).toInt = (s1 83 1).toInt := congrArg (fun f => Int32.toInt (f 1)) (F2 83 (by decide))
    have u4 : (s1 101 15).toInt = (σ 101 15).toInt := congrArg (fun f => Int32.toInt (f 15)) (F1 101 (by decide))
    exact Int32.toInt_inj.mp (by omega)
  have g2 : s2 0 7 = s2 101 34 := by
    have u1 : (s1 0 7).toInt = (σ 0 7).toInt := congrArg Int32.toInt O1_0_7
    have u2 : (s2 101 34).toInt = (s1 101 34).toInt := congrArg Int32.toInt O2_101_34
    have u3 : (s2 0 7).toInt = (s1 0 7).toInt := congrArg (fun f => Int32.toInt (f 7)) (F2 0 (by decide))
    have u4 : (s1 101 34).toInt = (σ 101 34).toInt := congrArg (fun f => Int32.toInt (f 34)) (F1 101 (by decide))
    exact Int32.toInt_inj.mp (by omega)
  exact ⟨r1, s1, r2, s2, c1, c2, ⟨wx_congr I1 F2, I2, g1, g2⟩⟩
theorem wl_k6 {F : Nat} (hF : 73786976294838206464 ≤ F) : wl_ok_6 wiI F := by
  intro σ a1 a2 a3 a4 h
  obtain ⟨hX, hM, e1, e2⟩ := h
  obtain ⟨r1, s1, c1, h1⟩ := s_X3_stands (F := F) (x1 := a1) (x2 := a2) (x3 := a3) (x4 := a4) (by omega) hX
  obtain ⟨I1, F1, O1_83_1, O1_0_7, lo1, hi1⟩ := h1
  have hM1 : wiM s1 := wm_congr hM F1
  obtain ⟨r2, s2, c2, h2⟩ := s_X4_stands (F := F) (x1 := a1) (x2 := a2) (x3 := a3) (x4 := a4) (hF) hM1
  obtain ⟨I2, F2, O2_101_15, O2_101_34, O2_101_18, lo2, hi2⟩ := h2
  have e1i : (σ 83 1).toInt = (σ 101 15).toInt := congrArg Int32.toInt e1
  have e2i : (σ 0 7).toInt = (σ 101 34).toInt := congrArg Int32.toInt e2
  have g1 : s2 83 1 = s2 101 15 := by
    have u1 : (s1 83 1).toInt = (σ 83 1).toInt := congrArg Int32.toInt O1_83_1
    have u2 : (s2 101 15).toInt = (s1 101 15).toInt := congrArg Int32.toInt O2_101_15
    have u3 : (s2 83 1).toInt = (s1 83 1).toInt := congrArg (fun f => Int32.toInt (f 1)) (F2 83 (by decide))
    have u4 : (s1 101 15).toInt = (σ 101 15).toInt := congrArg (fun f => Int32.toInt (f 15)) (F1 101 (by decide))
    exact Int32.toInt_inj.mp (by omega)
  have g2 : s2 0 7 = s2 101 34 := by
    have u1 : (s1 0 7).toInt = (σ 0 7).toInt := congrArg Int32.toInt O1_0_7
    have u2 : (s2 101 34).toInt = (s1 101 34).toInt := congrArg Int32.toInt O2_101_34
    have u3 : (s2 0 7).toInt = (s1 0 7).toInt := congrArg (fun f => Int32.toInt (f 7)) (F2 0 (by decide))
    have u4 : (s1 101 34).toInt = (σ 101 34).toInt := congrArg (fun f => Int32.toInt (f 34)) (F1 101 (by decide))
    exact Int32.toInt_inj.mp (by omega)
  exact ⟨r1, s1, r2, s2, c1, c2, ⟨wx_congr I1 F2, I2, g1, g2⟩⟩
theorem wl_k7 {F : Nat} (hF : 73786976294838206464 ≤ F) : wl_ok_7 wiI F := by
  intro σ a1 a2 h
  obtain ⟨hX, hM, e1, e2⟩ := h
  obtain ⟨r1, s1, c1, h1⟩ := s_X3_roster (F := F) (x1 := a1) (x2 := a2) (by omega) hX
  obtain ⟨I1, F1, O1_83_1, O1_0_7, lo1, hi1⟩ := h1
  have hM1 : wiM s1 := wm_congr hM F1
  obtain ⟨r2, s2, c2, h2⟩ := s_X4_roster (F := F) (x1 := a1) (x2 := a2) (hF) hM1
  obtain ⟨I2, F2, O2_101_15, O2_101_34, O2_101_1, O2_101_30, O2_101_18, lo2, hi2⟩ := h2
  have e1i : (σ 83 1).toInt = (σ 101 15).toInt := congrArg Int32.toInt e1
  have e2i : (σ 0 7).toInt = (σ 101 34).toInt := congrArg Int32.toInt e2
  have g1 : s2 83 1 = s2 101 15 := by
    have u1 : (s1 83 1).toInt = (σ 83 1).toInt := congrArg Int32.toInt O1_83_1
    have u2 : (s2 101 15).toInt = (s1 101 15).toInt := congrArg Int32.toInt O2_101_15
    have u3 : (s2 83 1).toInt = (s1 83 1).toInt := congrArg (fun f => Int32.toInt (f 1)) (F2 83 (by decide))
    have u4 : (s1 101 15).toInt = (σ 101 15).toInt := congrArg (fun f => Int32.toInt (f 15)) (F1 101 (by decide))
    exact Int32.toInt_inj.mp (by omega)
  have g2 : s2 0 7 = s2 101 34 := by
    have u1 : (s1 0 7).toInt = (σ 0 7).toInt := congrArg Int32.toInt O1_0_7
    have u2 : (s2 101 34).toInt = (s1 101 34).toInt := congrArg Int32.toInt O2_101_34
    have u3 : (s2 0 7).toInt = (s1 0 7).toInt := congrArg (fun f => Int32.toInt (f 7)) (F2 0 (by decide))
    have u4 : (s1 101 34).toInt = (σ 101 34).toInt := congrArg (fun f => Int32.toInt (f 34)) (F1 101 (by decide))
    exact Int32.toInt_inj.mp (by omega)
  exact ⟨r1, s1, r2, s2, c1, c2, ⟨wx_congr I1 F2, I2, g1, g2⟩⟩
theorem wl_k8 {F : Nat} (hF : 73786976294838206464 ≤ F) : wl_ok_8 wiI F := by
  intro σ a1 a2 h
  obtain ⟨hX, hM, e1, e2⟩ := h
  obtain ⟨r1, s1, c1, h1⟩ := s_X3_wall (F := F) (x1 := a1) (x2 := a2) (by omega) hX
  obtain ⟨I1, F1, O1_83_1, O1_0_7, lo1, hi1⟩ := h1
  have hM1 : wiM s1 := wm_congr hM F1
  obtain ⟨r2, s2, c2, h2⟩ := s_X4_wall (F := F) (x1 := a1) (x2 := a2) (hF) hM1
  obtain ⟨I2, F2, O2_101_15, O2_101_34, O2_101_18, lo2, hi2⟩ := h2
  have e1i : (σ 83 1).toInt = (σ 101 15).toInt := congrArg Int32.toInt e1
  have e2i : (σ 0 7).toInt = (σ 101 34).toInt := congrArg Int32.toInt e2
  have g1 : s2 83 1 = s2 101 15 := by
    have u1 : (s1 83 1).toInt = (σ 83 1).toInt := congrArg Int32.toInt O1_83_1
    have u2 : (s2 101 15).toInt = (s1 101 15).toInt := congrArg Int32.toInt O2_101_15
    have u3 : (s2 83 1).toInt = (s1 83 1).toInt := congrArg (fun f => Int32.toInt (f 1)) (F2 83 (by decide))
    have u4 : (s1 101 15).toInt = (σ 101 15).toInt := congrArg (fun f => Int32.toInt (f 15)) (F1 101 (by decide))
    exact Int32.toInt_inj.mp (by omega)
  have g2 : s2 0 7 = s2 101 34 := by
    have u1 : (s1 0 7).toInt = (σ 0 7).toInt := congrArg Int32.toInt O1_0_7
    have u2 : (s2 101 34).toInt = (s1 101 34).toInt := congrArg Int32.toInt O2_101_34
    have u3 : (s2 0 7).toInt = (s1 0 7).toInt := congrArg (fun f => Int32.toInt (f 7)) (F2 0 (by decide))
    have u4 : (s1 101 34).toInt = (σ 101 34).toInt := congrArg (fun f => Int32.toInt (f 34)) (F1 101 (by decide))
    exact Int32.toInt_inj.mp (by omega)
  exact ⟨r1, s1, r2, s2, c1, c2, ⟨wx_congr I1 F2, I2, g1, g2⟩⟩
theorem wl_k9 {F : Nat} (hF : 73786976294838206464 ≤ F) : wl_ok_9 wiI F := by
  intro σ a1 a2 h
  obtain ⟨hX, hM, e1, e2⟩ := h
  obtain ⟨r1, s1, c1, h1⟩ := s_X3_worth (F := F) (x1 := a1) (x2 := a2) (by omega) hX
  obtain ⟨I1, F1, O1_83_1, O1_0_7, lo1, hi1⟩ := h1
  have hM1 : wiM s1 := wm_congr hM F1
  obtain ⟨r2, s2, c2, h2⟩ := s_X4_worth (F := F) (x1 := a1) (x2 := a2) (hF) hM1
  obtain ⟨I2, F2, O2_101_15, O2_101_34, O2_101_18, lo2, hi2⟩ := h2
  have e1i : (σ 83 1).toInt = (σ 101 15).toInt := congrArg Int32.toInt e1
  have e2i : (σ 0 7).toInt = (σ 101 34).toInt := congrArg Int32.toInt e2
  have g1 : s2 83 1 = s2 101 15 := by
    have u1 : (s1 83 1).toInt = (σ 83 1).toInt := congrArg Int32.toInt O1_83_1
    have u2 : (s2 101 15).toInt = (s1 101 15).toInt := congrArg Int32.toInt O2_101_15
    have u3 : (s2 83 1).toInt = (s1 83 1).toInt := congrArg (fun f => Int32.toInt (f 1)) (F2 83 (by decide))
    have u4 : (s1 101 15).toInt = (σ 101 15).toInt := congrArg (fun f => Int32.toInt (f 15)) (F1 101 (by decide))
    exact Int32.toInt_inj.mp (by omega)
  have g2 : s2 0 7 = s2 101 34 := by
    have u1 : (s1 0 7).toInt = (σ 0 7).toInt := congrArg Int32.toInt O1_0_7
    have u2 : (s2 101 34).toInt = (s1 101 34).toInt := congrArg Int32.toInt O2_101_34
    have u3 : (s2 0 7).toInt = (s1 0 7).toInt := congrArg (fun f => Int32.toInt (f 7)) (F2 0 (by decide))
    have u4 : (s1 101 34).toInt = (σ 101 34).toInt := congrArg (fun f => Int32.toInt (f 34)) (F1 101 (by decide))
    exact Int32.toInt_inj.mp (by omega)
  exact ⟨r1, s1, r2, s2, c1, c2, ⟨wx_congr I1 F2, I2, g1, g2⟩⟩
theorem wl_k10 {F : Nat} (hF : 73786976294838206464 ≤ F) : wl_ok_10 wiI F := by
  intro σ a1 h
  obtain ⟨hX, hM, e1, e2⟩ := h
  obtain ⟨r1, s1, c1, h1⟩ := s_X3_law (F := F) (x1 := a1) (by omega) hX
  obtain ⟨I1, F1, O1_83_1, O1_0_7, lo1, hi1⟩ := h1
  have hM1 : wiM s1 := wm_congr hM F1
  obtain ⟨r2, s2, c2, h2⟩ := s_X4_law (F := F) (x1 := a1) (hF) hM1
  obtain ⟨I2, F2, O2_101_15, O2_101_34, O2_101_18, lo2, hi2⟩ := h2
  have e1i : (σ 83 1).toInt = (σ 101 15).toInt := congrArg Int32.toInt e1
  have e2i : (σ 0 7).toInt = (σ 101 34).toInt := congrArg Int32.toInt e2
  have g1 : s2 83 1 = s2 101 15 := by
    have u1 : (s1 83 1).toInt = (σ 83 1).toInt := congrArg Int32.toInt O1_83_1
    have u2 : (s2 101 15).toInt = (s1 101 15).toInt := congrArg Int32.toInt O2_101_15
    have u3 : (s2 83 1).toInt = (s1 83 1).toInt := congrArg (fun f => Int32.toInt (f 1)) (F2 83 (by decide))
    have u4 : (s1 101 15).toInt = (σ 101 15).toInt := congrArg (fun f => Int32.toInt (f 15)) (F1 101 (by decide))
    exact Int32.toInt_inj.mp (by omega)
  have g2 : s2 0 7 = s2 101 34 := by
    have u1 : (s1 0 7).toInt = (σ 0 7).toInt := congrArg Int32.toInt O1_0_7
    have u2 : (s2 101 34).toInt = (s1 101 34).toInt := congrArg Int32.toInt O2_101_34
    have u3 : (s2 0 7).toInt = (s1 0 7).toInt := congrArg (fun f => Int32.toInt (f 7)) (F2 0 (by decide))
    have u4 : (s1 101 34).toInt = (σ 101 34).toInt := congrArg (fun f => Int32.toInt (f 34)) (F1 101 (by decide))
    exact Int32.toInt_inj.mp (by omega)
  exact ⟨r1, s1, r2, s2, c1, c2, ⟨wx_congr I1 F2, I2, g1, g2⟩⟩
theorem wl_k11 {F : Nat} (hF : 73786976294838206464 ≤ F) : wl_ok_11 wiI F := by
  intro σ a1 h
  obtain ⟨hX, hM, e1, e2⟩ := h
  obtain ⟨r1, s1, c1, h1⟩ := s_X3_days (F := F) (x1 := a1) (by omega) hX
  obtain ⟨I1, F1, O1_83_1, O1_0_7, lo1, hi1⟩ := h1
  have hM1 : wiM s1 := wm_congr hM F1
  obtain ⟨r2, s2, c2, h2⟩ := s_X4_days (F := F) (x1 := a1) (hF) hM1
  obtain ⟨I2, F2, O2_101_15, O2_101_34, O2_101_1, O2_101_18, lo2, hi2⟩ := h2
  have e1i : (σ 83 1).toInt = (σ 101 15).toInt := congrArg Int32.toInt e1
  have e2i : (σ 0 7).toInt = (σ 101 34).toInt := congrArg Int32.toInt e2
  have g1 : s2 83 1 = s2 101 15 := by
    have u1 : (s1 83 1).toInt = (σ 83 1).toInt := congrArg Int32.toInt O1_83_1
    have u2 : (s2 101 15).toInt = (s1 101 15).toInt := congrArg Int32.toInt O2_101_15
    have u3 : (s2 83 1).toInt = (s1 83 1).toInt := congrArg (fun f => Int32.toInt (f 1)) (F2 83 (by decide))
    have u4 : (s1 101 15).toInt = (σ 101 15).toInt := congrArg (fun f => Int32.toInt (f 15)) (F1 101 (by decide))
    exact Int32.toInt_inj.mp (by omega)
  have g2 : s2 0 7 = s2 101 34 := by
    have u1 : (s1 0 7).toInt = (σ 0 7).toInt := congrArg Int32.toInt O1_0_7
    have u2 : (s2 101 34).toInt = (s1 101 34).toInt := congrArg Int32.toInt O2_101_34
    have u3 : (s2 0 7).toInt = (s1 0 7).toInt := congrArg (fun f => Int32.toInt (f 7)) (F2 0 (by decide))
    have u4 : (s1 101 34).toInt = (σ 101 34).toInt := congrArg (fun f => Int32.toInt (f 34)) (F1 101 (by decide))
    exact Int32.toInt_inj.mp (by omega)
  exact ⟨r1, s1, r2, s2, c1, c2, ⟨wx_congr I1 F2, I2, g1, g2⟩⟩
theorem wl_k12 {F : Nat} (hF : 73786976294838206464 ≤ F) : wl_ok_12 wiI F := by
  intro σ h
  obtain ⟨hX, hM, e1, e2⟩ := h
  obtain ⟨r1, s1, c1, h1⟩ := s_X3_back (F := F) (by omega) hX
  obtain ⟨I1, F1, O1_83_1, O1_0_7, lo1, hi1⟩ := h1
  have hM1 : wiM s1 := wm_congr hM F1
  obtain ⟨r2, s2, c2, h2⟩ := s_X4_back (F := F) (hF) hM1
  obtain ⟨I2, F2, O2_101_15, O2_101_34, O2_101_18, lo2, hi2⟩ := h2
  have e1i : (σ 83 1).toInt = (σ 101 15).toInt := congrArg Int32.toInt e1
  have e2i : (σ 0 7).toInt = (σ 101 34).toInt := congrArg Int32.toInt e2
  have g1 : s2 83 1 = s2 101 15 := by
    have u1 : (s1 83 1).toInt = (σ 83 1).toInt := congrArg Int32.toInt O1_83_1
    have u2 : (s2 101 15).toInt = (s1 101 15).toInt := congrArg Int32.toInt O2_101_15
    have u3 : (s2 83 1).toInt = (s1 83 1).toInt := congrArg (fun f => Int32.toInt (f 1)) (F2 83 (by decide))
    have u4 : (s1 101 15).toInt = (σ 101 15).toInt := congrArg (fun f => Int32.toInt (f 15)) (F1 101 (by decide))
    exact Int32.toInt_inj.mp (by omega)
  have g2 : s2 0 7 = s2 101 34 := by
    have u1 : (s1 0 7).toInt = (σ 0 7).toInt := congrArg Int32.toInt O1_0_7
    have u2 : (s2 101 34).toInt = (s1 101 34).toInt := congrArg Int32.toInt O2_101_34
    have u3 : (s2 0 7).toInt = (s1 0 7).toInt := congrArg (fun f => Int32.toInt (f 7)) (F2 0 (by decide))
    have u4 : (s1 101 34).toInt = (σ 101 34).toInt := congrArg (fun f => Int32.toInt (f 34)) (F1 101 (by decide))
    exact Int32.toInt_inj.mp (by omega)
  exact ⟨r1, s1, r2, s2, c1, c2, ⟨wx_congr I1 F2, I2, g1, g2⟩⟩
theorem wl_k13 {F : Nat} (hF : 73786976294838206464 ≤ F) : wl_ok_13 wiI F := by
  intro σ a1 a2 a3 h
  obtain ⟨hX, hM, e1, e2⟩ := h
  obtain ⟨r1, s1, c1, h1⟩ := s_X3_counts (F := F) (x1 := a1) (x2 := a2) (x3 := a3) (by omega) hX
  obtain ⟨I1, F1, O1_83_1, O1_0_7, lo1, hi1⟩ := h1
  have hM1 : wiM s1 := wm_congr hM F1
  obtain ⟨r2, s2, c2, h2⟩ := s_X4_counts (F := F) (x1 := a1) (x2 := a2) (x3 := a3) (hF) hM1
  obtain ⟨I2, F2, O2_101_15, O2_101_34, O2_101_1, O2_101_30, O2_101_18, lo2, hi2⟩ := h2
  have e1i : (σ 83 1).toInt = (σ 101 15).toInt := congrArg Int32.toInt e1
  have e2i : (σ 0 7).toInt = (σ 101 34).toInt := congrArg Int32.toInt e2
  have g1 : s2 83 1 = s2 101 15 := by
    have u1 : (s1 83 1).toInt = (σ 83 1).toInt := congrArg Int32.toInt O1_83_1
    have u2 : (s2 101 15).toInt = (s1 101 15).toInt := congrArg Int32.toInt O2_101_15
    have u3 : (s2 83 1).toInt = (s1 83 1).toInt := congrArg (fun f => Int32.toInt (f 1)) (F2 83 (by decide))
    have u4 : (s1 101 15).toInt = (σ 101 15).toInt := congrArg (fun f => Int32.toInt (f 15)) (F1 101 (by decide))
    exact Int32.toInt_inj.mp (by omega)
  have g2 : s2 0 7 = s2 101 34 := by
    have u1 : (s1 0 7).toInt = (σ 0 7).toInt := congrArg Int32.toInt O1_0_7
    have u2 : (s2 101 34).toInt = (s1 101 34).toInt := congrArg Int32.toInt O2_101_34
    have u3 : (s2 0 7).toInt = (s1 0 7).toInt := congrArg (fun f => Int32.toInt (f 7)) (F2 0 (by decide))
    have u4 : (s1 101 34).toInt = (σ 101 34).toInt := congrArg (fun f => Int32.toInt (f 34)) (F1 101 (by decide))
    exact Int32.toInt_inj.mp (by omega)
  exact ⟨r1, s1, r2, s2, c1, c2, ⟨wx_congr I1 F2, I2, g1, g2⟩⟩
theorem wl_k14 {F : Nat} (hF : 73786976294838206464 ≤ F) : wl_ok_14 wiI F := by
  intro σ a1 a2 h
  obtain ⟨hX, hM, e1, e2⟩ := h
  obtain ⟨r1, s1, c1, h1⟩ := s_X3_owner (F := F) (x1 := a1) (x2 := a2) (by omega) hX
  obtain ⟨I1, F1, O1_83_1, O1_0_7, lo1, hi1⟩ := h1
  have hM1 : wiM s1 := wm_congr hM F1
  obtain ⟨r2, s2, c2, h2⟩ := s_X4_owner (F := F) (x1 := a1) (x2 := a2) (hF) hM1
  obtain ⟨I2, F2, O2_101_15, O2_101_34, O2_101_1, O2_101_30, O2_101_18, lo2, hi2⟩ := h2
  have e1i : (σ 83 1).toInt = (σ 101 15).toInt := congrArg Int32.toInt e1
  have e2i : (σ 0 7).toInt = (σ 101 34).toInt := congrArg Int32.toInt e2
  have g1 : s2 83 1 = s2 101 15 := by
    have u1 : (s1 83 1).toInt = (σ 83 1).toInt := congrArg Int32.toInt O1_83_1
    have u2 : (s2 101 15).toInt = (s1 101 15).toInt := congrArg Int32.toInt O2_101_15
    have u3 : (s2 83 1).toInt = (s1 83 1).toInt := congrArg (fun f => Int32.toInt (f 1)) (F2 83 (by decide))
    have u4 : (s1 101 15).toInt = (σ 101 15).toInt := congrArg (fun f => Int32.toInt (f 15)) (F1 101 (by decide))
    exact Int32.toInt_inj.mp (by omega)
  have g2 : s2 0 7 = s2 101 34 := by
    have u1 : (s1 0 7).toInt = (σ 0 7).toInt := congrArg Int32.toInt O1_0_7
    have u2 : (s2 101 34).toInt = (s1 101 34).toInt := congrArg Int32.toInt O2_101_34
    have u3 : (s2 0 7).toInt = (s1 0 7).toInt := congrArg (fun f => Int32.toInt (f 7)) (F2 0 (by decide))
    have u4 : (s1 101 34).toInt = (σ 101 34).toInt := congrArg (fun f => Int32.toInt (f 34)) (F1 101 (by decide))
    exact Int32.toInt_inj.mp (by omega)
  exact ⟨r1, s1, r2, s2, c1, c2, ⟨wx_congr I1 F2, I2, g1, g2⟩⟩
theorem wl_k15 {F : Nat} (hF : 73786976294838206464 ≤ F) : wl_ok_15 wiI F := by
  intro σ a1 a2 a3 h
  obtain ⟨hX, hM, e1, e2⟩ := h
  obtain ⟨r1, s1, c1, h1⟩ := s_X3_owns (F := F) (x1 := a1) (x2 := a2) (x3 := a3) (by omega) hX
  obtain ⟨I1, F1, O1_83_1, O1_0_7, lo1, hi1⟩ := h1
  have hM1 : wiM s1 := wm_congr hM F1
  obtain ⟨r2, s2, c2, h2⟩ := s_X4_owns (F := F) (x1 := a1) (x2 := a2) (x3 := a3) (hF) hM1
  obtain ⟨I2, F2, O2_101_15, O2_101_34, O2_101_1, O2_101_30, O2_101_18, lo2, hi2⟩ := h2
  have e1i : (σ 83 1).toInt = (σ 101 15).toInt := congrArg Int32.toInt e1
  have e2i : (σ 0 7).toInt = (σ 101 34).toInt := congrArg Int32.toInt e2
  have g1 : s2 83 1 = s2 101 15 := by
    have u1 : (s1 83 1).toInt = (σ 83 1).toInt := congrArg Int32.toInt O1_83_1
    have u2 : (s2 101 15).toInt = (s1 101 15).toInt := congrArg Int32.toInt O2_101_15
    have u3 : (s2 83 1).toInt = (s1 83 1).toInt := congrArg (fun f => Int32.toInt (f 1)) (F2 83 (by decide))
    have u4 : (s1 101 15).toInt = (σ 101 15).toInt := congrArg (fun f => Int32.toInt (f 15)) (F1 101 (by decide))
    exact Int32.toInt_inj.mp (by omega)
  have g2 : s2 0 7 = s2 101 34 := by
    have u1 : (s1 0 7).toInt = (σ 0 7).toInt := congrArg Int32.toInt O1_0_7
    have u2 : (s2 101 34).toInt = (s1 101 34).toInt := congrArg Int32.toInt O2_101_34
    have u3 : (s2 0 7).toInt = (s1 0 7).toInt := congrArg (fun f => Int32.toInt (f 7)) (F2 0 (by decide))
    have u4 : (s1 101 34).toInt = (σ 101 34).toInt := congrArg (fun f => Int32.toInt (f 34)) (F1 101 (by decide))
    exact Int32.toInt_inj.mp (by omega)
  exact ⟨r1, s1, r2, s2, c1, c2, ⟨wx_congr I1 F2, I2, g1, g2⟩⟩
theorem wl_k16 {F : Nat} (hF : 73786976294838206464 ≤ F) : wl_ok_16 wiI F := by
  intro σ a1 h
  obtain ⟨hX, hM, e1, e2⟩ := h
  obtain ⟨r1, s1, c1, h1⟩ := s_X3_nobodys (F := F) (x1 := a1) (by omega) hX
  obtain ⟨I1, F1, O1_83_1, O1_0_7, lo1, hi1⟩ := h1
  have hM1 : wiM s1 := wm_congr hM F1
  obtain ⟨r2, s2, c2, h2⟩ := s_X4_nobodys (F := F) (x1 := a1) (hF) hM1
  obtain ⟨I2, F2, O2_101_15, O2_101_34, O2_101_1, O2_101_30, O2_101_18, lo2, hi2⟩ := h2
  have e1i : (σ 83 1).toInt = (σ 101 15).toInt := congrArg Int32.toInt e1
  have e2i : (σ 0 7).toInt = (σ 101 34).toInt := congrArg Int32.toInt e2
  have g1 : s2 83 1 = s2 101 15 := by
    have u1 : (s1 83 1).toInt = (σ 83 1).toInt := congrArg Int32.toInt O1_83_1
    have u2 : (s2 101 15).toInt = (s1 101 15).toInt := congrArg Int32.toInt O2_101_15
    have u3 : (s2 83 1).toInt = (s1 83 1).toInt := congrArg (fun f => Int32.toInt (f 1)) (F2 83 (by decide))
    have u4 : (s1 101 15).toInt = (σ 101 15).toInt := congrArg (fun f => Int32.toInt (f 15)) (F1 101 (by decide))
    exact Int32.toInt_inj.mp (by omega)
  have g2 : s2 0 7 = s2 101 34 := by
    have u1 : (s1 0 7).toInt = (σ 0 7).toInt := congrArg Int32.toInt O1_0_7
    have u2 : (s2 101 34).toInt = (s1 101 34).toInt := congrArg Int32.toInt O2_101_34
    have u3 : (s2 0 7).toInt = (s1 0 7).toInt := congrArg (fun f => Int32.toInt (f 7)) (F2 0 (by decide))
    have u4 : (s1 101 34).toInt = (σ 101 34).toInt := congrArg (fun f => Int32.toInt (f 34)) (F1 101 (by decide))
    exact Int32.toInt_inj.mp (by omega)
  exact ⟨r1, s1, r2, s2, c1, c2, ⟨wx_congr I1 F2, I2, g1, g2⟩⟩
theorem wl_k17 {F : Nat} (hF : 73786976294838206464 ≤ F) : wl_ok_17 wiI F := by
  intro σ a1 a2 h
  obtain ⟨hX, hM, e1, e2⟩ := h
  obtain ⟨r1, s1, c1, h1⟩ := s_X3_from (F := F) (x1 := a1) (x2 := a2) (by omega) hX
  obtain ⟨I1, F1, O1_83_1, O1_0_7, lo1, hi1⟩ := h1
  have hM1 : wiM s1 := wm_congr hM F1
  obtain ⟨r2, s2, c2, h2⟩ := s_X4_from (F := F) (x1 := a1) (x2 := a2) (hF) hM1
  obtain ⟨I2, F2, O2_101_15, O2_101_34, O2_101_1, O2_101_30, O2_101_18, lo2, hi2⟩ := h2
  have e1i : (σ 83 1).toInt = (σ 101 15).toInt := congrArg Int32.toInt e1
  have e2i : (σ 0 7).toInt = (σ 101 34).toInt := congrArg Int32.toInt e2
  have g1 : s2 83 1 = s2 101 15 := by
    have u1 : (s1 83 1).toInt = (σ 83 1).toInt := congrArg Int32.toInt O1_83_1
    have u2 : (s2 101 15).toInt = (s1 101 15).toInt := congrArg Int32.toInt O2_101_15
    have u3 : (s2 83 1).toInt = (s1 83 1).toInt := congrArg (fun f => Int32.toInt (f 1)) (F2 83 (by decide))
    have u4 : (s1 101 15).toInt = (σ 101 15).toInt := congrArg (fun f => Int32.toInt (f 15)) (F1 101 (by decide))
    exact Int32.toInt_inj.mp (by omega)
  have g2 : s2 0 7 = s2 101 34 := by
    have u1 : (s1 0 7).toInt = (σ 0 7).toInt := congrArg Int32.toInt O1_0_7
    have u2 : (s2 101 34).toInt = (s1 101 34).toInt := congrArg Int32.toInt O2_101_34
    have u3 : (s2 0 7).toInt = (s1 0 7).toInt := congrArg (fun f => Int32.toInt (f 7)) (F2 0 (by decide))
    have u4 : (s1 101 34).toInt = (σ 101 34).toInt := congrArg (fun f => Int32.toInt (f 34)) (F1 101 (by decide))
    exact Int32.toInt_inj.mp (by omega)
  exact ⟨r1, s1, r2, s2, c1, c2, ⟨wx_congr I1 F2, I2, g1, g2⟩⟩
theorem wl_k18 {F : Nat} (hF : 73786976294838206464 ≤ F) : wl_ok_18 wiI F := by
  intro σ a1 h
  obtain ⟨hX, hM, e1, e2⟩ := h
  obtain ⟨r1, s1, c1, h1⟩ := s_X3_lost (F := F) (x1 := a1) (by omega) hX
  obtain ⟨I1, F1, O1_83_1, O1_0_7, lo1, hi1⟩ := h1
  have hM1 : wiM s1 := wm_congr hM F1
  obtain ⟨r2, s2, c2, h2⟩ := s_X4_lost (F := F) (x1 := a1) (hF) hM1
  obtain ⟨I2, F2, O2_101_15, O2_101_34, O2_101_1, O2_101_30, O2_101_18, lo2, hi2⟩ := h2
  have e1i : (σ 83 1).toInt = (σ 101 15).toInt := congrArg Int32.toInt e1
  have e2i : (σ 0 7).toInt = (σ 101 34).toInt := congrArg Int32.toInt e2
  have g1 : s2 83 1 = s2 101 15 := by
    have u1 : (s1 83 1).toInt = (σ 83 1).toInt := congrArg Int32.toInt O1_83_1
    have u2 : (s2 101 15).toInt = (s1 101 15).toInt := congrArg Int32.toInt O2_101_15
    have u3 : (s2 83 1).toInt = (s1 83 1).toInt := congrArg (fun f => Int32.toInt (f 1)) (F2 83 (by decide))
    have u4 : (s1 101 15).toInt = (σ 101 15).toInt := congrArg (fun f => Int32.toInt (f 15)) (F1 101 (by decide))
    exact Int32.toInt_inj.mp (by omega)
  have g2 : s2 0 7 = s2 101 34 := by
    have u1 : (s1 0 7).toInt = (σ 0 7).toInt := congrArg Int32.toInt O1_0_7
    have u2 : (s2 101 34).toInt = (s1 101 34).toInt := congrArg Int32.toInt O2_101_34
    have u3 : (s2 0 7).toInt = (s1 0 7).toInt := congrArg (fun f => Int32.toInt (f 7)) (F2 0 (by decide))
    have u4 : (s1 101 34).toInt = (σ 101 34).toInt := congrArg (fun f => Int32.toInt (f 34)) (F1 101 (by decide))
    exact Int32.toInt_inj.mp (by omega)
  exact ⟨r1, s1, r2, s2, c1, c2, ⟨wx_congr I1 F2, I2, g1, g2⟩⟩
theorem wl_k19 {F : Nat} (hF : 73786976294838206464 ≤ F) : wl_ok_19 wiI F := by
  intro σ a1 a2 h
  obtain ⟨hX, hM, e1, e2⟩ := h
  obtain ⟨r1, s1, c1, h1⟩ := s_X3_richest (F := F) (x1 := a1) (x2 := a2) (by omega) hX
  obtain ⟨I1, F1, O1_83_1, O1_0_7, lo1, hi1⟩ := h1
  have hM1 : wiM s1 := wm_congr hM F1
  obtain ⟨r2, s2, c2, h2⟩ := s_X4_richest (F := F) (x1 := a1) (x2 := a2) (hF) hM1
  obtain ⟨I2, F2, O2_101_15, O2_101_34, O2_101_1, O2_101_30, O2_101_18, lo2, hi2⟩ := h2
  have e1i : (σ 83 1).toInt = (σ 101 15).toInt := congrArg Int32.toInt e1
  have e2i : (σ 0 7).toInt = (σ 101 34).toInt := congrArg Int32.toInt e2
  have g1 : s2 83 1 = s2 101 15 := by
    have u1 : (s1 83 1).toInt = (σ 83 1).toInt := congrArg Int32.toInt O1_83_1
    have u2 : (s2 101 15).toInt = (s1 101 15).toInt := congrArg Int32.toInt O2_101_15
    have u3 : (s2 83 1).toInt = (s1 83 1).toInt := congrArg (fun f => Int32.toInt (f 1)) (F2 83 (by decide))
    have u4 : (s1 101 15).toInt = (σ 101 15).toInt := congrArg (fun f => Int32.toInt (f 15)) (F1 101 (by decide))
    exact Int32.toInt_inj.mp (by omega)
  have g2 : s2 0 7 = s2 101 34 := by
    have u1 : (s1 0 7).toInt = (σ 0 7).toInt := congrArg Int32.toInt O1_0_7
    have u2 : (s2 101 34).toInt = (s1 101 34).toInt := congrArg Int32.toInt O2_101_34
    have u3 : (s2 0 7).toInt = (s1 0 7).toInt := congrArg (fun f => Int32.toInt (f 7)) (F2 0 (by decide))
    have u4 : (s1 101 34).toInt = (σ 101 34).toInt := congrArg (fun f => Int32.toInt (f 34)) (F1 101 (by decide))
    exact Int32.toInt_inj.mp (by omega)
  exact ⟨r1, s1, r2, s2, c1, c2, ⟨wx_congr I1 F2, I2, g1, g2⟩⟩
theorem wl_k20 {F : Nat} (hF : 73786976294838206464 ≤ F) : wl_ok_20 wiI F := by
  intro σ a1 a2 a3 h
  obtain ⟨hX, hM, e1, e2⟩ := h
  obtain ⟨r1, s1, c1, h1⟩ := s_X3_staredOut (F := F) (x1 := a1) (x2 := a2) (x3 := a3) (by omega) hX
  obtain ⟨I1, F1, O1_83_1, O1_0_7, lo1, hi1⟩ := h1
  have hM1 : wiM s1 := wm_congr hM F1
  obtain ⟨r2, s2, c2, h2⟩ := s_X4_staredOut (F := F) (x1 := a1) (x2 := a2) (x3 := a3) (hF) hM1
  obtain ⟨I2, F2, O2_101_15, O2_101_34, O2_101_1, O2_101_30, O2_101_18, lo2, hi2⟩ := h2
  have e1i : (σ 83 1).toInt = (σ 101 15).toInt := congrArg Int32.toInt e1
  have e2i : (σ 0 7).toInt = (σ 101 34).toInt := congrArg Int32.toInt e2
  have g1 : s2 83 1 = s2 101 15 := by
    have u1 : (s1 83 1).toInt = (σ 83 1).toInt := congrArg Int32.toInt O1_83_1
    have u2 : (s2 101 15).toInt = (s1 101 15).toInt := congrArg Int32.toInt O2_101_15
    have u3 : (s2 83 1).toInt = (s1 83 1).toInt := congrArg (fun f => Int32.toInt (f 1)) (F2 83 (by decide))
    have u4 : (s1 101 15).toInt = (σ 101 15).toInt := congrArg (fun f => Int32.toInt (f 15)) (F1 101 (by decide))
    exact Int32.toInt_inj.mp (by omega)
  have g2 : s2 0 7 = s2 101 34 := by
    have u1 : (s1 0 7).toInt = (σ 0 7).toInt := congrArg Int32.toInt O1_0_7
    have u2 : (s2 101 34).toInt = (s1 101 34).toInt := congrArg Int32.toInt O2_101_34
    have u3 : (s2 0 7).toInt = (s1 0 7).toInt := congrArg (fun f => Int32.toInt (f 7)) (F2 0 (by decide))
    have u4 : (s1 101 34).toInt = (σ 101 34).toInt := congrArg (fun f => Int32.toInt (f 34)) (F1 101 (by decide))
    exact Int32.toInt_inj.mp (by omega)
  exact ⟨r1, s1, r2, s2, c1, c2, ⟨wx_congr I1 F2, I2, g1, g2⟩⟩
theorem wl_k21 {F : Nat} (hF : 73786976294838206464 ≤ F) : wl_ok_21 wiI F := by
  intro σ a1 a2 a3 h
  obtain ⟨hX, hM, e1, e2⟩ := h
  obtain ⟨r1, s1, c1, h1⟩ := s_X3_moreHours (F := F) (x1 := a1) (x2 := a2) (x3 := a3) (by omega) hX
  obtain ⟨I1, F1, O1_83_1, O1_0_7, lo1, hi1⟩ := h1
  have hM1 : wiM s1 := wm_congr hM F1
  obtain ⟨r2, s2, c2, h2⟩ := s_X4_moreHours (F := F) (x1 := a1) (x2 := a2) (x3 := a3) (hF) hM1
  obtain ⟨I2, F2, O2_101_15, O2_101_34, O2_101_1, O2_101_30, O2_101_18, lo2, hi2⟩ := h2
  have e1i : (σ 83 1).toInt = (σ 101 15).toInt := congrArg Int32.toInt e1
  have e2i : (σ 0 7).toInt = (σ 101 34).toInt := congrArg Int32.toInt e2
  have g1 : s2 83 1 = s2 101 15 := by
    have u1 : (s1 83 1).toInt = (σ 83 1).toInt := congrArg Int32.toInt O1_83_1
    have u2 : (s2 101 15).toInt = (s1 101 15).toInt := congrArg Int32.toInt O2_101_15
    have u3 : (s2 83 1).toInt = (s1 83 1).toInt := congrArg (fun f => Int32.toInt (f 1)) (F2 83 (by decide))
    have u4 : (s1 101 15).toInt = (σ 101 15).toInt := congrArg (fun f => Int32.toInt (f 15)) (F1 101 (by decide))
    exact Int32.toInt_inj.mp (by omega)
  have g2 : s2 0 7 = s2 101 34 := by
    have u1 : (s1 0 7).toInt = (σ 0 7).toInt := congrArg Int32.toInt O1_0_7
    have u2 : (s2 101 34).toInt = (s1 101 34).toInt := congrArg Int32.toInt O2_101_34
    have u3 : (s2 0 7).toInt = (s1 0 7).toInt := congrArg (fun f => Int32.toInt (f 7)) (F2 0 (by decide))
    have u4 : (s1 101 34).toInt = (σ 101 34).toInt := congrArg (fun f => Int32.toInt (f 34)) (F1 101 (by decide))
    exact Int32.toInt_inj.mp (by omega)
  exact ⟨r1, s1, r2, s2, c1, c2, ⟨wx_congr I1 F2, I2, g1, g2⟩⟩
theorem wl_k22 {F : Nat} (hF : 73786976294838206464 ≤ F) : wl_ok_22 wiI F := by
  intro σ a1 a2 a3 a4 h
  obtain ⟨hX, hM, e1, e2⟩ := h
  obtain ⟨r1, s1, c1, h1⟩ := s_X3_bestPane (F := F) (x1 := a1) (x2 := a2) (x3 := a3) (x4 := a4) (by omega) hX
  obtain ⟨I1, F1, O1_83_1, O1_0_7, lo1, hi1⟩ := h1
  have hM1 : wiM s1 := wm_congr hM F1
  obtain ⟨r2, s2, c2, h2⟩ := s_X4_bestPane (F := F) (x1 := a1) (x2 := a2) (x3 := a3) (x4 := a4) (hF) hM1
  obtain ⟨I2, F2, O2_101_15, O2_101_34, O2_101_1, O2_101_30, O2_101_18, lo2, hi2⟩ := h2
  have e1i : (σ 83 1).toInt = (σ 101 15).toInt := congrArg Int32.toInt e1
  have e2i : (σ 0 7).toInt = (σ 101 34).toInt := congrArg Int32.toInt e2
  have g1 : s2 83 1 = s2 101 15 := by
    have u1 : (s1 83 1).toInt = (σ 83 1).toInt := congrArg Int32.toInt O1_83_1
    have u2 : (s2 101 15).toInt = (s1 101 15).toInt := congrArg Int32.toInt O2_101_15
    have u3 : (s2 83 1).toInt = (s1 83 1).toInt := congrArg (fun f => Int32.toInt (f 1)) (F2 83 (by decide))
    have u4 : (s1 101 15).toInt = (σ 101 15).toInt := congrArg (fun f => Int32.toInt (f 15)) (F1 101 (by decide))
    exact Int32.toInt_inj.mp (by omega)
  have g2 : s2 0 7 = s2 101 34 := by
    have u1 : (s1 0 7).toInt = (σ 0 7).toInt := congrArg Int32.toInt O1_0_7
    have u2 : (s2 101 34).toInt = (s1 101 34).toInt := congrArg Int32.toInt O2_101_34
    have u3 : (s2 0 7).toInt = (s1 0 7).toInt := congrArg (fun f => Int32.toInt (f 7)) (F2 0 (by decide))
    have u4 : (s1 101 34).toInt = (σ 101 34).toInt := congrArg (fun f => Int32.toInt (f 34)) (F1 101 (by decide))
    exact Int32.toInt_inj.mp (by omega)
  exact ⟨r1, s1, r2, s2, c1, c2, ⟨wx_congr I1 F2, I2, g1, g2⟩⟩
theorem wl_k23 {F : Nat} (hF : 73786976294838206464 ≤ F) : wl_ok_23 wiI F := by
  intro σ a1 a2 h
  obtain ⟨hX, hM, e1, e2⟩ := h
  obtain ⟨r1, s1, c1, h1⟩ := s_X3_freeHours (F := F) (x1 := a1) (x2 := a2) (by omega) hX
  obtain ⟨I1, F1, O1_83_1, O1_0_7, lo1, hi1⟩ := h1
  have hM1 : wiM s1 := wm_congr hM F1
  obtain ⟨r2, s2, c2, h2⟩ := s_X4_freeHours (F := F) (x1 := a1) (x2 := a2) (hF) hM1
  obtain ⟨I2, F2, O2_101_15, O2_101_34, O2_101_1, O2_101_30, O2_101_18, lo2, hi2⟩ := h2
  have e1i : (σ 83 1).toInt = (σ 101 15).toInt := congrArg Int32.toInt e1
  have e2i : (σ 0 7).toInt = (σ 101 34).toInt := congrArg Int32.toInt e2
  have g1 : s2 83 1 = s2 101 15 := by
    have u1 : (s1 83 1).toInt = (σ 83 1).toInt := congrArg Int32.toInt O1_83_1
    have u2 : (s2 101 15).toInt = (s1 101 15).toInt := congrArg Int32.toInt O2_101_15
    have u3 : (s2 83 1).toInt = (s1 83 1).toInt := congrArg (fun f => Int32.toInt (f 1)) (F2 83 (by decide))
    have u4 : (s1 101 15).toInt = (σ 101 15).toInt := congrArg (fun f => Int32.toInt (f 15)) (F1 101 (by decide))
    exact Int32.toInt_inj.mp (by omega)
  have g2 : s2 0 7 = s2 101 34 := by
    have u1 : (s1 0 7).toInt = (σ 0 7).toInt := congrArg Int32.toInt O1_0_7
    have u2 : (s2 101 34).toInt = (s1 101 34).toInt := congrArg Int32.toInt O2_101_34
    have u3 : (s2 0 7).toInt = (s1 0 7).toInt := congrArg (fun f => Int32.toInt (f 7)) (F2 0 (by decide))
    have u4 : (s1 101 34).toInt = (σ 101 34).toInt := congrArg (fun f => Int32.toInt (f 34)) (F1 101 (by decide))
    exact Int32.toInt_inj.mp (by omega)
  exact ⟨r1, s1, r2, s2, c1, c2, ⟨wx_congr I1 F2, I2, g1, g2⟩⟩
theorem wl_k24 {F : Nat} (hF : 73786976294838206464 ≤ F) : wl_ok_24 wiI F := by
  intro σ h
  obtain ⟨hX, hM, e1, e2⟩ := h
  obtain ⟨r1, s1, c1, h1⟩ := s_X3_cover (F := F) (by omega) hX
  obtain ⟨rfl, lo1, hi1⟩ := h1
  have F1 : ∀ k, 101 ≤ k → s1 k = s1 k := fun _ _ => rfl
  have hM1 : wiM s1 := wm_congr hM F1
  obtain ⟨r2, s2, c2, h2⟩ := s_X4_cover (F := F) (hF) hM1
  obtain ⟨I2, F2, O2_101_15, O2_101_34, O2_101_1, O2_101_30, O2_101_18, lo2, hi2⟩ := h2
  have e1i : (s1 83 1).toInt = (s1 101 15).toInt := congrArg Int32.toInt e1
  have e2i : (s1 0 7).toInt = (s1 101 34).toInt := congrArg Int32.toInt e2
  have g1 : s2 83 1 = s2 101 15 := by
    have u2 : (s2 101 15).toInt = (s1 101 15).toInt := congrArg Int32.toInt O2_101_15
    have u3 : (s2 83 1).toInt = (s1 83 1).toInt := congrArg (fun f => Int32.toInt (f 1)) (F2 83 (by decide))
    exact Int32.toInt_inj.mp (by omega)
  have g2 : s2 0 7 = s2 101 34 := by
    have u2 : (s2 101 34).toInt = (s1 101 34).toInt := congrArg Int32.toInt O2_101_34
    have u3 : (s2 0 7).toInt = (s1 0 7).toInt := congrArg (fun f => Int32.toInt (f 7)) (F2 0 (by decide))
    exact Int32.toInt_inj.mp (by omega)
  exact ⟨r1, s1, r2, s2, c1, c2, ⟨wx_congr hX F2, I2, g1, g2⟩⟩
theorem wl_k25 {F : Nat} (hF : 73786976294838206464 ≤ F) : wl_ok_25 wiI F := by
  intro σ a1 h
  obtain ⟨hX, hM, e1, e2⟩ := h
  obtain ⟨r1, s1, c1, h1⟩ := s_X3_shown (F := F) (x1 := a1) (by omega) hX
  obtain ⟨I1, F1, O1_83_1, O1_0_7, lo1, hi1⟩ := h1
  have hM1 : wiM s1 := wm_congr hM F1
  obtain ⟨r2, s2, c2, h2⟩ := s_X4_shown (F := F) (x1 := a1) (hF) hM1
  obtain ⟨I2, F2, O2_101_15, O2_101_34, O2_101_1, O2_101_30, O2_101_18, lo2, hi2⟩ := h2
  have e1i : (σ 83 1).toInt = (σ 101 15).toInt := congrArg Int32.toInt e1
  have e2i : (σ 0 7).toInt = (σ 101 34).toInt := congrArg Int32.toInt e2
  have g1 : s2 83 1 = s2 101 15 := by
    have u1 : (s1 83 1).toInt = (σ 83 1).toInt := congrArg Int32.toInt O1_83_1
    have u2 : (s2 101 15).toInt = (s1 101 15).toInt := congrArg Int32.toInt O2_101_15
    have u3 : (s2 83 1).toInt = (s1 83 1).toInt := congrArg (fun f => Int32.toInt (f 1)) (F2 83 (by decide))
    have u4 : (s1 101 15).toInt = (σ 101 15).toInt := congrArg (fun f => Int32.toInt (f 15)) (F1 101 (by decide))
    exact Int32.toInt_inj.mp (by omega)
  have g2 : s2 0 7 = s2 101 34 := by
    have u1 : (s1 0 7).toInt = (σ 0 7).toInt := congrArg Int32.toInt O1_0_7
    have u2 : (s2 101 34).toInt = (s1 101 34).toInt := congrArg Int32.toInt O2_101_34
    have u3 : (s2 0 7).toInt = (s1 0 7).toInt := congrArg (fun f => Int32.toInt (f 7)) (F2 0 (by decide))
    have u4 : (s1 101 34).toInt = (σ 101 34).toInt := congrArg (fun f => Int32.toInt (f 34)) (F1 101 (by decide))
    exact Int32.toInt_inj.mp (by omega)
  exact ⟨r1, s1, r2, s2, c1, c2, ⟨wx_congr I1 F2, I2, g1, g2⟩⟩
theorem wl_k26 {F : Nat} (hF : 73786976294838206464 ≤ F) : wl_ok_26 wiI F := by
  intro σ a1 a2 a3 h
  obtain ⟨hX, hM, e1, e2⟩ := h
  obtain ⟨r1, s1, c1, h1⟩ := s_X3_walls (F := F) (x1 := a1) (x2 := a2) (x3 := a3) (by omega) hX
  obtain ⟨I1, F1, O1_83_1, O1_0_7, lo1, hi1⟩ := h1
  have hM1 : wiM s1 := wm_congr hM F1
  obtain ⟨r2, s2, c2, h2⟩ := s_X4_walls (F := F) (x1 := a1) (x2 := a2) (x3 := a3) (hF) hM1
  obtain ⟨I2, F2, O2_101_15, O2_101_34, O2_101_1, O2_101_30, O2_101_18, lo2, hi2⟩ := h2
  have e1i : (σ 83 1).toInt = (σ 101 15).toInt := congrArg Int32.toInt e1
  have e2i : (σ 0 7).toInt = (σ 101 34).toInt := congrArg Int32.toInt e2
  have g1 : s2 83 1 = s2 101 15 := by
    have u1 : (s1 83 1).toInt = (σ 83 1).toInt := congrArg Int32.toInt O1_83_1
    have u2 : (s2 101 15).toInt = (s1 101 15).toInt := congrArg Int32.toInt O2_101_15
    have u3 : (s2 83 1).toInt = (s1 83 1).toInt := congrArg (fun f => Int32.toInt (f 1)) (F2 83 (by decide))
    have u4 : (s1 101 15).toInt = (σ 101 15).toInt := congrArg (fun f => Int32.toInt (f 15)) (F1 101 (by decide))
    exact Int32.toInt_inj.mp (by omega)
  have g2 : s2 0 7 = s2 101 34 := by
    have u1 : (s1 0 7).toInt = (σ 0 7).toInt := congrArg Int32.toInt O1_0_7
    have u2 : (s2 101 34).toInt = (s1 101 34).toInt := congrArg Int32.toInt O2_101_34
    have u3 : (s2 0 7).toInt = (s1 0 7).toInt := congrArg (fun f => Int32.toInt (f 7)) (F2 0 (by decide))
    have u4 : (s1 101 34).toInt = (σ 101 34).toInt := congrArg (fun f => Int32.toInt (f 34)) (F1 101 (by decide))
    exact Int32.toInt_inj.mp (by omega)
  exact ⟨r1, s1, r2, s2, c1, c2, ⟨wx_congr I1 F2, I2, g1, g2⟩⟩
theorem wl_k27 {F : Nat} (hF : 73786976294838206464 ≤ F) : wl_ok_27 wiI F := by
  intro σ a1 a2 a3 h
  obtain ⟨hX, hM, e1, e2⟩ := h
  obtain ⟨r1, s1, c1, h1⟩ := s_X3_share (F := F) (x1 := a1) (x2 := a2) (x3 := a3) (by omega) hX
  obtain ⟨I1, F1, O1_83_1, O1_0_7, -⟩ := h1
  have hM1 : wiM s1 := wm_congr hM F1
  obtain ⟨r2, s2, c2, h2⟩ := s_X4_share (F := F) (x1 := a1) (x2 := a2) (x3 := a3) (hF) hM1
  obtain ⟨I2, F2, O2_101_15, O2_101_34, O2_101_1, O2_101_30, O2_101_18, -⟩ := h2
  have e1i : (σ 83 1).toInt = (σ 101 15).toInt := congrArg Int32.toInt e1
  have e2i : (σ 0 7).toInt = (σ 101 34).toInt := congrArg Int32.toInt e2
  have g1 : s2 83 1 = s2 101 15 := by
    have u1 : (s1 83 1).toInt = (σ 83 1).toInt := congrArg Int32.toInt O1_83_1
    have u2 : (s2 101 15).toInt = (s1 101 15).toInt := congrArg Int32.toInt O2_101_15
    have u3 : (s2 83 1).toInt = (s1 83 1).toInt := congrArg (fun f => Int32.toInt (f 1)) (F2 83 (by decide))
    have u4 : (s1 101 15).toInt = (σ 101 15).toInt := congrArg (fun f => Int32.toInt (f 15)) (F1 101 (by decide))
    exact Int32.toInt_inj.mp (by omega)
  have g2 : s2 0 7 = s2 101 34 := by
    have u1 : (s1 0 7).toInt = (σ 0 7).toInt := congrArg Int32.toInt O1_0_7
    have u2 : (s2 101 34).toInt = (s1 101 34).toInt := congrArg Int32.toInt O2_101_34
    have u3 : (s2 0 7).toInt = (s1 0 7).toInt := congrArg (fun f => Int32.toInt (f 7)) (F2 0 (by decide))
    have u4 : (s1 101 34).toInt = (σ 101 34).toInt := congrArg (fun f => Int32.toInt (f 34)) (F1 101 (by decide))
    exact Int32.toInt_inj.mp (by omega)
  exact ⟨r1, s1, r2, s2, c1, c2, ⟨wx_congr I1 F2, I2, g1, g2⟩⟩
theorem wl_k28 {F : Nat} (hF : 73786976294838206464 ≤ F) : wl_ok_28 wiI F := by
  intro σ a1 a2 a3 a4 h
  obtain ⟨hX, hM, e1, e2⟩ := h
  obtain ⟨r1, s1, c1, h1⟩ := s_X3_two (F := F) (x1 := a1) (x2 := a2) (x3 := a3) (x4 := a4) (by omega) hX
  obtain ⟨I1, F1, O1_83_1, O1_0_7, lo1, hi1⟩ := h1
  have hM1 : wiM s1 := wm_congr hM F1
  obtain ⟨r2, s2, c2, h2⟩ := s_X4_two (F := F) (x1 := a1) (x2 := a2) (x3 := a3) (x4 := a4) (hF) hM1
  obtain ⟨I2, F2, O2_101_15, O2_101_34, O2_101_1, O2_101_30, O2_101_18, lo2, hi2⟩ := h2
  have e1i : (σ 83 1).toInt = (σ 101 15).toInt := congrArg Int32.toInt e1
  have e2i : (σ 0 7).toInt = (σ 101 34).toInt := congrArg Int32.toInt e2
  have g1 : s2 83 1 = s2 101 15 := by
    have u1 : (s1 83 1).toInt = (σ 83 1).toInt := congrArg Int32.toInt O1_83_1
    have u2 : (s2 101 15).toInt = (s1 101 15).toInt := congrArg Int32.toInt O2_101_15
    have u3 : (s2 83 1).toInt = (s1 83 1).toInt := congrArg (fun f => Int32.toInt (f 1)) (F2 83 (by decide))
    have u4 : (s1 101 15).toInt = (σ 101 15).toInt := congrArg (fun f => Int32.toInt (f 15)) (F1 101 (by decide))
    exact Int32.toInt_inj.mp (by omega)
  have g2 : s2 0 7 = s2 101 34 := by
    have u1 : (s1 0 7).toInt = (σ 0 7).toInt := congrArg Int32.toInt O1_0_7
    have u2 : (s2 101 34).toInt = (s1 101 34).toInt := congrArg Int32.toInt O2_101_34
    have u3 : (s2 0 7).toInt = (s1 0 7).toInt := congrArg (fun f => Int32.toInt (f 7)) (F2 0 (by decide))
    have u4 : (s1 101 34).toInt = (σ 101 34).toInt := congrArg (fun f => Int32.toInt (f 34)) (F1 101 (by decide))
    exact Int32.toInt_inj.mp (by omega)
  exact ⟨r1, s1, r2, s2, c1, c2, ⟨wx_congr I1 F2, I2, g1, g2⟩⟩
theorem wl_k29 {F : Nat} (hF : 73786976294838206464 ≤ F) : wl_ok_29 wiI F := by
  intro σ h
  obtain ⟨hX, hM, e1, e2⟩ := h
  obtain ⟨r1, s1, c1, h1⟩ := s_X3_whichLaw (F := F) (by omega) hX
  obtain ⟨I1, F1, O1_83_1, O1_0_7, lo1, hi1⟩ := h1
  have hM1 : wiM s1 := wm_congr hM F1
  obtain ⟨r2, s2, c2, h2⟩ := s_X4_whichLaw (F := F) (hF) hM1
  obtain ⟨I2, F2, O2_101_15, O2_101_34, O2_101_1, O2_101_30, O2_101_18, lo2, hi2⟩ := h2
  have e1i : (σ 83 1).toInt = (σ 101 15).toInt := congrArg Int32.toInt e1
  have e2i : (σ 0 7).toInt = (σ 101 34).toInt := congrArg Int32.toInt e2
  have g1 : s2 83 1 = s2 101 15 := by
    have u1 : (s1 83 1).toInt = (σ 83 1).toInt := congrArg Int32.toInt O1_83_1
    have u2 : (s2 101 15).toInt = (s1 101 15).toInt := congrArg Int32.toInt O2_101_15
    have u3 : (s2 83 1).toInt = (s1 83 1).toInt := congrArg (fun f => Int32.toInt (f 1)) (F2 83 (by decide))
    have u4 : (s1 101 15).toInt = (σ 101 15).toInt := congrArg (fun f => Int32.toInt (f 15)) (F1 101 (by decide))
    exact Int32.toInt_inj.mp (by omega)
  have g2 : s2 0 7 = s2 101 34 := by
    have u1 : (s1 0 7).toInt = (σ 0 7).toInt := congrArg Int32.toInt O1_0_7
    have u2 : (s2 101 34).toInt = (s1 101 34).toInt := congrArg Int32.toInt O2_101_34
    have u3 : (s2 0 7).toInt = (s1 0 7).toInt := congrArg (fun f => Int32.toInt (f 7)) (F2 0 (by decide))
    have u4 : (s1 101 34).toInt = (σ 101 34).toInt := congrArg (fun f => Int32.toInt (f 34)) (F1 101 (by decide))
    exact Int32.toInt_inj.mp (by omega)
  exact ⟨r1, s1, r2, s2, c1, c2, ⟨wx_congr I1 F2, I2, g1, g2⟩⟩
theorem wl_k30 {F : Nat} (hF : 73786976294838206464 ≤ F) : wl_ok_30 wiI F := by
  intro σ a1 a2 a3 h
  obtain ⟨hX, hM, e1, e2⟩ := h
  obtain ⟨r1, s1, c1, h1⟩ := s_X3_whichKind (F := F) (x1 := a1) (x2 := a2) (x3 := a3) (by omega) hX
  obtain ⟨I1, F1, O1_83_1, O1_0_7, lo1, hi1⟩ := h1
  have hM1 : wiM s1 := wm_congr hM F1
  obtain ⟨r2, s2, c2, h2⟩ := s_X4_whichKind (F := F) (x1 := a1) (x2 := a2) (x3 := a3) (hF) hM1
  obtain ⟨I2, F2, O2_101_15, O2_101_34, O2_101_30, O2_101_18, lo2, hi2⟩ := h2
  have e1i : (σ 83 1).toInt = (σ 101 15).toInt := congrArg Int32.toInt e1
  have e2i : (σ 0 7).toInt = (σ 101 34).toInt := congrArg Int32.toInt e2
  have g1 : s2 83 1 = s2 101 15 := by
    have u1 : (s1 83 1).toInt = (σ 83 1).toInt := congrArg Int32.toInt O1_83_1
    have u2 : (s2 101 15).toInt = (s1 101 15).toInt := congrArg Int32.toInt O2_101_15
    have u3 : (s2 83 1).toInt = (s1 83 1).toInt := congrArg (fun f => Int32.toInt (f 1)) (F2 83 (by decide))
    have u4 : (s1 101 15).toInt = (σ 101 15).toInt := congrArg (fun f => Int32.toInt (f 15)) (F1 101 (by decide))
    exact Int32.toInt_inj.mp (by omega)
  have g2 : s2 0 7 = s2 101 34 := by
    have u1 : (s1 0 7).toInt = (σ 0 7).toInt := congrArg Int32.toInt O1_0_7
    have u2 : (s2 101 34).toInt = (s1 101 34).toInt := congrArg Int32.toInt O2_101_34
    have u3 : (s2 0 7).toInt = (s1 0 7).toInt := congrArg (fun f => Int32.toInt (f 7)) (F2 0 (by decide))
    have u4 : (s1 101 34).toInt = (σ 101 34).toInt := congrArg (fun f => Int32.toInt (f 34)) (F1 101 (by decide))
    exact Int32.toInt_inj.mp (by omega)
  exact ⟨r1, s1, r2, s2, c1, c2, ⟨wx_congr I1 F2, I2, g1, g2⟩⟩
theorem wl_k31 {F : Nat} (hF : 73786976294838206464 ≤ F) : wl_ok_31 wiI F := by
  intro σ a1 a2 a3 a4 a5 h
  obtain ⟨hX, hM, e1, e2⟩ := h
  obtain ⟨r1, s1, c1, h1⟩ := s_X3_ill (F := F) (x1 := a1) (x2 := a2) (x3 := a3) (x4 := a4) (x5 := a5) (by omega) hX
  obtain ⟨I1, F1, O1_83_1, O1_0_7, -⟩ := h1
  have hM1 : wiM s1 := wm_congr hM F1
  obtain ⟨r2, s2, c2, h2⟩ := s_X4_ill (F := F) (x1 := a1) (x2 := a2) (x3 := a3) (x4 := a4) (x5 := a5) (hF) hM1
  obtain ⟨I2, F2, O2_101_15, O2_101_34, O2_101_1, O2_101_30, O2_101_18, -⟩ := h2
  have e1i : (σ 83 1).toInt = (σ 101 15).toInt := congrArg Int32.toInt e1
  have e2i : (σ 0 7).toInt = (σ 101 34).toInt := congrArg Int32.toInt e2
  have g1 : s2 83 1 = s2 101 15 := by
    have u1 : (s1 83 1).toInt = (σ 83 1).toInt := congrArg Int32.toInt O1_83_1
    have u2 : (s2 101 15).toInt = (s1 101 15).toInt := congrArg Int32.toInt O2_101_15
    have u3 : (s2 83 1).toInt = (s1 83 1).toInt := congrArg (fun f => Int32.toInt (f 1)) (F2 83 (by decide))
    have u4 : (s1 101 15).toInt = (σ 101 15).toInt := congrArg (fun f => Int32.toInt (f 15)) (F1 101 (by decide))
    exact Int32.toInt_inj.mp (by omega)
  have g2 : s2 0 7 = s2 101 34 := by
    have u1 : (s1 0 7).toInt = (σ 0 7).toInt := congrArg Int32.toInt O1_0_7
    have u2 : (s2 101 34).toInt = (s1 101 34).toInt := congrArg Int32.toInt O2_101_34
    have u3 : (s2 0 7).toInt = (s1 0 7).toInt := congrArg (fun f => Int32.toInt (f 7)) (F2 0 (by decide))
    have u4 : (s1 101 34).toInt = (σ 101 34).toInt := congrArg (fun f => Int32.toInt (f 34)) (F1 101 (by decide))
    exact Int32.toInt_inj.mp (by omega)
  exact ⟨r1, s1, r2, s2, c1, c2, ⟨wx_congr I1 F2, I2, g1, g2⟩⟩
theorem wl_k32 {F : Nat} (hF : 73786976294838206464 ≤ F) : wl_ok_32 wiI F := by
  intro σ a1 h
  obtain ⟨hX, hM, e1, e2⟩ := h
  obtain ⟨r1, s1, c1, h1⟩ := s_X3_busy (F := F) (x1 := a1) (by omega) hX
  obtain ⟨I1, F1, O1_83_1, O1_0_7, lo1, hi1⟩ := h1
  have hM1 : wiM s1 := wm_congr hM F1
  obtain ⟨r2, s2, c2, h2⟩ := s_X4_busy (F := F) (x1 := a1) (hF) hM1
  obtain ⟨I2, F2, O2_101_15, O2_101_34, O2_101_1, O2_101_30, O2_101_18, lo2, hi2⟩ := h2
  have e1i : (σ 83 1).toInt = (σ 101 15).toInt := congrArg Int32.toInt e1
  have e2i : (σ 0 7).toInt = (σ 101 34).toInt := congrArg Int32.toInt e2
  have g1 : s2 83 1 = s2 101 15 := by
    have u1 : (s1 83 1).toInt = (σ 83 1).toInt := congrArg Int32.toInt O1_83_1
    have u2 : (s2 101 15).toInt = (s1 101 15).toInt := congrArg Int32.toInt O2_101_15
    have u3 : (s2 83 1).toInt = (s1 83 1).toInt := congrArg (fun f => Int32.toInt (f 1)) (F2 83 (by decide))
    have u4 : (s1 101 15).toInt = (σ 101 15).toInt := congrArg (fun f => Int32.toInt (f 15)) (F1 101 (by decide))
    exact Int32.toInt_inj.mp (by omega)
  have g2 : s2 0 7 = s2 101 34 := by
    have u1 : (s1 0 7).toInt = (σ 0 7).toInt := congrArg Int32.toInt O1_0_7
    have u2 : (s2 101 34).toInt = (s1 101 34).toInt := congrArg Int32.toInt O2_101_34
    have u3 : (s2 0 7).toInt = (s1 0 7).toInt := congrArg (fun f => Int32.toInt (f 7)) (F2 0 (by decide))
    have u4 : (s1 101 34).toInt = (σ 101 34).toInt := congrArg (fun f => Int32.toInt (f 34)) (F1 101 (by decide))
    exact Int32.toInt_inj.mp (by omega)
  exact ⟨r1, s1, r2, s2, c1, c2, ⟨wx_congr I1 F2, I2, g1, g2⟩⟩
theorem wl_k33 {F : Nat} (hF : 73786976294838206464 ≤ F) : wl_ok_33 wiI F := by
  intro σ a1 a2 h
  obtain ⟨hX, hM, e1, e2⟩ := h
  obtain ⟨r1, s1, c1, h1⟩ := s_X3_together (F := F) (x1 := a1) (x2 := a2) (by omega) hX
  obtain ⟨I1, F1, O1_83_1, O1_0_7, lo1, hi1⟩ := h1
  have hM1 : wiM s1 := wm_congr hM F1
  obtain ⟨r2, s2, c2, h2⟩ := s_X4_together (F := F) (x1 := a1) (x2 := a2) (hF) hM1
  obtain ⟨I2, F2, O2_101_15, O2_101_34, O2_101_1, O2_101_30, O2_101_18, lo2, hi2⟩ := h2
  have e1i : (σ 83 1).toInt = (σ 101 15).toInt := congrArg Int32.toInt e1
  have e2i : (σ 0 7).toInt = (σ 101 34).toInt := congrArg Int32.toInt e2
  have g1 : s2 83 1 = s2 101 15 := by
    have u1 : (s1 83 1).toInt = (σ 83 1).toInt := congrArg Int32.toInt O1_83_1
    have u2 : (s2 101 15).toInt = (s1 101 15).toInt := congrArg Int32.toInt O2_101_15
    have u3 : (s2 83 1).toInt = (s1 83 1).toInt := congrArg (fun f => Int32.toInt (f 1)) (F2 83 (by decide))
    have u4 : (s1 101 15).toInt = (σ 101 15).toInt := congrArg (fun f => Int32.toInt (f 15)) (F1 101 (by decide))
    exact Int32.toInt_inj.mp (by omega)
  have g2 : s2 0 7 = s2 101 34 := by
    have u1 : (s1 0 7).toInt = (σ 0 7).toInt := congrArg Int32.toInt O1_0_7
    have u2 : (s2 101 34).toInt = (s1 101 34).toInt := congrArg Int32.toInt O2_101_34
    have u3 : (s2 0 7).toInt = (s1 0 7).toInt := congrArg (fun f => Int32.toInt (f 7)) (F2 0 (by decide))
    have u4 : (s1 101 34).toInt = (σ 101 34).toInt := congrArg (fun f => Int32.toInt (f 34)) (F1 101 (by decide))
    exact Int32.toInt_inj.mp (by omega)
  exact ⟨r1, s1, r2, s2, c1, c2, ⟨wx_congr I1 F2, I2, g1, g2⟩⟩
theorem wl_k34 {F : Nat} (hF : 73786976294838206464 ≤ F) : wl_ok_34 wiI F := by
  intro σ a1 h
  obtain ⟨hX, hM, e1, e2⟩ := h
  obtain ⟨r1, s1, c1, h1⟩ := s_X3_swap (F := F) (x1 := a1) (by omega) hX
  obtain ⟨I1, F1, O1_83_1, O1_0_7, lo1, hi1⟩ := h1
  have hM1 : wiM s1 := wm_congr hM F1
  obtain ⟨r2, s2, c2, h2⟩ := s_X4_swap (F := F) (x1 := a1) (hF) hM1
  obtain ⟨I2, F2, O2_101_15, O2_101_34, O2_101_1, O2_101_30, O2_101_18, lo2, hi2⟩ := h2
  have e1i : (σ 83 1).toInt = (σ 101 15).toInt := congrArg Int32.toInt e1
  have e2i : (σ 0 7).toInt = (σ 101 34).toInt := congrArg Int32.toInt e2
  have g1 : s2 83 1 = s2 101 15 := by
    have u1 : (s1 83 1).toInt = (σ 83 1).toInt := congrArg Int32.toInt O1_83_1
    have u2 : (s2 101 15).toInt = (s1 101 15).toInt := congrArg Int32.toInt O2_101_15
    have u3 : (s2 83 1).toInt = (s1 83 1).toInt := congrArg (fun f => Int32.toInt (f 1)) (F2 83 (by decide))
    have u4 : (s1 101 15).toInt = (σ 101 15).toInt := congrArg (fun f => Int32.toInt (f 15)) (F1 101 (by decide))
    exact Int32.toInt_inj.mp (by omega)
  have g2 : s2 0 7 = s2 101 34 := by
    have u1 : (s1 0 7).toInt = (σ 0 7).toInt := congrArg Int32.toInt O1_0_7
    have u2 : (s2 101 34).toInt = (s1 101 34).toInt := congrArg Int32.toInt O2_101_34
    have u3 : (s2 0 7).toInt = (s1 0 7).toInt := congrArg (fun f => Int32.toInt (f 7)) (F2 0 (by decide))
    have u4 : (s1 101 34).toInt = (σ 101 34).toInt := congrArg (fun f => Int32.toInt (f 34)) (F1 101 (by decide))
    exact Int32.toInt_inj.mp (by omega)
  exact ⟨r1, s1, r2, s2, c1, c2, ⟨wx_congr I1 F2, I2, g1, g2⟩⟩
theorem wl_k35 {F : Nat} (hF : 73786976294838206464 ≤ F) : wl_ok_35 wiI F := by
  intro σ a1 a2 a3 h
  obtain ⟨hX, hM, e1, e2⟩ := h
  obtain ⟨r1, s1, c1, h1⟩ := s_X3_heir (F := F) (x1 := a1) (x2 := a2) (x3 := a3) (by omega) hX
  obtain ⟨I1, F1, O1_83_1, O1_0_7, lo1, hi1⟩ := h1
  have hM1 : wiM s1 := wm_congr hM F1
  obtain ⟨r2, s2, c2, h2⟩ := s_X4_heir (F := F) (x1 := a1) (x2 := a2) (x3 := a3) (hF) hM1
  obtain ⟨I2, F2, O2_101_15, O2_101_34, O2_101_30, O2_101_18, lo2, hi2⟩ := h2
  have e1i : (σ 83 1).toInt = (σ 101 15).toInt := congrArg Int32.toInt e1
  have e2i : (σ 0 7).toInt = (σ 101 34).toInt := congrArg Int32.toInt e2
  have g1 : s2 83 1 = s2 101 15 := by
    have u1 : (s1 83 1).toInt = (σ 83 1).toInt := congrArg Int32.toInt O1_83_1
    have u2 : (s2 101 15).toInt = (s1 101 15).toInt := congrArg Int32.toInt O2_101_15
    have u3 : (s2 83 1).toInt = (s1 83 1).toInt := congrArg (fun f => Int32.toInt (f 1)) (F2 83 (by decide))
    have u4 : (s1 101 15).toInt = (σ 101 15).toInt := congrArg (fun f => Int32.toInt (f 15)) (F1 101 (by decide))
    exact Int32.toInt_inj.mp (by omega)
  have g2 : s2 0 7 = s2 101 34 := by
    have u1 : (s1 0 7).toInt = (σ 0 7).toInt := congrArg Int32.toInt O1_0_7
    have u2 : (s2 101 34).toInt = (s1 101 34).toInt := congrArg Int32.toInt O2_101_34
    have u3 : (s2 0 7).toInt = (s1 0 7).toInt := congrArg (fun f => Int32.toInt (f 7)) (F2 0 (by decide))
    have u4 : (s1 101 34).toInt = (σ 101 34).toInt := congrArg (fun f => Int32.toInt (f 34)) (F1 101 (by decide))
    exact Int32.toInt_inj.mp (by omega)
  exact ⟨r1, s1, r2, s2, c1, c2, ⟨wx_congr I1 F2, I2, g1, g2⟩⟩
theorem wl_k36 {F : Nat} (hF : 73786976294838206464 ≤ F) : wl_ok_36 wiI F := by
  intro σ a1 h
  obtain ⟨hX, hM, e1, e2⟩ := h
  obtain ⟨r1, s1, c1, h1⟩ := s_X3_even (F := F) (x1 := a1) (by omega) hX
  obtain ⟨I1, F1, O1_83_1, O1_0_7, lo1, hi1⟩ := h1
  have hM1 : wiM s1 := wm_congr hM F1
  obtain ⟨r2, s2, c2, h2⟩ := s_X4_even (F := F) (x1 := a1) (hF) hM1
  obtain ⟨I2, F2, O2_101_15, O2_101_34, O2_101_1, O2_101_30, O2_101_18, lo2, hi2⟩ := h2
  have e1i : (σ 83 1).toInt = (σ 101 15).toInt := congrArg Int32.toInt e1
  have e2i : (σ 0 7).toInt = (σ 101 34).toInt := congrArg Int32.toInt e2
  have g1 : s2 83 1 = s2 101 15 := by
    have u1 : (s1 83 1).toInt = (σ 83 1).toInt := congrArg Int32.toInt O1_83_1
    have u2 : (s2 101 15).toInt = (s1 101 15).toInt := congrArg Int32.toInt O2_101_15
    have u3 : (s2 83 1).toInt = (s1 83 1).toInt := congrArg (fun f => Int32.toInt (f 1)) (F2 83 (by decide))
    have u4 : (s1 101 15).toInt = (σ 101 15).toInt := congrArg (fun f => Int32.toInt (f 15)) (F1 101 (by decide))
    exact Int32.toInt_inj.mp (by omega)
  have g2 : s2 0 7 = s2 101 34 := by
    have u1 : (s1 0 7).toInt = (σ 0 7).toInt := congrArg Int32.toInt O1_0_7
    have u2 : (s2 101 34).toInt = (s1 101 34).toInt := congrArg Int32.toInt O2_101_34
    have u3 : (s2 0 7).toInt = (s1 0 7).toInt := congrArg (fun f => Int32.toInt (f 7)) (F2 0 (by decide))
    have u4 : (s1 101 34).toInt = (σ 101 34).toInt := congrArg (fun f => Int32.toInt (f 34)) (F1 101 (by decide))
    exact Int32.toInt_inj.mp (by omega)
  exact ⟨r1, s1, r2, s2, c1, c2, ⟨wx_congr I1 F2, I2, g1, g2⟩⟩
theorem wl_k37 {F : Nat} (hF : 73786976294838206464 ≤ F) : wl_ok_37 wiI F := by
  intro σ h
  obtain ⟨hX, hM, e1, e2⟩ := h
  obtain ⟨r1, s1, c1, h1⟩ := s_X3_last (F := F) (by omega) hX
  obtain ⟨I1, F1, O1_83_1, O1_0_7, lo1, hi1⟩ := h1
  have hM1 : wiM s1 := wm_congr hM F1
  obtain ⟨r2, s2, c2, h2⟩ := s_X4_last (F := F) (hF) hM1
  obtain ⟨I2, F2, O2_101_15, O2_101_34, O2_101_1, O2_101_30, O2_101_18, lo2, hi2⟩ := h2
  have e1i : (σ 83 1).toInt = (σ 101 15).toInt := congrArg Int32.toInt e1
  have e2i : (σ 0 7).toInt = (σ 101 34).toInt := congrArg Int32.toInt e2
  have g1 : s2 83 1 = s2 101 15 := by
    have u1 : (s1 83 1).toInt = (σ 83 1).toInt := congrArg Int32.toInt O1_83_1
    have u2 : (s2 101 15).toInt = (s1 101 15).toInt := congrArg Int32.toInt O2_101_15
    have u3 : (s2 83 1).toInt = (s1 83 1).toInt := congrArg (fun f => Int32.toInt (f 1)) (F2 83 (by decide))
    have u4 : (s1 101 15).toInt = (σ 101 15).toInt := congrArg (fun f => Int32.toInt (f 15)) (F1 101 (by decide))
    exact Int32.toInt_inj.mp (by omega)
  have g2 : s2 0 7 = s2 101 34 := by
    have u1 : (s1 0 7).toInt = (σ 0 7).toInt := congrArg Int32.toInt O1_0_7
    have u2 : (s2 101 34).toInt = (s1 101 34).toInt := congrArg Int32.toInt O2_101_34
    have u3 : (s2 0 7).toInt = (s1 0 7).toInt := congrArg (fun f => Int32.toInt (f 7)) (F2 0 (by decide))
    have u4 : (s1 101 34).toInt = (σ 101 34).toInt := congrArg (fun f => Int32.toInt (f 34)) (F1 101 (by decide))
    exact Int32.toInt_inj.mp (by omega)
  exact ⟨r1, s1, r2, s2, c1, c2, ⟨wx_congr I1 F2, I2, g1, g2⟩⟩
theorem wl_k38 {F : Nat} (hF : 73786976294838206464 ≤ F) : wl_ok_38 wiI F := by
  intro σ a1 a2 a3 h
  obtain ⟨hX, hM, e1, e2⟩ := h
  obtain ⟨r1, s1, c1, h1⟩ := s_X3_joint (F := F) (x1 := a1) (x2 := a2) (x3 := a3) (by omega) hX
  obtain ⟨I1, F1, O1_83_1, O1_0_7, lo1, hi1⟩ := h1
  have hM1 : wiM s1 := wm_congr hM F1
  obtain ⟨r2, s2, c2, h2⟩ := s_X4_joint (F := F) (x1 := a1) (x2 := a2) (x3 := a3) (hF) hM1
  obtain ⟨I2, F2, O2_101_15, O2_101_34, O2_101_1, O2_101_30, O2_101_18, lo2, hi2⟩ := h2
  have e1i : (σ 83 1).toInt = (σ 101 15).toInt := congrArg Int32.toInt e1
  have e2i : (σ 0 7).toInt = (σ 101 34).toInt := congrArg Int32.toInt e2
  have g1 : s2 83 1 = s2 101 15 := by
    have u1 : (s1 83 1).toInt = (σ 83 1).toInt := congrArg Int32.toInt O1_83_1
    have u2 : (s2 101 15).toInt = (s1 101 15).toInt := congrArg Int32.toInt O2_101_15
    have u3 : (s2 83 1).toInt = (s1 83 1).toInt := congrArg (fun f => Int32.toInt (f 1)) (F2 83 (by decide))
    have u4 : (s1 101 15).toInt = (σ 101 15).toInt := congrArg (fun f => Int32.toInt (f 15)) (F1 101 (by decide))
    exact Int32.toInt_inj.mp (by omega)
  have g2 : s2 0 7 = s2 101 34 := by
    have u1 : (s1 0 7).toInt = (σ 0 7).toInt := congrArg Int32.toInt O1_0_7
    have u2 : (s2 101 34).toInt = (s1 101 34).toInt := congrArg Int32.toInt O2_101_34
    have u3 : (s2 0 7).toInt = (s1 0 7).toInt := congrArg (fun f => Int32.toInt (f 7)) (F2 0 (by decide))
    have u4 : (s1 101 34).toInt = (σ 101 34).toInt := congrArg (fun f => Int32.toInt (f 34)) (F1 101 (by decide))
    exact Int32.toInt_inj.mp (by omega)
  exact ⟨r1, s1, r2, s2, c1, c2, ⟨wx_congr I1 F2, I2, g1, g2⟩⟩
theorem wl_k39 {F : Nat} (hF : 73786976294838206464 ≤ F) : wl_ok_39 wiI F := by
  intro σ a1 a2 h
  obtain ⟨hX, hM, e1, e2⟩ := h
  obtain ⟨r1, s1, c1, h1⟩ := s_X3_rank (F := F) (x1 := a1) (x2 := a2) (by omega) hX
  obtain ⟨I1, F1, O1_83_1, O1_0_7, lo1, hi1⟩ := h1
  have hM1 : wiM s1 := wm_congr hM F1
  obtain ⟨r2, s2, c2, h2⟩ := s_X4_rank (F := F) (x1 := a1) (x2 := a2) (hF) hM1
  obtain ⟨I2, F2, O2_101_15, O2_101_34, O2_101_1, O2_101_30, O2_101_18, lo2, hi2⟩ := h2
  have e1i : (σ 83 1).toInt = (σ 101 15).toInt := congrArg Int32.toInt e1
  have e2i : (σ 0 7).toInt = (σ 101 34).toInt := congrArg Int32.toInt e2
  have g1 : s2 83 1 = s2 101 15 := by
    have u1 : (s1 83 1).toInt = (σ 83 1).toInt := congrArg Int32.toInt O1_83_1
    have u2 : (s2 101 15).toInt = (s1 101 15).toInt := congrArg Int32.toInt O2_101_15
    have u3 : (s2 83 1).toInt = (s1 83 1).toInt := congrArg (fun f => Int32.toInt (f 1)) (F2 83 (by decide))
    have u4 : (s1 101 15).toInt = (σ 101 15).toInt := congrArg (fun f => Int32.toInt (f 15)) (F1 101 (by decide))
    exact Int32.toInt_inj.mp (by omega)
  have g2 : s2 0 7 = s2 101 34 := by
    have u1 : (s1 0 7).toInt = (σ 0 7).toInt := congrArg Int32.toInt O1_0_7
    have u2 : (s2 101 34).toInt = (s1 101 34).toInt := congrArg Int32.toInt O2_101_34
    have u3 : (s2 0 7).toInt = (s1 0 7).toInt := congrArg (fun f => Int32.toInt (f 7)) (F2 0 (by decide))
    have u4 : (s1 101 34).toInt = (σ 101 34).toInt := congrArg (fun f => Int32.toInt (f 34)) (F1 101 (by decide))
    exact Int32.toInt_inj.mp (by omega)
  exact ⟨r1, s1, r2, s2, c1, c2, ⟨wx_congr I1 F2, I2, g1, g2⟩⟩
theorem wl_k40 {F : Nat} (hF : 73786976294838206464 ≤ F) : wl_ok_40 wiI F := by
  intro σ a1 a2 h
  obtain ⟨hX, hM, e1, e2⟩ := h
  obtain ⟨r1, s1, c1, h1⟩ := s_X3_gap (F := F) (x1 := a1) (x2 := a2) (by omega) hX
  obtain ⟨I1, F1, O1_83_1, O1_0_7, lo1, hi1⟩ := h1
  have hM1 : wiM s1 := wm_congr hM F1
  obtain ⟨r2, s2, c2, h2⟩ := s_X4_gap (F := F) (x1 := a1) (x2 := a2) (hF) hM1
  obtain ⟨I2, F2, O2_101_15, O2_101_34, O2_101_1, O2_101_30, O2_101_18, lo2, hi2⟩ := h2
  have e1i : (σ 83 1).toInt = (σ 101 15).toInt := congrArg Int32.toInt e1
  have e2i : (σ 0 7).toInt = (σ 101 34).toInt := congrArg Int32.toInt e2
  have g1 : s2 83 1 = s2 101 15 := by
    have u1 : (s1 83 1).toInt = (σ 83 1).toInt := congrArg Int32.toInt O1_83_1
    have u2 : (s2 101 15).toInt = (s1 101 15).toInt := congrArg Int32.toInt O2_101_15
    have u3 : (s2 83 1).toInt = (s1 83 1).toInt := congrArg (fun f => Int32.toInt (f 1)) (F2 83 (by decide))
    have u4 : (s1 101 15).toInt = (σ 101 15).toInt := congrArg (fun f => Int32.toInt (f 15)) (F1 101 (by decide))
    exact Int32.toInt_inj.mp (by omega)
  have g2 : s2 0 7 = s2 101 34 := by
    have u1 : (s1 0 7).toInt = (σ 0 7).toInt := congrArg Int32.toInt O1_0_7
    have u2 : (s2 101 34).toInt = (s1 101 34).toInt := congrArg Int32.toInt O2_101_34
    have u3 : (s2 0 7).toInt = (s1 0 7).toInt := congrArg (fun f => Int32.toInt (f 7)) (F2 0 (by decide))
    have u4 : (s1 101 34).toInt = (σ 101 34).toInt := congrArg (fun f => Int32.toInt (f 34)) (F1 101 (by decide))
    exact Int32.toInt_inj.mp (by omega)
  exact ⟨r1, s1, r2, s2, c1, c2, ⟨wx_congr I1 F2, I2, g1, g2⟩⟩
theorem wl_k41 {F : Nat} (hF : 73786976294838206464 ≤ F) : wl_ok_41 wiI F := by
  intro σ a1 a2 h
  obtain ⟨hX, hM, e1, e2⟩ := h
  obtain ⟨r1, s1, c1, h1⟩ := s_X3_wasted (F := F) (x1 := a1) (x2 := a2) (by omega) hX
  obtain ⟨I1, F1, O1_83_1, O1_0_7, lo1, hi1⟩ := h1
  have hM1 : wiM s1 := wm_congr hM F1
  obtain ⟨r2, s2, c2, h2⟩ := s_X4_wasted (F := F) (x1 := a1) (x2 := a2) (hF) hM1
  obtain ⟨I2, F2, O2_101_15, O2_101_34, O2_101_1, O2_101_30, O2_101_18, lo2, hi2⟩ := h2
  have e1i : (σ 83 1).toInt = (σ 101 15).toInt := congrArg Int32.toInt e1
  have e2i : (σ 0 7).toInt = (σ 101 34).toInt := congrArg Int32.toInt e2
  have g1 : s2 83 1 = s2 101 15 := by
    have u1 : (s1 83 1).toInt = (σ 83 1).toInt := congrArg Int32.toInt O1_83_1
    have u2 : (s2 101 15).toInt = (s1 101 15).toInt := congrArg Int32.toInt O2_101_15
    have u3 : (s2 83 1).toInt = (s1 83 1).toInt := congrArg (fun f => Int32.toInt (f 1)) (F2 83 (by decide))
    have u4 : (s1 101 15).toInt = (σ 101 15).toInt := congrArg (fun f => Int32.toInt (f 15)) (F1 101 (by decide))
    exact Int32.toInt_inj.mp (by omega)
  have g2 : s2 0 7 = s2 101 34 := by
    have u1 : (s1 0 7).toInt = (σ 0 7).toInt := congrArg Int32.toInt O1_0_7
    have u2 : (s2 101 34).toInt = (s1 101 34).toInt := congrArg Int32.toInt O2_101_34
    have u3 : (s2 0 7).toInt = (s1 0 7).toInt := congrArg (fun f => Int32.toInt (f 7)) (F2 0 (by decide))
    have u4 : (s1 101 34).toInt = (σ 101 34).toInt := congrArg (fun f => Int32.toInt (f 34)) (F1 101 (by decide))
    exact Int32.toInt_inj.mp (by omega)
  exact ⟨r1, s1, r2, s2, c1, c2, ⟨wx_congr I1 F2, I2, g1, g2⟩⟩
theorem wl_k42 {F : Nat} (hF : 73786976294838206464 ≤ F) : wl_ok_42 wiI F := by
  intro σ a1 a2 h
  obtain ⟨hX, hM, e1, e2⟩ := h
  obtain ⟨r1, s1, c1, h1⟩ := s_X3_ahead (F := F) (x1 := a1) (x2 := a2) (by omega) hX
  obtain ⟨I1, F1, O1_83_1, O1_0_7, lo1, hi1⟩ := h1
  have hM1 : wiM s1 := wm_congr hM F1
  obtain ⟨r2, s2, c2, h2⟩ := s_X4_ahead (F := F) (x1 := a1) (x2 := a2) (hF) hM1
  obtain ⟨I2, F2, O2_101_15, O2_101_34, O2_101_1, O2_101_30, O2_101_18, lo2, hi2⟩ := h2
  have e1i : (σ 83 1).toInt = (σ 101 15).toInt := congrArg Int32.toInt e1
  have e2i : (σ 0 7).toInt = (σ 101 34).toInt := congrArg Int32.toInt e2
  have g1 : s2 83 1 = s2 101 15 := by
    have u1 : (s1 83 1).toInt = (σ 83 1).toInt := congrArg Int32.toInt O1_83_1
    have u2 : (s2 101 15).toInt = (s1 101 15).toInt := congrArg Int32.toInt O2_101_15
    have u3 : (s2 83 1).toInt = (s1 83 1).toInt := congrArg (fun f => Int32.toInt (f 1)) (F2 83 (by decide))
    have u4 : (s1 101 15).toInt = (σ 101 15).toInt := congrArg (fun f => Int32.toInt (f 15)) (F1 101 (by decide))
    exact Int32.toInt_inj.mp (by omega)
  have g2 : s2 0 7 = s2 101 34 := by
    have u1 : (s1 0 7).toInt = (σ 0 7).toInt := congrArg Int32.toInt O1_0_7
    have u2 : (s2 101 34).toInt = (s1 101 34).toInt := congrArg Int32.toInt O2_101_34
    have u3 : (s2 0 7).toInt = (s1 0 7).toInt := congrArg (fun f => Int32.toInt (f 7)) (F2 0 (by decide))
    have u4 : (s1 101 34).toInt = (σ 101 34).toInt := congrArg (fun f => Int32.toInt (f 34)) (F1 101 (by decide))
    exact Int32.toInt_inj.mp (by omega)
  exact ⟨r1, s1, r2, s2, c1, c2, ⟨wx_congr I1 F2, I2, g1, g2⟩⟩
theorem wl_k43 {F : Nat} (hF : 73786976294838206464 ≤ F) : wl_ok_43 wiI F := by
  intro σ a1 a2 h
  obtain ⟨hX, hM, e1, e2⟩ := h
  obtain ⟨r1, s1, c1, h1⟩ := s_X3_bestLaw (F := F) (x1 := a1) (x2 := a2) (by omega) hX
  obtain ⟨I1, F1, O1_83_1, O1_0_7, lo1, hi1⟩ := h1
  have hM1 : wiM s1 := wm_congr hM F1
  obtain ⟨r2, s2, c2, h2⟩ := s_X4_bestLaw (F := F) (x1 := a1) (x2 := a2) (hF) hM1
  obtain ⟨I2, F2, O2_101_15, O2_101_34, O2_101_1, O2_101_30, O2_101_18, lo2, hi2⟩ := h2
  have e1i : (σ 83 1).toInt = (σ 101 15).toInt := congrArg Int32.toInt e1
  have e2i : (σ 0 7).toInt = (σ 101 34).toInt := congrArg Int32.toInt e2
  have g1 : s2 83 1 = s2 101 15 := by
    have u1 : (s1 83 1).toInt = (σ 83 1).toInt := congrArg Int32.toInt O1_83_1
    have u2 : (s2 101 15).toInt = (s1 101 15).toInt := congrArg Int32.toInt O2_101_15
    have u3 : (s2 83 1).toInt = (s1 83 1).toInt := congrArg (fun f => Int32.toInt (f 1)) (F2 83 (by decide))
    have u4 : (s1 101 15).toInt = (σ 101 15).toInt := congrArg (fun f => Int32.toInt (f 15)) (F1 101 (by decide))
    exact Int32.toInt_inj.mp (by omega)
  have g2 : s2 0 7 = s2 101 34 := by
    have u1 : (s1 0 7).toInt = (σ 0 7).toInt := congrArg Int32.toInt O1_0_7
    have u2 : (s2 101 34).toInt = (s1 101 34).toInt := congrArg Int32.toInt O2_101_34
    have u3 : (s2 0 7).toInt = (s1 0 7).toInt := congrArg (fun f => Int32.toInt (f 7)) (F2 0 (by decide))
    have u4 : (s1 101 34).toInt = (σ 101 34).toInt := congrArg (fun f => Int32.toInt (f 34)) (F1 101 (by decide))
    exact Int32.toInt_inj.mp (by omega)
  exact ⟨r1, s1, r2, s2, c1, c2, ⟨wx_congr I1 F2, I2, g1, g2⟩⟩
theorem wl_k44 {F : Nat} (hF : 73786976294838206464 ≤ F) : wl_ok_44 wiI F := by
  intro σ a1 a2 a3 h
  obtain ⟨hX, hM, e1, e2⟩ := h
  obtain ⟨r1, s1, c1, h1⟩ := s_X3_newcomer (F := F) (x1 := a1) (x2 := a2) (x3 := a3) (by omega) hX
  obtain ⟨I1, F1, O1_83_1, O1_0_7, lo1, hi1⟩ := h1
  have hM1 : wiM s1 := wm_congr hM F1
  obtain ⟨r2, s2, c2, h2⟩ := s_X4_newcomer (F := F) (x1 := a1) (x2 := a2) (x3 := a3) (hF) hM1
  obtain ⟨I2, F2, O2_101_15, O2_101_34, O2_101_30, O2_101_18, lo2, hi2⟩ := h2
  have e1i : (σ 83 1).toInt = (σ 101 15).toInt := congrArg Int32.toInt e1
  have e2i : (σ 0 7).toInt = (σ 101 34).toInt := congrArg Int32.toInt e2
  have g1 : s2 83 1 = s2 101 15 := by
    have u1 : (s1 83 1).toInt = (σ 83 1).toInt := congrArg Int32.toInt O1_83_1
    have u2 : (s2 101 15).toInt = (s1 101 15).toInt := congrArg Int32.toInt O2_101_15
    have u3 : (s2 83 1).toInt = (s1 83 1).toInt := congrArg (fun f => Int32.toInt (f 1)) (F2 83 (by decide))
    have u4 : (s1 101 15).toInt = (σ 101 15).toInt := congrArg (fun f => Int32.toInt (f 15)) (F1 101 (by decide))
    exact Int32.toInt_inj.mp (by omega)
  have g2 : s2 0 7 = s2 101 34 := by
    have u1 : (s1 0 7).toInt = (σ 0 7).toInt := congrArg Int32.toInt O1_0_7
    have u2 : (s2 101 34).toInt = (s1 101 34).toInt := congrArg Int32.toInt O2_101_34
    have u3 : (s2 0 7).toInt = (s1 0 7).toInt := congrArg (fun f => Int32.toInt (f 7)) (F2 0 (by decide))
    have u4 : (s1 101 34).toInt = (σ 101 34).toInt := congrArg (fun f => Int32.toInt (f 34)) (F1 101 (by decide))
    exact Int32.toInt_inj.mp (by omega)
  exact ⟨r1, s1, r2, s2, c1, c2, ⟨wx_congr I1 F2, I2, g1, g2⟩⟩
theorem wl_k45 {F : Nat} (hF : 73786976294838206464 ≤ F) : wl_ok_45 wiI F := by
  intro σ a1 h
  obtain ⟨hX, hM, e1, e2⟩ := h
  obtain ⟨r1, s1, c1, h1⟩ := s_X3_mostSeen (F := F) (x1 := a1) (by omega) hX
  obtain ⟨I1, F1, O1_83_1, O1_0_7, lo1, hi1⟩ := h1
  have hM1 : wiM s1 := wm_congr hM F1
  obtain ⟨r2, s2, c2, h2⟩ := s_X4_mostSeen (F := F) (x1 := a1) (hF) hM1
  obtain ⟨I2, F2, O2_101_15, O2_101_34, O2_101_1, O2_101_30, O2_101_18, lo2, hi2⟩ := h2
  have e1i : (σ 83 1).toInt = (σ 101 15).toInt := congrArg Int32.toInt e1
  have e2i : (σ 0 7).toInt = (σ 101 34).toInt := congrArg Int32.toInt e2
  have g1 : s2 83 1 = s2 101 15 := by
    have u1 : (s1 83 1).toInt = (σ 83 1).toInt := congrArg Int32.toInt O1_83_1
    have u2 : (s2 101 15).toInt = (s1 101 15).toInt := congrArg Int32.toInt O2_101_15
    have u3 : (s2 83 1).toInt = (s1 83 1).toInt := congrArg (fun f => Int32.toInt (f 1)) (F2 83 (by decide))
    have u4 : (s1 101 15).toInt = (σ 101 15).toInt := congrArg (fun f => Int32.toInt (f 15)) (F1 101 (by decide))
    exact Int32.toInt_inj.mp (by omega)
  have g2 : s2 0 7 = s2 101 34 := by
    have u1 : (s1 0 7).toInt = (σ 0 7).toInt := congrArg Int32.toInt O1_0_7
    have u2 : (s2 101 34).toInt = (s1 101 34).toInt := congrArg Int32.toInt O2_101_34
    have u3 : (s2 0 7).toInt = (s1 0 7).toInt := congrArg (fun f => Int32.toInt (f 7)) (F2 0 (by decide))
    have u4 : (s1 101 34).toInt = (σ 101 34).toInt := congrArg (fun f => Int32.toInt (f 34)) (F1 101 (by decide))
    exact Int32.toInt_inj.mp (by omega)
  exact ⟨r1, s1, r2, s2, c1, c2, ⟨wx_congr I1 F2, I2, g1, g2⟩⟩
theorem wl_k46 {F : Nat} (hF : 73786976294838206464 ≤ F) : wl_ok_46 wiI F := by
  intro σ a1 a2 h
  obtain ⟨hX, hM, e1, e2⟩ := h
  obtain ⟨r1, s1, c1, h1⟩ := s_X3_duels (F := F) (x1 := a1) (x2 := a2) (by omega) hX
  obtain ⟨I1, F1, O1_83_1, O1_0_7, lo1, hi1⟩ := h1
  have hM1 : wiM s1 := wm_congr hM F1
  obtain ⟨r2, s2, c2, h2⟩ := s_X4_duels (F := F) (x1 := a1) (x2 := a2) (hF) hM1
  obtain ⟨I2, F2, O2_101_15, O2_101_34, O2_101_1, O2_101_30, O2_101_18, lo2, hi2⟩ := h2
  have e1i : (σ 83 1).toInt = (σ 101 15).toInt := congrArg Int32.toInt e1
  have e2i : (σ 0 7).toInt = (σ 101 34).toInt := congrArg Int32.toInt e2
  have g1 : s2 83 1 = s2 101 15 := by
    have u1 : (s1 83 1).toInt = (σ 83 1).toInt := congrArg Int32.toInt O1_83_1
    have u2 : (s2 101 15).toInt = (s1 101 15).toInt := congrArg Int32.toInt O2_101_15
    have u3 : (s2 83 1).toInt = (s1 83 1).toInt := congrArg (fun f => Int32.toInt (f 1)) (F2 83 (by decide))
    have u4 : (s1 101 15).toInt = (σ 101 15).toInt := congrArg (fun f => Int32.toInt (f 15)) (F1 101 (by decide))
    exact Int32.toInt_inj.mp (by omega)
  have g2 : s2 0 7 = s2 101 34 := by
    have u1 : (s1 0 7).toInt = (σ 0 7).toInt := congrArg Int32.toInt O1_0_7
    have u2 : (s2 101 34).toInt = (s1 101 34).toInt := congrArg Int32.toInt O2_101_34
    have u3 : (s2 0 7).toInt = (s1 0 7).toInt := congrArg (fun f => Int32.toInt (f 7)) (F2 0 (by decide))
    have u4 : (s1 101 34).toInt = (σ 101 34).toInt := congrArg (fun f => Int32.toInt (f 34)) (F1 101 (by decide))
    exact Int32.toInt_inj.mp (by omega)
  exact ⟨r1, s1, r2, s2, c1, c2, ⟨wx_congr I1 F2, I2, g1, g2⟩⟩
theorem wl_k47 {F : Nat} (hF : 73786976294838206464 ≤ F) : wl_ok_47 wiI F := by
  intro σ a1 h
  obtain ⟨hX, hM, e1, e2⟩ := h
  obtain ⟨r1, s1, c1, h1⟩ := s_X3_row (F := F) (x1 := a1) (by omega) hX
  obtain ⟨I1, F1, O1_83_1, lo1, hi1, x1_0⟩ := h1
  have hM1 : wiM s1 := wm_congr hM F1
  obtain ⟨r2, s2, c2, h2⟩ := s_X4_row (F := F) (x1 := a1) (hF) hM1
  obtain ⟨I2, F2, O2_101_15, O2_101_1, O2_101_30, O2_101_18, lo2, hi2, x2_0⟩ := h2
  have e1i : (σ 83 1).toInt = (σ 101 15).toInt := congrArg Int32.toInt e1
  have e2i : (σ 0 7).toInt = (σ 101 34).toInt := congrArg Int32.toInt e2
  have g1 : s2 83 1 = s2 101 15 := by
    have u1 : (s1 83 1).toInt = (σ 83 1).toInt := congrArg Int32.toInt O1_83_1
    have u2 : (s2 101 15).toInt = (s1 101 15).toInt := congrArg Int32.toInt O2_101_15
    have u3 : (s2 83 1).toInt = (s1 83 1).toInt := congrArg (fun f => Int32.toInt (f 1)) (F2 83 (by decide))
    have u4 : (s1 101 15).toInt = (σ 101 15).toInt := congrArg (fun f => Int32.toInt (f 15)) (F1 101 (by decide))
    exact Int32.toInt_inj.mp (by omega)
  have g2 : s2 0 7 = s2 101 34 := by
    have u3 : (s2 0 7).toInt = (s1 0 7).toInt := congrArg (fun f => Int32.toInt (f 7)) (F2 0 (by decide))
    have u4 : (s1 101 34).toInt = (σ 101 34).toInt := congrArg (fun f => Int32.toInt (f 34)) (F1 101 (by decide))
    exact Int32.toInt_inj.mp (by omega)
  exact ⟨r1, s1, r2, s2, c1, c2, ⟨wx_congr I1 F2, I2, g1, g2⟩⟩
theorem wl_k48 {F : Nat} (hF : 73786976294838206464 ≤ F) : wl_ok_48 wiI F := by
  intro σ a1 h
  obtain ⟨hX, hM, e1, e2⟩ := h
  obtain ⟨r1, s1, c1, h1⟩ := s_X3_judge (F := F) (x1 := a1) (by omega) hX
  obtain ⟨I1, F1, O1_83_1, lo1, hi1, x1_0⟩ := h1
  have hM1 : wiM s1 := wm_congr hM F1
  obtain ⟨r2, s2, c2, h2⟩ := s_X4_judge (F := F) (x1 := a1) (hF) hM1
  obtain ⟨I2, F2, O2_101_15, O2_101_1, O2_101_30, O2_101_18, lo2, hi2, x2_0⟩ := h2
  have e1i : (σ 83 1).toInt = (σ 101 15).toInt := congrArg Int32.toInt e1
  have e2i : (σ 0 7).toInt = (σ 101 34).toInt := congrArg Int32.toInt e2
  have g1 : s2 83 1 = s2 101 15 := by
    have u1 : (s1 83 1).toInt = (σ 83 1).toInt := congrArg Int32.toInt O1_83_1
    have u2 : (s2 101 15).toInt = (s1 101 15).toInt := congrArg Int32.toInt O2_101_15
    have u3 : (s2 83 1).toInt = (s1 83 1).toInt := congrArg (fun f => Int32.toInt (f 1)) (F2 83 (by decide))
    have u4 : (s1 101 15).toInt = (σ 101 15).toInt := congrArg (fun f => Int32.toInt (f 15)) (F1 101 (by decide))
    exact Int32.toInt_inj.mp (by omega)
  have g2 : s2 0 7 = s2 101 34 := by
    have u3 : (s2 0 7).toInt = (s1 0 7).toInt := congrArg (fun f => Int32.toInt (f 7)) (F2 0 (by decide))
    have u4 : (s1 101 34).toInt = (σ 101 34).toInt := congrArg (fun f => Int32.toInt (f 34)) (F1 101 (by decide))
    exact Int32.toInt_inj.mp (by omega)
  exact ⟨r1, s1, r2, s2, c1, c2, ⟨wx_congr I1 F2, I2, g1, g2⟩⟩
theorem wl_k49 {F : Nat} (hF : 73786976294838206464 ≤ F) : wl_ok_49 wiI F := by
  intro σ h
  obtain ⟨hX, hM, e1, e2⟩ := h
  obtain ⟨r1, s1, c1, h1⟩ := s_X3_clear (F := F) (by omega) hX
  obtain ⟨I1, F1, O1_83_1, lo1, hi1, x1_0⟩ := h1
  have hM1 : wiM s1 := wm_congr hM F1
  obtain ⟨r2, s2, c2, h2⟩ := s_X4_clear (F := F) (hF) hM1
  obtain ⟨I2, F2, O2_101_15, O2_101_1, O2_101_30, O2_101_18, lo2, hi2, x2_0⟩ := h2
  have e1i : (σ 83 1).toInt = (σ 101 15).toInt := congrArg Int32.toInt e1
  have e2i : (σ 0 7).toInt = (σ 101 34).toInt := congrArg Int32.toInt e2
  have g1 : s2 83 1 = s2 101 15 := by
    have u1 : (s1 83 1).toInt = (σ 83 1).toInt := congrArg Int32.toInt O1_83_1
    have u2 : (s2 101 15).toInt = (s1 101 15).toInt := congrArg Int32.toInt O2_101_15
    have u3 : (s2 83 1).toInt = (s1 83 1).toInt := congrArg (fun f => Int32.toInt (f 1)) (F2 83 (by decide))
    have u4 : (s1 101 15).toInt = (σ 101 15).toInt := congrArg (fun f => Int32.toInt (f 15)) (F1 101 (by decide))
    exact Int32.toInt_inj.mp (by omega)
  have g2 : s2 0 7 = s2 101 34 := by
    have u3 : (s2 0 7).toInt = (s1 0 7).toInt := congrArg (fun f => Int32.toInt (f 7)) (F2 0 (by decide))
    have u4 : (s1 101 34).toInt = (σ 101 34).toInt := congrArg (fun f => Int32.toInt (f 34)) (F1 101 (by decide))
    exact Int32.toInt_inj.mp (by omega)
  have er : r1 = r2 := by
    have v1 := congrArg (fun f => Int32.toInt (f 15)) (F1 101 (by decide))
    have v2 := congrArg (fun f => Int32.toInt (f 34)) (F1 101 (by decide))
    have w1 : (s1 101 15).toInt = (σ 101 15).toInt := v1
    have w2 : (s1 101 34).toInt = (σ 101 34).toInt := v2
    exact Int32.toInt_inj.mp (by omega)
  exact ⟨r1, s1, r2, s2, c1, c2, ⟨wx_congr I1 F2, I2, g1, g2⟩, er⟩
theorem wl_k50 {F : Nat} (hF : 73786976294838206464 ≤ F) : wl_ok_50 wiI F := by
  intro σ a1 a2 a3 h
  obtain ⟨hX, hM, e1, e2⟩ := h
  obtain ⟨r1, s1, c1, h1⟩ := s_X3_lots (F := F) (x1 := a1) (x2 := a2) (x3 := a3) (by omega) hX
  obtain ⟨I1, F1, O1_83_1, O1_0_7, lo1, hi1⟩ := h1
  have hM1 : wiM s1 := wm_congr hM F1
  obtain ⟨r2, s2, c2, h2⟩ := s_X4_lots (F := F) (x1 := a1) (x2 := a2) (x3 := a3) (hF) hM1
  obtain ⟨I2, F2, O2_101_15, O2_101_34, O2_101_30, O2_101_18, lo2, hi2⟩ := h2
  have e1i : (σ 83 1).toInt = (σ 101 15).toInt := congrArg Int32.toInt e1
  have e2i : (σ 0 7).toInt = (σ 101 34).toInt := congrArg Int32.toInt e2
  have g1 : s2 83 1 = s2 101 15 := by
    have u1 : (s1 83 1).toInt = (σ 83 1).toInt := congrArg Int32.toInt O1_83_1
    have u2 : (s2 101 15).toInt = (s1 101 15).toInt := congrArg Int32.toInt O2_101_15
    have u3 : (s2 83 1).toInt = (s1 83 1).toInt := congrArg (fun f => Int32.toInt (f 1)) (F2 83 (by decide))
    have u4 : (s1 101 15).toInt = (σ 101 15).toInt := congrArg (fun f => Int32.toInt (f 15)) (F1 101 (by decide))
    exact Int32.toInt_inj.mp (by omega)
  have g2 : s2 0 7 = s2 101 34 := by
    have u1 : (s1 0 7).toInt = (σ 0 7).toInt := congrArg Int32.toInt O1_0_7
    have u2 : (s2 101 34).toInt = (s1 101 34).toInt := congrArg Int32.toInt O2_101_34
    have u3 : (s2 0 7).toInt = (s1 0 7).toInt := congrArg (fun f => Int32.toInt (f 7)) (F2 0 (by decide))
    have u4 : (s1 101 34).toInt = (σ 101 34).toInt := congrArg (fun f => Int32.toInt (f 34)) (F1 101 (by decide))
    exact Int32.toInt_inj.mp (by omega)
  exact ⟨r1, s1, r2, s2, c1, c2, ⟨wx_congr I1 F2, I2, g1, g2⟩⟩
theorem wl_k51 {F : Nat} (hF : 73786976294838206464 ≤ F) : wl_ok_51 wiI F := by
  intro σ h
  obtain ⟨hX, hM, e1, e2⟩ := h
  obtain ⟨r1, s1, c1, h1⟩ := s_X3_image (F := F) (by omega) hX
  obtain ⟨I1, F1, O1_83_1, O1_0_7, lo1, hi1⟩ := h1
  have hM1 : wiM s1 := wm_congr hM F1
  obtain ⟨r2, s2, c2, h2⟩ := s_X4_image (F := F) (hF) hM1
  obtain ⟨I2, F2, O2_101_15, O2_101_34, O2_101_30, O2_101_18, lo2, hi2⟩ := h2
  have e1i : (σ 83 1).toInt = (σ 101 15).toInt := congrArg Int32.toInt e1
  have e2i : (σ 0 7).toInt = (σ 101 34).toInt := congrArg Int32.toInt e2
  have g1 : s2 83 1 = s2 101 15 := by
    have u1 : (s1 83 1).toInt = (σ 83 1).toInt := congrArg Int32.toInt O1_83_1
    have u2 : (s2 101 15).toInt = (s1 101 15).toInt := congrArg Int32.toInt O2_101_15
    have u3 : (s2 83 1).toInt = (s1 83 1).toInt := congrArg (fun f => Int32.toInt (f 1)) (F2 83 (by decide))
    have u4 : (s1 101 15).toInt = (σ 101 15).toInt := congrArg (fun f => Int32.toInt (f 15)) (F1 101 (by decide))
    exact Int32.toInt_inj.mp (by omega)
  have g2 : s2 0 7 = s2 101 34 := by
    have u1 : (s1 0 7).toInt = (σ 0 7).toInt := congrArg Int32.toInt O1_0_7
    have u2 : (s2 101 34).toInt = (s1 101 34).toInt := congrArg Int32.toInt O2_101_34
    have u3 : (s2 0 7).toInt = (s1 0 7).toInt := congrArg (fun f => Int32.toInt (f 7)) (F2 0 (by decide))
    have u4 : (s1 101 34).toInt = (σ 101 34).toInt := congrArg (fun f => Int32.toInt (f 34)) (F1 101 (by decide))
    exact Int32.toInt_inj.mp (by omega)
  exact ⟨r1, s1, r2, s2, c1, c2, ⟨wx_congr I1 F2, I2, g1, g2⟩⟩
theorem wl_k52 {F : Nat} (hF : 73786976294838206464 ≤ F) : wl_ok_52 wiI F := by
  intro σ h
  obtain ⟨hX, hM, e1, e2⟩ := h
  obtain ⟨r1, s1, c1, h1⟩ := s_X3_restore (F := F) (by omega) hX
  obtain ⟨I1, F1, O1_83_1, O1_0_7, lo1, hi1⟩ := h1
  have hM1 : wiM s1 := wm_congr hM F1
  obtain ⟨r2, s2, c2, h2⟩ := s_X4_restore (F := F) (hF) hM1
  obtain ⟨I2, F2, O2_101_15, O2_101_34, O2_101_18, lo2, hi2⟩ := h2
  have e1i : (σ 83 1).toInt = (σ 101 15).toInt := congrArg Int32.toInt e1
  have e2i : (σ 0 7).toInt = (σ 101 34).toInt := congrArg Int32.toInt e2
  have g1 : s2 83 1 = s2 101 15 := by
    have u1 : (s1 83 1).toInt = (σ 83 1).toInt := congrArg Int32.toInt O1_83_1
    have u2 : (s2 101 15).toInt = (s1 101 15).toInt := congrArg Int32.toInt O2_101_15
    have u3 : (s2 83 1).toInt = (s1 83 1).toInt := congrArg (fun f => Int32.toInt (f 1)) (F2 83 (by decide))
    have u4 : (s1 101 15).toInt = (σ 101 15).toInt := congrArg (fun f => Int32.toInt (f 15)) (F1 101 (by decide))
    exact Int32.toInt_inj.mp (by omega)
  have g2 : s2 0 7 = s2 101 34 := by
    have u1 : (s1 0 7).toInt = (σ 0 7).toInt := congrArg Int32.toInt O1_0_7
    have u2 : (s2 101 34).toInt = (s1 101 34).toInt := congrArg Int32.toInt O2_101_34
    have u3 : (s2 0 7).toInt = (s1 0 7).toInt := congrArg (fun f => Int32.toInt (f 7)) (F2 0 (by decide))
    have u4 : (s1 101 34).toInt = (σ 101 34).toInt := congrArg (fun f => Int32.toInt (f 34)) (F1 101 (by decide))
    exact Int32.toInt_inj.mp (by omega)
  exact ⟨r1, s1, r2, s2, c1, c2, ⟨wx_congr I1 F2, I2, g1, g2⟩⟩
theorem wl_k53 {F : Nat} (hF : 73786976294838206464 ≤ F) : wl_ok_53 wiI F := by
  intro σ a1 h
  obtain ⟨hX, hM, e1, e2⟩ := h
  obtain ⟨r1, s1, c1, h1⟩ := s_X3_count (F := F) (x1 := a1) (by omega) hX
  obtain ⟨I1, F1, O1_83_1, O1_0_7, lo1, hi1⟩ := h1
  have hM1 : wiM s1 := wm_congr hM F1
  obtain ⟨r2, s2, c2, h2⟩ := s_X4_count (F := F) (x1 := a1) (hF) hM1
  obtain ⟨I2, F2, O2_101_15, O2_101_34, O2_101_1, O2_101_30, O2_101_18, lo2, hi2⟩ := h2
  have e1i : (σ 83 1).toInt = (σ 101 15).toInt := congrArg Int32.toInt e1
  have e2i : (σ 0 7).toInt = (σ 101 34).toInt := congrArg Int32.toInt e2
  have g1 : s2 83 1 = s2 101 15 := by
    have u1 : (s1 83 1).toInt = (σ 83 1).toInt := congrArg Int32.toInt O1_83_1
    have u2 : (s2 101 15).toInt = (s1 101 15).toInt := congrArg Int32.toInt O2_101_15
    have u3 : (s2 83 1).toInt = (s1 83 1).toInt := congrArg (fun f => Int32.toInt (f 1)) (F2 83 (by decide))
    have u4 : (s1 101 15).toInt = (σ 101 15).toInt := congrArg (fun f => Int32.toInt (f 15)) (F1 101 (by decide))
    exact Int32.toInt_inj.mp (by omega)
  have g2 : s2 0 7 = s2 101 34 := by
    have u1 : (s1 0 7).toInt = (σ 0 7).toInt := congrArg Int32.toInt O1_0_7
    have u2 : (s2 101 34).toInt = (s1 101 34).toInt := congrArg Int32.toInt O2_101_34
    have u3 : (s2 0 7).toInt = (s1 0 7).toInt := congrArg (fun f => Int32.toInt (f 7)) (F2 0 (by decide))
    have u4 : (s1 101 34).toInt = (σ 101 34).toInt := congrArg (fun f => Int32.toInt (f 34)) (F1 101 (by decide))
    exact Int32.toInt_inj.mp (by omega)
  exact ⟨r1, s1, r2, s2, c1, c2, ⟨wx_congr I1 F2, I2, g1, g2⟩⟩
theorem wl_all {F : Nat} (hF : 73786976294838206464 ≤ F) : wl_OK wiI F := ⟨wl_k0 hF, wl_k1 hF, wl_k2 hF, wl_k3 hF, wl_k4 hF, wl_k5 hF, wl_k6 hF, wl_k7 hF, wl_k8 hF, wl_k9 hF, wl_k10 hF, wl_k11 hF, wl_k12 hF, wl_k13 hF, wl_k14 hF, wl_k15 hF, wl_k16 hF, wl_k17 hF, wl_k18 hF, wl_k19 hF, wl_k20 hF, wl_k21 hF, wl_k22 hF, wl_k23 hF, wl_k24 hF, wl_k25 hF, wl_k26 hF, wl_k27 hF, wl_k28 hF, wl_k29 hF, wl_k30 hF, wl_k31 hF, wl_k32 hF, wl_k33 hF, wl_k34 hF, wl_k35 hF, wl_k36 hF, wl_k37 hF, wl_k38 hF, wl_k39 hF, wl_k40 hF, wl_k41 hF, wl_k42 hF, wl_k43 hF, wl_k44 hF, wl_k45 hF, wl_k46 hF, wl_k47 hF, wl_k48 hF, wl_k49 hF, wl_k50 hF, wl_k51 hF, wl_k52 hF, wl_k53 hF⟩
theorem wl_m0 : wiI wt_m0 := by
  refine ⟨⟨fun h hh => ?_, by decide, by decide, by decide, by decide⟩, fun k i hk => ?_, rfl, rfl⟩
  · rcases wt_Hcs hh with e | e | e <;> subst e <;> decide
  · have hb : wiB i 0 := ⟨fun _ => by decide, fun _ => by decide, fun _ _ => by decide⟩
    have hb2 : wiB (i % 188) 0 := ⟨fun _ => by decide, fun _ => by decide, fun _ _ => by decide⟩
    by_cases e : k = 106
    · subst e
      exact wm_106 (by show -9 ≤ (-9 : Int32).toInt ∧ (-9 : Int32).toInt ≤ 5; decide)
    by_cases e2 : k = 102
    · subst e2; exact wm_free (by decide) (by decide) (by decide) (by decide)
    have h0 : wt_m0 k i = 0 := by
      unfold wt_m0
      rw [if_neg (by omega), if_neg e]
    rw [h0]
    exact ⟨fun _ => ⟨fun _ => by decide, fun _ => by decide, fun _ => by decide, fun _ => by decide, fun _ => by decide, fun _ => by decide, fun _ => by decide⟩, fun h => absurd h e, fun _ => by decide, fun _ => hb, fun _ => hb2⟩
