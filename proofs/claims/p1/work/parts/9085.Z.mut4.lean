def eFeed (N x : Int32) : Int32 := cF (cN x 0 255) (if N.toInt < 96 then 0 else -6)
def eRow (N x : Int32) : Int32 := cF (cN x 0 99) (if N.toInt < 12 then 0 else -6)
theorem cx_feed {F : Nat} {x : Int32} {σ : Mem} (b : 0 ≤ (σ 83 1).toInt ∧ (σ 83 1).toInt ≤ 96) : pc (f_X3_feed F x σ) (cR (eFeed (σ 83 1) x) (fun r s => s 84 = upd (σ 84) (σ 83 1).toNatClampNeg x ∧ s 83 1 = σ 83 1 + 1 ∧ r = s 83 1) σ) := by
  rw [f_X3_feed_e]
  refine pc_be ax_outside ?_
  simp only [j_X3_feed_28_e]
  have key : ∀ e, e = eFeed (σ 83 1) x → pc (if e = 0 then (wt_bnd (f_X1_add F x σ) fun r1 s2 => some ((s2 83 1), s2)) else wt_bnd (f_X3_refuse F e σ) fun r5 s6 => some (r5, s6)) (cR (eFeed (σ 83 1) x) (fun r s => s 84 = upd (σ 84) (σ 83 1).toNatClampNeg x ∧ s 83 1 = σ 83 1 + 1 ∧ r = s 83 1) σ) := fun e he => by
    subst he
    refine cR_end (fun e => ?_)
    have h96 : (σ 83 1).toInt < 96 := by
      have := (cF_0 e).2
      by_cases d : (σ 83 1).toInt < 96
      · exact d
      · rw [if_neg d] at this; exact absurd this (by decide)
    rw [f_X1_add_e, if_neg (fun q => by have := ti_lt q; rw [tz_0] at this; omega), if_neg (fun q => by have := ti_le q; rw [tz_96] at this; omega)]
    refine pc_bnd (P := fun _ s => s 84 = upd (σ 84) (σ 83 1).toNatClampNeg x ∧ s 83 1 = σ 83 1 + 1) ?_ (fun _ s q => pc_ret ⟨q.1, q.2, rfl⟩)
    refine pc_chk (fun _ => pc_lt (fun s2 h2 => pc_lt (fun s3 h3 => pc_ret ⟨?_, ?_⟩)))
    · rw [h3, up2_k (by decide), h2]; unfold up2; rw [if_pos rfl]
    · rw [h3, up2_s, h2, up2_k (by decide)]
  by_cases c1 : cN x 0 255 = 0
  · rw [if_pos c1]
    by_cases c2 : σ 83 1 < 96
    · rw [if_pos c2]
      refine key _ ?_
      unfold eFeed cF
      have := ti_lt c2
      rw [tz_96] at this
      rw [if_pos c1, if_pos this, c1]
    · rw [if_neg c2]
      refine key _ ?_
      unfold eFeed cF
      have := ti_nlt c2
      rw [tz_96] at this
      rw [if_pos c1, if_neg (by omega)]
  · rw [if_neg c1]
    refine key _ ?_
    unfold eFeed cF
    rw [if_neg c1]
theorem cN_3 {x a b : Int32} : (x.toInt < a.toInt → cN x a b = -4) ∧ (a.toInt ≤ x.toInt → b.toInt < x.toInt → cN x a b = -6) := by
  unfold cN
  exact ⟨fun h => by rw [if_neg (by omega)], fun h1 h2 => by rw [if_pos h1, if_neg (by omega)]⟩
theorem cm_feed {F : Nat} {x : Int32} {σ : Mem} (b : 0 ≤ (σ 101 15).toInt ∧ (σ 101 15).toInt ≤ 96) : pc (f_X4_feed F x σ) (mR (eFeed (σ 101 15) x) (fun r s => s 111 = upd (σ 111) (σ 101 15).toNatClampNeg x ∧ s 101 15 = σ 101 15 + 1 ∧ r = s 101 15) σ) := by
  rw [f_X4_feed_e]
  simp only [j_X4_feed_32_e]
  refine pc_lt (fun s3 h3 => ?_)
  have k7 : ∀ k i, ¬ (k = 101 ∧ i = 10) → s3 k i = σ k i := by rw [h3]; exact th_k
  have e15 : s3 101 15 = σ 101 15 := k7 _ _ (by omega)
  rw [e15]
  refine pc_ite (fun c => ?_) (fun c => ?_)
  · have d := ti_le c
    rw [tz_0] at d
    refine pc_ite (fun c2 => ?_) (fun c2 => ?_)
    · have d2 := ti_lt c2
      rw [tz_255] at d2
      have e : eFeed (σ 101 15) x = -6 := by unfold eFeed; rw [(cN_3 (a := 0) (b := 255)).2 (by rw [tz_0]; exact d) (by rw [tz_255]; exact d2)]; rfl
      rw [e]; exact mR_ref (by decide) k7
    · have d2 := ti_nlt c2
      rw [tz_255] at d2
      have e0 : cN x 0 255 = 0 := cN_t (by rw [tz_0]; exact d) (by rw [tz_255]; exact d2)
      refine pc_ite (fun c3 => ?_) (fun c3 => ?_)
      · have d3 := ti_eq c3
        rw [tz_96] at d3
        have e : eFeed (σ 101 15) x = -6 := by unfold eFeed cF; rw [if_pos e0, if_neg (by omega)]
        rw [e]; exact mR_ref (by decide) k7
      · have d3 := ti_ne c3
        rw [tz_96] at d3
        have e : eFeed (σ 101 15) x = 0 := by unfold eFeed cF; rw [if_pos e0, if_pos (by omega)]
        rw [e]
        refine pc_chk (fun _ => pc_lt (fun s5 h5 => pc_lt (fun s6 h6 => pc_ret ⟨fun _ => ⟨?_, ?_, rfl⟩, fun n => absurd rfl n⟩)))
        · rw [h6, up2_k (by decide), h5]; unfold up2; rw [if_pos rfl, show s3 111 = σ 111 from funext fun i => k7 111 i (by omega)]
        · rw [h6, up2_s, h5, up2_k (by decide), e15]
  · have d := ti_nle c
    rw [tz_0] at d
    have e : eFeed (σ 101 15) x = -4 := by unfold eFeed; rw [(cN_3 (a := 0) (b := 255)).1 (by rw [tz_0]; exact d)]; rfl
    rw [e]; exact mR_ref (by decide) k7
theorem cx_row {F : Nat} {x : Int32} {σ : Mem} : pc (f_X3_row F x σ) (cR (eRow (σ 0 7) x) (fun r s => s 85 = upd (σ 85) (σ 0 7).toNatClampNeg x ∧ s 0 7 = σ 0 7 + 1 ∧ r = s 0 7) σ) := by
  rw [f_X3_row_e]
  refine pc_be ax_outside ?_
  simp only [j_X3_row_24_e]
  have key : ∀ e, e = eRow (σ 0 7) x → pc (if e = 0 then (wt_chk (σ 0 7) 12 (wt_lt (up2 σ 85 (Int32.toNatClampNeg (σ 0 7)) x) fun s2 => wt_lt (up2 s2 0 7 ((s2 0 7) + (1 : Int32))) fun s3 => some ((s3 0 7), s3))) else wt_bnd (f_X3_refuse F e σ) fun r5 s6 => some (r5, s6)) (cR (eRow (σ 0 7) x) (fun r s => s 85 = upd (σ 85) (σ 0 7).toNatClampNeg x ∧ s 0 7 = σ 0 7 + 1 ∧ r = s 0 7) σ) := fun e he => by
    subst he
    refine cR_end (fun e => pc_chk (fun _ => pc_lt (fun s2 h2 => pc_lt (fun s3 h3 => pc_ret ⟨?_, ?_, rfl⟩))))
    · rw [h3, up2_k (by decide), h2]; unfold up2; rw [if_pos rfl]
    · rw [h3, up2_s, h2, up2_k (by decide)]
  by_cases c1 : cN x 0 99 = 0
  · rw [if_pos c1]
    by_cases c2 : σ 0 7 < 12
    · rw [if_pos c2]
      refine key _ ?_
      unfold eRow cF
      have := ti_lt c2
      rw [tz_12] at this
      rw [if_pos c1, if_pos this, c1]
    · rw [if_neg c2]
      refine key _ ?_
      unfold eRow cF
      have := ti_nlt c2
      rw [tz_12] at this
      rw [if_pos c1, if_neg (by omega)]
  · rw [if_neg c1]
    refine key _ ?_
    unfold eRow cF
    rw [if_neg c1]
theorem cm_row {F : Nat} {x : Int32} {σ : Mem} (b : 0 ≤ (σ 101 34).toInt ∧ (σ 101 34).toInt ≤ 12) : pc (f_X4_row F x σ) (mR (eRow (σ 101 34) x) (fun r s => s 121 = upd (σ 121) (σ 101 34).toNatClampNeg x ∧ s 101 34 = σ 101 34 + 1 ∧ r = s 101 34) σ) := by
  rw [f_X4_row_e]
  simp only [j_X4_row_31_e]
  refine pc_lt (fun s3 h3 => ?_)
  have k7 : ∀ k i, ¬ (k = 101 ∧ i = 10) → s3 k i = σ k i := by rw [h3]; exact th_k
  have e15 : s3 101 34 = σ 101 34 := k7 _ _ (by omega)
  rw [e15]
  refine pc_ite (fun c => ?_) (fun c => ?_)
  · have d := ti_le c
    rw [tz_0] at d
    refine pc_ite (fun c2 => ?_) (fun c2 => ?_)
    · have d2 := ti_lt c2
      rw [tz_99] at d2
      have e : eRow (σ 101 34) x = -6 := by unfold eRow; rw [(cN_3 (a := 0) (b := 99)).2 (by rw [tz_0]; exact d) (by rw [tz_99]; exact d2)]; rfl
      rw [e]; exact mR_ref (by decide) k7
    · have d2 := ti_nlt c2
      rw [tz_99] at d2
      have e0 : cN x 0 99 = 0 := cN_t (by rw [tz_0]; exact d) (by rw [tz_99]; exact d2)
      refine pc_ite (fun c3 => ?_) (fun c3 => ?_)
      · have d3 := ti_eq c3
        rw [tz_12] at d3
        have e : eRow (σ 101 34) x = -6 := by unfold eRow cF; rw [if_pos e0, if_neg (by omega)]
        rw [e]; exact mR_ref (by decide) k7
      · have d3 := ti_ne c3
        rw [tz_12] at d3
        have e : eRow (σ 101 34) x = 0 := by unfold eRow cF; rw [if_pos e0, if_pos (by omega)]
        rw [e]
        refine pc_chk (fun _ => pc_lt (fun s5 h5 => pc_lt (fun s6 h6 => pc_ret ⟨fun _ => ⟨?_, ?_, rfl⟩, fun n => absurd rfl n⟩)))
        · rw [h6, up2_k (by decide), h5]; unfold up2; rw [if_pos rfl, show s3 121 = σ 121 from funext fun i => k7 121 i (by omega)]
        · rw [h6, up2_s, h5, up2_k (by decide), e15]
  · have d := ti_nle c
    rw [tz_0] at d
    have e : eRow (σ 101 34) x = -4 := by unfold eRow; rw [(cN_3 (a := 0) (b := 99)).1 (by rw [tz_0]; exact d)]; rfl
    rw [e]; exact mR_ref (by decide) k7
theorem list_more {n : Nat} {y : Int32} {f g f' g' : Nat → Int32} {x : Int32} (h : ∀ i, i < n → f i = g i) (hy : y.toNatClampNeg = n) (hf : f' = upd f y.toNatClampNeg x) (hg : g' = upd g y.toNatClampNeg x) : ∀ i, i < n + 1 → f' i = g' i := fun i hi => by
  rw [hf, hg, hy]
  by_cases e : i = n
  · subst e; rw [wv_us, wv_us]
  · rw [wv_un e, wv_un e]; exact h i (by omega)
theorem mu_feed {F lim : Nat} {σ : Mem} {x : Int32} (hF : 73786976294838206464 ≤ F) (hl : 28 ≤ lim ∧ lim ≤ 188) (h : wR lim σ) : ∃ r1 s1 r2 s2, f_X3_feed F x σ = some (r1, s1) ∧ f_X4_feed F x s1 = some (r2, s2) ∧ wR lim s2 ∧ r1 = r2 := by
  obtain ⟨hX, hM, hV, hI, hS, hL, hW⟩ := id h
  refine two (pc_sf (s_X3_feed (x1 := x) (by omega) hX) (pc_and (cx_feed (wx_X1_1 hX)) (pc_pf (fr_X3_feed (by omega))))) (fun a s q => pc_sf (s_X4_feed (x1 := x) hF (wm_congr hM q.1.2.1)) (pc_and (cm_feed (wx_X4_15 (wm_congr hM q.1.2.1))) (pc_pf (fr_X4_feed (by omega))))) (fun a s b z q1 q2 => ?_)
  obtain ⟨⟨x1, x2, -⟩, c1, f1⟩ := q1
  obtain ⟨⟨m1, m2, -⟩, c2, f2⟩ := q2
  rw [x2 101 (by decide), ← hL.1, x2 111 (by decide)] at c2
  by_cases c : eFeed (σ 83 1) x = 0
  · obtain ⟨g1, g2, g3⟩ := c1.1 c
    obtain ⟨n1, n2, n3⟩ := c2.1 c
    have agC : ∀ C : Nat → Prop, (∀ c, C c → ¬ (c = 84 ∨ c = 86 ∨ c = 4001 ∨ c = 108 ∨ c = 111 ∨ c = 1010 ∨ c = 1015)) → ag C σ z := fun C hC => ag_tr (ag_fr f1 (fun c hc => by have := hC c hc; show ¬ _; unfold wf_18; omega)) (ag_fr f2 (fun c hc => by have := hC c hc; show ¬ _; unfold wf_50; omega))
    have e1 : z 83 1 = z 101 15 := by rw [m2 83 (by decide), g2, n2]
    refine ⟨⟨wx_congr x1 m2, m1, rV_ag hl hV (agC _ (fun c hc => by unfold cV cX cM at hc; omega)), rI_ag hl hI (agC _ (fun c hc => by unfold cI at hc; omega)), rS_ag hV.1 hS (agC _ (fun c hc => by unfold cS cM at hc; omega)), ⟨e1, fun i hi => ?_⟩, rW_ag hW (agC _ (fun c hc => by unfold cW at hc; omega))⟩, by rw [g3, n3, g2, n2]⟩
    have b1 := wx_X1_1 hX
    have hle : (σ 83 1).toInt < 96 := by
      have := (cF_0 c).2
      by_cases d : (σ 83 1).toInt < 96
      · exact d
      · rw [if_neg d] at this; exact absurd this (by decide)
    have hn : (z 101 15).toNatClampNeg = (σ 83 1).toNatClampNeg + 1 := by
      rw [n2, ti_nat, ti_nat, ti_add (by rw [tz_1]; omega) (by rw [tz_1]; omega), tz_1]; omega
    rw [hn] at hi
    rw [m2 84 (by decide)]
    exact list_more (fun i hi => hL.2 i (by rw [← hL.1]; exact hi)) rfl g1 n1 i hi
  · obtain ⟨g1, g2⟩ := c1.2 c
    obtain ⟨n1, n2⟩ := c2.2 c
    exact ⟨fin_bad hl h x1 m1 m2 g2 n2, by rw [g1, n1]⟩
theorem mu_row {F lim : Nat} {σ : Mem} {x : Int32} (hF : 73786976294838206464 ≤ F) (hl : 28 ≤ lim ∧ lim ≤ 188) (h : wR lim σ) : ∃ r1 s1 r2 s2, f_X3_row F x σ = some (r1, s1) ∧ f_X4_row F x s1 = some (r2, s2) ∧ wR lim s2 ∧ r1 = r2 := by
  obtain ⟨hX, hM, hV, hI, hS, hL, hW⟩ := id h
  refine two (pc_sf (s_X3_row (x1 := x) (by omega) hX) (pc_and cx_row (pc_pf (fr_X3_row (by omega))))) (fun a s q => pc_sf (s_X4_row (x1 := x) hF (wm_congr hM q.1.2.1)) (pc_and (cm_row (wx_X4_34 (wm_congr hM q.1.2.1))) (pc_pf (fr_X4_row (by omega))))) (fun a s b z q1 q2 => ?_)
  obtain ⟨⟨x1, x2, -⟩, c1, f1⟩ := q1
  obtain ⟨⟨m1, m2, -⟩, c2, f2⟩ := q2
  rw [x2 101 (by decide), ← hW.1, x2 121 (by decide)] at c2
  by_cases c : eRow (σ 0 7) x = 0
  · obtain ⟨g1, g2, g3⟩ := c1.1 c
    obtain ⟨n1, n2, n3⟩ := c2.1 c
    have agC : ∀ C : Nat → Prop, (∀ c, C c → ¬ (c = 85 ∨ c = 86 ∨ c = 2007 ∨ c = 108 ∨ c = 121 ∨ c = 1010 ∨ c = 1034)) → ag C σ z := fun C hC => ag_tr (ag_fr f1 (fun c hc => by have := hC c hc; show ¬ _; unfold wf_39; omega)) (ag_fr f2 (fun c hc => by have := hC c hc; show ¬ _; unfold wf_73; omega))
    have e1 : z 0 7 = z 101 34 := by rw [m2 0 (by decide), g2, n2]
    refine ⟨⟨wx_congr x1 m2, m1, rV_ag hl hV (agC _ (fun c hc => by unfold cV cX cM at hc; omega)), rI_ag hl hI (agC _ (fun c hc => by unfold cI at hc; omega)), rS_ag hV.1 hS (agC _ (fun c hc => by unfold cS cM at hc; omega)), rL_ag hL (agC _ (fun c hc => by unfold cL at hc; omega)), ⟨e1, fun i hi => ?_⟩⟩, by rw [g3, n3, g2, n2]⟩
    have b1 := wx_X3_7 hX
    have hn : (z 101 34).toNatClampNeg = (σ 0 7).toNatClampNeg + 1 := by
      rw [n2, ti_nat, ti_nat, ti_add (by rw [tz_1]; omega) (by rw [tz_1]; omega), tz_1]; omega
    rw [hn] at hi
    rw [m2 85 (by decide)]
    exact list_more (fun i hi => hW.2 i (by rw [← hW.1]; exact hi)) rfl g1 n1 i hi
  · obtain ⟨g1, g2⟩ := c1.2 c
    obtain ⟨n1, n2⟩ := c2.2 c
    exact ⟨fin_bad hl h x1 m1 m2 g2 n2, by rw [g1, n1]⟩
/-- the row: as it was, or none -/
theorem row_z {σ z : Mem} (hW : rW σ) (a : ag cW σ z ∨ (ag (fun c => c = 85 ∨ c = 121) σ z ∧ (z 0 7).toInt = 0 ∧ (z 101 34).toInt = 0)) : rW z := by
  rcases a with a | ⟨-, a, b⟩
  · exact rW_ag hW a
  · refine ⟨Int32.toInt_inj.mp (by rw [a, b]), fun i hi => ?_⟩
    rw [ti_nat, b] at hi
    exact absurd hi (Nat.not_lt_zero i)
theorem mu_clear {F lim : Nat} {σ : Mem} (hF : 73786976294838206464 ≤ F) (hl : 28 ≤ lim ∧ lim ≤ 188) (h : wR lim σ) : ∃ r1 s1 r2 s2, f_X3_clear F σ = some (r1, s1) ∧ f_X4_clear F s1 = some (r2, s2) ∧ wR lim s2 ∧ r1 = r2 := by
  obtain ⟨hX, hM, hV, hI, hS, hL, hW⟩ := id h
  refine two (pc_sf (s_X3_clear (by omega) hX) (pc_pf (fr_X3_clear (by omega)))) (fun a s q => pc_sf (s_X4_clear hF (wm_congr hM q.1.2.1)) (pc_pf (fr_X4_clear (by omega)))) (fun a s b z q1 q2 => ?_)
  obtain ⟨⟨x1, x2, -, -, -, y1, y2⟩, f1⟩ := q1
  obtain ⟨⟨m1, m2, -, -, -, -, -, -, w1, w2⟩, f2⟩ := q2
  have agC : ∀ C : Nat → Prop, (∀ c, C c → ¬ (c = 2007 ∨ c = 1010 ∨ c = 1034)) → ag C σ z := fun C hC => ag_tr (ag_fr f1 (fun c hc => by have := hC c hc; show ¬ _; unfold wf_41; omega)) (ag_fr f2 (fun c hc => by have := hC c hc; show ¬ _; unfold wf_75; omega))
  have e7 : (σ 0 7).toInt = (σ 101 34).toInt := congrArg Int32.toInt hW.1
  have es : (s 101 34).toInt = (σ 101 34).toInt := by rw [x2 101 (by decide)]
  refine ⟨⟨wx_congr x1 m2, m1, rV_ag hl hV (agC _ (fun c hc => by unfold cV cX cM at hc; omega)), rI_ag hl hI (agC _ (fun c hc => by unfold cI at hc; omega)), rS_ag hV.1 hS (agC _ (fun c hc => by unfold cS cM at hc; omega)), rL_ag hL (agC _ (fun c hc => by unfold cL at hc; omega)), row_z hW (Or.inr ⟨agC _ (fun c hc => by omega), by rw [m2 0 (by decide)]; exact y2, w2⟩)⟩, Int32.toInt_inj.mp (by omega)⟩
theorem mu_judge {F lim : Nat} {σ : Mem} {x : Int32} (hF : 73786976294838206464 ≤ F) (hl : 28 ≤ lim ∧ lim ≤ 188) (h : wR lim σ) : ∃ r1 s1 r2 s2, f_X3_judge F x σ = some (r1, s1) ∧ f_X4_judge F x s1 = some (r2, s2) ∧ wR lim s2 := by
  obtain ⟨hX, hM, hV, hI, hS, hL, hW⟩ := id h
  refine two (pc_sf (s_X3_judge (x1 := x) (by omega) hX) (pc_pf (fr_X3_judge (by omega)))) (fun a s q => pc_sf (s_X4_judge (x1 := x) hF (wm_congr hM q.1.2.1)) (pc_pf (fr_X4_judge (by omega)))) (fun a s b z q1 q2 => ?_)
  obtain ⟨⟨x1, x2, -, -, -, y2⟩, f1⟩ := q1
  obtain ⟨⟨m1, m2, -, -, -, -, -, -, w2⟩, f2⟩ := q2
  have agC : ∀ C : Nat → Prop, (∀ c, C c → ¬ (c = 2007 ∨ c = 1010 ∨ c = 1034 ∨ (19 ≤ c ∧ c ≤ 23) ∨ c = 86 ∨ (108 ≤ c ∧ c ≤ 110))) → ag C σ z := fun C hC => ag_tr (ag_fr f1 (fun c hc => by have := hC c hc; show ¬ _; unfold wf_40; omega)) (ag_fr f2 (fun c hc => by have := hC c hc; show ¬ _; unfold wf_74; omega))
  have e7 : (σ 0 7).toInt = (σ 101 34).toInt := congrArg Int32.toInt hW.1
  have es : (s 101 34).toInt = (σ 101 34).toInt := by rw [x2 101 (by decide)]
  have ez : (z 0 7).toInt = (s 0 7).toInt := by rw [m2 0 (by decide)]
  have hr : rW z := by
    refine ⟨Int32.toInt_inj.mp (by omega), fun i hi => ?_⟩
    have a85 := agC (fun c => c = 85 ∨ c = 121) (fun c hc => by omega)
    rw [a85 85 i (Or.inl rfl), a85 121 i (Or.inr rfl)]
    refine hW.2 i ?_
    have t1 := ti_nat (z 101 34)
    have t2 := ti_nat (σ 101 34)
    omega
  exact ⟨wx_congr x1 m2, m1, rV_ag hl hV (agC _ (fun c hc => by unfold cV cX cM at hc; omega)), rI_ag hl hI (agC _ (fun c hc => by unfold cI at hc; omega)), rS_ag hV.1 hS (agC _ (fun c hc => by unfold cS cM at hc; omega)), rL_ag hL (agC _ (fun c hc => by unfold cL at hc; omega)), hr⟩
