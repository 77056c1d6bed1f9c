section
/-! both sides, one after the other -/
theorem two {α β : Type} {o1 : Option (α × Mem)} {o2 : Mem → Option (β × Mem)} {Q1 : α → Mem → Prop} {Q2 : Mem → β → Mem → Prop} {R : α → β → Mem → Prop} (h1 : sf o1 Q1) (h2 : ∀ a s, Q1 a s → sf (o2 s) (Q2 s)) (k : ∀ a s b z, Q1 a s → Q2 s b z → R a b z) : ∃ r1 s1 r2 s2, o1 = some (r1, s1) ∧ o2 s1 = some (r2, s2) ∧ R r1 r2 s2 := by
  obtain ⟨a, s, e, q⟩ := h1
  obtain ⟨b, z, e2, q2⟩ := h2 a s q
  exact ⟨a, s, b, z, e, e2, k a s b z q q2⟩
theorem fin {lim : Nat} {σ s z : Mem} (hl : 28 ≤ lim ∧ lim ≤ 188) (h : wR lim σ) (x1 : wiX s) (m1 : wiM z) (m2 : ∀ k, k < 101 → z k = s k) (hag : ag cIW σ z) (hV : rV lim z) (hS : rS z) : wR lim z := by
  obtain ⟨-, -, -, hI, -, hL, hW⟩ := h
  exact ⟨wx_congr x1 m2, m1, hV, rI_ag hl hI (ag_mono hag (fun c q => Or.inl q)), hS, rL_ag hL (ag_mono hag (fun c q => Or.inr (Or.inl q))), rW_ag hW (ag_mono hag (fun c q => Or.inr (Or.inr q)))⟩
theorem ag_bad {C : Nat → Prop} {σ s z : Mem} (b1 : ∀ k, k ≠ 86 → s k = σ k) (b2 : ∀ k i, k ≠ 108 → ¬ (k = 101 ∧ i = 10) → z k i = s k i) (hC : ∀ c, C c → c ≠ 86 ∧ c ≠ 108 ∧ c ≠ 1010) : ag C σ z := fun k i hc => by
  obtain ⟨h1, h2, h3⟩ := hC _ hc
  rw [b2 k i (fun e => by subst e; exact h2 rfl) (fun e => by obtain ⟨rfl, rfl⟩ := e; exact h3 rfl), b1 k (fun e => by subst e; exact h1 rfl)]
theorem fin_bad {lim : Nat} {σ s z : Mem} (hl : 28 ≤ lim ∧ lim ≤ 188) (h : wR lim σ) (x1 : wiX s) (m1 : wiM z) (m2 : ∀ k, k < 101 → z k = s k) (b1 : ∀ k, k ≠ 86 → s k = σ k) (b2 : ∀ k i, k ≠ 108 → ¬ (k = 101 ∧ i = 10) → z k i = s k i) : wR lim z := by
  refine fin hl h x1 m1 m2 (ag_bad b1 b2 ?_) (rV_ag hl h.2.2.1 (ag_bad b1 b2 ?_)) (rS_ag h.2.2.1.1 h.2.2.2.2.1 (ag_bad b1 b2 ?_))
  · intro c hc; unfold cIW cI cL cW at hc; omega
  · intro c hc; unfold cV cX cM at hc; omega
  · intro c hc; unfold cS cM at hc; omega
/-- what both sides' houses are, from what each did -/
theorem rV_mk {lim : Nat} {s z : Mem} (hl : 28 ≤ lim ∧ lim ≤ 188) {A B : Nat → Int32} (m2 : ∀ k, k < 101 → z k = s k) (hA : ∀ p, p < lim → wvX 1 s p = A p) (hB : ∀ p, p < lim → wvM z p = B p) (hB2 : ∀ p, p < 148 → wvM z p = B p) (hv : wvV B) (hw : weq lim B A) : rV lim z := by
  refine ⟨wvV_lo hv hB2, weq_cg hw hl.1 hB (fun p hp => ?_)⟩
  rw [← hA p hp]
  exact wvX_eq (fun p hp => by have := wvJ_le p hp; rw [m2 _ (by omega)]) (by omega)
theorem eMV {σ s : Mem} (e : ∀ k, 101 ≤ k → s k = σ k) : ∀ p, p < 188 → wvM s p = wvM σ p := fun p hp => by
  unfold wvM
  rw [e _ (wtJ_101 p hp).1]
theorem mu_pane {F lim : Nat} {σ : Mem} {x : Int32} (hF : 73786976294838206464 ≤ F) (hl : 28 ≤ lim ∧ lim ≤ 188) (h : wR lim σ) : ∃ r1 s1 r2 s2, f_X3_pane F x σ = some (r1, s1) ∧ f_X4_pane F x s1 = some (r2, s2) ∧ wR lim s2 ∧ r1 = r2 := by
  obtain ⟨hX, hM, hV, hI, hS, hL, hW⟩ := id h
  refine two (pc_sf (s_X3_pane (by omega) hX) (pc_and (cx_pane (wx_X0_0 hX wt_h1)) (pc_pf (fr_X3_pane (by omega))))) (fun a s q => pc_sf (s_X4_pane hF (wm_congr hM q.1.2.1)) (pc_and (cm_pane (wx_X4_1 (wm_congr hM q.1.2.1))) (pc_pf (fr_X4_pane (by omega))))) (fun a s b z q1 q2 => ?_)
  obtain ⟨⟨x1, x2, -⟩, c1, f1⟩ := q1
  obtain ⟨⟨m1, m2, -⟩, c2, f2⟩ := q2
  have e0 : σ 1 0 = σ 101 1 := weq_lo hV.2 hl.1 (p := 0) (by decide)
  have es : s 101 1 = σ 101 1 := by rw [x2 101 (by decide)]
  rw [es, ← e0] at c2
  by_cases c : ePane (σ 1 0) x = 0
  · obtain ⟨g1, g2, g3⟩ := c1.1 c
    obtain ⟨n1, n2, n3⟩ := c2.1 c
    have hx : (wvM σ 0).toInt < 6 := by
      have := (cF_0 c).2
      show (σ 101 1).toInt < 6
      rw [← e0]
      by_cases d : (σ 1 0).toInt < 6
      · exact d
      · rw [if_neg d] at this; exact absurd this (by decide)
    have n1' : ∀ p, p < 188 → wvM z p = aPane (wvM σ) x p := fun p hp => by
      rw [n1 p hp]
      unfold aPane
      rw [eMV x2 0 (by decide)]
      exact upd_cg (upd_cg (eMV x2 p hp) rfl) rfl
    refine ⟨fin hl h x1 m1 m2 (ag_tr (ag_fr f1 ?_) (ag_fr f2 ?_)) (rV_mk hl m2 (fun p hp => g1 p (by omega)) (fun p hp => n1' p (by omega)) (fun p hp => n1' p (by omega)) (wvV_aPane hV.1 hx) (weq_aPane hV.2 hl.1 x)) (rS_0 (by rw [m2 70 (by decide)]; exact g3) n3), ?_⟩
    · intro c hc; unfold cIW cI cL cW at hc; show ¬ _; unfold wf_22; omega
    · intro c hc; unfold cIW cI cL cW at hc; show ¬ _; unfold wf_62; omega
    · rw [g2, n2]
      have h1 : s 1 0 = aPane (wvX 1 σ) x 0 := g1 0 (by decide)
      have h2 : z 101 1 = aPane (wvM σ) x 0 := n1' 0 (by decide)
      rw [h1, h2]
      unfold aPane
      rw [wv_us, wv_us, show wvX 1 σ 0 = wvM σ 0 from e0]
  · obtain ⟨g1, g2⟩ := c1.2 c
    obtain ⟨n1, n2⟩ := c2.2 c
    exact ⟨fin_bad hl h x1 m1 m2 g2 n2, by rw [g1, n1]⟩
theorem mu_looker {F lim : Nat} {σ : Mem} {k f : Int32} (hF : 73786976294838206464 ≤ F) (hl : 28 ≤ lim ∧ lim ≤ 188) (h : wR lim σ) : ∃ r1 s1 r2 s2, f_X3_looker F k f σ = some (r1, s1) ∧ f_X4_looker F k f s1 = some (r2, s2) ∧ wR lim s2 ∧ r1 = r2 := by
  obtain ⟨hX, hM, hV, hI, hS, hL, hW⟩ := id h
  refine two (pc_sf (s_X3_looker (by omega) hX) (pc_and (cx_looker (wx_X0_2 hX wt_h1)) (pc_pf (fr_X3_looker (by omega))))) (fun a s q => pc_sf (s_X4_looker hF (wm_congr hM q.1.2.1)) (pc_and (cm_looker (wx_X4_3 (wm_congr hM q.1.2.1))) (pc_pf (fr_X4_looker (by omega))))) (fun a s b z q1 q2 => ?_)
  obtain ⟨⟨x1, x2, -⟩, c1, f1⟩ := q1
  obtain ⟨⟨m1, m2, -⟩, c2, f2⟩ := q2
  have e0 : σ 1 2 = σ 101 3 := weq_lo hV.2 hl.1 (p := 1) (by decide)
  have es : s 101 3 = σ 101 3 := by rw [x2 101 (by decide)]
  rw [es, ← e0] at c2
  by_cases c : eLooker (σ 1 2) k f = 0
  · obtain ⟨g1, g2, g3⟩ := c1.1 c
    obtain ⟨n1, n2, n3⟩ := c2.1 c
    have hx : (wvM σ 1).toInt < 5 := by
      have := (cF_0 c).2
      show (σ 101 3).toInt < 5
      rw [← e0]
      by_cases d : (σ 1 2).toInt < 5
      · exact d
      · rw [if_neg d] at this; exact absurd this (by decide)
    have n1' : ∀ p, p < 188 → wvM z p = aLooker (wvM σ) k f p := fun p hp => by
      rw [n1 p hp]
      unfold aLooker
      rw [eMV x2 1 (by decide), eMV x2 p hp]
    refine ⟨fin hl h x1 m1 m2 (ag_tr (ag_fr f1 ?_) (ag_fr f2 ?_)) (rV_mk hl m2 (fun p hp => g1 p (by omega)) (fun p hp => n1' p (by omega)) (fun p hp => n1' p (by omega)) (wvV_aLooker hV.1 hx) (weq_aLooker hV.2 hl.1 ⟨hV.1.2.1.1, hx⟩)) (rS_0 (by rw [m2 70 (by decide)]; exact g3) n3), ?_⟩
    · intro c hc; unfold cIW cI cL cW at hc; show ¬ _; unfold wf_23; omega
    · intro c hc; unfold cIW cI cL cW at hc; show ¬ _; unfold wf_63; omega
    · rw [g2, n2]
      have h1 : s 1 2 = aLooker (wvX 1 σ) k f 1 := g1 1 (by decide)
      have h2 : z 101 3 = aLooker (wvM σ) k f 1 := n1' 1 (by decide)
      rw [h1, h2, aLooker_1, aLooker_1, show wvX 1 σ 1 = wvM σ 1 from e0]
  · obtain ⟨g1, g2⟩ := c1.2 c
    obtain ⟨n1, n2⟩ := c2.2 c
    exact ⟨fin_bad hl h x1 m1 m2 g2 n2, by rw [g1, n1]⟩
theorem ag_put {W : Nat → Prop} {σ s z : Mem} (f1 : fr W σ s) (hW : ∀ c, cIW c → ¬ W c) (a2 : ag cIW s z) : ag cIW σ z := ag_tr (ag_fr f1 hW) a2
/-- the ring, the class's other slots -/
theorem put_slot {σ s : Mem} {w x old : Int32} (h : wsPut σ s w x old) : ∀ i, i < 8 → i ≠ wsSlot σ → s 71 i = σ 71 i ∧ s 72 i = σ 72 i ∧ s 73 i = σ 73 i ∧ s (75 + i) = σ (75 + i) := fun i hi hn => by
  obtain ⟨h1, h2, h3, h4, h5⟩ := h
  exact ⟨by rw [h2, wv_un hn], by rw [h3, wv_un hn], by rw [h4, wv_un hn], h5 _ (by omega) (by omega)⟩
theorem putR_slot {σ s : Mem} {x : Int32} {f : Nat → Int32} (h : wsPutR σ s x f) : ∀ i, i < 8 → i ≠ wsSlot σ → s 71 i = σ 71 i ∧ s 72 i = σ 72 i ∧ s 73 i = σ 73 i ∧ s (75 + i) = σ (75 + i) := fun i hi hn => by
  obtain ⟨h1, h2, h3, h4, h5, h6⟩ := h
  exact ⟨by rw [h2, wv_un hn], by rw [h3, wv_un hn], by rw [h5], h6 _ (by omega) (by omega) (by omega)⟩
theorem kept_s {σ s z : Mem} (x2 : ∀ k, 101 ≤ k → s k = σ k) (h : wsKept s z) : wsKept σ z := by
  obtain ⟨t, d, h1, h2, h3, h4⟩ := h
  rw [x2 101 (by decide)] at h1
  rw [x2 117 (by decide)] at h3
  exact ⟨t, d, h1, h2, h3, fun p hp => by rw [h4 p hp, eMV x2 p hp]⟩
theorem ring_z {σ s z : Mem} (h : wsRing σ s) (e : z 70 = s 70) : wsRing σ z := by
  unfold wsRing at h ⊢
  rw [e]
  exact h
theorem mu_law {F lim : Nat} {σ : Mem} {x : Int32} (hF : 73786976294838206464 ≤ F) (hl : 28 ≤ lim ∧ lim ≤ 188) (h : wR lim σ) : ∃ r1 s1 r2 s2, f_X3_law F x σ = some (r1, s1) ∧ f_X4_law F x s1 = some (r2, s2) ∧ wR lim s2 ∧ r1 = r2 := by
  obtain ⟨hX, hM, hV, hI, hS, hL, hW⟩ := id h
  refine two (pc_sf (s_X3_law (by omega) hX) (pc_and (cx_law (by omega) (wx_X2_4 hX) (wx_X2_5 hX)) (pc_pf (fr_X3_law (by omega))))) (fun a s q => pc_sf (s_X4_law hF (wm_congr hM q.1.2.1)) (cm_law hF (wm_congr hM q.1.2.1))) (fun a s b z q1 q2 => ?_)
  obtain ⟨⟨x1, x2, -⟩, c1, f1⟩ := q1
  obtain ⟨⟨m1, m2, -⟩, c2⟩ := q2
  have e2 : σ 1 8 = σ 101 8 := weq_lo hV.2 hl.1 (p := 2) (by decide)
  by_cases c : cO x 3 = 0
  · obtain ⟨g1, g2, g3⟩ := c1.1 c
    obtain ⟨n1, n2, n3, n4⟩ := c2.1 c
    have hx := cO_0 c
    rw [tz_3] at hx
    have n1' : ∀ p, p < 188 → wvM z p = aLaw (wvM σ) x p := fun p hp => by
      rw [n1 p hp]
      unfold aLaw
      exact upd_cg (eMV x2 p hp) rfl
    have g3z : wsPut σ z 3 0 (σ 1 8) := wsPut_k g3 (fun k a b => m2 k (by omega))
    refine ⟨fin hl h x1 m1 m2 (ag_put f1 ?_ n4) (rV_mk hl m2 (fun p hp => g1 p (by omega)) (fun p hp => n1' p (by omega)) (fun p hp => n1' p (by omega)) (wvV_aLaw hV.1 ⟨hx.1, by omega⟩) (weq_aLaw hV.2)) (rS_push hV.1 hS (wx_X2_4 hX) (wx_X2_5 hX) g3z.1 (put_slot g3z) (kept_s x2 n3) (Or.inr (Or.inr (Or.inr ⟨?_, ?_, ?_, fun p hp hn => ?_⟩)))), ?_⟩
    · intro c hc; unfold cIW cI cL cW at hc; show ¬ _; unfold wf_27; omega
    · rw [g3z.2.1, wv_us]
    · rw [g3z.2.2.2.1, wv_us, e2]; exact hV.1.2.2.1
    · rw [g3z.2.2.2.1, wv_us, e2]; rfl
    · rw [n1' p hp]; unfold aLaw; rw [wv_un hn]
    · rw [g2, n2, e2, x2 101 (by decide)]
  · obtain ⟨g1, g2⟩ := c1.2 c
    obtain ⟨n1, n2⟩ := c2.2 c
    exact ⟨fin_bad hl h x1 m1 m2 g2 n2, by rw [g1, n1]⟩
theorem mu_worth {F lim : Nat} {σ : Mem} {v x : Int32} (hF : 73786976294838206464 ≤ F) (hl : 28 ≤ lim ∧ lim ≤ 188) (h : wR lim σ) : ∃ r1 s1 r2 s2, f_X3_worth F v x σ = some (r1, s1) ∧ f_X4_worth F v x s1 = some (r2, s2) ∧ wR lim s2 ∧ r1 = r2 := by
  obtain ⟨hX, hM, hV, hI, hS, hL, hW⟩ := id h
  refine two (pc_sf (s_X3_worth (by omega) hX) (pc_and (cx_worth (by omega) (wx_X2_4 hX) (wx_X2_5 hX)) (pc_pf (fr_X3_worth (by omega))))) (fun a s q => pc_sf (s_X4_worth hF (wm_congr hM q.1.2.1)) (cm_worth hF (wm_congr hM q.1.2.1))) (fun a s b z q1 q2 => ?_)
  obtain ⟨⟨x1, x2, -⟩, c1, f1⟩ := q1
  obtain ⟨⟨m1, m2, -⟩, c2⟩ := q2
  by_cases c : cF (cB (0 ≤ v.toInt ∧ v.toInt ≤ 7)) (cN x 0 9) = 0
  · obtain ⟨g1, g2, g3⟩ := c1.1 c
    obtain ⟨n1, n2, n3, n4⟩ := c2.1 c
    obtain ⟨hb, hx⟩ := cF_0 c
    have hb := cB_0 hb
    have hx := cN_0 hx
    rw [tz_0, tz_9] at hx
    have hn : v.toNatClampNeg < 8 := tn_lt hb.1 (by omega)
    have hv : v.toInt = (v.toNatClampNeg : Int) := by rw [ti_nat]; omega
    have hj := wvJI_16 _ hn
    have hk := wtJI_102 _ hn
    have eX : wvX 1 σ (4 + v.toNatClampNeg) = σ 17 v.toNatClampNeg := by unfold wvX; rw [wvE_o (Or.inl (by omega)), ← hj.1, ← hj.2]
    have eM : wvM σ (4 + v.toNatClampNeg) = σ 102 v.toNatClampNeg := by unfold wvM; rw [hk.1, hk.2]
    have e2 : σ 17 v.toNatClampNeg = wvM σ (4 + v.toNatClampNeg) := by rw [← eX]; exact weq_lo hV.2 hl.1 (by omega)
    have n1' : ∀ p, p < 188 → wvM z p = aWorth (wvM σ) v x p := fun p hp => by
      rw [n1 p hp]
      unfold aWorth
      exact upd_cg (eMV x2 p hp) rfl
    have g3z : wsPut σ z 2 v (σ 17 v.toNatClampNeg) := wsPut_k g3 (fun k a b => m2 k (by omega))
    refine ⟨fin hl h x1 m1 m2 (ag_put f1 ?_ n4) (rV_mk hl m2 (fun p hp => g1 p (by omega)) (fun p hp => n1' p (by omega)) (fun p hp => n1' p (by omega)) (wvV_aWorth hV.1 hn hx) (weq_aWorth hV.2)) (rS_push hV.1 hS (wx_X2_4 hX) (wx_X2_5 hX) g3z.1 (put_slot g3z) (kept_s x2 n3) (Or.inr (Or.inr (Or.inl ⟨?_, v.toNatClampNeg, ?_, hn, ?_, ?_, fun p hp hn => ?_⟩)))), ?_⟩
    · intro c hc; unfold cIW cI cL cW at hc; show ¬ _; unfold wf_26; omega
    · rw [g3z.2.1, wv_us]
    · rw [g3z.2.2.1, wv_us]; exact hv
    · rw [g3z.2.2.2.1, wv_us, e2]; exact hV.1.2.2.2.1 _ (by omega) (by omega)
    · rw [g3z.2.2.2.1, wv_us, e2]
    · rw [n1' p hp]; unfold aWorth; rw [wv_un hn]
    · rw [g2, n2, e2, eM, x2 102 (by decide)]
  · obtain ⟨g1, g2⟩ := c1.2 c
    obtain ⟨n1, n2⟩ := c2.2 c
    exact ⟨fin_bad hl h x1 m1 m2 g2 n2, by rw [g1, n1]⟩
theorem mu_wall {F lim : Nat} {σ : Mem} {x v : Int32} (hF : 73786976294838206464 ≤ F) (hl : 28 ≤ lim ∧ lim ≤ 188) (h : wR lim σ) : ∃ r1 s1 r2 s2, f_X3_wall F x v σ = some (r1, s1) ∧ f_X4_wall F x v s1 = some (r2, s2) ∧ wR lim s2 ∧ r1 = r2 := by
  obtain ⟨hX, hM, hV, hI, hS, hL, hW⟩ := id h
  refine two (pc_sf (s_X3_wall (by omega) hX) (pc_and (cx_wall (by omega) (wx_X0_0 hX wt_h1).2 (wx_X2_4 hX) (wx_X2_5 hX)) (pc_pf (fr_X3_wall (by omega))))) (fun a s q => pc_sf (s_X4_wall hF (wm_congr hM q.1.2.1)) (cm_wall hF (wm_congr hM q.1.2.1))) (fun a s b z q1 q2 => ?_)
  obtain ⟨⟨x1, x2, -⟩, c1, f1⟩ := q1
  obtain ⟨⟨m1, m2, -⟩, c2⟩ := q2
  have e0 : σ 1 0 = σ 101 1 := weq_lo hV.2 hl.1 (p := 0) (by decide)
  have es : s 101 1 = σ 101 1 := by rw [x2 101 (by decide)]
  rw [es, ← e0] at c2
  by_cases c : cF (cB (0 ≤ x.toInt ∧ x.toInt < (σ 1 0).toInt)) (cB (0 ≤ v.toInt ∧ v.toInt ≤ 7)) = 0
  · obtain ⟨g1, g2, g3⟩ := c1.1 c
    obtain ⟨n1, n2, n3, n4⟩ := c2.1 c
    obtain ⟨hb, hx⟩ := cF_0 c
    have hb := cB_0 hb
    have b6 := (wx_X0_0 hX wt_h1).2
    have hn : x.toNatClampNeg < 6 := tn_lt hb.1 (by omega)
    have hv : x.toInt = (x.toNatClampNeg : Int) := by rw [ti_nat]; omega
    have hj := wvJI_1 _ hn
    have hk := wtJI_103 _ hn
    have eX : ∀ s : Mem, wvX 1 s (12 + x.toNatClampNeg) = s 2 x.toNatClampNeg := fun s => by unfold wvX; rw [wvE_o (Or.inl (by omega)), ← hj.1, ← hj.2]
    have eM : ∀ s : Mem, wvM s (12 + x.toNatClampNeg) = s 103 x.toNatClampNeg := fun s => by unfold wvM; rw [hk.1, hk.2]
    have e2 : σ 2 x.toNatClampNeg = wvM σ (12 + x.toNatClampNeg) := by rw [← eX σ]; exact weq_lo hV.2 hl.1 (by omega)
    have n1' : ∀ p, p < 188 → wvM z p = aWall (wvM σ) x v p := fun p hp => by
      rw [n1 p hp]
      unfold aWall
      rw [eMV x2 _ (by omega)]
      exact upd_cg (eMV x2 p hp) rfl
    have g3z : wsPut σ z 1 x (σ 2 x.toNatClampNeg) := wsPut_k g3 (fun k a b => m2 k (by omega))
    refine ⟨fin hl h x1 m1 m2 (ag_put f1 ?_ n4) (rV_mk hl m2 (fun p hp => g1 p (by omega)) (fun p hp => n1' p (by omega)) (fun p hp => n1' p (by omega)) (wvV_aWall hV.1 hn) (weq_aWall hV.2 hl.1 hn)) (rS_push hV.1 hS (wx_X2_4 hX) (wx_X2_5 hX) g3z.1 (put_slot g3z) (kept_s x2 n3) (Or.inr (Or.inl ⟨?_, x.toNatClampNeg, ?_, ?_, ?_, fun p hp hn => ?_⟩))), ?_⟩
    · intro c hc; unfold cIW cI cL cW at hc; show ¬ _; unfold wf_25; omega
    · rw [g3z.2.1, wv_us]
    · rw [g3z.2.2.1, wv_us]; exact hv
    · rw [n1' 0 (by decide)]
      unfold aWall
      rw [wv_un (by omega), ← hv]
      show x.toInt < (σ 101 1).toInt
      rw [← e0]
      exact hb.2
    · rw [g3z.2.2.2.1, wv_us, e2]
    · rw [n1' p hp]; unfold aWall; rw [wv_un hn]
    · have h1 : s 2 x.toNatClampNeg = z 103 x.toNatClampNeg := by
        rw [← eX s, ← eM z, g1 _ (by omega), n1' _ (by omega)]
        unfold aWall
        rw [wv_us, wv_us, eX σ, e2]
      rw [g2, n2, h1]
  · obtain ⟨g1, g2⟩ := c1.2 c
    obtain ⟨n1, n2⟩ := c2.2 c
    exact ⟨fin_bad hl h x1 m1 m2 g2 n2, by rw [g1, n1]⟩
end
section
theorem wvV_X {lim : Nat} {σ : Mem} (hl : 148 ≤ lim) (h : rV lim σ) : wvV (wvX 1 σ) := by
  obtain ⟨hv, hw⟩ := h
  have e : ∀ p, p < 28 → wvX 1 σ p = wvM σ p := fun p hp => weq_lo hw (by omega) hp
  obtain ⟨h0, h1, h2, h3, h4⟩ := hv
  refine ⟨by rw [e 0 (by decide)]; exact h0, by rw [e 1 (by decide)]; exact h1, by rw [e 2 (by decide)]; exact h2, fun p a b => by rw [e p (by omega)]; exact h3 p a b, fun p a b c => ?_⟩
  have c' := live_1 (A := wvM σ) (e 1 (by decide)) c
  rw [hw p (by omega) c', e 0 (by decide)]
  exact h4 p a b c'
theorem mu_stands {F lim : Nat} {σ : Mem} {x1 x2 x3 x4 : Int32} (hF : 73786976294838206464 ≤ F) (hl : 148 ≤ lim ∧ lim ≤ 188) (h : wR lim σ) : ∃ r1 s1 r2 s2, f_X3_stands F x1 x2 x3 x4 σ = some (r1, s1) ∧ f_X4_stands F x1 x2 x3 x4 s1 = some (r2, s2) ∧ wR lim s2 ∧ r1 = r2 := by
  obtain ⟨hX, hM, hV, hI, hS, hL, hW⟩ := id h
  have hl2 : 28 ≤ lim ∧ lim ≤ 188 := by omega
  have hvX := wvV_X hl.1 hV
  refine two (pc_sf (s_X3_stands (by omega) hX) (pc_and (cx_stands (by omega) hvX (wx_X2_4 hX) (wx_X2_5 hX)) (pc_pf (fr_X3_stands (by omega))))) (fun a s q => pc_sf (s_X4_stands hF (wm_congr hM q.1.2.1)) (cm_stands hF (wm_congr hM q.1.2.1))) (fun a s b z q1 q2 => ?_)
  obtain ⟨⟨y1, y2, -⟩, c1, f1⟩ := q1
  obtain ⟨⟨m1, m2, -⟩, c2⟩ := q2
  have e0 : σ 1 0 = σ 101 1 := weq_lo hV.2 hl2.1 (p := 0) (by decide)
  have e1 : σ 1 2 = σ 101 3 := weq_lo hV.2 hl2.1 (p := 1) (by decide)
  have es0 : s 101 1 = σ 101 1 := by rw [y2 101 (by decide)]
  have es1 : s 101 3 = σ 101 3 := by rw [y2 101 (by decide)]
  rw [es0, es1, ← e0, ← e1] at c2
  by_cases c : eStands (σ 1 0).toInt (σ 1 2).toInt x1 x2 x3 x4 = 0
  · obtain ⟨g1, g2, g3⟩ := c1.1 c
    obtain ⟨n1, n2, n3, n4⟩ := c2.1 c
    have hc := eStands_0 c
    have hl1 : x1.toInt = (x1.toNatClampNeg : Int) := by have := hc.1; rw [ti_nat]; omega
    have hl5 : x1.toNatClampNeg < 5 := by have := hc.1; have := hvX.2.1.2; have e : (wvX 1 σ 1).toInt = (σ 1 2).toInt := rfl; omega
    have h24 : x2.toNatClampNeg < 24 ∧ x3.toNatClampNeg < 24 := by
      have t2 := ti_nat x2; have t3 := ti_nat x3; have := hc.2.1; have := hc.2.2.1; omega
    have hx4 : x4.toInt = 9 ∨ (0 ≤ x4.toInt ∧ x4.toInt < (wvM σ 0).toInt) := by
      have := hc.2.2.2.2
      rw [e0] at this
      exact this
    have n1' : ∀ p, p < 188 → wvM z p = aStand (wvM σ) x1.toNatClampNeg x2.toNatClampNeg x3.toNatClampNeg x4 p := fun p hp => by
      rw [n1 p hp]
      unfold aStand
      by_cases e : 28 + 24 * x1.toNatClampNeg + x2.toNatClampNeg ≤ p ∧ p ≤ 28 + 24 * x1.toNatClampNeg + x3.toNatClampNeg
      · rw [if_pos e, if_pos e]
      · rw [if_neg e, if_neg e, eMV y2 p hp]
    have g3z : wsPutR σ z x1 (σ (1 + 5 + x1.toNatClampNeg)) := wsPutR_k g3 (fun k a b => m2 k (by omega))
    have eR : ∀ t, t < 24 → wvX 1 σ (28 + 24 * x1.toNatClampNeg + t) = wvN (σ (1 + 5 + x1.toNatClampNeg) t) := fun t ht => by
      have hj := wvJI_5 _ hl5 t ht
      unfold wvX
      rw [wvE_i (by omega), ← hj.1, ← hj.2, show 1 + (5 + x1.toNatClampNeg) = 1 + 5 + x1.toNatClampNeg by omega]
    have lvp : ∀ t, t < 24 → live (wvM σ) (28 + 24 * x1.toNatClampNeg + t) := fun t ht => ⟨fun _ _ => by
      have := hc.1.2
      rw [e1] at this
      have e : wvM σ 1 = σ 101 3 := rfl
      have t3 := ti_nat (σ 101 3)
      rw [e]; omega, fun q => by omega⟩
    have eRM : ∀ t, t < 24 → wvM σ (28 + 24 * x1.toNatClampNeg + t) = wvN (σ (1 + 5 + x1.toNatClampNeg) t) := fun t ht => by
      rw [← eR t ht]; exact (hV.2 _ (by omega) (lvp t ht)).symm
    have bO : ∀ t, t < 24 → (σ (1 + 5 + x1.toNatClampNeg) t).toInt = 9 ∨ (0 ≤ (σ (1 + 5 + x1.toNatClampNeg) t).toInt ∧ (σ (1 + 5 + x1.toNatClampNeg) t).toInt < (wvM σ 0).toInt) := fun t ht => by
      have hb := hV.1.2.2.2.2 _ (by omega) (by omega) (lvp t ht)
      rw [eRM t ht] at hb
      unfold wvN at hb
      by_cases e9 : σ (1 + 5 + x1.toNatClampNeg) t = 9
      · left; rw [e9]; rfl
      · rw [if_neg e9] at hb
        by_cases em : σ (1 + 5 + x1.toNatClampNeg) t = -9
        · rw [if_pos em] at hb
          have := hV.1.1.2
          rw [tz_9] at hb
          omega
        · rw [if_neg em] at hb
          rcases hb with q | q
          · exact absurd (Int32.toInt_inj.mp (by rw [q]; rfl)) em
          · exact Or.inr q
    refine ⟨fin hl2 h y1 m1 m2 (ag_put f1 ?_ n4) (rV_mk hl2 m2 (fun p hp => g1 p (by omega)) (fun p hp => n1' p (by omega)) (fun p hp => n1' p (by omega)) (wvV_aStand hV.1 hx4) (weq_aStand hV.2)) (rS_push hV.1 hS (wx_X2_4 hX) (wx_X2_5 hX) g3z.1 (putR_slot g3z) (kept_s y2 n3) (Or.inl ⟨?_, x1.toNatClampNeg, ?_, ?_, fun t ht => ?_, fun t ht => ?_, fun p hp hn => ?_⟩)), ?_⟩
    · intro c hc; unfold cIW cI cL cW at hc; show ¬ _; unfold wf_24; omega
    · rw [g3z.2.1, wv_us]
    · rw [g3z.2.2.1, wv_us]; exact hl1
    · rw [n1' 1 (by decide)]
      unfold aStand
      rw [if_neg (by omega), ← hl1]
      show x1.toInt < (σ 101 3).toInt
      rw [← e1]
      exact hc.1.2
    · rw [g3z.2.2.2.1 t ht]; exact eRM t ht
    · rw [g3z.2.2.2.1 t ht, n1' 0 (by decide)]
      unfold aStand
      rw [if_neg (by omega)]
      exact bO t ht
    · rw [n1' p hp]; unfold aStand; rw [if_neg (by omega)]
    · rw [g2, n2]
      have hA : weq lim (aStand (wvM σ) x1.toNatClampNeg x2.toNatClampNeg x3.toNatClampNeg x4) (aStand (wvX 1 σ) x1.toNatClampNeg x2.toNatClampNeg x3.toNatClampNeg x4) := weq_aStand hV.2
      have hB : ∀ t, t ≤ 24 → aHours (aStand (wvX 1 σ) x1.toNatClampNeg x2.toNatClampNeg x3.toNatClampNeg x4) x1.toNatClampNeg t = aHours (aStand (wvM s) x1.toNatClampNeg x2.toNatClampNeg x3.toNatClampNeg x4) x1.toNatClampNeg t := fun t => by
        induction t with
        | zero => intro _; rfl
        | succ t ih =>
          intro ht
          show aHours _ _ t + _ = aHours _ _ t + _
          have lv : live (aStand (wvM σ) x1.toNatClampNeg x2.toNatClampNeg x3.toNatClampNeg x4) (28 + 24 * x1.toNatClampNeg + t) := by
            have := lvp t (by omega)
            unfold live at this ⊢
            rw [show aStand (wvM σ) x1.toNatClampNeg x2.toNatClampNeg x3.toNatClampNeg x4 1 = wvM σ 1 from if_neg (by omega)]
            exact this
          have hs : aStand (wvM s) x1.toNatClampNeg x2.toNatClampNeg x3.toNatClampNeg x4 (28 + 24 * x1.toNatClampNeg + t) = aStand (wvM σ) x1.toNatClampNeg x2.toNatClampNeg x3.toNatClampNeg x4 (28 + 24 * x1.toNatClampNeg + t) := by
            unfold aStand
            rw [eMV y2 _ (by omega)]
          rw [ih (by omega), hs, hA _ (by omega) lv]
      exact hB 24 (by omega)
  · obtain ⟨g1, g2⟩ := c1.2 c
    obtain ⟨n1, n2⟩ := c2.2 c
    exact ⟨fin_bad hl2 h y1 m1 m2 g2 n2, by rw [g1, n1]⟩
theorem mu_days {F : Nat} {σ : Mem} {x : Int32} (hF : 73786976294838206464 ≤ F) (h : wR 148 σ) : ∃ r1 s1 r2 s2, f_X3_days F x σ = some (r1, s1) ∧ f_X4_days F x s1 = some (r2, s2) ∧ wR 148 s2 := by
  obtain ⟨hX, hM, hV, hI, hS, hL, hW⟩ := id h
  have hl : 28 ≤ 148 ∧ 148 ≤ 188 := by omega
  refine two (pc_sf (s_X3_days (by omega) hX) (pc_and (cx_days (by omega)) (pc_pf (fr_X3_days (by omega))))) (fun a s q => pc_sf (s_X4_days hF (wm_congr hM q.1.2.1)) (pc_and (cm_days (by omega)) (pc_pf (fr_X4_days (by omega))))) (fun a s b z q1 q2 => ?_)
  obtain ⟨⟨x1, x2, -⟩, c1, f1⟩ := q1
  obtain ⟨⟨m1, m2, -⟩, c2, f2⟩ := q2
  have e0 : σ 1 9 = σ 101 9 := weq_lo hV.2 hl.1 (p := 3) (by decide)
  have es : s 101 9 = σ 101 9 := by rw [x2 101 (by decide)]
  rw [es, ← e0] at c2
  by_cases c : eDays (σ 1 9) x = 0
  · obtain ⟨g1, g3⟩ := c1.1 c
    obtain ⟨n1, n3⟩ := c2.1 c
    have n1' : ∀ p, p < 148 → wvM z p = aDay (wvM σ) x p := fun p hp => by
      rw [n1 p hp]
      unfold aDay
      rw [eMV x2 3 (by decide)]
      exact upd_cg (eMV x2 p (by omega)) rfl
    refine fin hl h x1 m1 m2 (ag_tr (ag_fr f1 ?_) (ag_fr f2 ?_)) (rV_mk hl m2 g1 n1' n1' (wvV_aDay hV.1) (weq_aDay hV.2 hl.1)) (rS_0 (by rw [m2 70 (by decide)]; exact g3) n3)
    · intro c hc; unfold cIW cI cL cW at hc; show ¬ _; unfold wf_28; omega
    · intro c hc; unfold cIW cI cL cW at hc; show ¬ _; unfold wf_64; omega
  · obtain ⟨g1, g2⟩ := c1.2 c
    obtain ⟨n1, n2⟩ := c2.2 c
    exact fin_bad hl h x1 m1 m2 g2 n2
theorem mu_back {F lim : Nat} {σ : Mem} (hF : 73786976294838206464 ≤ F) (hl : 28 ≤ lim ∧ lim ≤ 188) (h : wR lim σ) : ∃ r1 s1 r2 s2, f_X3_back F σ = some (r1, s1) ∧ f_X4_back F s1 = some (r2, s2) ∧ wR lim s2 ∧ r1 = r2 := by
  obtain ⟨hX, hM, hV, hI, hS, hL, hW⟩ := id h
  refine two (pc_sf (s_X3_back (by omega) hX) (pc_and (cx_back (by omega) (wx_X0_0 hX wt_h1) (wx_X0_2 hX wt_h1) (wx_X2_4 hX) (wx_X2_5 hX)) (pc_pf (fr_X3_back (by omega))))) (fun a s q => pc_sf (s_X4_back hF (wm_congr hM q.1.2.1)) (cm_back hF (wm_congr hM q.1.2.1))) (fun a s b z q1 q2 => ?_)
  obtain ⟨⟨x1, x2, -⟩, c1, f1⟩ := q1
  obtain ⟨⟨m1, m2, -⟩, c2⟩ := q2
  have e5 : (σ 70 5).toInt = (σ 101 30).toInt := congrArg Int32.toInt hS.1
  have es : s 101 30 = σ 101 30 := by rw [x2 101 (by decide)]
  rw [es, ← e5] at c2
  by_cases c : (σ 70 5).toInt = 0
  · rw [if_pos c] at c1 c2
    obtain ⟨g1, g2⟩ := c1.2 (by decide)
    obtain ⟨n1, n2⟩ := c2.2 (by decide)
    exact ⟨fin_bad hl h x1 m1 m2 g2 n2, by rw [g1, n1]⟩
  · rw [if_neg c] at c1 c2
    obtain ⟨g1, ⟨g2, g3⟩, g4⟩ := c1.1 rfl
    obtain ⟨n1, n2, n3, n4, n5⟩ := c2.1 rfl
    have b5 := wx_X2_5 hX
    have en := ti_nat (σ 101 30)
    have hn : (σ 101 30).toInt = (((σ 101 30).toNatClampNeg - 1 : Nat) : Int) + 1 := by omega
    generalize (σ 101 30).toNatClampNeg - 1 = n at hn n3
    have o : ∀ k, 71 ≤ k → k ≤ 82 → z k = σ k := fun k p1 p2 => by
      rw [m2 k (by omega)]
      exact funext fun i => f1 k i (by rw [wcid_hi (by omega)]; show ¬ _; unfold wf_29; omega)
    have x117 : s 117 = σ 117 := x2 117 (by decide)
    have hz : ∀ p, p < 188 → wvM z p = σ 117 (188 * n + p) := fun p hp => by rw [n3 p hp, x117]
    obtain ⟨k1, k2⟩ := rS_pop (s := z) hV.1 hS hn (by rw [m2 70 (by decide)]; exact g2) (by rw [m2 70 (by decide)]; omega) (by omega) o (by rw [n4, x117]) hz
    have hw := weq_undone (s := z) hl hV.1 hV.2 hS hn (by
      obtain ⟨u0, u1, u2, u3⟩ := g4
      have ez : ∀ p, p < 188 → wvX 1 z p = wvX 1 s p := fun p hp => wvX_eq (fun p hp => by have := wvJ_le p hp; rw [m2 _ (by omega)]) hp
      exact ⟨fun a l b c d p hp => by rw [ez p hp]; exact u0 a l b c d p hp, fun a i b c p hp => by rw [ez p hp]; exact u1 a i b c p hp, fun a i b c d e p hp => by rw [ez p hp]; exact u2 a i b c d e p hp, fun a b c p hp => by rw [ez p hp]; exact u3 a b c p hp⟩) hz
    refine ⟨fin hl h x1 m1 m2 (ag_put f1 ?_ n5) ⟨k2, hw⟩ k1, ?_⟩
    · intro c hc; unfold cIW cI cL cW at hc; show ¬ _; unfold wf_29; omega
    · rw [g1, n1]
      exact Int32.toInt_inj.mp (by omega)
theorem mu_image {F lim : Nat} {σ : Mem} (hF : 73786976294838206464 ≤ F) (hl : 28 ≤ lim ∧ lim ≤ 188) (h : wR lim σ) : ∃ r1 s1 r2 s2, f_X3_image F σ = some (r1, s1) ∧ f_X4_image F s1 = some (r2, s2) ∧ wR lim s2 ∧ r1 = r2 := by
  obtain ⟨hX, hM, hV, hI, hS, hL, hW⟩ := id h
  refine two (pc_sf (s_X3_image (by omega) hX) (pc_and cx_image (pc_pf (fr_X3_image (by omega))))) (fun a s q => pc_sf (s_X4_image hF (wm_congr hM q.1.2.1)) (cm_image (by omega))) (fun a s b z q1 q2 => ?_)
  obtain ⟨⟨x1, x2, -⟩, ⟨g1, g2, g3⟩, f1⟩ := q1
  obtain ⟨⟨m1, m2, -⟩, n1, n2, n3, n4⟩ := q2
  have e9 : σ 1 9 = σ 101 9 := weq_lo hV.2 hl.1 (p := 3) (by decide)
  have ag2 : ∀ C : Nat → Prop, (∀ c, C c → ¬ ((47 ≤ c ∧ c ≤ 63) ∨ c = 2003 ∨ c = 116 ∨ c = 1010 ∨ c = 1024 ∨ (1025 ≤ c ∧ c ≤ 1027))) → ag C σ z := fun C hC k i hc => by
    have hk := hC _ hc
    rw [n4 k i (fun e => by subst e; rw [show wcid 116 i = 116 from rfl] at hk; omega) (fun e => by obtain ⟨rfl, e⟩ := e; rw [show wcid 101 i = 1000 + i from rfl] at hk; omega)]
    exact f1 k i (by show ¬ _; unfold wf_43; omega)
  have hz47 : ∀ p, p < 188 → wvX 47 z p = wvX 1 σ p := fun p hp => by
    rw [← g1 p hp]
    exact wvX_eq (fun p hp => by have := wvJ_le p hp; rw [m2 _ (by omega)]) hp
  have hz116 : ∀ p, p < 188 → z 116 p = wvM σ p := fun p hp => by rw [n1 p hp, eMV x2 p hp]
  refine ⟨⟨wx_congr x1 m2, m1, rV_ag hl hV (ag2 _ ?_), ⟨by rw [n3, m2 0 (by decide), g3], fun _ => ⟨wvV_cg hV.1 hz116, weq_cg hV.2 hl.1 (fun p hp => hz116 p (by omega)) (fun p hp => hz47 p (by omega))⟩⟩, rS_ag hV.1 hS (ag2 _ ?_), rL_ag hL (ag2 _ ?_), rW_ag hW (ag2 _ ?_)⟩, ?_⟩
  · intro c hc; unfold cV cX cM at hc; omega
  · intro c hc; unfold cS cM at hc; omega
  · intro c hc; unfold cL at hc; omega
  · intro c hc; unfold cW at hc; omega
  · rw [g2, n2, n4 101 9 (by decide) (by omega), x2 101 (by decide), ← e9]
    exact f1 1 9 (by show ¬ _; rw [show wcid 1 9 = 1 from rfl]; unfold wf_43; omega)
theorem mu_restore {F lim : Nat} {σ : Mem} (hF : 73786976294838206464 ≤ F) (hl : 28 ≤ lim ∧ lim ≤ 188) (h : wR lim σ) : ∃ r1 s1 r2 s2, f_X3_restore F σ = some (r1, s1) ∧ f_X4_restore F s1 = some (r2, s2) ∧ wR lim s2 ∧ r1 = r2 := by
  obtain ⟨hX, hM, hV, hI, hS, hL, hW⟩ := id h
  refine two (pc_sf (s_X3_restore (by omega) hX) (pc_and cx_restore (pc_pf (fr_X3_restore (by omega))))) (fun a s q => pc_sf (s_X4_restore hF (wm_congr hM q.1.2.1)) (cm_restore (by omega))) (fun a s b z q1 q2 => ?_)
  obtain ⟨⟨x1, x2, -⟩, c1, f1⟩ := q1
  obtain ⟨⟨m1, m2, -⟩, c2⟩ := q2
  have es : s 101 24 = σ 101 24 := by rw [x2 101 (by decide)]
  rw [es, ← hI.1] at c2
  by_cases c : σ 0 3 = 0
  · rw [if_pos c] at c1 c2
    obtain ⟨g1, g2⟩ := c1.2 (by decide)
    obtain ⟨n1, n2⟩ := c2.2 (by decide)
    exact ⟨fin_bad hl h x1 m1 m2 g2 n2, by rw [g1, n1]⟩
  · rw [if_neg c] at c1 c2
    obtain ⟨g1, g2, g3⟩ := c1.1 rfl
    obtain ⟨n1, n2, n3, n4⟩ := c2.1 rfl
    obtain ⟨hv, hw⟩ := hI.2 c
    have n1' : ∀ p, p < 188 → wvM z p = σ 116 p := fun p hp => by rw [n1 p hp, x2 116 (by decide)]
    refine ⟨fin hl h x1 m1 m2 (ag_put f1 ?_ n4) (rV_mk hl m2 (fun p hp => g1 p (by omega)) (fun p hp => n1' p (by omega)) (fun p hp => n1' p (by omega)) hv hw) (rS_0 (by rw [m2 70 (by decide)]; exact g3) n3), ?_⟩
    · intro c hc; unfold cIW cI cL cW at hc; show ¬ _; unfold wf_44; omega
    · rw [g2, n2]
      have h1 : s 1 9 = wvX 47 σ 3 := g1 3 (by decide)
      have h2 : z 101 9 = σ 116 3 := n1' 3 (by decide)
      rw [h1, h2]
      exact weq_lo hw hl.1 (by decide)
end
section
/-! a terrace's letters: what must stand where -/
def wD (c : Int32) : Nat := if c = 100 then 2 else if c = 108 then 2 else if c = 112 then 3 else if c = 115 then 6 else if c = 117 then 1 else if c = 118 then 2 else if c = 119 then 2 else 0
def wDi (c : Int32) : Int32 := if c = 100 then 2 else if c = 108 then 2 else if c = 112 then 3 else if c = 115 then 6 else if c = 117 then 1 else if c = 118 then 2 else if c = 119 then 2 else -9
theorem wD_cs (c : Int32) : (wDi c = -9 ∧ wD c = 0 ∧ ¬ c = 100 ∧ ¬ c = 108 ∧ ¬ c = 112 ∧ ¬ c = 115 ∧ ¬ c = 117 ∧ ¬ c = 118 ∧ ¬ c = 119) ∨ (¬ wDi c = -9 ∧ (wDi c).toInt = (wD c : Int) ∧ 1 ≤ wD c ∧ wD c ≤ 6 ∧ (c = 100 ∨ c = 108 ∨ c = 112 ∨ c = 115 ∨ c = 117 ∨ c = 118 ∨ c = 119)) := by
  unfold wDi wD
  by_cases h1 : c = 100
  · rw [if_pos h1, if_pos h1]; exact Or.inr ⟨by decide, by decide, by decide, by decide, Or.inl h1⟩
  rw [if_neg h1, if_neg h1]
  by_cases h2 : c = 108
  · rw [if_pos h2, if_pos h2]; exact Or.inr ⟨by decide, by decide, by decide, by decide, Or.inr (Or.inl h2)⟩
  rw [if_neg h2, if_neg h2]
  by_cases h3 : c = 112
  · rw [if_pos h3, if_pos h3]; exact Or.inr ⟨by decide, by decide, by decide, by decide, Or.inr (Or.inr (Or.inl h3))⟩
  rw [if_neg h3, if_neg h3]
  by_cases h4 : c = 115
  · rw [if_pos h4, if_pos h4]; exact Or.inr ⟨by decide, by decide, by decide, by decide, Or.inr (Or.inr (Or.inr (Or.inl h4)))⟩
  rw [if_neg h4, if_neg h4]
  by_cases h5 : c = 117
  · rw [if_pos h5, if_pos h5]; exact Or.inr ⟨by decide, by decide, by decide, by decide, Or.inr (Or.inr (Or.inr (Or.inr (Or.inl h5))))⟩
  rw [if_neg h5, if_neg h5]
  by_cases h6 : c = 118
  · rw [if_pos h6, if_pos h6]; exact Or.inr ⟨by decide, by decide, by decide, by decide, Or.inr (Or.inr (Or.inr (Or.inr (Or.inr (Or.inl h6)))))⟩
  rw [if_neg h6, if_neg h6]
  by_cases h7 : c = 119
  · rw [if_pos h7, if_pos h7]; exact Or.inr ⟨by decide, by decide, by decide, by decide, Or.inr (Or.inr (Or.inr (Or.inr (Or.inr (Or.inr h7)))))⟩
  rw [if_neg h7, if_neg h7]
  exact Or.inl ⟨rfl, rfl, h1, h2, h3, h4, h5, h6, h7⟩
theorem ax_digitsOf {F : Nat} {c : Int32} {σ : Mem} : f_X1_digitsOf F c σ = some (wDi c, σ) := by
  rw [f_X1_digitsOf_e]
  unfold wDi
  by_cases h1 : c = 100
  · rw [if_pos h1, if_pos h1]
  rw [if_neg h1, if_neg h1]
  by_cases h2 : c = 108
  · rw [if_pos h2, if_pos h2]
  rw [if_neg h2, if_neg h2]
  by_cases h3 : c = 112
  · rw [if_pos h3, if_pos h3]
  rw [if_neg h3, if_neg h3]
  by_cases h4 : c = 115
  · rw [if_pos h4, if_pos h4]
  rw [if_neg h4, if_neg h4]
  by_cases h5 : c = 117
  · rw [if_pos h5, if_pos h5]
  rw [if_neg h5, if_neg h5]
  by_cases h6 : c = 118
  · rw [if_pos h6, if_pos h6]
  rw [if_neg h6, if_neg h6]
  by_cases h7 : c = 119
  · rw [if_pos h7, if_pos h7]
  rw [if_neg h7, if_neg h7]
theorem mx_isLetter {F : Nat} {c : Int32} {σ : Mem} : f_X4_isLetter F c σ = some (if wD c = 0 then 0 else 1, σ) := by
  rw [f_X4_isLetter_e]
  simp only [j_X4_isLetter_42_e]
  rcases wD_cs c with ⟨-, h0, h1, h2, h3, h4, h5, h6, h7⟩ | ⟨-, -, h0, -, h⟩
  · rw [if_neg h3, if_neg h2, if_neg h4, if_neg h6, if_neg h7, if_neg h5, if_neg h1, if_pos h0]
  · rw [if_neg (show ¬ wD c = 0 by omega)]
    rcases h with rfl | rfl | rfl | rfl | rfl | rfl | rfl <;> rfl
theorem bft : ¬ (false = true) := by decide
theorem btf : ¬ (true = false) := by decide
abbrev wdg (S : Nat → Int32) (n i : Nat) : Prop := i < n ∧ 48 ≤ (S i).toInt ∧ (S i).toInt ≤ 57
/-- d digits and ";" from i on: the place behind, or the first place that can't be -/
def wfd (S : Nat → Int32) (n : Nat) : Nat → Nat → Nat × Bool
  | 0, i => if i < n ∧ S i = 59 then (i + 1, true) else (i, false)
  | d + 1, i => if wdg S n i then wfd S n d (i + 1) else (i, false)
def wst (S : Nat → Int32) (n p : Nat) : Nat × Bool := if p < n ∧ wD (S p) ≠ 0 then wfd S n (wD (S p)) (p + 1) else (p, false)
def wpar (S : Nat → Int32) (n : Nat) : Nat → Nat → Nat × Bool
  | 0, p => (p, true)
  | N + 1, p => if (wst S n p).2 then (if (wst S n p).1 < n then wpar S n N (wst S n p).1 else ((wst S n p).1, true)) else ((wst S n p).1, false)
theorem wfd_t {S : Nat → Int32} {n : Nat} : ∀ (d i : Nat), (wfd S n d i).2 = true → (wfd S n d i).1 = i + d + 1 ∧ (∀ k, k < d → wdg S n (i + k)) ∧ i + d < n ∧ S (i + d) = 59 := by
  intro d
  induction d with
  | zero =>
    intro i h
    unfold wfd at h ⊢
    by_cases c : i < n ∧ S i = 59
    · rw [if_pos c]; exact ⟨rfl, fun k hk => absurd hk (Nat.not_lt_zero k), c.1, c.2⟩
    · rw [if_neg c] at h; exact absurd h bft
  | succ d ih =>
    intro i h
    unfold wfd at h ⊢
    by_cases c : wdg S n i
    · rw [if_pos c] at h ⊢
      obtain ⟨h1, h2, h3, h4⟩ := ih (i + 1) h
      refine ⟨by omega, fun k hk => ?_, by omega, by rw [show i + (d + 1) = i + 1 + d by omega]; exact h4⟩
      cases k with
      | zero => exact c
      | succ k => have := h2 k (by omega); rw [show i + (k + 1) = i + 1 + k by omega]; exact this
    · rw [if_neg c] at h; exact absurd h bft
theorem wst_t {S : Nat → Int32} {n p : Nat} (h : (wst S n p).2 = true) : (wst S n p).1 = p + wD (S p) + 2 ∧ p < n ∧ wD (S p) ≠ 0 ∧ (∀ k, k < wD (S p) → wdg S n (p + 1 + k)) ∧ p + 1 + wD (S p) < n := by
  unfold wst at h ⊢
  by_cases c : p < n ∧ wD (S p) ≠ 0
  · rw [if_pos c] at h ⊢
    obtain ⟨h1, h2, h3, -⟩ := wfd_t _ _ h
    exact ⟨by omega, c.1, c.2, h2, h3⟩
  · rw [if_neg c] at h; exact absurd h bft
/-! the class: the place of the fault of form -/
theorem ax_isDigit {F : Nat} {x : Int32} {σ : Mem} {n i : Nat} (hn : (σ 83 1).toInt = (n : Int)) (hi : x.toInt = (i : Int)) : pc (f_X1_isDigit F x σ) (fun r s => s = σ ∧ r = if wdg (σ 84) n i then 1 else 0) := by
  rw [f_X1_isDigit_e]
  simp only [j_X1_isDigit_38_e]
  refine pc_ite (fun c => by have := ti_lt c; rw [tz_0] at this; omega) (fun _ => pc_ite (fun c => pc_ret ⟨rfl, ?_⟩) (fun c => pc_chk (fun _ => ?_)))
  · have := ti_le c
    rw [if_neg (fun q => by have := q.1; omega)]
  have d := ti_nle c
  rw [tn_int hi]
  refine pc_ite (fun c2 => pc_ret ⟨rfl, ?_⟩) (fun c2 => pc_ite (fun c3 => pc_ret ⟨rfl, ?_⟩) (fun c3 => pc_ret ⟨rfl, ?_⟩))
  · have := ti_lt c2; rw [tz_48] at this
    rw [if_neg (fun q => by have := q.2.1; omega)]
  · have := ti_lt c3; rw [tz_57] at this
    rw [if_neg (fun q => by have := q.2.2; omega)]
  · have h2 := ti_nlt c2; have h3 := ti_nlt c3; rw [tz_48] at h2; rw [tz_57] at h3
    rw [if_pos ⟨by omega, h2, h3⟩]
def wres (q : Nat × Bool) (r : Int32) : Prop := (q.2 = true → r = -9) ∧ (q.2 = false → r.toInt = (q.1 : Int))
theorem ax_fault {F : Nat} {σ : Mem} {n : Nat} (hn : (σ 83 1).toInt = (n : Int)) (hn96 : n ≤ 96) : ∀ N : Nat,
    (∀ (K p : Nat) (x1 x3 : Int32), x3.toInt = (p : Int) → p < n → n < p + K → pc (lp_X1_faultOfForm_15 F N x1 0 x3 σ) (fun r s => s = σ ∧ wres (wpar (σ 84) n K p) r)) ∧
    (∀ (K d i : Nat) (x1 x3 : Int32), x1.toInt = (d : Int) → x3.toInt = (i : Int) → i ≤ n → n < i + K → pc (lp_X1_faultOfForm_15 F N x1 1 x3 σ) (fun r s => s = σ ∧ ((wfd (σ 84) n d i).2 = false → r.toInt = ((wfd (σ 84) n d i).1 : Int)) ∧ ((wfd (σ 84) n d i).2 = true → ((wfd (σ 84) n d i).1 < n → wres (wpar (σ 84) n K (wfd (σ 84) n d i).1) r) ∧ (¬ (wfd (σ 84) n d i).1 < n → r = -9)))) := by
  intro N
  induction N with
  | zero => exact ⟨fun K p x1 x3 h1 h2 h3 => pc_none rfl, fun K d i x1 x3 h1 h2 h3 h4 => pc_none rfl⟩
  | succ N ih =>
    obtain ⟨ihP, ihQ⟩ := ih
    refine ⟨fun K p x1 x3 h1 h2 h3 => ?_, fun K d i x1 x3 h1 h2 h3 h4 => ?_⟩
    · rw [lp_X1_faultOfForm_15_s]
      simp only [j_X1_faultOfForm_48_e, j_X1_faultOfForm_90_e]
      refine pc_ite (fun c => by have := ti_le c; omega) (fun _ => ?_)
      rw [if_pos True.intro]
      refine pc_chk (fun _ => pc_be ax_digitsOf ?_)
      rw [tn_int h1]
      obtain ⟨K, rfl⟩ : ∃ K', K = K' + 1 := ⟨K - 1, by omega⟩
      have hw : wpar (σ 84) n (K + 1) p = if (wst (σ 84) n p).2 then (if (wst (σ 84) n p).1 < n then wpar (σ 84) n K (wst (σ 84) n p).1 else ((wst (σ 84) n p).1, true)) else ((wst (σ 84) n p).1, false) := rfl
      rw [hw]
      rcases wD_cs (σ 84 p) with ⟨w1, w2, -⟩ | ⟨w1, w2, w3, w4, -⟩
      · rw [if_pos w1, if_pos True.intro]
        have hs : wst (σ 84) n p = (p, false) := by unfold wst; rw [if_neg (fun q => q.2 w2)]
        rw [hs]
        exact pc_ret ⟨rfl, fun q => absurd q bft, fun _ => h1⟩
      · rw [if_neg w1, if_neg (by decide)]
        have hs : wst (σ 84) n p = wfd (σ 84) n (wD (σ 84 p)) (p + 1) := by unfold wst; rw [if_pos ⟨h2, by omega⟩]
        rw [hs]
        refine pc_mono (ihQ K (wD (σ 84 p)) (p + 1) _ _ w2 (ti_nx h1 (by omega)) (by omega) (by omega)) (fun r s q => ⟨q.1, ?_⟩)
        obtain ⟨-, q1, q2⟩ := q
        cases hb : (wfd (σ 84) n (wD (σ 84 p)) (p + 1)).2 with
        | false => rw [if_neg (by decide)]; exact ⟨fun q => absurd q bft, fun _ => q1 hb⟩
        | true =>
          rw [if_pos rfl]
          obtain ⟨q3, q4⟩ := q2 hb
          by_cases c : (wfd (σ 84) n (wD (σ 84 p)) (p + 1)).1 < n
          · rw [if_pos c]; exact q3 c
          · rw [if_neg c]; exact ⟨fun _ => q4 c, fun q => absurd q btf⟩
    · rw [lp_X1_faultOfForm_15_s]
      simp only [j_X1_faultOfForm_48_e, j_X1_faultOfForm_90_e]
      refine pc_ite (fun c => ?_) (fun c => ?_)
      · have hc := ti_le c
        have hin : i = n := by omega
        rw [if_neg (by decide)]
        have hf : wfd (σ 84) n d i = (i, false) := by
          cases d with
          | zero => unfold wfd; rw [if_neg (fun q => by have := q.1; omega)]
          | succ d => unfold wfd; rw [if_neg (fun q => by have := q.1; omega)]
        rw [hf]
        exact pc_ret ⟨rfl, fun _ => by rw [hn, hin], fun q => absurd q bft⟩
      · have hc := ti_nle c
        rw [if_neg (by decide)]
        cases d with
        | zero =>
          refine pc_ite (fun _ => ?_) (fun c2 => by have := ti_nle c2; rw [tz_0] at this; omega)
          refine pc_chk (fun _ => ?_)
          rw [tn_int h2]
          refine pc_ite (fun c3 => ?_) (fun c3 => ?_)
          · have hf : wfd (σ 84) n 0 i = (i + 1, true) := by unfold wfd; rw [if_pos ⟨by omega, c3⟩]
            rw [hf]
            by_cases e : i + 1 < n
            · refine pc_mono (ihP K (i + 1) _ _ (ti_nx h2 (by omega)) e (by omega)) (fun r s q => ⟨q.1, fun q => absurd q btf, fun _ => ⟨fun _ => q.2, fun n => absurd e n⟩⟩)
            · cases N with
              | zero => exact pc_none rfl
              | succ N =>
                rw [lp_X1_faultOfForm_15_s]
                refine pc_ite (fun _ => ?_) (fun c4 => by have := ti_nle c4; rw [ti_nx h2 (by omega)] at this; omega)
                rw [if_pos rfl]
                exact pc_ret ⟨rfl, fun q => absurd q btf, fun _ => ⟨fun q => absurd q e, fun _ => rfl⟩⟩
          · have hf : wfd (σ 84) n 0 i = (i, false) := by unfold wfd; rw [if_neg (fun q => c3 q.2)]
            rw [hf]
            exact pc_ret ⟨rfl, fun _ => h2, fun q => absurd q bft⟩
        | succ d =>
          refine pc_ite (fun c2 => by have := ti_le c2; rw [tz_0] at this; omega) (fun _ => ?_)
          refine pc_bnd (ax_isDigit hn h2) (fun r s q => ?_)
          obtain ⟨rfl, rfl⟩ := q
          by_cases c3 : wdg (s 84) n i
          · rw [if_pos c3, if_neg (by decide)]
            have hf : wfd (s 84) n (d + 1) i = wfd (s 84) n d (i + 1) := by rw [wfd, if_pos c3]
            rw [hf]
            refine ihQ K d (i + 1) _ _ ?_ (ti_nx h2 (by omega)) (by omega) (by omega)
            have e : (-1 : Int32).toInt = -1 := rfl
            have := ti_hi x1
            rw [ti_add (by rw [e]; omega) (by rw [e]; omega), e]; omega
          · rw [if_neg c3, if_pos rfl]
            have hf : wfd (s 84) n (d + 1) i = (i, false) := by rw [wfd, if_neg c3]
            rw [hf]
            exact pc_ret ⟨rfl, fun _ => h2, fun q => absurd q bft⟩
theorem ax_faultOfForm {F : Nat} {σ : Mem} {n : Nat} (hn : (σ 83 1).toInt = (n : Int)) (hn96 : n ≤ 96) : pc (f_X1_faultOfForm F σ) (fun r s => s = σ ∧ wres (wpar (σ 84) n (n + 1) 0) r) := by
  rw [f_X1_faultOfForm_e]
  refine pc_ite (fun c => pc_ret ⟨rfl, ?_⟩) (fun c => ?_)
  · have := ti_eq c
    rw [tz_0] at this
    have h0 : n = 0 := by omega
    subst h0
    have hs : wst (σ 84) 0 0 = (0, false) := by unfold wst; rw [if_neg (fun q => by have := q.1; omega)]
    have hw : wpar (σ 84) 0 (0 + 1) 0 = (0, false) := by
      show (if (wst (σ 84) 0 0).2 then (if (wst (σ 84) 0 0).1 < 0 then wpar (σ 84) 0 0 (wst (σ 84) 0 0).1 else ((wst (σ 84) 0 0).1, true)) else ((wst (σ 84) 0 0).1, false)) = _
      rw [hs]; rfl
    rw [hw]
    exact ⟨fun q => absurd q bft, fun _ => rfl⟩
  · have := ti_ne c; rw [tz_0] at this
    exact (ax_fault hn hn96 F).1 (n + 1) 0 0 0 rfl (by omega) (by omega)
/-! numbers -/
def wnum (S : Nat → Int32) (i : Nat) : Nat → Int32
  | 0 => 0
  | d + 1 => wnum S i d * (10 : Int32) + (S (i + d) - (48 : Int32))
theorem wnum_b {S : Nat → Int32} {n i : Nat} : ∀ d, d ≤ 3 → (∀ k, k < d → wdg S n (i + k)) → 0 ≤ (wnum S i d).toInt ∧ (wnum S i d).toInt < (10 : Int) ^ d := by
  intro d
  induction d with
  | zero => intro _ _; exact ⟨show (0 : Int) ≤ (0 : Int32).toInt by decide, show (0 : Int32).toInt < (10 : Int) ^ 0 by decide⟩
  | succ d ih =>
    intro hd h
    obtain ⟨h1, h2⟩ := ih (by omega) (fun k hk => h k (by omega))
    obtain ⟨-, g1, g2⟩ := h d (by omega)
    have hp : (10 : Int) ^ d ≤ 100 := by
      rcases (show d = 0 ∨ d = 1 ∨ d = 2 by omega) with rfl | rfl | rfl <;> decide
    have e1 : (wnum S i d * (10 : Int32)).toInt = (wnum S i d).toInt * 10 := by rw [ti_mul (by rw [tz_10]; omega) (by rw [tz_10]; omega), tz_10]
    have e2 : (S (i + d) - (48 : Int32)).toInt = (S (i + d)).toInt - 48 := by rw [ti_sub (by rw [tz_48]; omega) (by rw [tz_48]; omega), tz_48]
    have e3 : (wnum S i (d + 1)).toInt = (wnum S i d).toInt * 10 + ((S (i + d)).toInt - 48) := by
      show (wnum S i d * (10 : Int32) + (S (i + d) - (48 : Int32))).toInt = _
      rw [ti_add (by rw [e1, e2]; omega) (by rw [e1, e2]; omega), e1, e2]
    rw [e3, Int.pow_succ]
    omega
theorem ax_number {F : Nat} {σ : Mem} {n i d : Nat} {x1 x2 : Int32} (hn : (σ 83 1).toInt = (n : Int)) (hn96 : n ≤ 96) (h1 : x1.toInt = (i : Int)) (h2 : x2.toInt = (d : Int)) (hd : i + d ≤ n) (hg : ∀ k, k < d → wdg (σ 84) n (i + k)) : f_X1_number F x1 x2 σ = none ∨ f_X1_number F x1 x2 σ = some (wnum (σ 84) i d, σ) := by
  have key : ∀ (N k : Nat) (x3 x4 : Int32), x4.toInt = ((i + k : Nat) : Int) → k ≤ d → x3 = wnum (σ 84) i k → pc (lp_X1_number_5 F x1 x2 N x3 x4 σ) (fun r s => r = wnum (σ 84) i d ∧ s = σ) := by
    intro N
    induction N with
    | zero => intro k x3 x4 g1 g2 g3; exact pc_none rfl
    | succ N ih =>
      intro k x3 x4 g1 g2 g3
      rw [lp_X1_number_5_s]
      simp only [j_X1_number_40_e]
      have es : (x1 + x2).toInt = (i : Int) + (d : Int) := by rw [ti_add (by omega) (by omega), h1, h2]
      refine pc_ite (fun c => ?_) (fun c => ?_)
      · have := ti_le c
        refine pc_ret ⟨?_, rfl⟩
        rw [g3, show k = d by omega]
      · have := ti_nle c
        refine pc_bnd (ax_isDigit hn g1) (fun r s q => ?_)
        obtain ⟨rfl, rfl⟩ := q
        rw [if_pos (hg k (by omega)), if_neg (by decide)]
        refine pc_chk (fun _ => ih (k + 1) _ _ ?_ (by omega) ?_)
        · rw [ti_nx g1 (by omega)]; congr 1
        · rw [tn_int g1, g3]; rfl
  rw [f_X1_number_e]
  have h := key F 0 0 x1 (by rw [h1]; rfl) (by omega) rfl
  cases ho : lp_X1_number_5 F x1 x2 F 0 x1 σ with
  | none => exact Or.inl rfl
  | some q =>
    obtain ⟨e1, e2⟩ := h q.1 q.2 ho
    right
    rw [← e1]
    conv => rhs; rw [← e2]
theorem pc_num {β : Type} {o : Option (Int32 × Mem)} {a : Int32} {s : Mem} {K : Int32 → Mem → Option (β × Mem)} {Q : β → Mem → Prop} (h : o = none ∨ o = some (a, s)) (k : pc (K a s) Q) : pc (wt_bnd o K) Q := by
  rcases h with h | h
  · rw [h]; exact pc_none rfl
  · rw [h]; exact k
end
section
/-! a statement, what it does -/
def cSt (S : Nat → Int32) (p : Nat) (V : Nat → Int32) : Prop :=
  (S p = 100 ∧ 1 ≤ (wnum S (p + 1) 2).toInt ∧ (wnum S (p + 1) 2).toInt ≤ 60 ∧ (V 3 + wnum S (p + 1) 2).toInt ≤ 9999) ∨
  (S p = 108 ∧ (wnum S (p + 1) 1).toInt ≤ 5 ∧ (V 1).toInt < 5) ∨
  (S p = 112 ∧ (wnum S (p + 1) 3).toInt ≤ 255 ∧ (V 0).toInt < 6) ∨
  (S p = 115 ∧ cPost (V 0).toInt (V 1).toInt (wnum S (p + 1) 1) (wnum S (p + 2) 2) (wnum S (p + 4) 2) (wnum S (p + 6) 1)) ∨
  (S p = 117 ∧ (wnum S (p + 1) 1).toInt ≤ 2) ∨
  (S p = 118 ∧ (wnum S (p + 1) 1).toInt ≤ 7) ∨
  (S p = 119 ∧ (wnum S (p + 1) 1).toInt < (V 0).toInt ∧ (wnum S (p + 2) 1).toInt ≤ 7)
def aSt (S : Nat → Int32) (p : Nat) (V : Nat → Int32) : Nat → Int32 :=
  if S p = 100 then aDay V (wnum S (p + 1) 2)
  else if S p = 108 then aLooker V (wnum S (p + 1) 1) (wnum S (p + 2) 1)
  else if S p = 112 then aPane V (wnum S (p + 1) 3)
  else if S p = 115 then aStand V (wnum S (p + 1) 1).toNatClampNeg (wnum S (p + 2) 2).toNatClampNeg (wnum S (p + 4) 2).toNatClampNeg (wnum S (p + 6) 1)
  else if S p = 117 then aLaw V (wnum S (p + 1) 1)
  else if S p = 118 then aWorth V (wnum S (p + 1) 1) (wnum S (p + 2) 1)
  else aWall V (wnum S (p + 1) 1) (wnum S (p + 2) 1)
theorem cSt_cg {S : Nat → Int32} {p : Nat} {V W : Nat → Int32} (h0 : W 0 = V 0) (h1 : W 1 = V 1) (h3 : W 3 = V 3) : cSt S p W ↔ cSt S p V := by
  unfold cSt
  rw [h0, h1, h3]
/-- the seven kinds apart -/
theorem cSt_100 {S : Nat → Int32} {p : Nat} {V : Nat → Int32} (e : S p = 100) : (cSt S p V ↔ (1 ≤ (wnum S (p + 1) 2).toInt ∧ (wnum S (p + 1) 2).toInt ≤ 60 ∧ (V 3 + wnum S (p + 1) 2).toInt ≤ 9999)) ∧ aSt S p V = aDay V (wnum S (p + 1) 2) := by
  refine ⟨⟨fun h => ?_, fun h => Or.inl ⟨e, h⟩⟩, by unfold aSt; rw [if_pos e]⟩
  unfold cSt at h
  rw [e] at h
  rcases h with ⟨-, h⟩ | ⟨q, -⟩ | ⟨q, -⟩ | ⟨q, -⟩ | ⟨q, -⟩ | ⟨q, -⟩ | ⟨q, -⟩
  · exact h
  all_goals exact absurd q (by decide)
theorem cSt_108 {S : Nat → Int32} {p : Nat} {V : Nat → Int32} (e : S p = 108) : (cSt S p V ↔ ((wnum S (p + 1) 1).toInt ≤ 5 ∧ (V 1).toInt < 5)) ∧ aSt S p V = aLooker V (wnum S (p + 1) 1) (wnum S (p + 2) 1) := by
  refine ⟨⟨fun h => ?_, fun h => Or.inr (Or.inl ⟨e, h⟩)⟩, by unfold aSt; rw [e]; rfl⟩
  unfold cSt at h
  rw [e] at h
  rcases h with ⟨q, -⟩ | ⟨-, h⟩ | ⟨q, -⟩ | ⟨q, -⟩ | ⟨q, -⟩ | ⟨q, -⟩ | ⟨q, -⟩
  rotate_left
  · exact h
  all_goals exact absurd q (by decide)
theorem cSt_112 {S : Nat → Int32} {p : Nat} {V : Nat → Int32} (e : S p = 112) : (cSt S p V ↔ ((wnum S (p + 1) 3).toInt ≤ 255 ∧ (V 0).toInt < 6)) ∧ aSt S p V = aPane V (wnum S (p + 1) 3) := by
  refine ⟨⟨fun h => ?_, fun h => Or.inr (Or.inr (Or.inl ⟨e, h⟩))⟩, by unfold aSt; rw [e]; rfl⟩
  unfold cSt at h
  rw [e] at h
  rcases h with ⟨q, -⟩ | ⟨q, -⟩ | ⟨-, h⟩ | ⟨q, -⟩ | ⟨q, -⟩ | ⟨q, -⟩ | ⟨q, -⟩
  rotate_left 2
  · exact h
  all_goals exact absurd q (by decide)
theorem cSt_115 {S : Nat → Int32} {p : Nat} {V : Nat → Int32} (e : S p = 115) : (cSt S p V ↔ cPost (V 0).toInt (V 1).toInt (wnum S (p + 1) 1) (wnum S (p + 2) 2) (wnum S (p + 4) 2) (wnum S (p + 6) 1)) ∧ aSt S p V = aStand V (wnum S (p + 1) 1).toNatClampNeg (wnum S (p + 2) 2).toNatClampNeg (wnum S (p + 4) 2).toNatClampNeg (wnum S (p + 6) 1) := by
  refine ⟨⟨fun h => ?_, fun h => Or.inr (Or.inr (Or.inr (Or.inl ⟨e, h⟩)))⟩, by unfold aSt; rw [e]; rfl⟩
  unfold cSt at h
  rw [e] at h
  rcases h with ⟨q, -⟩ | ⟨q, -⟩ | ⟨q, -⟩ | ⟨-, h⟩ | ⟨q, -⟩ | ⟨q, -⟩ | ⟨q, -⟩
  rotate_left 3
  · exact h
  all_goals exact absurd q (by decide)
theorem cSt_117 {S : Nat → Int32} {p : Nat} {V : Nat → Int32} (e : S p = 117) : (cSt S p V ↔ (wnum S (p + 1) 1).toInt ≤ 2) ∧ aSt S p V = aLaw V (wnum S (p + 1) 1) := by
  refine ⟨⟨fun h => ?_, fun h => Or.inr (Or.inr (Or.inr (Or.inr (Or.inl ⟨e, h⟩))))⟩, by unfold aSt; rw [e]; rfl⟩
  unfold cSt at h
  rw [e] at h
  rcases h with ⟨q, -⟩ | ⟨q, -⟩ | ⟨q, -⟩ | ⟨q, -⟩ | ⟨-, h⟩ | ⟨q, -⟩ | ⟨q, -⟩
  rotate_left 4
  · exact h
  all_goals exact absurd q (by decide)
theorem cSt_118 {S : Nat → Int32} {p : Nat} {V : Nat → Int32} (e : S p = 118) : (cSt S p V ↔ (wnum S (p + 1) 1).toInt ≤ 7) ∧ aSt S p V = aWorth V (wnum S (p + 1) 1) (wnum S (p + 2) 1) := by
  refine ⟨⟨fun h => ?_, fun h => Or.inr (Or.inr (Or.inr (Or.inr (Or.inr (Or.inl ⟨e, h⟩)))))⟩, by unfold aSt; rw [e]; rfl⟩
  unfold cSt at h
  rw [e] at h
  rcases h with ⟨q, -⟩ | ⟨q, -⟩ | ⟨q, -⟩ | ⟨q, -⟩ | ⟨q, -⟩ | ⟨-, h⟩ | ⟨q, -⟩
  rotate_left 5
  · exact h
  all_goals exact absurd q (by decide)
theorem cSt_119 {S : Nat → Int32} {p : Nat} {V : Nat → Int32} (e : S p = 119) : (cSt S p V ↔ ((wnum S (p + 1) 1).toInt < (V 0).toInt ∧ (wnum S (p + 2) 1).toInt ≤ 7)) ∧ aSt S p V = aWall V (wnum S (p + 1) 1) (wnum S (p + 2) 1) := by
  refine ⟨⟨fun h => ?_, fun h => Or.inr (Or.inr (Or.inr (Or.inr (Or.inr (Or.inr ⟨e, h⟩)))))⟩, by unfold aSt; rw [e]; rfl⟩
  unfold cSt at h
  rw [e] at h
  rcases h with ⟨q, -⟩ | ⟨q, -⟩ | ⟨q, -⟩ | ⟨q, -⟩ | ⟨q, -⟩ | ⟨q, -⟩ | ⟨-, h⟩
  rotate_left 6
  · exact h
  all_goals exact absurd q (by decide)
/-- the digits of a statement are digits -/
def wdok (S : Nat → Int32) (n p : Nat) : Prop := p < n ∧ wD (S p) ≠ 0 ∧ (∀ k, k < wD (S p) → wdg S n (p + 1 + k)) ∧ p + 1 + wD (S p) < n
theorem wdok_b {S : Nat → Int32} {n p : Nat} (h : wdok S n p) (i d : Nat) (hd : d ≤ 3) (hi : i + d ≤ wD (S p)) : (p + 1 + i) + d ≤ n ∧ (∀ k, k < d → wdg S n (p + 1 + i + k)) ∧ 0 ≤ (wnum S (p + 1 + i) d).toInt ∧ (wnum S (p + 1 + i) d).toInt < (10 : Int) ^ d := by
  obtain ⟨h1, h2, h3, h4⟩ := h
  have hg : ∀ k, k < d → wdg S n (p + 1 + i + k) := fun k hk => by have := h3 (i + k) (by omega); rw [show p + 1 + i + k = p + 1 + (i + k) by omega]; exact this
  exact ⟨by omega, hg, wnum_b d hd hg⟩
theorem ti_pl {x : Int32} {p k : Nat} {c : Int32} (h : x.toInt = (p : Int)) (hp : p < 1000) (hc : c.toInt = (k : Int)) (hk : k < 1000) : (x + c).toInt = ((p + k : Nat) : Int) := by
  rw [ti_add (by omega) (by omega), h, hc]; rfl
def lo148 (A B : Nat → Int32) : Prop := ∀ q, q < 148 → A q = B q
/-- the class tells its mind a statement -/
theorem ax_tell {F : Nat} (hF : 1000 ≤ F) {σ : Mem} {n p : Nat} {x2 : Int32} (hX : wiX σ) (hn : (σ 83 1).toInt = (n : Int)) (hn96 : n ≤ 96) (hp : x2.toInt = (p : Int)) (hd : wdok (σ 84) n p) : pc (f_X1_tell F 24 x2 σ) (fun r s => (cSt (σ 84) p (wvX 24 σ) → r = 1 ∧ lo148 (wvX 24 s) (aSt (σ 84) p (wvX 24 σ))) ∧ (¬ cSt (σ 84) p (wvX 24 σ) → r = 0)) := by
  have b0 := wx_X0_0 hX wt_h24
  have b2 := wx_X0_2 hX wt_h24
  have q1 : ∀ (k : Nat) (c : Int32), c.toInt = (k : Int) → k < 1000 → ((x2 + (1 : Int32)) + c).toInt = ((p + 1 + k : Nat) : Int) := fun k c hc hk => ti_pl (ti_pl hp (by have := hd.1; omega) (by rfl) (by decide)) (by have := hd.1; omega) hc hk
  have q0 : (x2 + (1 : Int32)).toInt = ((p + 1 : Nat) : Int) := ti_pl hp (by have := hd.1; omega) (by rfl) (by decide)
  have num0 : ∀ (d : Nat) (c : Int32), c.toInt = (d : Int) → d ≤ 3 → d ≤ wD (σ 84 p) → f_X1_number F (x2 + (1 : Int32)) c σ = none ∨ f_X1_number F (x2 + (1 : Int32)) c σ = some (wnum (σ 84) (p + 1) d, σ) := fun d c hc hd3 hdd => by
    obtain ⟨g1, g2, -⟩ := wdok_b hd 0 d hd3 (by omega)
    exact ax_number hn hn96 q0 hc g1 g2
  have num1 : ∀ (i d : Nat) (a c : Int32), a.toInt = (i : Int) → i < 1000 → c.toInt = (d : Int) → d ≤ 3 → i + d ≤ wD (σ 84 p) → f_X1_number F ((x2 + (1 : Int32)) + a) c σ = none ∨ f_X1_number F ((x2 + (1 : Int32)) + a) c σ = some (wnum (σ 84) (p + 1 + i) d, σ) := fun i d a c ha hi hc hd3 hdd => by
    obtain ⟨g1, g2, -⟩ := wdok_b hd i d hd3 (by omega)
    exact ax_number hn hn96 (q1 i a ha hi) hc g1 g2
  have bd : ∀ (i d : Nat), d ≤ 3 → i + d ≤ wD (σ 84 p) → 0 ≤ (wnum (σ 84) (p + 1 + i) d).toInt ∧ (wnum (σ 84) (p + 1 + i) d).toInt < (10 : Int) ^ d := fun i d h1 h2 => (wdok_b hd i d h1 h2).2.2
  have V0 : wvX 24 σ 0 = σ 24 0 := rfl
  have V1 : wvX 24 σ 1 = σ 24 2 := rfl
  have V3 : wvX 24 σ 3 = σ 24 9 := rfl
  rw [f_X1_tell_e]
  simp only [j_X1_tell_12_e, j_X1_tell_262_e]
  refine pc_ite (fun c => by have := ti_lt c; rw [tz_0] at this; omega) (fun _ => pc_ite (fun _ => ?_) (fun c => by have := ti_nlt c; have := hd.1; omega))
  refine pc_chk (fun _ => ?_)
  rw [tn_int hp]
  refine pc_ite (fun e => ?_) (fun e1 => ?_)
  · have hD : wD (σ 84 p) = 2 := by rw [e]; rfl
    obtain ⟨g1, g2⟩ := cSt_100 (V := wvX 24 σ) e
    have hb := bd 0 2 (by decide) (by omega)
    rw [show p + 1 + 0 = p + 1 from rfl] at hb
    refine pc_num (num0 2 2 rfl (by decide) (by omega)) ?_
    refine pc_ite (fun c => pc_ret ⟨fun h => ?_, fun _ => rfl⟩) (fun c => ?_)
    · have := ti_lt c; rw [tz_60] at this; have := (g1.mp h).2.1; omega
    have h60 := ti_nlt c
    rw [tz_60] at h60
    refine pc_num (num0 2 2 rfl (by decide) (by omega)) (pc_bnd (ax_pass hF wt_h24) (fun r s q => ?_))
    rw [g1, g2, V3]
    by_cases hc : 1 ≤ (wnum (σ 84) (p + 1) 2).toInt ∧ (wnum (σ 84) (p + 1) 2).toInt ≤ 60 ∧ (σ 24 9 + wnum (σ 84) (p + 1) 2).toInt ≤ 9999
    · obtain ⟨r1, r2⟩ := q.1 ⟨hc.1, by omega, hc.2.2⟩
      rw [r1, if_neg (by decide)]
      exact pc_ret ⟨fun _ => ⟨rfl, r2⟩, fun n => absurd hc n⟩
    · obtain ⟨r1, r2⟩ := q.2 (fun w => hc ⟨w.1, by omega, w.2.2⟩)
      rw [r1, if_pos rfl]
      exact pc_ret ⟨fun n => absurd n hc, fun _ => rfl⟩
  refine pc_ite (fun e => ?_) (fun e2 => ?_)
  · have hD : wD (σ 84 p) = 2 := by rw [e]; rfl
    obtain ⟨g1, g2⟩ := cSt_108 (V := wvX 24 σ) e
    have hb := bd 0 1 (by decide) (by omega)
    have hb2 := bd 1 1 (by decide) (by omega)
    rw [show p + 1 + 0 = p + 1 from rfl] at hb
    rw [show p + 1 + 1 = p + 2 from rfl] at hb2
    refine pc_num (num0 1 1 rfl (by decide) (by omega)) (pc_num (num1 1 1 1 1 rfl (by decide) rfl (by decide) (by omega)) (pc_bnd (ax_addLooker wt_h24 b2) (fun r s q => pc_bz (fun _ => pc_ret ?_))))
    rw [g1, g2, V1]
    refine ⟨fun h => ?_, fun h => ?_⟩
    · obtain ⟨r1, r2⟩ := q.1 ⟨⟨hb.1, h.1⟩, ⟨hb2.1, by show (wnum (σ 84) (p + 2) 1).toInt ≤ 9; omega⟩, h.2⟩
      exact ⟨r1, fun q hq => r2 q (by omega)⟩
    · exact (q.2 (fun w => h ⟨w.1.2, w.2.2⟩)).1
  refine pc_ite (fun e => ?_) (fun e3 => ?_)
  · have hD : wD (σ 84 p) = 3 := by rw [e]; rfl
    obtain ⟨g1, g2⟩ := cSt_112 (V := wvX 24 σ) e
    have hb := bd 0 3 (by decide) (by omega)
    rw [show p + 1 + 0 = p + 1 from rfl] at hb
    refine pc_num (num0 3 3 rfl (by decide) (by omega)) (pc_bnd (ax_addPane wt_h24 b0) (fun r s q => pc_bz (fun _ => pc_ret ?_)))
    rw [g1, g2, V0]
    refine ⟨fun h => ?_, fun h => ?_⟩
    · obtain ⟨r1, r2⟩ := q.1 ⟨hb.1, h.1, h.2⟩
      exact ⟨r1, fun q hq => r2 q (by omega)⟩
    · exact (q.2 (fun w => h ⟨w.2.1, w.2.2⟩)).1
  refine pc_ite (fun e => ?_) (fun e4 => ?_)
  · have hD : wD (σ 84 p) = 6 := by rw [e]; rfl
    obtain ⟨g1, g2⟩ := cSt_115 (V := wvX 24 σ) e
    refine pc_num (num0 1 1 rfl (by decide) (by omega)) (pc_num (num1 1 2 1 2 rfl (by decide) rfl (by decide) (by omega)) (pc_num (num1 3 2 3 2 rfl (by decide) rfl (by decide) (by omega)) (pc_num (num1 5 1 5 1 rfl (by decide) rfl (by decide) (by omega)) (pc_bnd (ax_post b0.2 b2.2) (fun r s q => pc_bz (fun _ => pc_ret ?_))))))
    rw [g1, g2, V0, V1]
    refine ⟨fun h => ?_, fun h => (q.2 h).1⟩
    obtain ⟨r1, r2⟩ := q.1 h
    exact ⟨r1, fun q hq => r2 q (by omega)⟩
  refine pc_ite (fun e => ?_) (fun e5 => ?_)
  · have hD : wD (σ 84 p) = 1 := by rw [e]; rfl
    obtain ⟨g1, g2⟩ := cSt_117 (V := wvX 24 σ) e
    have hb := bd 0 1 (by decide) (by omega)
    rw [show p + 1 + 0 = p + 1 from rfl] at hb
    refine pc_num (num0 1 1 rfl (by decide) (by omega)) (pc_bnd ax_rule (fun r s q => pc_bz (fun _ => pc_ret ?_)))
    rw [g1, g2]
    refine ⟨fun h => ?_, fun h => (q.2 (fun w => h w.2)).1⟩
    obtain ⟨r1, r2⟩ := q.1 ⟨hb.1, h⟩
    exact ⟨r1, fun q hq => r2 q (by omega)⟩
  refine pc_ite (fun e => ?_) (fun e6 => ?_)
  · have hD : wD (σ 84 p) = 2 := by rw [e]; rfl
    obtain ⟨g1, g2⟩ := cSt_118 (V := wvX 24 σ) e
    have hb := bd 0 1 (by decide) (by omega)
    have hb2 := bd 1 1 (by decide) (by omega)
    rw [show p + 1 + 0 = p + 1 from rfl] at hb
    rw [show p + 1 + 1 = p + 2 from rfl] at hb2
    refine pc_num (num0 1 1 rfl (by decide) (by omega)) (pc_num (num1 1 1 1 1 rfl (by decide) rfl (by decide) (by omega)) (pc_bnd ax_price (fun r s q => pc_bz (fun _ => pc_ret ?_))))
    rw [g1, g2]
    refine ⟨fun h => ?_, fun h => (q.2 (fun w => h w.2.1)).1⟩
    obtain ⟨r1, r2⟩ := q.1 ⟨hb.1, h, hb2.1, by show (wnum (σ 84) (p + 2) 1).toInt ≤ 9; omega⟩
    exact ⟨r1, fun q hq => r2 q (by omega)⟩
  refine pc_ite (fun e => ?_) (fun e7 => ?_)
  · have hD : wD (σ 84 p) = 2 := by rw [e]; rfl
    obtain ⟨g1, g2⟩ := cSt_119 (V := wvX 24 σ) e
    have hb := bd 0 1 (by decide) (by omega)
    have hb2 := bd 1 1 (by decide) (by omega)
    rw [show p + 1 + 0 = p + 1 from rfl] at hb
    rw [show p + 1 + 1 = p + 2 from rfl] at hb2
    refine pc_num (num0 1 1 rfl (by decide) (by omega)) (pc_num (num1 1 1 1 1 rfl (by decide) rfl (by decide) (by omega)) (pc_bnd (ax_flip b0.2) (fun r s q => pc_bz (fun _ => pc_ret ?_))))
    rw [g1, g2, V0]
    refine ⟨fun h => ?_, fun h => (q.2 (fun w => h ⟨w.2.1, w.2.2.2⟩)).1⟩
    obtain ⟨r1, r2⟩ := q.1 ⟨hb.1, h.1, hb2.1, h.2⟩
    exact ⟨r1, fun q hq => r2 q (by omega)⟩
  exfalso
  rcases wD_cs (σ 84 p) with ⟨-, h0, -⟩ | ⟨-, -, -, -, h⟩
  · exact hd.2.1 h0
  · rcases h with h | h | h | h | h | h | h
    · exact e1 h
    · exact e2 h
    · exact e3 h
    · exact e4 h
    · exact e5 h
    · exact e6 h
    · exact e7 h
/-- the bounds stay -/
theorem wvV_aSt {S : Nat → Int32} {n p : Nat} {V : Nat → Int32} (h : wvV V) (hd : wdok S n p) (hc : cSt S p V) : wvV (aSt S p V) := by
  have bd : ∀ (i d : Nat), d ≤ 3 → i + d ≤ wD (S p) → 0 ≤ (wnum S (p + 1 + i) d).toInt ∧ (wnum S (p + 1 + i) d).toInt < (10 : Int) ^ d := fun i d h1 h2 => (wdok_b hd i d h1 h2).2.2
  rcases wD_cs (S p) with ⟨-, h0, -⟩ | ⟨-, -, -, -, e⟩
  · exact absurd h0 hd.2.1
  rcases e with e | e | e | e | e | e | e
  · rw [(cSt_100 e).2]; exact wvV_aDay h
  · rw [(cSt_108 e).2]; exact wvV_aLooker h ((cSt_108 e).1.mp hc).2
  · rw [(cSt_112 e).2]; exact wvV_aPane h ((cSt_112 e).1.mp hc).2
  · rw [(cSt_115 e).2]; exact wvV_aStand h ((cSt_115 e).1.mp hc).2.2.2.2
  · rw [(cSt_117 e).2]
    have hb := bd 0 1 (by decide) (by rw [e]; decide)
    exact wvV_aLaw h ⟨hb.1, (cSt_117 e).1.mp hc⟩
  · rw [(cSt_118 e).2]
    have hb := bd 0 1 (by decide) (by rw [e]; decide)
    have hb2 := bd 1 1 (by decide) (by rw [e]; decide)
    have h7 := (cSt_118 e).1.mp hc
    refine wvV_aWorth h (tn_lt hb.1 (by omega)) ⟨hb2.1, ?_⟩
    have := hb2.2
    rw [show p + 1 + 1 = p + 2 from rfl] at this
    omega
  · rw [(cSt_119 e).2]
    have hb := bd 0 1 (by decide) (by rw [e]; decide)
    have h7 := ((cSt_119 e).1.mp hc).1
    have := h.1.2
    exact wvV_aWall h (tn_lt hb.1 (by rw [show p + 1 + 0 = p + 1 from rfl]; omega))
theorem weq_aSt {lim : Nat} {S : Nat → Int32} {n p : Nat} {A B : Nat → Int32} (hl : 28 ≤ lim) (hv : wvV A) (h : weq lim A B) (hd : wdok S n p) (hc : cSt S p A) : weq lim (aSt S p A) (aSt S p B) := by
  have bd : ∀ (i d : Nat), d ≤ 3 → i + d ≤ wD (S p) → 0 ≤ (wnum S (p + 1 + i) d).toInt ∧ (wnum S (p + 1 + i) d).toInt < (10 : Int) ^ d := fun i d h1 h2 => (wdok_b hd i d h1 h2).2.2
  rcases wD_cs (S p) with ⟨-, h0, -⟩ | ⟨-, -, -, -, e⟩
  · exact absurd h0 hd.2.1
  rcases e with e | e | e | e | e | e | e
  · rw [(cSt_100 e).2, (cSt_100 e).2]; exact weq_aDay h hl
  · rw [(cSt_108 e).2, (cSt_108 e).2]; exact weq_aLooker h hl ⟨hv.2.1.1, ((cSt_108 e).1.mp hc).2⟩
  · rw [(cSt_112 e).2, (cSt_112 e).2]; exact weq_aPane h hl _
  · rw [(cSt_115 e).2, (cSt_115 e).2]; exact weq_aStand h
  · rw [(cSt_117 e).2, (cSt_117 e).2]; exact weq_aLaw h
  · rw [(cSt_118 e).2, (cSt_118 e).2]; exact weq_aWorth h
  · rw [(cSt_119 e).2, (cSt_119 e).2]
    have hb := bd 0 1 (by decide) (by rw [e]; decide)
    have h7 := ((cSt_119 e).1.mp hc).1
    have := hv.1.2
    exact weq_aWall h hl (tn_lt hb.1 (by rw [show p + 1 + 0 = p + 1 from rfl]; omega))
end
section
/-! a terrace as a whole -/
def wpl (S : Nat → Int32) : Nat → Nat
  | 0 => 0
  | j + 1 => wpl S j + wD (S (wpl S j)) + 2
/-- m statements, and nothing behind -/
def wokm (S : Nat → Int32) (n m : Nat) : Prop := (∀ j, j < m → wdok S n (wpl S j)) ∧ wpl S m = n
theorem wpl_lt {S : Nat → Int32} {i j : Nat} (h : i < j) : wpl S i + 2 * (j - i) ≤ wpl S j := by
  induction j with
  | zero => omega
  | succ j ih =>
    show _ ≤ wpl S j + wD (S (wpl S j)) + 2
    by_cases e : i = j
    · subst e; omega
    · have := ih (by omega); omega
theorem wokm_u {S : Nat → Int32} {n m m' : Nat} (h : wokm S n m) (h' : wokm S n m') : m = m' := by
  have e1 := h.2
  have e2 := h'.2
  rcases Nat.lt_trichotomy m m' with q | q | q
  · have := wpl_lt (S := S) q; omega
  · exact q
  · have := wpl_lt (S := S) q; omega
theorem wst_ok {S : Nat → Int32} {n p : Nat} (h : (wst S n p).2 = true) : wdok S n p := by
  obtain ⟨-, h1, h2, h3, h4⟩ := wst_t h
  exact ⟨h1, h2, h3, h4⟩
theorem wpar_m {S : Nat → Int32} {n : Nat} : ∀ (K j : Nat), n < wpl S j + K → (∀ i, i < j → wdok S n (wpl S i)) → (wpar S n K (wpl S j)).2 = true → (j = 0 ∨ wpl S j < n) → ∃ m, j < m ∧ wokm S n m := by
  intro K
  induction K with
  | zero =>
    intro j h1 h2 h3 h4
    rcases h4 with h4 | h4
    · subst h4
      exfalso
      have : wpl S 0 = 0 := rfl
      omega
    · omega
  | succ K ih =>
    intro j h1 h2 h3 h4
    rw [wpar] at h3
    cases hb : (wst S n (wpl S j)).2 with
    | false => rw [hb, if_neg bft] at h3; exact absurd h3 bft
    | true =>
      rw [hb, if_pos rfl] at h3
      obtain ⟨e1, -, -, -, e5⟩ := wst_t hb
      have e2 : (wst S n (wpl S j)).1 = wpl S (j + 1) := e1
      have hall : ∀ i, i < j + 1 → wdok S n (wpl S i) := fun i hi => by
        by_cases e : i = j
        · subst e; exact wst_ok hb
        · exact h2 i (by omega)
      rw [e2] at h3
      by_cases c : wpl S (j + 1) < n
      · rw [if_pos c] at h3
        obtain ⟨m, hm1, hm2⟩ := ih (j + 1) (by have : wpl S (j + 1) = wpl S j + wD (S (wpl S j)) + 2 := rfl; omega) hall h3 (Or.inr c)
        exact ⟨m, by omega, hm2⟩
      · exact ⟨j + 1, by omega, hall, by have : wpl S (j + 1) = wpl S j + wD (S (wpl S j)) + 2 := rfl; omega⟩
/-- r statements from the j-th on: the place of the first that isn't as it must be; the house behind them -/
noncomputable def wrf (S : Nat → Int32) : Nat → Nat → (Nat → Int32) → Option Nat
  | 0, _, _ => none
  | r + 1, j, V => @ite _ (cSt S (wpl S j) V) (Classical.propDecidable _) (wrf S r (j + 1) (aSt S (wpl S j) V)) (some (wpl S j))
noncomputable def wrv (S : Nat → Int32) : Nat → Nat → (Nat → Int32) → (Nat → Int32)
  | 0, _, V => V
  | r + 1, j, V => wrv S r (j + 1) (aSt S (wpl S j) V)
theorem wrf_t {S : Nat → Int32} {r j : Nat} {V : Nat → Int32} (h : cSt S (wpl S j) V) : wrf S (r + 1) j V = wrf S r (j + 1) (aSt S (wpl S j) V) := if_pos h
theorem wrf_f {S : Nat → Int32} {r j : Nat} {V : Nat → Int32} (h : ¬ cSt S (wpl S j) V) : wrf S (r + 1) j V = some (wpl S j) := if_neg h
/-- all but the mind is as it was -/
def outM (σ s : Mem) : Prop := ∀ k, (k < 24 ∨ 46 < k) → s k = σ k
theorem ax_behind {F : Nat} {σ : Mem} {n p : Nat} {x : Int32} (hn : (σ 83 1).toInt = (n : Int)) (hn96 : n ≤ 96) (hp : x.toInt = (p : Int)) (hpn : p < n) (hD : wD (σ 84 p) ≠ 0) : pc (f_X1_behind F x σ) (fun r s => s = σ ∧ r.toInt = ((p + wD (σ 84 p) + 2 : Nat) : Int)) := by
  rw [f_X1_behind_e]
  refine pc_ite (fun c => by have := ti_lt c; rw [tz_0] at this; omega) (fun _ => pc_ite (fun _ => pc_chk (fun _ => pc_be ax_digitsOf (pc_ret ⟨rfl, ?_⟩))) (fun c => by have := ti_nlt c; omega))
  rw [tn_int hp]
  rcases wD_cs (σ 84 p) with ⟨-, h0, -⟩ | ⟨-, h1, h2, h3, -⟩
  · exact absurd h0 hD
  · have e1 : (wt_max (wDi (σ 84 p)) 0).toInt = (wD (σ 84 p) : Int) := by
      unfold wt_max
      rw [if_neg (fun q => by have := ti_lt q; rw [tz_0] at this; omega), h1]
    have e2 : (x + wt_max (wDi (σ 84 p)) 0).toInt = (p : Int) + (wD (σ 84 p) : Int) := by rw [ti_add (by rw [hp, e1]; omega) (by rw [hp, e1]; omega), hp, e1]
    rw [ti_add (by rw [e2, tz_2]; omega) (by rw [e2, tz_2]; omega), e2, tz_2]
    omega
/-- what the class's telling ends with -/
def cTer (S : Nat → Int32) (m j : Nat) (V : Nat → Int32) (σ : Mem) (r : Int32) (s : Mem) : Prop :=
  (wrf S (m - j) j V = none → r.toInt = (m : Int) ∧ weq 148 (wrv S (m - j) j V) (wvX 1 s) ∧ s 70 5 = 0) ∧
  (∀ q, wrf S (m - j) j V = some q → r.toInt = -2000 - (q : Int) ∧ outM σ s)
theorem ax_tellTerrace_35 {F : Nat} (hF : 100000 ≤ F) {σ0 : Mem} {S : Nat → Int32} {n m : Nat} (hS : σ0 84 = S) (hn : (σ0 83 1).toInt = (n : Int)) (hn96 : n ≤ 96) (hm : wokm S n m) : ∀ (N j : Nat) (V : Nat → Int32) (x1 x2 x3 : Int32) (σ : Mem), x1.toInt = (wpl S j : Int) → x2.toInt = (j : Int) → x3.toInt = (j : Int) → j ≤ m → wiX σ → outM σ0 σ → wvV V → weq 148 V (wvX 24 σ) → pc (lp_X3_tellTerrace_35 F N x1 x2 x3 σ) (fun r s => cTer S m j V σ0 r s) := by
  intro N
  induction N with
  | zero => intro j V x1 x2 x3 σ h1 h2 h3 h4 h5 h6 h7 h8; exact pc_none rfl
  | succ N ih =>
    intro j V x1 x2 x3 σ h1 h2 h3 h4 h5 h6 h7 h8
    have e83 : σ 83 = σ0 83 := h6 83 (by omega)
    have e84 : σ 84 = S := (h6 84 (by omega)).trans hS
    have hnσ : (σ 83 1).toInt = (n : Int) := by rw [e83]; exact hn
    rw [lp_X3_tellTerrace_35_s]
    simp only [j_X3_tellTerrace_91_e]
    have hjm : wpl S j + 2 * (m - j) ≤ n := by
      rcases Nat.lt_or_ge j m with q | q
      · have := wpl_lt (S := S) q; have := hm.2; omega
      · have : j = m := by omega
        subst this; have := hm.2; omega
    have h0j : 2 * j ≤ wpl S j := by
      rcases Nat.eq_zero_or_pos j with q | q
      · omega
      · have := wpl_lt (S := S) q; omega
    refine pc_ite (fun c => by have := ti_le c; rw [tz_96] at this; omega) (fun _ => ?_)
    refine pc_ite (fun c => ?_) (fun c => ?_)
    · have hc := ti_le c
      have ej : j = m := by omega
      have em : m - j = 0 := by omega
      refine pc_bnd (ax_takeFrom (by omega)) (fun _ s2 q => pc_be ax_forget (pc_ret ?_))
      unfold cTer
      rw [em]
      refine ⟨fun _ => ⟨by rw [h2, ej], ?_, up2_s⟩, fun q hq => absurd hq (by intro w; cases w)⟩
      exact weq_cg h8 (by omega) (fun _ _ => rfl) (fun p hp => by rw [wvX_k (by omega) (by omega)]; exact q p (by omega))
    · have hc := ti_nle c
      have hjm2 : j < m := by
        rcases Nat.lt_or_ge j m with q | q
        · exact q
        · exfalso
          have : j = m := by omega
          subst this; have := hm.2; omega
      have hd := hm.1 j hjm2
      have hdσ : wdok (σ 84) n (wpl S j) := by rw [e84]; exact hd
      obtain ⟨r0, er⟩ : ∃ r0, m - j = r0 + 1 := ⟨m - j - 1, by omega⟩
      have er2 : m - (j + 1) = r0 := by omega
      refine pc_bnd (pc_and (ax_tell (by omega) h5 hnσ hn96 h1 hdσ) (pc_and (pc_pf (fr_X1_tell (by omega) wt_h24)) (sf_pc (s_X1_tell hF wt_h24 h5 (ti_lo _) (by omega))))) (fun r s6 q => ?_)
      obtain ⟨q1, q2, q3⟩ := q
      have o6 : outM σ0 s6 := fun k hk => by
        rw [← h6 k hk]
        exact fr_reg q2 (by unfold wf_11; omega) (fun c hc => by unfold wf_11; omega)
      have e0 : wvX 24 σ 0 = V 0 := weq_lo h8 (by omega) (by decide)
      have e1 : wvX 24 σ 1 = V 1 := weq_lo h8 (by omega) (by decide)
      have e3 : wvX 24 σ 3 = V 3 := weq_lo h8 (by omega) (by decide)
      have hcs : cSt (σ 84) (wpl S j) (wvX 24 σ) ↔ cSt S (wpl S j) V := by rw [e84]; exact cSt_cg e0 e1 e3
      by_cases hc2 : cSt S (wpl S j) V
      · obtain ⟨r1, r2⟩ := q1.1 (hcs.mpr hc2)
        rw [r1, if_neg (by decide)]
        have e84' : s6 84 = S := (o6 84 (by omega)).trans hS
        have hn6 : (s6 83 1).toInt = (n : Int) := by rw [o6 83 (by omega)]; exact hn
        refine pc_bnd (ax_behind hn6 hn96 h1 hd.1 (by rw [e84']; exact hd.2.1)) (fun r7 s8 w => ?_)
        obtain ⟨rfl, w⟩ := w
        rw [e84'] at w
        have hw : weq 148 (aSt S (wpl S j) V) (wvX 24 s8) := by
          rw [e84] at r2
          exact weq_cg (weq_aSt (by omega) h7 h8 hd hc2) (by omega) (fun _ _ => rfl) (fun p hp => r2 p hp)
        have hcount : j < 1000 := by omega
        refine pc_mono (ih (j + 1) (aSt S (wpl S j) V) _ _ _ s8 w (ti_nx h2 (by omega)) (ti_nx h3 (by omega)) hjm2 q3.1 o6 (wvV_aSt h7 hd hc2) hw) (fun a s z => ?_)
        unfold cTer at z ⊢
        rw [er, wrf_t hc2]
        rw [er2] at z
        exact z
      · have r0' := q1.2 (fun w => hc2 (hcs.mp w))
        rw [r0', if_pos rfl]
        refine pc_ret ?_
        unfold cTer
        rw [er, wrf_f hc2]
        refine ⟨fun w => (by cases w), fun q hq => ?_⟩
        cases hq
        refine ⟨?_, o6⟩
        have e20 : (-2000 : Int32).toInt = -2000 := rfl
        rw [ti_sub (by rw [e20, h1]; omega) (by rw [e20, h1]; omega), e20, h1]
theorem cx_terrace {F : Nat} (hF : 100000 ≤ F) {σ : Mem} {n : Nat} (hX : wiX σ) (hn : (σ 83 1).toInt = (n : Int)) (hn96 : n ≤ 96) {V : Nat → Int32} (hv : wvV V) (hw : weq 148 V (wvX 1 σ)) : pc (f_X3_terrace F σ) (fun r s => ((wpar (σ 84) n (n + 1) 0).2 = false → r.toInt = -1000 - ((wpar (σ 84) n (n + 1) 0).1 : Int) ∧ ∀ k, (k < 24 ∨ 46 < k) → k ≠ 83 → s k = σ k) ∧ ((wpar (σ 84) n (n + 1) 0).2 = true → ∀ m, wokm (σ 84) n m → (wrf (σ 84) m 0 V = none → r.toInt = (m : Int) ∧ weq 148 (wrv (σ 84) m 0 V) (wvX 1 s) ∧ s 70 5 = 0) ∧ (∀ q, wrf (σ 84) m 0 V = some q → r.toInt = -2000 - (q : Int) ∧ ∀ k, (k < 24 ∨ 46 < k) → k ≠ 83 → s k = σ k))) := by
  rw [f_X3_terrace_e, f_X3_tellTerrace_e]
  refine pc_bnd (P := fun r s => ((wpar (σ 84) n (n + 1) 0).2 = false → r.toInt = -1000 - ((wpar (σ 84) n (n + 1) 0).1 : Int) ∧ s = σ) ∧ ((wpar (σ 84) n (n + 1) 0).2 = true → ∀ m, wokm (σ 84) n m → cTer (σ 84) m 0 V σ r s)) ?_ (fun r s2 q => pc_lt (fun s3 h3 => pc_ret ⟨fun hb => ?_, fun hb m hm => ?_⟩))
  · refine pc_bnd (pc_and (ax_faultOfForm hn hn96) (sf_pc (s_X1_faultOfForm hF hX))) (fun r9 s10 q => ?_)
    obtain ⟨⟨rfl, q1, q2⟩, -, q3, q4⟩ := q
    cases hb : (wpar (s10 84) n (n + 1) 0).2 with
    | false =>
      have hr := q2 hb
      refine pc_ite (fun c => by have := ti_lt c; rw [tz_0] at this; omega) (fun _ => pc_ret ⟨fun _ => ⟨?_, rfl⟩, fun w => absurd w bft⟩)
      have e10 : (-1000 : Int32).toInt = -1000 := rfl
      rw [ti_sub (by rw [e10, hr]; omega) (by rw [e10, hr]; omega), e10, hr]
    | true =>
      have hr := q1 hb
      refine pc_ite (fun _ => ?_) (fun c => absurd (by rw [hr]; decide) c)
      refine pc_bnd (pc_and (ax_takeFrom (by omega)) (pc_and (pc_pf (fr_X0_takeFrom (by omega) wt_h24 wt_h1)) (sf_pc (s_X0_takeFrom hF wt_h24 wt_h1 hX)))) (fun _ s12 w => ?_)
      obtain ⟨w1, w2, w3⟩ := w
      have o : outM s10 s12 := fun k hk => fr_reg w2 (by unfold wf_0; omega) (fun c hc => by unfold wf_0; omega)
      intro a s e
      refine ⟨fun w => absurd w btf, fun _ m hm => ?_⟩
      exact ax_tellTerrace_35 hF rfl hn hn96 hm F 0 V 0 0 0 s12 rfl rfl rfl (by omega) w3.1 o hv (weq_cg hw (by omega) (fun _ _ => rfl) (fun p hp => w1 p (by omega))) a s e
  · obtain ⟨e1, e2⟩ := q.1 hb
    exact ⟨e1, fun k hk n83 => by rw [h3, up2_k n83, e2]⟩
  · obtain ⟨e1, e2⟩ := q.2 hb m hm
    rw [show m - 0 = m from rfl] at e1 e2
    refine ⟨fun h => ?_, fun q hq => ?_⟩
    · obtain ⟨g1, g2, g3⟩ := e1 h
      exact ⟨g1, weq_cg g2 (by omega) (fun _ _ => rfl) (fun p hp => by rw [h3, wvX_k (by omega) (by omega)]), by rw [h3, up2_k (by decide)]; exact g3⟩
    · obtain ⟨g1, g2⟩ := e2 q hq
      exact ⟨g1, fun k hk n83 => by rw [h3, up2_k n83, g2 k hk]⟩
end
section
/-! the reference reads a terrace -/
theorem wfd_s {S : Nat → Int32} {n d i : Nat} : wfd S n (d + 1) i = if wdg S n i then wfd S n d (i + 1) else (i, false) := rfl
theorem wfd_ok {S : Nat → Int32} {n : Nat} : ∀ (d i : Nat), (∀ k, k < d → wdg S n (i + k)) → wfd S n d i = wfd S n 0 (i + d) := by
  intro d
  induction d with
  | zero => intro i _; rfl
  | succ d ih =>
    intro i h
    have h0 : wdg S n i := h 0 (by omega)
    rw [wfd_s, if_pos h0, ih (i + 1) (fun k hk => by have := h (k + 1) (by omega); rw [show i + 1 + k = i + (k + 1) by omega]; exact this), show i + 1 + d = i + (d + 1) by omega]
theorem wfd_no {S : Nat → Int32} {n : Nat} : ∀ (d i k : Nat), k < d → (∀ k', k' < k → wdg S n (i + k')) → ¬ wdg S n (i + k) → wfd S n d i = (i + k, false) := by
  intro d
  induction d with
  | zero => intro i k h; omega
  | succ d ih =>
    intro i k h1 h2 h3
    cases k with
    | zero =>
      have h3' : ¬ wdg S n i := h3
      rw [wfd_s, if_neg h3']; rfl
    | succ k =>
      have h0 : wdg S n i := h2 0 (by omega)
      rw [wfd_s, if_pos h0, ih (i + 1) k (by omega) (fun k' hk => by have := h2 (k' + 1) (by omega); rw [show i + 1 + k' = i + (k' + 1) by omega]; exact this) (by rw [show i + 1 + k = i + (k + 1) by omega]; exact h3), show i + 1 + k = i + (k + 1) by omega]
theorem mx_here {F : Nat} {σ : Mem} {n i : Nat} (hn : (σ 101 15).toInt = (n : Int)) (hi : (σ 101 16).toInt = (i : Int)) : pc (f_X4_here F σ) (fun r s => s = σ ∧ (i < n → r = σ 111 i) ∧ (¬ i < n → r = -1)) := by
  rw [f_X4_here_e]
  refine pc_ite (fun c => pc_ret ⟨rfl, fun h => ?_, fun _ => rfl⟩) (fun c => pc_chk (fun _ => pc_ret ⟨rfl, fun _ => by rw [tn_int hi], fun h => ?_⟩))
  · have := ti_le c; omega
  · have := ti_nle c; omega
/-- e digits read from q on: all are, or the first that isn't stands -/
def RA (S : Nat → Int32) (n q e : Nat) (σ : Mem) : Prop :=
  ((∀ k, k < e → wdg S n (q + k)) → (σ 101 16).toInt = ((q + e : Nat) : Int) ∧ σ 101 17 = 0) ∧
  ((¬ ∀ k, k < e → wdg S n (q + k)) → ∃ k, k < e ∧ (∀ k', k' < k → wdg S n (q + k')) ∧ ¬ wdg S n (q + k) ∧ (σ 101 16).toInt = ((q + k : Nat) : Int) ∧ σ 101 17 = 1)
def rdO (σ s : Mem) : Prop := ∀ k i, ¬ (k = 101 ∧ (i = 16 ∨ i = 17)) → s k i = σ k i
theorem mx_rd_bad {F : Nat} {x1 : Int32} {i : Nat} : ∀ (N : Nat) (x2 x3 : Int32) (σ : Mem), (σ 101 16).toInt = (i : Int) → σ 101 17 = 1 → pc (lp_X4_readDigits_4 F x1 N x2 x3 σ) (fun _ s => (s 101 16).toInt = (i : Int) ∧ s 101 17 = 1 ∧ rdO σ s) := by
  intro N
  induction N with
  | zero => intro x2 x3 σ h1 h2; exact pc_none rfl
  | succ N ih =>
    intro x2 x3 σ h1 h2
    rw [lp_X4_readDigits_4_s]
    simp only [j_X4_readDigits_34_e, j_X4_readDigits_39_e, j_X4_readDigits_70_e, j_X4_readDigits_88_e]
    refine pc_ite (fun _ => pc_ret ⟨h1, h2, fun _ _ _ => rfl⟩) (fun _ => ?_)
    refine pc_ite (fun c => absurd (h2.symm.trans c) (by decide)) (fun _ => pc_bz (fun _ => pc_lt (fun s2 g2 => ?_)))
    have e17 : s2 101 17 = 1 := by rw [g2, up2_s]
    rw [e17, if_neg (by decide), if_neg (by decide)]
    refine pc_lt (fun s3 g3 => ?_)
    have e16 : s2 101 16 = σ 101 16 := by rw [g2, up2_i (by decide)]
    refine pc_mono (ih _ _ s3 (by rw [g3, up2_s, e16, Int32.add_zero]; exact h1) (by rw [g3, up2_i (by decide)]; exact e17)) (fun _ s q => ⟨q.1, q.2.1, fun k j h => ?_⟩)
    rw [q.2.2 k j h, g3, wm_key, if_neg (by omega), g2, wm_key, if_neg (by omega)]
theorem mx_rd_ok {F : Nat} {x1 : Int32} {S : Nat → Int32} {n i d : Nat} (hd : x1.toInt = (d : Int)) (hb : i + d < 1000) (hn96 : n ≤ 96) : ∀ (N k : Nat) (x2 x3 : Int32) (σ : Mem), x3.toInt = (k : Int) → k ≤ d → x2 = wnum S i k → (σ 101 16).toInt = ((i + k : Nat) : Int) → σ 101 17 = 0 → (∀ k', k' < k → wdg S n (i + k')) → σ 111 = S → (σ 101 15).toInt = (n : Int) → pc (lp_X4_readDigits_4 F x1 N x2 x3 σ) (fun r s => ((∀ k, k < d → wdg S n (i + k)) → r = wnum S i d ∧ (s 101 16).toInt = ((i + d : Nat) : Int) ∧ s 101 17 = 0) ∧ ((¬ ∀ k, k < d → wdg S n (i + k)) → ∃ k, k < d ∧ (∀ k', k' < k → wdg S n (i + k')) ∧ ¬ wdg S n (i + k) ∧ (s 101 16).toInt = ((i + k : Nat) : Int) ∧ s 101 17 = 1) ∧ rdO σ s) := by
  intro N
  induction N with
  | zero => intro k x2 x3 σ h1 h2 h3 h4 h5 h6 h7 h8; exact pc_none rfl
  | succ N ih =>
    intro k x2 x3 σ h1 h2 h3 h4 h5 h6 h7 h8
    rw [lp_X4_readDigits_4_s]
    simp only [j_X4_readDigits_34_e, j_X4_readDigits_39_e, j_X4_readDigits_70_e, j_X4_readDigits_88_e]
    refine pc_ite (fun c => ?_) (fun c => ?_)
    · have := ti_le c
      have hk : k = d := by omega
      subst hk
      exact pc_ret ⟨fun _ => ⟨h3, h4, h5⟩, fun q => absurd h6 q, fun _ _ _ => rfl⟩
    have hc := ti_nle c
    rw [h5, if_pos rfl]
    refine pc_bnd (mx_here h8 h4) (fun r s w => ?_)
    obtain ⟨rfl, w1, w2⟩ := w
    rw [h7] at w1
    refine pc_be (mx_in32 (lo := 48) (hi := 57) rfl rfl) ?_
    have hdg : (48 ≤ r.toInt ∧ r.toInt ≤ 57) ↔ wdg S n (i + k) := by
      by_cases c2 : i + k < n
      · rw [w1 c2]; exact ⟨fun q => ⟨c2, q⟩, fun q => q.2⟩
      · rw [w2 c2]; exact ⟨fun q => absurd q.1 (by decide), fun q => absurd q.1 c2⟩
    have e16 : ∀ b : Int32, (up2 s 101 17 b) 101 16 = s 101 16 := fun b => up2_i (by decide)
    by_cases c3 : wdg S n (i + k)
    · rw [if_pos (hdg.mpr c3), if_neg (by decide)]
      refine pc_bz (fun _ => pc_lt (fun s2 g2 => ?_))
      have e17 : s2 101 17 = 0 := by rw [g2, up2_s]
      rw [e17, if_pos rfl]
      refine pc_chk (fun _ => ?_)
      rw [if_pos rfl]
      have e162 : s2 101 16 = s 101 16 := by rw [g2]; exact e16 _
      have e111 : s2 111 = S := by rw [g2, up2_k (by decide)]; exact h7
      refine pc_lt (fun s3 g3 => ?_)
      refine pc_mono (ih (k + 1) _ _ s3 (ti_nx h1 (by omega)) (by omega) ?_ ?_ (by rw [g3, up2_i (by decide)]; exact e17) (fun k' hk' => ?_) (by rw [g3, up2_k (by decide)]; exact e111) (by rw [g3, up2_i (by decide), g2, up2_i (by decide)]; exact h8)) (fun r s q => ⟨q.1, q.2.1, fun k j h => ?_⟩)
      · rw [e111, e162, tn_int h4, h3]
        show (10 : Int32) * wnum S i k + S (i + k) - 48 = wnum S i k * 10 + (S (i + k) - 48)
        rw [Int32.sub_eq_add_neg, Int32.sub_eq_add_neg, Int32.add_assoc, Int32.mul_comm]
      · rw [g3, up2_s, e162]
        exact ti_pl (p := i + k) (k := 1) h4 (by omega) rfl (by decide)
      · by_cases e : k' = k
        · subst e; exact c3
        · exact h6 k' (by omega)
      · rw [q.2.2 k j h, g3, wm_key, if_neg (by omega), g2, wm_key, if_neg (by omega)]
    · rw [if_neg (fun q => c3 (hdg.mp q)), if_pos rfl]
      refine pc_bz (fun _ => pc_lt (fun s2 g2 => ?_))
      have e17 : s2 101 17 = 1 := by rw [g2, up2_s]
      rw [e17, if_neg (by decide), if_neg (by decide)]
      refine pc_lt (fun s3 g3 => ?_)
      refine pc_mono (mx_rd_bad N _ _ s3 (by rw [g3, up2_s, g2, e16, Int32.add_zero]; exact h4) (by rw [g3, up2_i (by decide)]; exact e17)) (fun r s q => ⟨fun w => absurd (w k (by omega)) c3, fun _ => ⟨k, by omega, h6, c3, q.1, q.2.1⟩, fun k j h => ?_⟩)
      rw [q.2.2 k j h, g3, wm_key, if_neg (by omega), g2, wm_key, if_neg (by omega)]
theorem mx_rd {F : Nat} {x : Int32} {σ : Mem} {S : Nat → Int32} {n q e d : Nat} (hx : x.toInt = (d : Int)) (hb : q + e + d < 1000) (hn96 : n ≤ 96) (hA : RA S n q e σ) (h7 : σ 111 = S) (h8 : (σ 101 15).toInt = (n : Int)) : pc (f_X4_readDigits F x σ) (fun r s => RA S n q (e + d) s ∧ ((∀ k, k < e + d → wdg S n (q + k)) → r = wnum S (q + e) d) ∧ rdO σ s) := by
  rw [f_X4_readDigits_e]
  by_cases c : ∀ k, k < e → wdg S n (q + k)
  · obtain ⟨a1, a2⟩ := hA.1 c
    refine pc_mono (mx_rd_ok (i := q + e) hx (by omega) hn96 F 0 0 0 σ rfl (by omega) rfl a1 a2 (fun k' h => by omega) h7 h8) (fun r s w => ?_)
    obtain ⟨w1, w2, w3⟩ := w
    have cv : (∀ k, k < e + d → wdg S n (q + k)) ↔ (∀ k, k < d → wdg S n (q + e + k)) := ⟨fun h k hk => by have := h (e + k) (by omega); rw [show q + e + k = q + (e + k) by omega]; exact this, fun h k hk => by
      by_cases ce : k < e
      · exact c k ce
      · have := h (k - e) (by omega); rw [show q + e + (k - e) = q + k by omega] at this; exact this⟩
    refine ⟨⟨fun h => ?_, fun h => ?_⟩, fun h => (w1 (cv.mp h)).1, w3⟩
    · obtain ⟨-, g1, g2⟩ := w1 (cv.mp h)
      exact ⟨by rw [g1, Nat.add_assoc], g2⟩
    · obtain ⟨k, g1, g2, g3, g4, g5⟩ := w2 (fun w => h (cv.mpr w))
      refine ⟨e + k, by omega, fun k' hk' => ?_, by rw [← Nat.add_assoc]; exact g3, by rw [g4, Nat.add_assoc], g5⟩
      by_cases ce : k' < e
      · exact c k' ce
      · have := g2 (k' - e) (by omega); rw [show q + e + (k' - e) = q + k' by omega] at this; exact this
  · obtain ⟨k, g1, g2, g3, g4, g5⟩ := hA.2 c
    refine pc_mono (mx_rd_bad F 0 0 σ g4 g5) (fun r s w => ⟨⟨fun h => absurd (h k (by omega)) g3, fun _ => ⟨k, by omega, g2, g3, w.1, w.2.1⟩⟩, fun h => absurd (h k (by omega)) g3, w.2.2⟩)
theorem RA_k {S : Nat → Int32} {n q e : Nat} {σ s : Mem} (h : RA S n q e σ) (e1 : s 101 16 = σ 101 16) (e2 : s 101 17 = σ 101 17) : RA S n q e s := by
  unfold RA at h ⊢
  rw [e1, e2]
  exact h
/-- the numbers of a statement as they are told -/
def wtold (S : Nat → Int32) (p : Nat) (f : Nat → Int32) (b : Nat) : Prop :=
  (S p = 100 → f b = wnum S (p + 1) 2) ∧ (S p = 112 → f b = wnum S (p + 1) 3) ∧
  (S p = 115 → f b = wnum S (p + 1) 1 ∧ f (b + 1) = wnum S (p + 2) 2 ∧ f (b + 2) = wnum S (p + 4) 2 ∧ f (b + 3) = wnum S (p + 6) 1) ∧
  (S p = 117 → f b = wnum S (p + 1) 1) ∧ (S p = 108 ∨ S p = 118 ∨ S p = 119 → f b = wnum S (p + 1) 1 ∧ f (b + 1) = wnum S (p + 2) 1)
def rnO (b : Nat) (σ s : Mem) : Prop := ∀ k i, ¬ (k = 101 ∧ (i = 16 ∨ i = 17)) → ¬ (k = 114 ∧ b ≤ i ∧ i < b + 4) → s k i = σ k i
theorem ti_ix {x : Int32} {b k : Nat} {c : Int32} (h : x.toInt = (b : Int)) (hb : b < 1000) (hc : c.toInt = (k : Int)) (hk : k < 10) : (x + c).toNatClampNeg = b + k := tn_int (ti_pl h hb hc (by omega))
theorem mx_readNumbers {F : Nat} {c x2 : Int32} {σ : Mem} {S : Nat → Int32} {n p b : Nat} (hc : S p = c) (hx2 : x2.toInt = (b : Int)) (hb : b ≤ 192) (hp : p < n) (hn96 : n ≤ 96) (hD : wD c ≠ 0) (h16 : (σ 101 16).toInt = ((p + 1 : Nat) : Int)) (h17 : σ 101 17 = 0) (h7 : σ 111 = S) (h8 : (σ 101 15).toInt = (n : Int)) : pc (f_X4_readNumbers F c x2 σ) (fun _ s => RA S n (p + 1) (wD c) s ∧ ((∀ k, k < wD c → wdg S n (p + 1 + k)) → wtold S p (s 114) b) ∧ rnO b σ s) := by
  have hA0 : RA S n (p + 1) 0 σ := ⟨fun _ => ⟨h16, h17⟩, fun h => absurd (fun k hk => absurd hk (Nat.not_lt_zero k)) h⟩
  have i0 : x2.toNatClampNeg = b := tn_int hx2
  have i1 : (x2 + (1 : Int32)).toNatClampNeg = b + 1 := ti_ix hx2 (by omega) rfl (by decide)
  have i2 : (x2 + (2 : Int32)).toNatClampNeg = b + 2 := ti_ix hx2 (by omega) rfl (by decide)
  have i3 : (x2 + (3 : Int32)).toNatClampNeg = b + 3 := ti_ix hx2 (by omega) rfl (by decide)
  have one : ∀ (d : Nat) (x : Int32), x.toInt = (d : Int) → d ≤ 3 → pc (wt_bnd (f_X4_readDigits F x σ) fun r s3 => wt_chk x2 196 <| wt_lt (up2 s3 114 (Int32.toNatClampNeg x2) r) fun s5 => some ((), s5)) (fun _ s => RA S n (p + 1) d s ∧ ((∀ k, k < d → wdg S n (p + 1 + k)) → s 114 b = wnum S (p + 1) d) ∧ rnO b σ s) := fun d x hx hd => by
    refine pc_bnd (mx_rd hx (by omega) hn96 hA0 h7 h8) (fun r s3 q => pc_chk (fun _ => pc_lt (fun s5 g => pc_ret ?_)))
    rw [i0] at g
    rw [Nat.zero_add] at q
    refine ⟨RA_k q.1 (by rw [g, up2_k (by decide)]) (by rw [g, up2_k (by decide)]), fun h => by rw [g, up2_s]; exact q.2.1 h, fun k i h1 h2 => ?_⟩
    rw [g, wm_key, if_neg (by omega)]
    exact q.2.2 k i h1
  rw [f_X4_readNumbers_e]
  refine pc_ite (fun e => ?_) (fun e1 => ?_)
  · have hD2 : wD c = 2 := by rw [e]; rfl
    rw [hD2]
    refine pc_mono (one 2 2 rfl (by decide)) (fun _ s q => ⟨q.1, fun h => ⟨fun _ => q.2.1 h, fun w => ?_, fun w => ?_, fun w => ?_, fun w => ?_⟩, q.2.2⟩)
    all_goals (rw [hc, e] at w; exact absurd w (by decide))
  refine pc_ite (fun e => ?_) (fun e2 => ?_)
  · have hD2 : wD c = 3 := by rw [e]; rfl
    rw [hD2]
    refine pc_mono (one 3 3 rfl (by decide)) (fun _ s q => ⟨q.1, fun h => ⟨fun w => ?_, fun _ => q.2.1 h, fun w => ?_, fun w => ?_, fun w => ?_⟩, q.2.2⟩)
    all_goals (rw [hc, e] at w; exact absurd w (by decide))
  refine pc_ite (fun e => ?_) (fun e3 => ?_)
  · have hD2 : wD c = 6 := by rw [e]; rfl
    rw [hD2]
    refine pc_bnd (mx_rd (d := 1) rfl (by omega) hn96 hA0 h7 h8) (fun r1 s1 q1 => pc_chk (fun _ => pc_lt (fun t1 g1 => ?_)))
    rw [i0] at g1
    have o1 : rnO b σ t1 := fun k i h1 h2 => by rw [g1, wm_key, if_neg (by omega)]; exact q1.2.2 k i h1
    refine pc_bnd (mx_rd (e := 1) (d := 2) rfl (by omega) hn96 (RA_k q1.1 (by rw [g1, up2_k (by decide)]) (by rw [g1, up2_k (by decide)])) ((funext fun i => o1 111 i (by omega) (by omega)).trans h7) (by rw [o1 101 15 (by omega) (by omega)]; exact h8)) (fun r2 s2 q2 => pc_chk (fun _ => pc_lt (fun t2 g2 => ?_)))
    rw [i1] at g2
    have o2 : rnO b σ t2 := fun k i h1 h2 => by rw [g2, wm_key, if_neg (by omega), q2.2.2 k i h1]; exact o1 k i h1 h2
    refine pc_bnd (mx_rd (e := 3) (d := 2) rfl (by omega) hn96 (RA_k q2.1 (by rw [g2, up2_k (by decide)]) (by rw [g2, up2_k (by decide)])) ((funext fun i => o2 111 i (by omega) (by omega)).trans h7) (by rw [o2 101 15 (by omega) (by omega)]; exact h8)) (fun r3 s3 q3 => pc_chk (fun _ => pc_lt (fun t3 g3 => ?_)))
    rw [i2] at g3
    have o3 : rnO b σ t3 := fun k i h1 h2 => by rw [g3, wm_key, if_neg (by omega), q3.2.2 k i h1]; exact o2 k i h1 h2
    refine pc_bnd (mx_rd (e := 5) (d := 1) rfl (by omega) hn96 (RA_k q3.1 (by rw [g3, up2_k (by decide)]) (by rw [g3, up2_k (by decide)])) ((funext fun i => o3 111 i (by omega) (by omega)).trans h7) (by rw [o3 101 15 (by omega) (by omega)]; exact h8)) (fun r4 s4 q4 => pc_chk (fun _ => pc_lt (fun t4 g4 => pc_ret ?_)))
    rw [i3] at g4
    refine ⟨RA_k q4.1 (by rw [g4, up2_k (by decide)]) (by rw [g4, up2_k (by decide)]), fun h => ⟨fun w => ?_, fun w => ?_, fun _ => ⟨?_, ?_, ?_, ?_⟩, fun w => ?_, fun w => ?_⟩, fun k i h1 h2 => by rw [g4, wm_key, if_neg (by omega), q4.2.2 k i h1]; exact o3 k i h1 h2⟩
    · rw [hc, e] at w; exact absurd w (by decide)
    · rw [hc, e] at w; exact absurd w (by decide)
    · rw [g4, up2_i (by omega), q4.2.2 114 b (by omega), g3, up2_i (by omega), q3.2.2 114 b (by omega), g2, up2_i (by omega), q2.2.2 114 b (by omega), g1, up2_s]
      exact q1.2.1 (fun k hk => h k (by omega))
    · rw [g4, up2_i (by omega), q4.2.2 114 _ (by omega), g3, up2_i (by omega), q3.2.2 114 _ (by omega), g2, up2_s]
      exact q2.2.1 (fun k hk => h k (by omega))
    · rw [g4, up2_i (by omega), q4.2.2 114 _ (by omega), g3, up2_s]
      exact q3.2.1 (fun k hk => h k (by omega))
    · rw [g4, up2_s]
      exact q4.2.1 h
    · rw [hc, e] at w; exact absurd w (by decide)
    · rw [hc, e] at w; exact absurd w (by decide)
  refine pc_ite (fun e => ?_) (fun e4 => ?_)
  · have hD2 : wD c = 1 := by rw [e]; rfl
    rw [hD2]
    refine pc_mono (one 1 1 rfl (by decide)) (fun _ s q => ⟨q.1, fun h => ⟨fun w => ?_, fun w => ?_, fun w => ?_, fun _ => q.2.1 h, fun w => ?_⟩, q.2.2⟩)
    all_goals (rw [hc, e] at w; exact absurd w (by decide))
  · have hc3 : c = 108 ∨ c = 118 ∨ c = 119 := by
      rcases wD_cs c with ⟨-, h0, -⟩ | ⟨-, -, -, -, h⟩
      · exact absurd h0 hD
      · rcases h with h | h | h | h | h | h | h
        · exact absurd h e1
        · exact Or.inl h
        · exact absurd h e2
        · exact absurd h e3
        · exact absurd h e4
        · exact Or.inr (Or.inl h)
        · exact Or.inr (Or.inr h)
    have hD2 : wD c = 2 := by rcases hc3 with h | h | h <;> (rw [h]; rfl)
    rw [hD2]
    refine pc_bnd (mx_rd (d := 1) rfl (by omega) hn96 hA0 h7 h8) (fun r1 s1 q1 => pc_chk (fun _ => pc_lt (fun t1 g1 => ?_)))
    rw [i0] at g1
    have o1 : rnO b σ t1 := fun k i h1 h2 => by rw [g1, wm_key, if_neg (by omega)]; exact q1.2.2 k i h1
    refine pc_bnd (mx_rd (e := 1) (d := 1) rfl (by omega) hn96 (RA_k q1.1 (by rw [g1, up2_k (by decide)]) (by rw [g1, up2_k (by decide)])) ((funext fun i => o1 111 i (by omega) (by omega)).trans h7) (by rw [o1 101 15 (by omega) (by omega)]; exact h8)) (fun r2 s2 q2 => pc_chk (fun _ => pc_lt (fun t2 g2 => pc_ret ?_)))
    rw [i1] at g2
    refine ⟨RA_k q2.1 (by rw [g2, up2_k (by decide)]) (by rw [g2, up2_k (by decide)]), fun h => ⟨fun w => absurd (hc.symm.trans w) e1, fun w => absurd (hc.symm.trans w) e2, fun w => absurd (hc.symm.trans w) e3, fun w => absurd (hc.symm.trans w) e4, fun _ => ⟨?_, ?_⟩⟩, fun k i h1 h2 => by rw [g2, wm_key, if_neg (by omega), q2.2.2 k i h1]; exact o1 k i h1 h2⟩
    · rw [g2, up2_i (by omega), q2.2.2 114 b (by omega), g1, up2_s]
      exact q1.2.1 (fun k hk => h k (by omega))
    · rw [g2, up2_s]
      exact q2.2.1 h
end
