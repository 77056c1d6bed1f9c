/-! both sides, one after the other -/
theorem two {α β : Type} {o1 : Option (α × Mem)} {o2 : Mem → Option (β × Mem)} {Q1 : α → Mem → Prop} {Q2 : Mem → β → Mem → Prop} {R : α → β → Mem → Prop} (h1 : sf o1 Q1) (h2 : ∀ a s, Q1 a s → sf (o2 s) (Q2 s)) (k : ∀ a s b z, Q1 a s → Q2 s b z → R a b z) : ∃ r1 s1 r2 s2, o1 = some (r1, s1) ∧ o2 s1 = some (r2, s2) ∧ R r1 r2 s2 := by
  obtain ⟨a, s, e, q⟩ := h1
  obtain ⟨b, z, e2, q2⟩ := h2 a s q
  exact ⟨a, s, b, z, e, e2, k a s b z q q2⟩
theorem fin {lim : Nat} {σ s z : Mem} (hl : 28 ≤ lim ∧ lim ≤ 188) (h : wR lim σ) (x1 : wiX s) (m1 : wiM z) (m2 : ∀ k, k < 101 → z k = s k) (hag : ag cIW σ z) (hV : rV lim z) (hS : rS z) : wR lim z := by
  obtain ⟨-, -, -, hI, -, hL, hW⟩ := h
  exact ⟨wx_congr x1 m2, m1, hV, rI_ag hl hI (ag_mono hag (fun c q => Or.inl q)), hS, rL_ag hL (ag_mono hag (fun c q => Or.inr (Or.inl q))), rW_ag hW (ag_mono hag (fun c q => Or.inr (Or.inr q)))⟩
theorem ag_bad {C : Nat → Prop} {σ s z : Mem} (b1 : ∀ k, k ≠ 86 → s k = σ k) (b2 : ∀ k i, k ≠ 108 → ¬ (k = 101 ∧ i = 10) → z k i = s k i) (hC : ∀ c, C c → c ≠ 86 ∧ c ≠ 108 ∧ c ≠ 1010) : ag C σ z := fun k i hc => by
  obtain ⟨h1, h2, h3⟩ := hC _ hc
  rw [b2 k i (fun e => by subst e; exact h2 rfl) (fun e => by obtain ⟨rfl, rfl⟩ := e; exact h3 rfl), b1 k (fun e => by subst e; exact h1 rfl)]
theorem fin_bad {lim : Nat} {σ s z : Mem} (hl : 28 ≤ lim ∧ lim ≤ 188) (h : wR lim σ) (x1 : wiX s) (m1 : wiM z) (m2 : ∀ k, k < 101 → z k = s k) (b1 : ∀ k, k ≠ 86 → s k = σ k) (b2 : ∀ k i, k ≠ 108 → ¬ (k = 101 ∧ i = 10) → z k i = s k i) : wR lim z := by
  refine fin hl h x1 m1 m2 (ag_bad b1 b2 ?_) (rV_ag hl h.2.2.1 (ag_bad b1 b2 ?_)) (rS_ag h.2.2.1.1 h.2.2.2.2.1 (ag_bad b1 b2 ?_))
  · intro c hc; unfold cIW cI cL cW at hc; omega
  · intro c hc; unfold cV cX cM at hc; omega
  · intro c hc; unfold cS cM at hc; omega
/-- what both sides' houses are, from what each did -/
theorem rV_mk {lim : Nat} {s z : Mem} (hl : 28 ≤ lim ∧ lim ≤ 188) {A B : Nat → Int32} (m2 : ∀ k, k < 101 → z k = s k) (hA : ∀ p, p < lim → wvX 1 s p = A p) (hB : ∀ p, p < lim → wvM z p = B p) (hB2 : ∀ p, p < 188 → wvM z p = B p) (hv : wvV B) (hw : weq lim B A) : rV lim z := by
  refine ⟨wvV_cg hv hB2, weq_cg hw hl.1 hB (fun p hp => ?_)⟩
  rw [← hA p hp]
  exact wvX_eq (fun p hp => by have := wvJ_le p hp; rw [m2 _ (by omega)]) (by omega)
theorem eMV {σ s : Mem} (e : ∀ k, 101 ≤ k → s k = σ k) : ∀ p, p < 188 → wvM s p = wvM σ p := fun p hp => by
  unfold wvM
  rw [e _ (wtJ_101 p hp).1]
theorem mu_pane {F lim : Nat} {σ : Mem} {x : Int32} (hF : 73786976294838206464 ≤ F) (hl : 28 ≤ lim ∧ lim ≤ 188) (h : wR lim σ) : ∃ r1 s1 r2 s2, f_X3_pane F x σ = some (r1, s1) ∧ f_X4_pane F x s1 = some (r2, s2) ∧ wR lim s2 ∧ r1 = r2 := by
  obtain ⟨hX, hM, hV, hI, hS, hL, hW⟩ := id h
  refine two (pc_sf (s_X3_pane (by omega) hX) (pc_and (cx_pane (wx_X0_0 hX wt_h1)) (pc_pf (fr_X3_pane (by omega))))) (fun a s q => pc_sf (s_X4_pane hF (wm_congr hM q.1.2.1)) (pc_and (cm_pane (wx_X4_1 (wm_congr hM q.1.2.1))) (pc_pf (fr_X4_pane (by omega))))) (fun a s b z q1 q2 => ?_)
  obtain ⟨⟨x1, x2, -⟩, c1, f1⟩ := q1
  obtain ⟨⟨m1, m2, -⟩, c2, f2⟩ := q2
  have e0 : σ 1 0 = σ 101 1 := weq_lo hV.2 hl.1 (p := 0) (by decide)
  have es : s 101 1 = σ 101 1 := by rw [x2 101 (by decide)]
  rw [es, ← e0] at c2
  by_cases c : ePane (σ 1 0) x = 0
  · obtain ⟨g1, g2, g3⟩ := c1.1 c
    obtain ⟨n1, n2, n3⟩ := c2.1 c
    have hx : (wvM σ 0).toInt < 6 := by
      have := (cF_0 c).2
      show (σ 101 1).toInt < 6
      rw [← e0]
      by_cases d : (σ 1 0).toInt < 6
      · exact d
      · rw [if_neg d] at this; exact absurd this (by decide)
    have n1' : ∀ p, p < 188 → wvM z p = aPane (wvM σ) x p := fun p hp => by
      rw [n1 p hp]
      unfold aPane
      rw [eMV x2 0 (by decide)]
      exact upd_cg (upd_cg (eMV x2 p hp) rfl) rfl
    refine ⟨fin hl h x1 m1 m2 (ag_tr (ag_fr f1 ?_) (ag_fr f2 ?_)) (rV_mk hl m2 (fun p hp => g1 p (by omega)) (fun p hp => n1' p (by omega)) (fun p hp => n1' p (by omega)) (wvV_aPane hV.1 hx) (weq_aPane hV.2 hl.1 x)) (rS_0 (by rw [m2 70 (by decide)]; exact g3) n3), ?_⟩
    · intro c hc; unfold cIW cI cL cW at hc; show ¬ _; unfold wf_22; omega
    · intro c hc; unfold cIW cI cL cW at hc; show ¬ _; unfold wf_62; omega
    · rw [g2, n2]
      have h1 : s 1 0 = aPane (wvX 1 σ) x 0 := g1 0 (by decide)
      have h2 : z 101 1 = aPane (wvM σ) x 0 := n1' 0 (by decide)
      rw [h1, h2]
      unfold aPane
      rw [wv_us, wv_us, show wvX 1 σ 0 = wvM σ 0 from e0]
  · obtain ⟨g1, g2⟩ := c1.2 c
    obtain ⟨n1, n2⟩ := c2.2 c
    exact ⟨fin_bad hl h x1 m1 m2 g2 n2, by rw [g1, n1]⟩
theorem eLooker_kf {L k f : Int32} (h : eLooker L k f = 0) : (0 ≤ k.toInt ∧ k.toInt ≤ 5) ∧ (0 ≤ f.toInt ∧ f.toInt ≤ 9) := by
  obtain ⟨e1, -⟩ := cF_0 h
  obtain ⟨e0, e1⟩ := cF_0 e1
  have e3 := cN_0 e1
  have e4 := cO_0 e0
  rw [tz_0, tz_9] at e3
  rw [tz_6] at e4
  exact ⟨⟨e4.1, by omega⟩, e3⟩
theorem mu_looker {F lim : Nat} {σ : Mem} {k f : Int32} (hF : 73786976294838206464 ≤ F) (hl : 28 ≤ lim ∧ lim ≤ 188) (h : wR lim σ) : ∃ r1 s1 r2 s2, f_X3_looker F k f σ = some (r1, s1) ∧ f_X4_looker F k f s1 = some (r2, s2) ∧ wR lim s2 ∧ r1 = r2 := by
  obtain ⟨hX, hM, hV, hI, hS, hL, hW⟩ := id h
  refine two (pc_sf (s_X3_looker (by omega) hX) (pc_and (cx_looker (wx_X0_2 hX wt_h1)) (pc_pf (fr_X3_looker (by omega))))) (fun a s q => pc_sf (s_X4_looker hF (wm_congr hM q.1.2.1)) (pc_and (cm_looker (wx_X4_3 (wm_congr hM q.1.2.1))) (pc_pf (fr_X4_looker (by omega))))) (fun a s b z q1 q2 => ?_)
  obtain ⟨⟨x1, x2, -⟩, c1, f1⟩ := q1
  obtain ⟨⟨m1, m2, -⟩, c2, f2⟩ := q2
  have e0 : σ 1 2 = σ 101 3 := weq_lo hV.2 hl.1 (p := 1) (by decide)
  have es : s 101 3 = σ 101 3 := by rw [x2 101 (by decide)]
  rw [es, ← e0] at c2
  by_cases c : eLooker (σ 1 2) k f = 0
  · obtain ⟨g1, g2, g3⟩ := c1.1 c
    obtain ⟨n1, n2, n3⟩ := c2.1 c
    have hx : (wvM σ 1).toInt < 5 := by
      have := (cF_0 c).2
      show (σ 101 3).toInt < 5
      rw [← e0]
      by_cases d : (σ 1 2).toInt < 5
      · exact d
      · rw [if_neg d] at this; exact absurd this (by decide)
    have n1' : ∀ p, p < 188 → wvM z p = aLooker (wvM σ) k f p := fun p hp => by
      rw [n1 p hp]
      unfold aLooker
      rw [eMV x2 1 (by decide), eMV x2 p hp]
    refine ⟨fin hl h x1 m1 m2 (ag_tr (ag_fr f1 ?_) (ag_fr f2 ?_)) (rV_mk hl m2 (fun p hp => g1 p (by omega)) (fun p hp => n1' p (by omega)) (fun p hp => n1' p (by omega)) (wvV_aLooker hV.1 (eLooker_kf c).1 (eLooker_kf c).2 hx) (weq_aLooker hV.2 hl.1 ⟨hV.1.2.1.1, hx⟩)) (rS_0 (by rw [m2 70 (by decide)]; exact g3) n3), ?_⟩
    · intro c hc; unfold cIW cI cL cW at hc; show ¬ _; unfold wf_23; omega
    · intro c hc; unfold cIW cI cL cW at hc; show ¬ _; unfold wf_63; omega
    · rw [g2, n2]
      have h1 : s 1 2 = aLooker (wvX 1 σ) k f 1 := g1 1 (by decide)
      have h2 : z 101 3 = aLooker (wvM σ) k f 1 := n1' 1 (by decide)
      rw [h1, h2, aLooker_1, aLooker_1, show wvX 1 σ 1 = wvM σ 1 from e0]
  · obtain ⟨g1, g2⟩ := c1.2 c
    obtain ⟨n1, n2⟩ := c2.2 c
    exact ⟨fin_bad hl h x1 m1 m2 g2 n2, by rw [g1, n1]⟩
theorem ag_put {W : Nat → Prop} {σ s z : Mem} (f1 : fr W σ s) (hW : ∀ c, cIW c → ¬ W c) (a2 : ag cIW s z) : ag cIW σ z := ag_tr (ag_fr f1 hW) a2
/-- the ring, the class's other slots -/
theorem put_slot {σ s : Mem} {w x old : Int32} (h : wsPut σ s w x old) : ∀ i, i < 8 → i ≠ wsSlot σ → s 71 i = σ 71 i ∧ s 72 i = σ 72 i ∧ s 73 i = σ 73 i ∧ s (75 + i) = σ (75 + i) := fun i hi hn => by
  obtain ⟨h1, h2, h3, h4, h5⟩ := h
  exact ⟨by rw [h2, wv_un hn], by rw [h3, wv_un hn], by rw [h4, wv_un hn], h5 _ (by omega) (by omega)⟩
theorem putR_slot {σ s : Mem} {x : Int32} {f : Nat → Int32} (h : wsPutR σ s x f) : ∀ i, i < 8 → i ≠ wsSlot σ → s 71 i = σ 71 i ∧ s 72 i = σ 72 i ∧ s 73 i = σ 73 i ∧ s (75 + i) = σ (75 + i) := fun i hi hn => by
  obtain ⟨h1, h2, h3, h4, h5, h6⟩ := h
  exact ⟨by rw [h2, wv_un hn], by rw [h3, wv_un hn], by rw [h5], h6 _ (by omega) (by omega) (by omega)⟩
theorem kept_s {σ s z : Mem} (x2 : ∀ k, 101 ≤ k → s k = σ k) (h : wsKept s z) : wsKept σ z := by
  obtain ⟨t, d, h1, h2, h3, h4⟩ := h
  rw [x2 101 (by decide)] at h1
  rw [x2 117 (by decide)] at h3
  exact ⟨t, d, h1, h2, h3, fun p hp => by rw [h4 p hp, eMV x2 p hp]⟩
theorem ring_z {σ s z : Mem} (h : wsRing σ s) (e : z 70 = s 70) : wsRing σ z := by
  unfold wsRing at h ⊢
  rw [e]
  exact h
theorem mu_law {F lim : Nat} {σ : Mem} {x : Int32} (hF : 73786976294838206464 ≤ F) (hl : 28 ≤ lim ∧ lim ≤ 188) (h : wR lim σ) : ∃ r1 s1 r2 s2, f_X3_law F x σ = some (r1, s1) ∧ f_X4_law F x s1 = some (r2, s2) ∧ wR lim s2 ∧ r1 = r2 := by
  obtain ⟨hX, hM, hV, hI, hS, hL, hW⟩ := id h
  refine two (pc_sf (s_X3_law (by omega) hX) (pc_and (cx_law (by omega) (wx_X2_4 hX) (wx_X2_5 hX)) (pc_pf (fr_X3_law (by omega))))) (fun a s q => pc_sf (s_X4_law hF (wm_congr hM q.1.2.1)) (cm_law hF (wm_congr hM q.1.2.1))) (fun a s b z q1 q2 => ?_)
  obtain ⟨⟨x1, x2, -⟩, c1, f1⟩ := q1
  obtain ⟨⟨m1, m2, -⟩, c2⟩ := q2
  have e2 : σ 1 8 = σ 101 8 := weq_lo hV.2 hl.1 (p := 2) (by decide)
  by_cases c : cO x 3 = 0
  · obtain ⟨g1, g2, g3⟩ := c1.1 c
    obtain ⟨n1, n2, n3, n4⟩ := c2.1 c
    have hx := cO_0 c
    rw [tz_3] at hx
    have n1' : ∀ p, p < 188 → wvM z p = aLaw (wvM σ) x p := fun p hp => by
      rw [n1 p hp]
      unfold aLaw
      exact upd_cg (eMV x2 p hp) rfl
    have g3z : wsPut σ z 3 0 (σ 1 8) := wsPut_k g3 (fun k a b => m2 k (by omega))
    refine ⟨fin hl h x1 m1 m2 (ag_put f1 ?_ n4) (rV_mk hl m2 (fun p hp => g1 p (by omega)) (fun p hp => n1' p (by omega)) (fun p hp => n1' p (by omega)) (wvV_aLaw hV.1 ⟨hx.1, by omega⟩) (weq_aLaw hV.2)) (rS_push hV.1 hS (wx_X2_4 hX) (wx_X2_5 hX) g3z.1 (put_slot g3z) (kept_s x2 n3) (Or.inr (Or.inr (Or.inr ⟨?_, ?_, ?_, fun p hp hn => ?_⟩)))), ?_⟩
    · intro c hc; unfold cIW cI cL cW at hc; show ¬ _; unfold wf_27; omega
    · rw [g3z.2.1, wv_us]
    · rw [g3z.2.2.2.1, wv_us, e2]; exact hV.1.2.2.1
    · rw [g3z.2.2.2.1, wv_us, e2]; rfl
    · rw [n1' p hp]; unfold aLaw; rw [wv_un hn]
    · rw [g2, n2, e2, x2 101 (by decide)]
  · obtain ⟨g1, g2⟩ := c1.2 c
    obtain ⟨n1, n2⟩ := c2.2 c
    exact ⟨fin_bad hl h x1 m1 m2 g2 n2, by rw [g1, n1]⟩
theorem mu_worth {F lim : Nat} {σ : Mem} {v x : Int32} (hF : 73786976294838206464 ≤ F) (hl : 28 ≤ lim ∧ lim ≤ 188) (h : wR lim σ) : ∃ r1 s1 r2 s2, f_X3_worth F v x σ = some (r1, s1) ∧ f_X4_worth F v x s1 = some (r2, s2) ∧ wR lim s2 ∧ r1 = r2 := by
  obtain ⟨hX, hM, hV, hI, hS, hL, hW⟩ := id h
  refine two (pc_sf (s_X3_worth (by omega) hX) (pc_and (cx_worth (by omega) (wx_X2_4 hX) (wx_X2_5 hX)) (pc_pf (fr_X3_worth (by omega))))) (fun a s q => pc_sf (s_X4_worth hF (wm_congr hM q.1.2.1)) (cm_worth hF (wm_congr hM q.1.2.1))) (fun a s b z q1 q2 => ?_)
  obtain ⟨⟨x1, x2, -⟩, c1, f1⟩ := q1
  obtain ⟨⟨m1, m2, -⟩, c2⟩ := q2
  by_cases c : cF (cB (0 ≤ v.toInt ∧ v.toInt ≤ 7)) (cN x 0 9) = 0
  · obtain ⟨g1, g2, g3⟩ := c1.1 c
    obtain ⟨n1, n2, n3, n4⟩ := c2.1 c
    obtain ⟨hb, hx⟩ := cF_0 c
    have hb := cB_0 hb
    have hx := cN_0 hx
    rw [tz_0, tz_9] at hx
    have hn : v.toNatClampNeg < 8 := tn_lt hb.1 (by omega)
    have hv : v.toInt = (v.toNatClampNeg : Int) := by rw [ti_nat]; omega
    have hj := wvJI_16 _ hn
    have hk := wtJI_102 _ hn
    have eX : wvX 1 σ (4 + v.toNatClampNeg) = σ 17 v.toNatClampNeg := by unfold wvX; rw [wvE_o (Or.inl (by omega)), ← hj.1, ← hj.2]
    have eM : wvM σ (4 + v.toNatClampNeg) = σ 102 v.toNatClampNeg := by unfold wvM; rw [hk.1, hk.2]
    have e2 : σ 17 v.toNatClampNeg = wvM σ (4 + v.toNatClampNeg) := by rw [← eX]; exact weq_lo hV.2 hl.1 (by omega)
    have n1' : ∀ p, p < 188 → wvM z p = aWorth (wvM σ) v x p := fun p hp => by
      rw [n1 p hp]
      unfold aWorth
      exact upd_cg (eMV x2 p hp) rfl
    have g3z : wsPut σ z 2 v (σ 17 v.toNatClampNeg) := wsPut_k g3 (fun k a b => m2 k (by omega))
    refine ⟨fin hl h x1 m1 m2 (ag_put f1 ?_ n4) (rV_mk hl m2 (fun p hp => g1 p (by omega)) (fun p hp => n1' p (by omega)) (fun p hp => n1' p (by omega)) (wvV_aWorth hV.1 hn hx) (weq_aWorth hV.2)) (rS_push hV.1 hS (wx_X2_4 hX) (wx_X2_5 hX) g3z.1 (put_slot g3z) (kept_s x2 n3) (Or.inr (Or.inr (Or.inl ⟨?_, v.toNatClampNeg, ?_, hn, ?_, ?_, fun p hp hn => ?_⟩)))), ?_⟩
    · intro c hc; unfold cIW cI cL cW at hc; show ¬ _; unfold wf_26; omega
    · rw [g3z.2.1, wv_us]
    · rw [g3z.2.2.1, wv_us]; exact hv
    · rw [g3z.2.2.2.1, wv_us, e2]; exact hV.1.2.2.2.1 _ (by omega) (by omega)
    · rw [g3z.2.2.2.1, wv_us, e2]
    · rw [n1' p hp]; unfold aWorth; rw [wv_un hn]
    · rw [g2, n2, e2, eM, x2 102 (by decide)]
  · obtain ⟨g1, g2⟩ := c1.2 c
    obtain ⟨n1, n2⟩ := c2.2 c
    exact ⟨fin_bad hl h x1 m1 m2 g2 n2, by rw [g1, n1]⟩
theorem mu_wall {F lim : Nat} {σ : Mem} {x v : Int32} (hF : 73786976294838206464 ≤ F) (hl : 28 ≤ lim ∧ lim ≤ 188) (h : wR lim σ) : ∃ r1 s1 r2 s2, f_X3_wall F x v σ = some (r1, s1) ∧ f_X4_wall F x v s1 = some (r2, s2) ∧ wR lim s2 ∧ r1 = r2 := by
  obtain ⟨hX, hM, hV, hI, hS, hL, hW⟩ := id h
  refine two (pc_sf (s_X3_wall (by omega) hX) (pc_and (cx_wall (by omega) (wx_X0_0 hX wt_h1).2 (wx_X2_4 hX) (wx_X2_5 hX)) (pc_pf (fr_X3_wall (by omega))))) (fun a s q => pc_sf (s_X4_wall hF (wm_congr hM q.1.2.1)) (cm_wall hF (wm_congr hM q.1.2.1))) (fun a s b z q1 q2 => ?_)
  obtain ⟨⟨x1, x2, -⟩, c1, f1⟩ := q1
  obtain ⟨⟨m1, m2, -⟩, c2⟩ := q2
  have e0 : σ 1 0 = σ 101 1 := weq_lo hV.2 hl.1 (p := 0) (by decide)
  have es : s 101 1 = σ 101 1 := by rw [x2 101 (by decide)]
  rw [es, ← e0] at c2
  by_cases c : cF (cB (0 ≤ x.toInt ∧ x.toInt < (σ 1 0).toInt)) (cB (0 ≤ v.toInt ∧ v.toInt ≤ 7)) = 0
  · obtain ⟨g1, g2, g3⟩ := c1.1 c
    obtain ⟨n1, n2, n3, n4⟩ := c2.1 c
    obtain ⟨hb, hx⟩ := cF_0 c
    have hb := cB_0 hb
    have b6 := (wx_X0_0 hX wt_h1).2
    have hn : x.toNatClampNeg < 6 := tn_lt hb.1 (by omega)
    have hv : x.toInt = (x.toNatClampNeg : Int) := by rw [ti_nat]; omega
    have hj := wvJI_1 _ hn
    have hk := wtJI_103 _ hn
    have eX : ∀ s : Mem, wvX 1 s (12 + x.toNatClampNeg) = s 2 x.toNatClampNeg := fun s => by unfold wvX; rw [wvE_o (Or.inl (by omega)), ← hj.1, ← hj.2]
    have eM : ∀ s : Mem, wvM s (12 + x.toNatClampNeg) = s 103 x.toNatClampNeg := fun s => by unfold wvM; rw [hk.1, hk.2]
    have e2 : σ 2 x.toNatClampNeg = wvM σ (12 + x.toNatClampNeg) := by rw [← eX σ]; exact weq_lo hV.2 hl.1 (by omega)
    have n1' : ∀ p, p < 188 → wvM z p = aWall (wvM σ) x v p := fun p hp => by
      rw [n1 p hp]
      unfold aWall
      rw [eMV x2 _ (by omega)]
      exact upd_cg (eMV x2 p hp) rfl
    have g3z : wsPut σ z 1 x (σ 2 x.toNatClampNeg) := wsPut_k g3 (fun k a b => m2 k (by omega))
    refine ⟨fin hl h x1 m1 m2 (ag_put f1 ?_ n4) (rV_mk hl m2 (fun p hp => g1 p (by omega)) (fun p hp => n1' p (by omega)) (fun p hp => n1' p (by omega)) (wvV_aWall hV.1 hn) (weq_aWall hV.2 hl.1 hn)) (rS_push hV.1 hS (wx_X2_4 hX) (wx_X2_5 hX) g3z.1 (put_slot g3z) (kept_s x2 n3) (Or.inr (Or.inl ⟨?_, x.toNatClampNeg, ?_, ?_, ?_, fun p hp hn => ?_⟩))), ?_⟩
    · intro c hc; unfold cIW cI cL cW at hc; show ¬ _; unfold wf_25; omega
    · rw [g3z.2.1, wv_us]
    · rw [g3z.2.2.1, wv_us]; exact hv
    · rw [n1' 0 (by decide)]
      unfold aWall
      rw [wv_un (by omega), ← hv]
      show x.toInt < (σ 101 1).toInt
      rw [← e0]
      exact hb.2
    · rw [g3z.2.2.2.1, wv_us, e2]
    · rw [n1' p hp]; unfold aWall; rw [wv_un hn]
    · have h1 : s 2 x.toNatClampNeg = z 103 x.toNatClampNeg := by
        rw [← eX s, ← eM z, g1 _ (by omega), n1' _ (by omega)]
        unfold aWall
        rw [wv_us, wv_us, eX σ, e2]
      rw [g2, n2, h1]
  · obtain ⟨g1, g2⟩ := c1.2 c
    obtain ⟨n1, n2⟩ := c2.2 c
    exact ⟨fin_bad hl h x1 m1 m2 g2 n2, by rw [g1, n1]⟩
