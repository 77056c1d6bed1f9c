theorem wvV_X {σ : Mem} (h : rV 188 σ) : wvV (wvX 1 σ) := wvV_weq h.1 h.2
theorem mu_stands {F : Nat} {σ : Mem} {x1 x2 x3 x4 : Int32} (hF : 73786976294838206464 ≤ F) (hl : 148 ≤ 188 ∧ 188 ≤ 188) (h : wR 188 σ) : ∃ r1 s1 r2 s2, f_X3_stands F x1 x2 x3 x4 σ = some (r1, s1) ∧ f_X4_stands F x1 x2 x3 x4 s1 = some (r2, s2) ∧ wR 188 s2 ∧ r1 = r2 := by
  obtain ⟨hX, hM, hV, hI, hS, hL, hW⟩ := id h
  have hl2 : 28 ≤ 188 ∧ 188 ≤ 188 := by omega
  have hvX := wvV_X hV
  refine two (pc_sf (s_X3_stands (by omega) hX) (pc_and (cx_stands (by omega) hvX (wx_X2_4 hX) (wx_X2_5 hX)) (pc_pf (fr_X3_stands (by omega))))) (fun a s q => pc_sf (s_X4_stands hF (wm_congr hM q.1.2.1)) (cm_stands hF (wm_congr hM q.1.2.1))) (fun a s b z q1 q2 => ?_)
  obtain ⟨⟨y1, y2, -⟩, c1, f1⟩ := q1
  obtain ⟨⟨m1, m2, -⟩, c2⟩ := q2
  have e0 : σ 1 0 = σ 101 1 := weq_lo hV.2 hl2.1 (p := 0) (by decide)
  have e1 : σ 1 2 = σ 101 3 := weq_lo hV.2 hl2.1 (p := 1) (by decide)
  have es0 : s 101 1 = σ 101 1 := by rw [y2 101 (by decide)]
  have es1 : s 101 3 = σ 101 3 := by rw [y2 101 (by decide)]
  rw [es0, es1, ← e0, ← e1] at c2
  by_cases c : eStands (σ 1 0).toInt (σ 1 2).toInt x1 x2 x3 x4 = 0
  · obtain ⟨g1, g2, g3⟩ := c1.1 c
    obtain ⟨n1, n2, n3, n4⟩ := c2.1 c
    have hc := eStands_0 c
    have hl1 : x1.toInt = (x1.toNatClampNeg : Int) := by have := hc.1; rw [ti_nat]; omega
    have hl5 : x1.toNatClampNeg < 5 := by have := hc.1; have := hvX.2.1.2; have e : (wvX 1 σ 1).toInt = (σ 1 2).toInt := rfl; omega
    have h24 : x2.toNatClampNeg < 24 ∧ x3.toNatClampNeg < 24 := by
      have t2 := ti_nat x2; have t3 := ti_nat x3; have := hc.2.1; have := hc.2.2.1; omega
    have hx4 : x4.toInt = 9 ∨ (0 ≤ x4.toInt ∧ x4.toInt < (wvM σ 0).toInt) := by
      have := hc.2.2.2.2
      rw [e0] at this
      exact this
    have n1' : ∀ p, p < 188 → wvM z p = aStand (wvM σ) x1.toNatClampNeg x2.toNatClampNeg x3.toNatClampNeg x4 p := fun p hp => by
      rw [n1 p hp]
      unfold aStand
      by_cases e : 28 + 24 * x1.toNatClampNeg + x2.toNatClampNeg ≤ p ∧ p ≤ 28 + 24 * x1.toNatClampNeg + x3.toNatClampNeg
      · rw [if_pos e, if_pos e]
      · rw [if_neg e, if_neg e, eMV y2 p hp]
    have g3z : wsPutR σ z x1 (σ (1 + 5 + x1.toNatClampNeg)) := wsPutR_k g3 (fun k a b => m2 k (by omega))
    have eR : ∀ t, t < 24 → wvX 1 σ (28 + 24 * x1.toNatClampNeg + t) = wvN (σ (1 + 5 + x1.toNatClampNeg) t) := fun t ht => by
      have hj := wvJI_5 _ hl5 t ht
      unfold wvX
      rw [wvE_i (by omega), ← hj.1, ← hj.2, show 1 + (5 + x1.toNatClampNeg) = 1 + 5 + x1.toNatClampNeg by omega]
    have lvp : ∀ t, t < 24 → live (wvM σ) (28 + 24 * x1.toNatClampNeg + t) := fun t ht => ⟨fun _ _ => by
      have := hc.1.2
      rw [e1] at this
      have e : wvM σ 1 = σ 101 3 := rfl
      have t3 := ti_nat (σ 101 3)
      rw [e]; omega, fun q => by omega⟩
    have eRM : ∀ t, t < 24 → wvM σ (28 + 24 * x1.toNatClampNeg + t) = wvN (σ (1 + 5 + x1.toNatClampNeg) t) := fun t ht => by
      rw [← eR t ht]; exact (hV.2 _ (by omega) (lvp t ht)).symm
    have bO : ∀ t, t < 24 → (σ (1 + 5 + x1.toNatClampNeg) t).toInt = 9 ∨ (0 ≤ (σ (1 + 5 + x1.toNatClampNeg) t).toInt ∧ (σ (1 + 5 + x1.toNatClampNeg) t).toInt < (wvM σ 0).toInt) := fun t ht => by
      have hb := hV.1.2.2.2.2.1 _ (by omega) (by omega) (lvp t ht)
      rw [eRM t ht] at hb
      unfold wvN at hb
      by_cases e9 : σ (1 + 5 + x1.toNatClampNeg) t = 9
      · left; rw [e9]; rfl
      · rw [if_neg e9] at hb
        by_cases em : σ (1 + 5 + x1.toNatClampNeg) t = -9
        · rw [if_pos em] at hb
          have := hV.1.1.2
          rw [tz_9] at hb
          omega
        · rw [if_neg em] at hb
          rcases hb with q | q
          · exact absurd (Int32.toInt_inj.mp (by rw [q]; rfl)) em
          · exact Or.inr q
    refine ⟨fin hl2 h y1 m1 m2 (ag_put f1 ?_ n4) (rV_mk hl2 m2 (fun p hp => g1 p (by omega)) (fun p hp => n1' p (by omega)) (fun p hp => n1' p (by omega)) (wvV_aStand hV.1 ⟨hl5, h24.2⟩ hx4) (weq_aStand hV.2)) (rS_push hV.1 hS (wx_X2_4 hX) (wx_X2_5 hX) g3z.1 (putR_slot g3z) (kept_s y2 n3) (Or.inl ⟨?_, x1.toNatClampNeg, ?_, ?_, fun t ht => ?_, fun t ht => ?_, fun p hp hn => ?_⟩)), ?_⟩
    · intro c hc; unfold cIW cI cL cW at hc; show ¬ _; unfold wf_24; omega
    · rw [g3z.2.1, wv_us]
    · rw [g3z.2.2.1, wv_us]; exact hl1
    · rw [n1' 1 (by decide)]
      unfold aStand
      rw [if_neg (by omega), ← hl1]
      show x1.toInt < (σ 101 3).toInt
      rw [← e1]
      exact hc.1.2
    · rw [g3z.2.2.2.1 t ht]; exact eRM t ht
    · rw [g3z.2.2.2.1 t ht, n1' 0 (by decide)]
      unfold aStand
      rw [if_neg (by omega)]
      exact bO t ht
    · rw [n1' p hp]; unfold aStand; rw [if_neg (by omega)]
    · rw [g2, n2]
      have hA : weq 188 (aStand (wvM σ) x1.toNatClampNeg x2.toNatClampNeg x3.toNatClampNeg x4) (aStand (wvX 1 σ) x1.toNatClampNeg x2.toNatClampNeg x3.toNatClampNeg x4) := weq_aStand hV.2
      have hB : ∀ t, t ≤ 24 → aHours (aStand (wvX 1 σ) x1.toNatClampNeg x2.toNatClampNeg x3.toNatClampNeg x4) x1.toNatClampNeg t = aHours (aStand (wvM s) x1.toNatClampNeg x2.toNatClampNeg x3.toNatClampNeg x4) x1.toNatClampNeg t := fun t => by
        induction t with
        | zero => intro _; rfl
        | succ t ih =>
          intro ht
          show aHours _ _ t + _ = aHours _ _ t + _
          have lv : live (aStand (wvM σ) x1.toNatClampNeg x2.toNatClampNeg x3.toNatClampNeg x4) (28 + 24 * x1.toNatClampNeg + t) := by
            have := lvp t (by omega)
            unfold live at this ⊢
            rw [show aStand (wvM σ) x1.toNatClampNeg x2.toNatClampNeg x3.toNatClampNeg x4 1 = wvM σ 1 from if_neg (by omega)]
            exact this
          have hs : aStand (wvM s) x1.toNatClampNeg x2.toNatClampNeg x3.toNatClampNeg x4 (28 + 24 * x1.toNatClampNeg + t) = aStand (wvM σ) x1.toNatClampNeg x2.toNatClampNeg x3.toNatClampNeg x4 (28 + 24 * x1.toNatClampNeg + t) := by
            unfold aStand
            rw [eMV y2 _ (by omega)]
          rw [ih (by omega), hs, hA _ (by omega) lv]
      exact hB 24 (by omega)
  · obtain ⟨g1, g2⟩ := c1.2 c
    obtain ⟨n1, n2⟩ := c2.2 c
    exact ⟨fin_bad hl2 h y1 m1 m2 g2 n2, by rw [g1, n1]⟩
theorem mu_days {F : Nat} {σ : Mem} {x : Int32} (hF : 73786976294838206464 ≤ F) (h : wR 188 σ) : ∃ r1 s1 r2 s2, f_X3_days F x σ = some (r1, s1) ∧ f_X4_days F x s1 = some (r2, s2) ∧ wR 188 s2 := by
  obtain ⟨hX, hM, hV, hI, hS, hL, hW⟩ := id h
  have hl : 28 ≤ 188 ∧ 188 ≤ 188 := by omega
  refine two (pc_sf (s_X3_days (by omega) hX) (pc_and (cx_days (by omega) (wvV_X hV)) (pc_pf (fr_X3_days (by omega))))) (fun a s q => pc_sf (s_X4_days hF (wm_congr hM q.1.2.1)) (pc_and (cm_days (by omega) (wvV_cg hV.1 (eMV q.1.2.1))) (pc_pf (fr_X4_days (by omega))))) (fun a s b z q1 q2 => ?_)
  obtain ⟨⟨x1, x2, -⟩, c1, f1⟩ := q1
  obtain ⟨⟨m1, m2, -⟩, c2, f2⟩ := q2
  have e0 : σ 1 9 = σ 101 9 := weq_lo hV.2 hl.1 (p := 3) (by decide)
  have es : s 101 9 = σ 101 9 := by rw [x2 101 (by decide)]
  rw [es, ← e0] at c2
  by_cases c : eDays (σ 1 9) x = 0
  · obtain ⟨g1, g3⟩ := c1.1 c
    obtain ⟨n1, n3⟩ := c2.1 c
    have n1' : ∀ p, p < 188 → wvM z p = aDay (wvM σ) x p := fun p hp => by
      rw [n1 p hp]
      exact aDay_cg hV.1 (eMV x2) hp
    have hx : 0 ≤ x.toInt ∧ x.toInt ≤ 9999 := by
      have := cN_0 (cF_0 c).1
      rw [tz_1, tz_99] at this
      omega
    refine fin hl h x1 m1 m2 (ag_tr (ag_fr f1 ?_) (ag_fr f2 ?_)) (rV_mk hl m2 g1 n1' n1' (wvV_aDay hV.1 hx) (weq_aDay hV.1 hV.2 (by omega))) (rS_0 (by rw [m2 70 (by decide)]; exact g3) n3)
    · intro c hc; unfold cIW cI cL cW at hc; show ¬ _; unfold wf_28; omega
    · intro c hc; unfold cIW cI cL cW at hc; show ¬ _; unfold wf_64; omega
  · obtain ⟨g1, g2⟩ := c1.2 c
    obtain ⟨n1, n2⟩ := c2.2 c
    exact fin_bad hl h x1 m1 m2 g2 n2
theorem mu_back {F lim : Nat} {σ : Mem} (hF : 73786976294838206464 ≤ F) (hl : 28 ≤ lim ∧ lim ≤ 188) (h : wR lim σ) : ∃ r1 s1 r2 s2, f_X3_back F σ = some (r1, s1) ∧ f_X4_back F s1 = some (r2, s2) ∧ wR lim s2 ∧ r1 = r2 := by
  obtain ⟨hX, hM, hV, hI, hS, hL, hW⟩ := id h
  refine two (pc_sf (s_X3_back (by omega) hX) (pc_and (cx_back (by omega) (wx_X0_0 hX wt_h1) (wx_X0_2 hX wt_h1) (wx_X2_4 hX) (wx_X2_5 hX)) (pc_pf (fr_X3_back (by omega))))) (fun a s q => pc_sf (s_X4_back hF (wm_congr hM q.1.2.1)) (cm_back hF (wm_congr hM q.1.2.1))) (fun a s b z q1 q2 => ?_)
  obtain ⟨⟨x1, x2, -⟩, c1, f1⟩ := q1
  obtain ⟨⟨m1, m2, -⟩, c2⟩ := q2
  have e5 : (σ 70 5).toInt = (σ 101 30).toInt := congrArg Int32.toInt hS.1
  have es : s 101 30 = σ 101 30 := by rw [x2 101 (by decide)]
  rw [es, ← e5] at c2
  by_cases c : (σ 70 5).toInt = 0
  · rw [if_pos c] at c1 c2
    obtain ⟨g1, g2⟩ := c1.2 (by decide)
    obtain ⟨n1, n2⟩ := c2.2 (by decide)
    exact ⟨fin_bad hl h x1 m1 m2 g2 n2, by rw [g1, n1]⟩
  · rw [if_neg c] at c1 c2
    obtain ⟨g1, ⟨g2, g3⟩, g4⟩ := c1.1 rfl
    obtain ⟨n1, n2, n3, n4, n5⟩ := c2.1 rfl
    have b5 := wx_X2_5 hX
    have en := ti_nat (σ 101 30)
    have hn : (σ 101 30).toInt = (((σ 101 30).toNatClampNeg - 1 : Nat) : Int) + 1 := by omega
    generalize (σ 101 30).toNatClampNeg - 1 = n at hn n3
    have o : ∀ k, 71 ≤ k → k ≤ 82 → z k = σ k := fun k p1 p2 => by
      rw [m2 k (by omega)]
      exact funext fun i => f1 k i (by rw [wcid_hi (by omega)]; show ¬ _; unfold wf_29; omega)
    have x117 : s 117 = σ 117 := x2 117 (by decide)
    have hz : ∀ p, p < 188 → wvM z p = σ 117 (188 * n + p) := fun p hp => by rw [n3 p hp, x117]
    obtain ⟨k1, k2⟩ := rS_pop (s := z) hV.1 hS hn (by rw [m2 70 (by decide)]; exact g2) (by rw [m2 70 (by decide)]; omega) (by omega) o (by rw [n4, x117]) hz
    have hw := weq_undone (s := z) hl hV.1 hV.2 hS hn (by
      obtain ⟨u0, u1, u2, u3⟩ := g4
      have ez : ∀ p, p < 188 → wvX 1 z p = wvX 1 s p := fun p hp => wvX_eq (fun p hp => by have := wvJ_le p hp; rw [m2 _ (by omega)]) hp
      exact ⟨fun a l b c d p hp => by rw [ez p hp]; exact u0 a l b c d p hp, fun a i b c p hp => by rw [ez p hp]; exact u1 a i b c p hp, fun a i b c d e p hp => by rw [ez p hp]; exact u2 a i b c d e p hp, fun a b c p hp => by rw [ez p hp]; exact u3 a b c p hp⟩) hz
    refine ⟨fin hl h x1 m1 m2 (ag_put f1 ?_ n5) ⟨k2, hw⟩ k1, ?_⟩
    · intro c hc; unfold cIW cI cL cW at hc; show ¬ _; unfold wf_29; omega
    · rw [g1, n1]
      exact Int32.toInt_inj.mp (by omega)
theorem mu_image {F lim : Nat} {σ : Mem} (hF : 73786976294838206464 ≤ F) (hl : 28 ≤ lim ∧ lim ≤ 188) (h : wR lim σ) : ∃ r1 s1 r2 s2, f_X3_image F σ = some (r1, s1) ∧ f_X4_image F s1 = some (r2, s2) ∧ wR lim s2 ∧ r1 = r2 := by
  obtain ⟨hX, hM, hV, hI, hS, hL, hW⟩ := id h
  refine two (pc_sf (s_X3_image (by omega) hX) (pc_and cx_image (pc_pf (fr_X3_image (by omega))))) (fun a s q => pc_sf (s_X4_image hF (wm_congr hM q.1.2.1)) (cm_image (by omega))) (fun a s b z q1 q2 => ?_)
  obtain ⟨⟨x1, x2, -⟩, ⟨g1, g2, g3⟩, f1⟩ := q1
  obtain ⟨⟨m1, m2, -⟩, n1, n2, n3, n4⟩ := q2
  have e9 : σ 1 9 = σ 101 9 := weq_lo hV.2 hl.1 (p := 3) (by decide)
  have ag2 : ∀ C : Nat → Prop, (∀ c, C c → ¬ ((47 ≤ c ∧ c ≤ 63) ∨ c = 2003 ∨ c = 116 ∨ c = 1010 ∨ c = 1024 ∨ (1025 ≤ c ∧ c ≤ 1027))) → ag C σ z := fun C hC k i hc => by
    have hk := hC _ hc
    rw [n4 k i (fun e => by subst e; rw [show wcid 116 i = 116 from rfl] at hk; omega) (fun e => by obtain ⟨rfl, e⟩ := e; rw [show wcid 101 i = 1000 + i from rfl] at hk; omega)]
    exact f1 k i (by show ¬ _; unfold wf_43; omega)
  have hz47 : ∀ p, p < 188 → wvX 47 z p = wvX 1 σ p := fun p hp => by
    rw [← g1 p hp]
    exact wvX_eq (fun p hp => by have := wvJ_le p hp; rw [m2 _ (by omega)]) hp
  have hz116 : ∀ p, p < 188 → z 116 p = wvM σ p := fun p hp => by rw [n1 p hp, eMV x2 p hp]
  refine ⟨⟨wx_congr x1 m2, m1, rV_ag hl hV (ag2 _ ?_), ⟨by rw [n3, m2 0 (by decide), g3], fun _ => ⟨wvV_cg hV.1 hz116, weq_cg hV.2 hl.1 (fun p hp => hz116 p (by omega)) (fun p hp => hz47 p (by omega))⟩⟩, rS_ag hV.1 hS (ag2 _ ?_), rL_ag hL (ag2 _ ?_), rW_ag hW (ag2 _ ?_)⟩, ?_⟩
  · intro c hc; unfold cV cX cM at hc; omega
  · intro c hc; unfold cS cM at hc; omega
  · intro c hc; unfold cL at hc; omega
  · intro c hc; unfold cW at hc; omega
  · rw [g2, n2, n4 101 9 (by decide) (by omega), x2 101 (by decide), ← e9]
    exact f1 1 9 (by show ¬ _; rw [show wcid 1 9 = 1 from rfl]; unfold wf_43; omega)
theorem mu_restore {F lim : Nat} {σ : Mem} (hF : 73786976294838206464 ≤ F) (hl : 28 ≤ lim ∧ lim ≤ 188) (h : wR lim σ) : ∃ r1 s1 r2 s2, f_X3_restore F σ = some (r1, s1) ∧ f_X4_restore F s1 = some (r2, s2) ∧ wR lim s2 ∧ r1 = r2 := by
  obtain ⟨hX, hM, hV, hI, hS, hL, hW⟩ := id h
  refine two (pc_sf (s_X3_restore (by omega) hX) (pc_and cx_restore (pc_pf (fr_X3_restore (by omega))))) (fun a s q => pc_sf (s_X4_restore hF (wm_congr hM q.1.2.1)) (cm_restore (by omega))) (fun a s b z q1 q2 => ?_)
  obtain ⟨⟨x1, x2, -⟩, c1, f1⟩ := q1
  obtain ⟨⟨m1, m2, -⟩, c2⟩ := q2
  have es : s 101 24 = σ 101 24 := by rw [x2 101 (by decide)]
  rw [es, ← hI.1] at c2
  by_cases c : σ 0 3 = 0
  · rw [if_pos c] at c1 c2
    obtain ⟨g1, g2⟩ := c1.2 (by decide)
    obtain ⟨n1, n2⟩ := c2.2 (by decide)
    exact ⟨fin_bad hl h x1 m1 m2 g2 n2, by rw [g1, n1]⟩
  · rw [if_neg c] at c1 c2
    obtain ⟨g1, g2, g3⟩ := c1.1 rfl
    obtain ⟨n1, n2, n3, n4⟩ := c2.1 rfl
    obtain ⟨hv, hw⟩ := hI.2 c
    have n1' : ∀ p, p < 188 → wvM z p = σ 116 p := fun p hp => by rw [n1 p hp, x2 116 (by decide)]
    refine ⟨fin hl h x1 m1 m2 (ag_put f1 ?_ n4) (rV_mk hl m2 (fun p hp => g1 p (by omega)) (fun p hp => n1' p (by omega)) (fun p hp => n1' p (by omega)) hv hw) (rS_0 (by rw [m2 70 (by decide)]; exact g3) n3), ?_⟩
    · intro c hc; unfold cIW cI cL cW at hc; show ¬ _; unfold wf_44; omega
    · rw [g2, n2]
      have h1 : s 1 9 = wvX 47 σ 3 := g1 3 (by decide)
      have h2 : z 101 9 = σ 116 3 := n1' 3 (by decide)
      rw [h1, h2]
      exact weq_lo hw hl.1 (by decide)
