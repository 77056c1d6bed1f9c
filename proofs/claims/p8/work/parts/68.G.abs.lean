/-! the changes keep 'the same house' and the bounds -/
theorem live_1 {A A' : Nat → Int32} (h : A' 1 = A 1) {p : Nat} (hv : live A' p) : live A p := by
  unfold live at hv ⊢
  rw [h] at hv
  exact hv
theorem weq_aPane {lim : Nat} {A B : Nat → Int32} (h : weq lim A B) (hl : 28 ≤ lim) (x : Int32) : weq lim (aPane A x) (aPane B x) := by
  intro p hp hv
  have e0 : B 0 = A 0 := weq_lo h hl (by decide)
  have hv' : live A p := live_1 (by unfold aPane; rw [wv_un (by decide), wv_un (by omega)]) hv
  unfold aPane
  rw [e0]
  exact upd_cg (upd_cg (h p hp hv') rfl) rfl
theorem weq_aWall {lim : Nat} {A B : Nat → Int32} (h : weq lim A B) (hl : 28 ≤ lim) {x v : Int32} (hx : x.toNatClampNeg < 6) : weq lim (aWall A x v) (aWall B x v) := by
  intro p hp hv
  have hv' : live A p := live_1 (by unfold aWall; rw [wv_un (by omega)]) hv
  unfold aWall
  exact upd_cg (h p hp hv') (by rw [weq_lo h hl (by omega)])
theorem weq_aWorth {lim : Nat} {A B : Nat → Int32} (h : weq lim A B) {v x : Int32} : weq lim (aWorth A v x) (aWorth B v x) := by
  intro p hp hv
  have hv' : live A p := live_1 (by unfold aWorth; rw [wv_un (by omega)]) hv
  unfold aWorth
  exact upd_cg (h p hp hv') rfl
theorem weq_aLaw {lim : Nat} {A B : Nat → Int32} (h : weq lim A B) {x : Int32} : weq lim (aLaw A x) (aLaw B x) := by
  intro p hp hv
  have hv' : live A p := live_1 (by unfold aLaw; rw [wv_un (by decide)]) hv
  unfold aLaw
  exact upd_cg (h p hp hv') rfl
theorem weq_aDay {lim : Nat} {A B : Nat → Int32} (h : weq lim A B) (hl : 28 ≤ lim) {x : Int32} : weq lim (aDay A x) (aDay B x) := by
  intro p hp hv
  have hv' : live A p := live_1 (by unfold aDay; rw [wv_un (by decide)]) hv
  unfold aDay
  exact upd_cg (h p hp hv') (by rw [weq_lo h hl (by decide)])
theorem weq_aStand {lim : Nat} {A B : Nat → Int32} (h : weq lim A B) {l a b : Nat} {x : Int32} : weq lim (aStand A l a b x) (aStand B l a b x) := by
  intro p hp hv
  have hv' : live A p := live_1 (by unfold aStand; rw [if_neg (by omega)]) hv
  unfold aStand
  by_cases e : 28 + 24 * l + a ≤ p ∧ p ≤ 28 + 24 * l + b
  · rw [if_pos e, if_pos e]
  · rw [if_neg e, if_neg e, h p hp hv']
theorem aLooker_1 {A : Nat → Int32} {k f : Int32} : aLooker A k f 1 = A 1 + 1 := if_pos rfl
theorem weq_aLooker {lim : Nat} {A B : Nat → Int32} (h : weq lim A B) (hl : 28 ≤ lim) {k f : Int32} (b : 0 ≤ (A 1).toInt ∧ (A 1).toInt < 5) : weq lim (aLooker A k f) (aLooker B k f) := by
  intro p hp hv
  have e1 : B 1 = A 1 := weq_lo h hl (by decide)
  have hn : (A 1 + 1).toNatClampNeg = (A 1).toNatClampNeg + 1 := by
    rw [ti_nat, ti_nat, ti_add (by rw [tz_1]; omega) (by rw [tz_1]; omega), tz_1]; omega
  unfold live at hv
  rw [aLooker_1, hn] at hv
  unfold aLooker
  rw [e1]
  by_cases c1 : p = 1
  · rw [if_pos c1, if_pos c1]
  rw [if_neg c1, if_neg c1]
  by_cases c2 : p = 18 + 2 * (A 1).toNatClampNeg
  · rw [if_pos c2, if_pos c2]
  rw [if_neg c2, if_neg c2]
  by_cases c3 : p = 19 + 2 * (A 1).toNatClampNeg
  · rw [if_pos c3, if_pos c3]
  rw [if_neg c3, if_neg c3]
  by_cases c4 : 28 + 24 * (A 1).toNatClampNeg ≤ p ∧ p < 52 + 24 * (A 1).toNatClampNeg
  · rw [if_pos c4, if_pos c4]
  rw [if_neg c4, if_neg c4]
  by_cases c5 : 148 + 8 * (A 1).toNatClampNeg ≤ p ∧ p < 156 + 8 * (A 1).toNatClampNeg
  · rw [if_pos c5, if_pos c5]
  rw [if_neg c5, if_neg c5]
  have hA : (A 1).toNatClampNeg < 5 := tn_lt b.1 b.2
  refine h p hp ⟨fun q1 q2 => ?_, fun q1 => ?_⟩
  · have := hv.1 q1 q2; omega
  · have := hv.2 q1; omega
theorem wvV_aPane {V : Nat → Int32} (h : wvV V) {x : Int32} (hx : (V 0).toInt < 6) : wvV (aPane V x) := by
  obtain ⟨h0, h1, h2, h3, h4⟩ := h
  have hn : (V 0).toNatClampNeg < 6 := tn_lt h0.1 hx
  have e0 : (aPane V x 0).toInt = (V 0).toInt + 1 := by
    unfold aPane; rw [wv_us, ti_add (by rw [tz_1]; omega) (by rw [tz_1]; omega), tz_1]
  have eo : ∀ p, p ≠ 0 → ¬ (12 ≤ p ∧ p < 18) → aPane V x p = V p := fun p a b => by unfold aPane; rw [wv_un a, wv_un (by omega)]
  refine ⟨by omega, by rw [eo 1 (by omega) (by omega)]; exact h1, by rw [eo 2 (by omega) (by omega)]; exact h2, fun p a b => by rw [eo p (by omega) (by omega)]; exact h3 p a b, fun p a b c => ?_⟩
  rw [eo p (by omega) (by omega), e0]
  have := h4 p a b (live_1 (eo 1 (by omega) (by omega)) c)
  omega
theorem wvV_lo {V V' : Nat → Int32} (h : wvV V) (e : ∀ p, p < 148 → V' p = V p) : wvV V' := by
  obtain ⟨h0, h1, h2, h3, h4⟩ := h
  refine ⟨by rw [e 0 (by decide)]; exact h0, by rw [e 1 (by decide)]; exact h1, by rw [e 2 (by decide)]; exact h2, fun p a b => by rw [e p (by omega)]; exact h3 p a b, fun p a b c => ?_⟩
  rw [e p (by omega), e 0 (by decide)]
  exact h4 p a b (live_1 (e 1 (by decide)) c)
theorem wvV_aWall {V : Nat → Int32} (h : wvV V) {x v : Int32} (hx : x.toNatClampNeg < 6) : wvV (aWall V x v) := by
  obtain ⟨h0, h1, h2, h3, h4⟩ := h
  have eo : ∀ p, ¬ (12 ≤ p ∧ p < 18) → aWall V x v p = V p := fun p b => by unfold aWall; rw [wv_un (by omega)]
  refine ⟨by rw [eo 0 (by omega)]; exact h0, by rw [eo 1 (by omega)]; exact h1, by rw [eo 2 (by omega)]; exact h2, fun p a b => by rw [eo p (by omega)]; exact h3 p a b, fun p a b c => ?_⟩
  rw [eo p (by omega), eo 0 (by omega)]
  exact h4 p a b (live_1 (eo 1 (by omega)) c)
theorem wvV_aWorth {V : Nat → Int32} (h : wvV V) {v x : Int32} (hv : v.toNatClampNeg < 8) (hx : 0 ≤ x.toInt ∧ x.toInt ≤ 9) : wvV (aWorth V v x) := by
  obtain ⟨h0, h1, h2, h3, h4⟩ := h
  have eo : ∀ p, ¬ (4 ≤ p ∧ p < 12) → aWorth V v x p = V p := fun p b => by unfold aWorth; rw [wv_un (by omega)]
  refine ⟨by rw [eo 0 (by omega)]; exact h0, by rw [eo 1 (by omega)]; exact h1, by rw [eo 2 (by omega)]; exact h2, fun p a b => ?_, fun p a b c => ?_⟩
  · unfold aWorth
    by_cases e : p = 4 + v.toNatClampNeg
    · subst e; rw [wv_us]; exact hx
    · rw [wv_un e]; exact h3 p a b
  · rw [eo p (by omega), eo 0 (by omega)]
    exact h4 p a b (live_1 (eo 1 (by omega)) c)
theorem wvV_aLaw {V : Nat → Int32} (h : wvV V) {x : Int32} (hx : 0 ≤ x.toInt ∧ x.toInt ≤ 2) : wvV (aLaw V x) := by
  obtain ⟨h0, h1, h2, h3, h4⟩ := h
  have eo : ∀ p, ¬ p = 2 → aLaw V x p = V p := fun p b => by unfold aLaw; rw [wv_un b]
  refine ⟨by rw [eo 0 (by omega)]; exact h0, by rw [eo 1 (by omega)]; exact h1, by unfold aLaw; rw [wv_us]; exact hx, fun p a b => by rw [eo p (by omega)]; exact h3 p a b, fun p a b c => ?_⟩
  rw [eo p (by omega), eo 0 (by omega)]
  exact h4 p a b (live_1 (eo 1 (by omega)) c)
theorem wvV_aDay {V : Nat → Int32} (h : wvV V) {x : Int32} : wvV (aDay V x) := by
  obtain ⟨h0, h1, h2, h3, h4⟩ := h
  have eo : ∀ p, ¬ p = 3 → aDay V x p = V p := fun p b => by unfold aDay; rw [wv_un b]
  refine ⟨by rw [eo 0 (by omega)]; exact h0, by rw [eo 1 (by omega)]; exact h1, by rw [eo 2 (by omega)]; exact h2, fun p a b => by rw [eo p (by omega)]; exact h3 p a b, fun p a b c => ?_⟩
  rw [eo p (by omega), eo 0 (by omega)]
  exact h4 p a b (live_1 (eo 1 (by omega)) c)
theorem wvV_aStand {V : Nat → Int32} (h : wvV V) {l a b : Nat} {x : Int32} (hx : x.toInt = 9 ∨ (0 ≤ x.toInt ∧ x.toInt < (V 0).toInt)) : wvV (aStand V l a b x) := by
  obtain ⟨h0, h1, h2, h3, h4⟩ := h
  have eo : ∀ p, p < 28 → aStand V l a b x p = V p := fun p b => by unfold aStand; rw [if_neg (by omega)]
  refine ⟨by rw [eo 0 (by omega)]; exact h0, by rw [eo 1 (by omega)]; exact h1, by rw [eo 2 (by omega)]; exact h2, fun p a b => by rw [eo p (by omega)]; exact h3 p a b, fun p a' b' c => ?_⟩
  rw [eo 0 (by omega)]
  unfold aStand
  by_cases e : 28 + 24 * l + a ≤ p ∧ p ≤ 28 + 24 * l + b
  · rw [if_pos e]
    by_cases e9 : x = 9
    · unfold wvN; rw [if_pos e9]; left; rfl
    · rcases hx with q | q
      · exact absurd (Int32.toInt_inj.mp (by rw [q]; rfl)) e9
      · rw [wvN_o q.1 e9]; right; exact q
  · rw [if_neg e]
    exact h4 p a' b' (live_1 (eo 1 (by omega)) c)
theorem wvV_aLooker {V : Nat → Int32} (h : wvV V) {k f : Int32} (b : (V 1).toInt < 5) : wvV (aLooker V k f) := by
  obtain ⟨h0, h1, h2, h3, h4⟩ := h
  have hn : (V 1 + 1).toNatClampNeg = (V 1).toNatClampNeg + 1 := by
    rw [ti_nat, ti_nat, ti_add (by rw [tz_1]; omega) (by rw [tz_1]; omega), tz_1]; omega
  have hA : (V 1).toNatClampNeg < 5 := tn_lt h1.1 b
  have eo : ∀ p, p < 18 → p ≠ 1 → aLooker V k f p = V p := fun p a b => by
    unfold aLooker
    rw [if_neg b, if_neg (by omega), if_neg (by omega), if_neg (by omega), if_neg (by omega)]
  refine ⟨by rw [eo 0 (by omega) (by omega)]; exact h0, ?_, by rw [eo 2 (by omega) (by omega)]; exact h2, fun p a b => by rw [eo p (by omega) (by omega)]; exact h3 p a b, fun p a' b' c => ?_⟩
  · rw [aLooker_1, ti_add (by rw [tz_1]; omega) (by rw [tz_1]; omega), tz_1]; omega
  rw [eo 0 (by omega) (by omega)]
  unfold live at c
  rw [aLooker_1, hn] at c
  unfold aLooker
  rw [if_neg (by omega), if_neg (by omega), if_neg (by omega)]
  by_cases e : 28 + 24 * (V 1).toNatClampNeg ≤ p ∧ p < 52 + 24 * (V 1).toNatClampNeg
  · rw [if_pos e]; left; rfl
  · rw [if_neg e, if_neg (by omega)]
    have := c.1 a' b'
    exact h4 p a' b' ⟨fun _ _ => by omega, fun q => by omega⟩
