/-! the changes keep 'the same house' and the bounds -/
theorem live_1 {A A' : Nat → Int32} (h : A' 1 = A 1) {p : Nat} (hv : live A' p) : live A p := by
  unfold live at hv ⊢
  rw [h] at hv
  exact hv
theorem weq_aPane {lim : Nat} {A B : Nat → Int32} (h : weq lim A B) (hl : 28 ≤ lim) (x : Int32) : weq lim (aPane A x) (aPane B x) := by
  intro p hp hv
  have e0 : B 0 = A 0 := weq_lo h hl (by decide)
  have hv' : live A p := live_1 (by unfold aPane; rw [wv_un (by decide), wv_un (by omega)]) hv
  unfold aPane
  rw [e0]
  exact upd_cg (upd_cg (h p hp hv') rfl) rfl
theorem weq_aWall {lim : Nat} {A B : Nat → Int32} (h : weq lim A B) (hl : 28 ≤ lim) {x v : Int32} (hx : x.toNatClampNeg < 6) : weq lim (aWall A x v) (aWall B x v) := by
  intro p hp hv
  have hv' : live A p := live_1 (by unfold aWall; rw [wv_un (by omega)]) hv
  unfold aWall
  exact upd_cg (h p hp hv') (by rw [weq_lo h hl (by omega)])
theorem weq_aWorth {lim : Nat} {A B : Nat → Int32} (h : weq lim A B) {v x : Int32} : weq lim (aWorth A v x) (aWorth B v x) := by
  intro p hp hv
  have hv' : live A p := live_1 (by unfold aWorth; rw [wv_un (by omega)]) hv
  unfold aWorth
  exact upd_cg (h p hp hv') rfl
theorem weq_aLaw {lim : Nat} {A B : Nat → Int32} (h : weq lim A B) {x : Int32} : weq lim (aLaw A x) (aLaw B x) := by
  intro p hp hv
  have hv' : live A p := live_1 (by unfold aLaw; rw [wv_un (by decide)]) hv
  unfold aLaw
  exact upd_cg (h p hp hv') rfl
theorem aAll_cg {A B : Nat → Int32} : ∀ n, (∀ i, i < n → B (12 + i) = A (12 + i)) → aAll B n = aAll A n := fun n => by
  induction n with
  | zero => intro _; rfl
  | succ n ih => intro h; show aAll B n ||| _ = aAll A n ||| _; rw [ih (fun i hi => h i (by omega)), h n (by omega)]
/-- what a looker brings hangs on the cells of that looker and the panes -/
theorem aGain_cg {A B : Nat → Int32} {l v : Nat} (h6 : (A 0).toInt ≤ 6) (hc : ∀ t, t < 24 → (A (28 + 24 * l + t)).toInt = -9 ∨ (A (28 + 24 * l + t)).toInt < (A 0).toInt) (hl : l < 5) (e : ∀ p, p < 28 → p ≠ 3 → B p = A p) (eC : ∀ t, t < 24 → B (28 + 24 * l + t) = A (28 + 24 * l + t)) : ∀ t, t ≤ 24 → aGain B l v t = aGain A l v t := fun t => by
  induction t with
  | zero => intro _; rfl
  | succ t ih =>
    intro ht
    have n0 := ti_nat (A 0)
    have nc := ti_nat (A (28 + 24 * l + t))
    have h1 : aPull B l (Int32.ofNat t) = aPull A l (Int32.ofNat t) := by
      unfold aPull
      rw [e (18 + 2 * l) (by omega) (by omega), e (19 + 2 * l) (by omega) (by omega)]
    have h2 : aSees B l t = aSees A l t := by
      unfold aSees
      rw [e (18 + 2 * l) (by omega) (by omega), e 0 (by omega) (by omega), eC t (by omega), aAll_cg _ (fun i hi => e _ (by omega) (by omega))]
      have hb := hc t (by omega)
      by_cases c : (A (28 + 24 * l + t)).toInt < 0
      · rw [if_pos c, if_pos c]
      · rw [if_neg c, if_neg c, e (12 + (A (28 + 24 * l + t)).toNatClampNeg) (by omega) (by omega)]
    show aGain B l v t + _ = aGain A l v t + _
    rw [ih (by omega), h1, h2]
theorem live_c {V : Nat → Int32} {l t : Nat} (h : (l : Int) < (V 1).toInt) (ht : t < 24) (h5 : (V 1).toInt ≤ 5) : live V (28 + 24 * l + t) := by
  have n1 := ti_nat (V 1)
  exact ⟨fun _ _ => by omega, fun _ => by omega⟩
theorem weq_aDay {lim : Nat} {A B : Nat → Int32} (hv : wvV A) (h : weq lim A B) (hl : 148 ≤ lim ∧ lim ≤ 188) {x : Int32} : weq lim (aDay A x) (aDay B x) := by
  intro p hp hv'
  have e1 : ∀ p, p < 28 → B p = A p := fun p hp => weq_lo h (by omega) hp
  have n1 := ti_nat (A 1)
  have l1 : live A p := live_1 (A := A) (A' := aDay A x) (by unfold aDay; rw [if_neg (by decide), if_neg (by omega)]) hv'
  unfold aDay
  rw [e1 1 (by omega), e1 3 (by omega)]
  by_cases c3 : p = 3
  · rw [if_pos c3, if_pos c3]
  · rw [if_neg c3, if_neg c3]
    by_cases c : 148 ≤ p ∧ p < 188 ∧ (p - 148) / 8 < (A 1).toNatClampNeg
    · rw [if_pos c, if_pos c]
      unfold aBehind
      have hq : 148 + 8 * ((p - 148) / 8) + (p - 148) % 8 = p := by omega
      rw [hq, h p hp l1]
      have h5 := hv.2.1.2
      rw [aGain_cg hv.1.2 (fun t ht => (vV_c hv (l := (p - 148) / 8) (t := t) (by omega) ht).imp id (fun q => q.2)) (by omega) (fun p hp _ => e1 p hp) (fun t ht => h _ (by omega) (live_c (by omega) ht h5)) 24 (by omega)]
    · rw [if_neg c, if_neg c]
      exact h p hp l1
theorem weq_aStand {lim : Nat} {A B : Nat → Int32} (h : weq lim A B) {l a b : Nat} {x : Int32} : weq lim (aStand A l a b x) (aStand B l a b x) := by
  intro p hp hv
  have hv' : live A p := live_1 (by unfold aStand; rw [if_neg (by omega)]) hv
  unfold aStand
  by_cases e : 28 + 24 * l + a ≤ p ∧ p ≤ 28 + 24 * l + b
  · rw [if_pos e, if_pos e]
  · rw [if_neg e, if_neg e, h p hp hv']
theorem aLooker_1 {A : Nat → Int32} {k f : Int32} : aLooker A k f 1 = A 1 + 1 := if_pos rfl
theorem weq_aLooker {lim : Nat} {A B : Nat → Int32} (h : weq lim A B) (hl : 28 ≤ lim) {k f : Int32} (b : 0 ≤ (A 1).toInt ∧ (A 1).toInt < 5) : weq lim (aLooker A k f) (aLooker B k f) := by
  intro p hp hv
  have e1 : B 1 = A 1 := weq_lo h hl (by decide)
  have hn : (A 1 + 1).toNatClampNeg = (A 1).toNatClampNeg + 1 := by
    rw [ti_nat, ti_nat, ti_add (by rw [tz_1]; omega) (by rw [tz_1]; omega), tz_1]; omega
  unfold live at hv
  rw [aLooker_1, hn] at hv
  unfold aLooker
  rw [e1]
  by_cases c1 : p = 1
  · rw [if_pos c1, if_pos c1]
  rw [if_neg c1, if_neg c1]
  by_cases c2 : p = 18 + 2 * (A 1).toNatClampNeg
  · rw [if_pos c2, if_pos c2]
  rw [if_neg c2, if_neg c2]
  by_cases c3 : p = 19 + 2 * (A 1).toNatClampNeg
  · rw [if_pos c3, if_pos c3]
  rw [if_neg c3, if_neg c3]
  by_cases c4 : 28 + 24 * (A 1).toNatClampNeg ≤ p ∧ p < 52 + 24 * (A 1).toNatClampNeg
  · rw [if_pos c4, if_pos c4]
  rw [if_neg c4, if_neg c4]
  by_cases c5 : 148 + 8 * (A 1).toNatClampNeg ≤ p ∧ p < 156 + 8 * (A 1).toNatClampNeg
  · rw [if_pos c5, if_pos c5]
  rw [if_neg c5, if_neg c5]
  have hA : (A 1).toNatClampNeg < 5 := tn_lt b.1 b.2
  refine h p hp ⟨fun q1 q2 => ?_, fun q1 => ?_⟩
  · have := hv.1 q1 q2; omega
  · have := hv.2 q1; omega
theorem wvV_aPane {V : Nat → Int32} (h : wvV V) {x : Int32} (hx : (V 0).toInt < 6) : wvV (aPane V x) := by
  obtain ⟨h0, h1, h2, h3, h4, h5, h6⟩ := h
  have hn : (V 0).toNatClampNeg < 6 := tn_lt h0.1 hx
  have e0 : (aPane V x 0).toInt = (V 0).toInt + 1 := by
    unfold aPane; rw [wv_us, ti_add (by rw [tz_1]; omega) (by rw [tz_1]; omega), tz_1]
  have eo : ∀ p, p ≠ 0 → ¬ (12 ≤ p ∧ p < 18) → aPane V x p = V p := fun p a b => by unfold aPane; rw [wv_un a, wv_un (by omega)]
  refine ⟨by omega, by rw [eo 1 (by omega) (by omega)]; exact h1, by rw [eo 2 (by omega) (by omega)]; exact h2, fun p a b => by rw [eo p (by omega) (by omega)]; exact h3 p a b, fun p a b c => ?_, fun l hl => ?_, fun p a b c => by rw [eo p (by omega) (by omega)]; exact h6 p a b (live_1 (eo 1 (by omega) (by omega)) c)⟩
  · rw [eo p (by omega) (by omega), e0]
    have := h4 p a b (live_1 (eo 1 (by omega) (by omega)) c)
    omega
  · rw [eo 1 (by omega) (by omega)] at hl
    rw [eo (18 + 2 * l) (by omega) (by omega), eo (19 + 2 * l) (by omega) (by omega)]
    exact h5 l hl
theorem wvV_aWall {V : Nat → Int32} (h : wvV V) {x v : Int32} (hx : x.toNatClampNeg < 6) : wvV (aWall V x v) := by
  obtain ⟨h0, h1, h2, h3, h4, h5, h6⟩ := h
  have eo : ∀ p, ¬ (12 ≤ p ∧ p < 18) → aWall V x v p = V p := fun p b => by unfold aWall; rw [wv_un (by omega)]
  refine ⟨by rw [eo 0 (by omega)]; exact h0, by rw [eo 1 (by omega)]; exact h1, by rw [eo 2 (by omega)]; exact h2, fun p a b => by rw [eo p (by omega)]; exact h3 p a b, fun p a b c => ?_, fun l hl => by rw [eo 1 (by omega)] at hl; rw [eo (18 + 2 * l) (by omega), eo (19 + 2 * l) (by omega)]; exact h5 l hl, fun p a b c => by rw [eo p (by omega)]; exact h6 p a b (live_1 (eo 1 (by omega)) c)⟩
  rw [eo p (by omega), eo 0 (by omega)]
  exact h4 p a b (live_1 (eo 1 (by omega)) c)
theorem wvV_aWorth {V : Nat → Int32} (h : wvV V) {v x : Int32} (hv : v.toNatClampNeg < 8) (hx : 0 ≤ x.toInt ∧ x.toInt ≤ 9) : wvV (aWorth V v x) := by
  obtain ⟨h0, h1, h2, h3, h4, h5, h6⟩ := h
  have eo : ∀ p, ¬ (4 ≤ p ∧ p < 12) → aWorth V v x p = V p := fun p b => by unfold aWorth; rw [wv_un (by omega)]
  refine ⟨by rw [eo 0 (by omega)]; exact h0, by rw [eo 1 (by omega)]; exact h1, by rw [eo 2 (by omega)]; exact h2, fun p a b => ?_, fun p a b c => ?_, fun l hl => by rw [eo 1 (by omega)] at hl; rw [eo (18 + 2 * l) (by omega), eo (19 + 2 * l) (by omega)]; exact h5 l hl, fun p a b c => by rw [eo p (by omega)]; exact h6 p a b (live_1 (eo 1 (by omega)) c)⟩
  · unfold aWorth
    by_cases e : p = 4 + v.toNatClampNeg
    · subst e; rw [wv_us]; exact hx
    · rw [wv_un e]; exact h3 p a b
  · rw [eo p (by omega), eo 0 (by omega)]
    exact h4 p a b (live_1 (eo 1 (by omega)) c)
theorem wvV_aLaw {V : Nat → Int32} (h : wvV V) {x : Int32} (hx : 0 ≤ x.toInt ∧ x.toInt ≤ 2) : wvV (aLaw V x) := by
  obtain ⟨h0, h1, h2, h3, h4, h5, h6⟩ := h
  have eo : ∀ p, ¬ p = 2 → aLaw V x p = V p := fun p b => by unfold aLaw; rw [wv_un b]
  refine ⟨by rw [eo 0 (by omega)]; exact h0, by rw [eo 1 (by omega)]; exact h1, by unfold aLaw; rw [wv_us]; exact hx, fun p a b => by rw [eo p (by omega)]; exact h3 p a b, fun p a b c => ?_, fun l hl => by rw [eo 1 (by omega)] at hl; rw [eo (18 + 2 * l) (by omega), eo (19 + 2 * l) (by omega)]; exact h5 l hl, fun p a b c => by rw [eo p (by omega)]; exact h6 p a b (live_1 (eo 1 (by omega)) c)⟩
  rw [eo p (by omega), eo 0 (by omega)]
  exact h4 p a b (live_1 (eo 1 (by omega)) c)
theorem wvV_aDay {V : Nat → Int32} (h : wvV V) {x : Int32} (hx : 0 ≤ x.toInt ∧ x.toInt ≤ 9999) : wvV (aDay V x) := by
  have hall := h
  obtain ⟨h0, h1, h2, h3, h4, h5, h6⟩ := h
  have n1 := ti_nat (V 1)
  have eo : ∀ p, p < 148 → ¬ p = 3 → aDay V x p = V p := fun p b c => by unfold aDay; rw [if_neg c, if_neg (by omega)]
  refine ⟨by rw [eo 0 (by omega) (by omega)]; exact h0, by rw [eo 1 (by omega) (by omega)]; exact h1, by rw [eo 2 (by omega) (by omega)]; exact h2, fun p a b => by rw [eo p (by omega) (by omega)]; exact h3 p a b, fun p a b c => ?_, fun l hl => ?_, fun p a b c => ?_⟩
  · rw [eo p (by omega) (by omega), eo 0 (by omega) (by omega)]
    exact h4 p a b (live_1 (eo 1 (by omega) (by omega)) c)
  · rw [eo 1 (by omega) (by omega)] at hl
    rw [eo (18 + 2 * l) (by omega) (by omega), eo (19 + 2 * l) (by omega) (by omega)]
    exact h5 l hl
  · have c' := live_1 (eo 1 (by omega) (by omega)) c
    have hl := c'.2 a
    unfold aDay
    rw [if_neg (by omega), if_pos ⟨a, b, hl⟩]
    exact aBehind_b hall (by omega) (Nat.mod_lt _ (by decide)) hx
theorem wvV_aStand {V : Nat → Int32} (h : wvV V) {l a b : Nat} (hlb : l < 5 ∧ b < 24) {x : Int32} (hx : x.toInt = 9 ∨ (0 ≤ x.toInt ∧ x.toInt < (V 0).toInt)) : wvV (aStand V l a b x) := by
  obtain ⟨h0, h1, h2, h3, h4, h5, h6⟩ := h
  have eo : ∀ p, p < 28 → aStand V l a b x p = V p := fun p b => by unfold aStand; rw [if_neg (by omega)]
  refine ⟨by rw [eo 0 (by omega)]; exact h0, by rw [eo 1 (by omega)]; exact h1, by rw [eo 2 (by omega)]; exact h2, fun p a b => by rw [eo p (by omega)]; exact h3 p a b, fun p a' b' c => ?_, fun l' hl => by rw [eo 1 (by omega)] at hl; rw [eo (18 + 2 * l') (by omega), eo (19 + 2 * l') (by omega)]; exact h5 l' hl, fun p a' b' c => by rw [show aStand V l a b x p = V p by unfold aStand; rw [if_neg (by omega)]]; exact h6 p a' b' (live_1 (eo 1 (by omega)) c)⟩
  rw [eo 0 (by omega)]
  unfold aStand
  by_cases e : 28 + 24 * l + a ≤ p ∧ p ≤ 28 + 24 * l + b
  · rw [if_pos e]
    by_cases e9 : x = 9
    · unfold wvN; rw [if_pos e9]; left; rfl
    · rcases hx with q | q
      · exact absurd (Int32.toInt_inj.mp (by rw [q]; rfl)) e9
      · rw [wvN_o q.1 e9]; right; exact q
  · rw [if_neg e]
    exact h4 p a' b' (live_1 (eo 1 (by omega)) c)
theorem wvV_aPost {V : Nat → Int32} (h : wvV V) {x1 x2 x3 x4 : Int32} (hc : cPost (V 0).toInt (V 1).toInt x1 x2 x3 x4) : wvV (aStand V x1.toNatClampNeg x2.toNatClampNeg x3.toNatClampNeg x4) := wvV_aStand h (by have := hc.1; have := hc.2.2.1; have := h.2.1.2; have a := ti_nat x1; have b := ti_nat x3; omega) hc.2.2.2.2
theorem wvV_weq {V B : Nat → Int32} (h : wvV V) (w : weq 188 V B) : wvV B := by
  have e : ∀ p, p < 28 → B p = V p := fun p hp => weq_lo w (by omega) hp
  obtain ⟨h0, h1, h2, h3, h4, h5, h6⟩ := h
  refine ⟨by rw [e 0 (by decide)]; exact h0, by rw [e 1 (by decide)]; exact h1, by rw [e 2 (by decide)]; exact h2, fun p a b => by rw [e p (by omega)]; exact h3 p a b, fun p a b c => ?_, fun l hl => ?_, fun p a b c => ?_⟩
  · have c' := live_1 (e 1 (by decide)) c
    rw [w p (by omega) c', e 0 (by decide)]
    exact h4 p a b c'
  · rw [e 1 (by decide)] at hl
    rw [e (18 + 2 * l) (by omega), e (19 + 2 * l) (by omega)]
    exact h5 l hl
  · have c' := live_1 (e 1 (by decide)) c
    rw [w p (by omega) c']
    exact h6 p a b c'
theorem aDay_cg {A B : Nat → Int32} (hv : wvV A) (e : ∀ q, q < 188 → B q = A q) {x : Int32} {p : Nat} (hp : p < 188) : aDay B x p = aDay A x p := by
  have n1 := ti_nat (A 1)
  unfold aDay
  rw [e 1 (by omega), e 3 (by omega)]
  by_cases c3 : p = 3
  · rw [if_pos c3, if_pos c3]
  · rw [if_neg c3, if_neg c3]
    by_cases c : 148 ≤ p ∧ p < 188 ∧ (p - 148) / 8 < (A 1).toNatClampNeg
    · rw [if_pos c, if_pos c]
      unfold aBehind
      have hq : 148 + 8 * ((p - 148) / 8) + (p - 148) % 8 = p := by omega
      rw [hq, e p hp]
      rw [aGain_cg hv.1.2 (fun t ht => (vV_c hv (l := (p - 148) / 8) (t := t) (by omega) ht).imp id (fun q => q.2)) (by omega) (fun q hq _ => e q (by omega)) (fun t ht => e _ (by omega)) 24 (by omega)]
    · rw [if_neg c, if_neg c]
      exact e p hp
theorem wvV_aLooker {V : Nat → Int32} (h : wvV V) {k f : Int32} (hk : 0 ≤ k.toInt ∧ k.toInt ≤ 5) (hf : 0 ≤ f.toInt ∧ f.toInt ≤ 9) (b : (V 1).toInt < 5) : wvV (aLooker V k f) := by
  obtain ⟨h0, h1, h2, h3, h4, h5, h6⟩ := h
  have hn : (V 1 + 1).toNatClampNeg = (V 1).toNatClampNeg + 1 := by
    rw [ti_nat, ti_nat, ti_add (by rw [tz_1]; omega) (by rw [tz_1]; omega), tz_1]; omega
  have hA : (V 1).toNatClampNeg < 5 := tn_lt h1.1 b
  have eo : ∀ p, p < 18 → p ≠ 1 → aLooker V k f p = V p := fun p a b => by
    unfold aLooker
    rw [if_neg b, if_neg (by omega), if_neg (by omega), if_neg (by omega), if_neg (by omega)]
  refine ⟨by rw [eo 0 (by omega) (by omega)]; exact h0, ?_, by rw [eo 2 (by omega) (by omega)]; exact h2, fun p a b => by rw [eo p (by omega) (by omega)]; exact h3 p a b, fun p a' b' c => ?_, fun l hl => ?_, fun p a' b' c => ?_⟩
  · rw [aLooker_1, ti_add (by rw [tz_1]; omega) (by rw [tz_1]; omega), tz_1]; omega
  rotate_left
  · have n1 := ti_nat (V 1)
    rw [aLooker_1, ti_add (by rw [tz_1]; omega) (by rw [tz_1]; omega), tz_1] at hl
    by_cases e : l = (V 1).toNatClampNeg
    · have e18 : aLooker V k f (18 + 2 * l) = k := by unfold aLooker; rw [if_neg (by omega), if_pos (by rw [e])]
      have e19 : aLooker V k f (19 + 2 * l) = f := by unfold aLooker; rw [if_neg (by omega), if_neg (by omega), if_pos (by rw [e])]
      rw [e18, e19]
      exact ⟨hk, hf⟩
    · have e18 : ∀ p, p < 28 → p ≠ 1 → p ≠ 18 + 2 * (V 1).toNatClampNeg → p ≠ 19 + 2 * (V 1).toNatClampNeg → aLooker V k f p = V p := fun p a b c d => by
        unfold aLooker
        rw [if_neg b, if_neg c, if_neg d, if_neg (by omega), if_neg (by omega)]
      rw [e18 (18 + 2 * l) (by omega) (by omega) (by omega) (by omega), e18 (19 + 2 * l) (by omega) (by omega) (by omega) (by omega)]
      exact h5 l (by omega)
  · unfold live at c
    rw [aLooker_1, hn] at c
    have c2 := c.2 a'
    unfold aLooker
    rw [if_neg (by omega), if_neg (by omega), if_neg (by omega), if_neg (by omega)]
    by_cases e : 148 + 8 * (V 1).toNatClampNeg ≤ p ∧ p < 156 + 8 * (V 1).toNatClampNeg
    · rw [if_pos e]; decide
    · rw [if_neg e]
      exact h6 p a' b' ⟨fun _ _ => by omega, fun _ => by omega⟩
  rw [eo 0 (by omega) (by omega)]
  unfold live at c
  rw [aLooker_1, hn] at c
  unfold aLooker
  rw [if_neg (by omega), if_neg (by omega), if_neg (by omega)]
  by_cases e : 28 + 24 * (V 1).toNatClampNeg ≤ p ∧ p < 52 + 24 * (V 1).toNatClampNeg
  · rw [if_pos e]; left; rfl
  · rw [if_neg e, if_neg (by omega)]
    have := c.1 a' b'
    exact h4 p a' b' ⟨fun _ _ => by omega, fun q => by omega⟩
