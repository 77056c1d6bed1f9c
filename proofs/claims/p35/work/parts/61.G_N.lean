section
/-! the changes keep 'the same house' and the bounds -/
theorem live_1 {A A' : Nat → Int32} (h : A' 1 = A 1) {p : Nat} (hv : live A' p) : live A p := by
  unfold live at hv ⊢
  rw [h] at hv
  exact hv
theorem weq_aPane {lim : Nat} {A B : Nat → Int32} (h : weq lim A B) (hl : 28 ≤ lim) (x : Int32) : weq lim (aPane A x) (aPane B x) := by
  intro p hp hv
  have e0 : B 0 = A 0 := weq_lo h hl (by decide)
  have hv' : live A p := live_1 (by unfold aPane; rw [wv_un (by decide), wv_un (by omega)]) hv
  unfold aPane
  rw [e0]
  exact upd_cg (upd_cg (h p hp hv') rfl) rfl
theorem weq_aWall {lim : Nat} {A B : Nat → Int32} (h : weq lim A B) (hl : 28 ≤ lim) {x v : Int32} (hx : x.toNatClampNeg < 6) : weq lim (aWall A x v) (aWall B x v) := by
  intro p hp hv
  have hv' : live A p := live_1 (by unfold aWall; rw [wv_un (by omega)]) hv
  unfold aWall
  exact upd_cg (h p hp hv') (by rw [weq_lo h hl (by omega)])
theorem weq_aWorth {lim : Nat} {A B : Nat → Int32} (h : weq lim A B) {v x : Int32} : weq lim (aWorth A v x) (aWorth B v x) := by
  intro p hp hv
  have hv' : live A p := live_1 (by unfold aWorth; rw [wv_un (by omega)]) hv
  unfold aWorth
  exact upd_cg (h p hp hv') rfl
theorem weq_aLaw {lim : Nat} {A B : Nat → Int32} (h : weq lim A B) {x : Int32} : weq lim (aLaw A x) (aLaw B x) := by
  intro p hp hv
  have hv' : live A p := live_1 (by unfold aLaw; rw [wv_un (by decide)]) hv
  unfold aLaw
  exact upd_cg (h p hp hv') rfl
theorem weq_aDay {lim : Nat} {A B : Nat → Int32} (h : weq lim A B) (hl : 28 ≤ lim) {x : Int32} : weq lim (aDay A x) (aDay B x) := by
  intro p hp hv
  have hv' : live A p := live_1 (by unfold aDay; rw [wv_un (by decide)]) hv
  unfold aDay
  exact upd_cg (h p hp hv') (by rw [weq_lo h hl (by decide)])
theorem weq_aStand {lim : Nat} {A B : Nat → Int32} (h : weq lim A B) {l a b : Nat} {x : Int32} : weq lim (aStand A l a b x) (aStand B l a b x) := by
  intro p hp hv
  have hv' : live A p := live_1 (by unfold aStand; rw [if_neg (by omega)]) hv
  unfold aStand
  by_cases e : 28 + 24 * l + a ≤ p ∧ p ≤ 28 + 24 * l + b
  · rw [if_pos e, if_pos e]
  · rw [if_neg e, if_neg e, h p hp hv']
theorem aLooker_1 {A : Nat → Int32} {k f : Int32} : aLooker A k f 1 = A 1 + 1 := if_pos rfl
theorem weq_aLooker {lim : Nat} {A B : Nat → Int32} (h : weq lim A B) (hl : 28 ≤ lim) {k f : Int32} (b : 0 ≤ (A 1).toInt ∧ (A 1).toInt < 5) : weq lim (aLooker A k f) (aLooker B k f) := by
  intro p hp hv
  have e1 : B 1 = A 1 := weq_lo h hl (by decide)
  have hn : (A 1 + 1).toNatClampNeg = (A 1).toNatClampNeg + 1 := by
    rw [ti_nat, ti_nat, ti_add (by rw [tz_1]; omega) (by rw [tz_1]; omega), tz_1]; omega
  unfold live at hv
  rw [aLooker_1, hn] at hv
  unfold aLooker
  rw [e1]
  by_cases c1 : p = 1
  · rw [if_pos c1, if_pos c1]
  rw [if_neg c1, if_neg c1]
  by_cases c2 : p = 18 + 2 * (A 1).toNatClampNeg
  · rw [if_pos c2, if_pos c2]
  rw [if_neg c2, if_neg c2]
  by_cases c3 : p = 19 + 2 * (A 1).toNatClampNeg
  · rw [if_pos c3, if_pos c3]
  rw [if_neg c3, if_neg c3]
  by_cases c4 : 28 + 24 * (A 1).toNatClampNeg ≤ p ∧ p < 52 + 24 * (A 1).toNatClampNeg
  · rw [if_pos c4, if_pos c4]
  rw [if_neg c4, if_neg c4]
  by_cases c5 : 148 + 8 * (A 1).toNatClampNeg ≤ p ∧ p < 156 + 8 * (A 1).toNatClampNeg
  · rw [if_pos c5, if_pos c5]
  rw [if_neg c5, if_neg c5]
  have hA : (A 1).toNatClampNeg < 5 := tn_lt b.1 b.2
  refine h p hp ⟨fun q1 q2 => ?_, fun q1 => ?_⟩
  · have := hv.1 q1 q2; omega
  · have := hv.2 q1; omega
theorem wvV_aPane {V : Nat → Int32} (h : wvV V) {x : Int32} (hx : (V 0).toInt < 6) : wvV (aPane V x) := by
  obtain ⟨h0, h1, h2, h3, h4⟩ := h
  have hn : (V 0).toNatClampNeg < 6 := tn_lt h0.1 hx
  have e0 : (aPane V x 0).toInt = (V 0).toInt + 1 := by
    unfold aPane; rw [wv_us, ti_add (by rw [tz_1]; omega) (by rw [tz_1]; omega), tz_1]
  have eo : ∀ p, p ≠ 0 → ¬ (12 ≤ p ∧ p < 18) → aPane V x p = V p := fun p a b => by unfold aPane; rw [wv_un a, wv_un (by omega)]
  refine ⟨by omega, by rw [eo 1 (by omega) (by omega)]; exact h1, by rw [eo 2 (by omega) (by omega)]; exact h2, fun p a b => by rw [eo p (by omega) (by omega)]; exact h3 p a b, fun p a b c => ?_⟩
  rw [eo p (by omega) (by omega), e0]
  have := h4 p a b (live_1 (eo 1 (by omega) (by omega)) c)
  omega
theorem wvV_lo {V V' : Nat → Int32} (h : wvV V) (e : ∀ p, p < 148 → V' p = V p) : wvV V' := by
  obtain ⟨h0, h1, h2, h3, h4⟩ := h
  refine ⟨by rw [e 0 (by decide)]; exact h0, by rw [e 1 (by decide)]; exact h1, by rw [e 2 (by decide)]; exact h2, fun p a b => by rw [e p (by omega)]; exact h3 p a b, fun p a b c => ?_⟩
  rw [e p (by omega), e 0 (by decide)]
  exact h4 p a b (live_1 (e 1 (by decide)) c)
theorem wvV_aWall {V : Nat → Int32} (h : wvV V) {x v : Int32} (hx : x.toNatClampNeg < 6) : wvV (aWall V x v) := by
  obtain ⟨h0, h1, h2, h3, h4⟩ := h
  have eo : ∀ p, ¬ (12 ≤ p ∧ p < 18) → aWall V x v p = V p := fun p b => by unfold aWall; rw [wv_un (by omega)]
  refine ⟨by rw [eo 0 (by omega)]; exact h0, by rw [eo 1 (by omega)]; exact h1, by rw [eo 2 (by omega)]; exact h2, fun p a b => by rw [eo p (by omega)]; exact h3 p a b, fun p a b c => ?_⟩
  rw [eo p (by omega), eo 0 (by omega)]
  exact h4 p a b (live_1 (eo 1 (by omega)) c)
theorem wvV_aWorth {V : Nat → Int32} (h : wvV V) {v x : Int32} (hv : v.toNatClampNeg < 8) (hx : 0 ≤ x.toInt ∧ x.toInt ≤ 9) : wvV (aWorth V v x) := by
  obtain ⟨h0, h1, h2, h3, h4⟩ := h
  have eo : ∀ p, ¬ (4 ≤ p ∧ p < 12) → aWorth V v x p = V p := fun p b => by unfold aWorth; rw [wv_un (by omega)]
  refine ⟨by rw [eo 0 (by omega)]; exact h0, by rw [eo 1 (by omega)]; exact h1, by rw [eo 2 (by omega)]; exact h2, fun p a b => ?_, fun p a b c => ?_⟩
  · unfold aWorth
    by_cases e : p = 4 + v.toNatClampNeg
    · subst e; rw [wv_us]; exact hx
    · rw [wv_un e]; exact h3 p a b
  · rw [eo p (by omega), eo 0 (by omega)]
    exact h4 p a b (live_1 (eo 1 (by omega)) c)
theorem wvV_aLaw {V : Nat → Int32} (h : wvV V) {x : Int32} (hx : 0 ≤ x.toInt ∧ x.toInt ≤ 2) : wvV (aLaw V x) := by
  obtain ⟨h0, h1, h2, h3, h4⟩ := h
  have eo : ∀ p, ¬ p = 2 → aLaw V x p = V p := fun p b => by unfold aLaw; rw [wv_un b]
  refine ⟨by rw [eo 0 (by omega)]; exact h0, by rw [eo 1 (by omega)]; exact h1, by unfold aLaw; rw [wv_us]; exact hx, fun p a b => by rw [eo p (by omega)]; exact h3 p a b, fun p a b c => ?_⟩
  rw [eo p (by omega), eo 0 (by omega)]
  exact h4 p a b (live_1 (eo 1 (by omega)) c)
theorem wvV_aDay {V : Nat → Int32} (h : wvV V) {x : Int32} : wvV (aDay V x) := by
  obtain ⟨h0, h1, h2, h3, h4⟩ := h
  have eo : ∀ p, ¬ p = 3 → aDay V x p = V p := fun p b => by unfold aDay; rw [wv_un b]
  refine ⟨by rw [eo 0 (by omega)]; exact h0, by rw [eo 1 (by omega)]; exact h1, by rw [eo 2 (by omega)]; exact h2, fun p a b => by rw [eo p (by omega)]; exact h3 p a b, fun p a b c => ?_⟩
  rw [eo p (by omega), eo 0 (by omega)]
  exact h4 p a b (live_1 (eo 1 (by omega)) c)
theorem wvV_aStand {V : Nat → Int32} (h : wvV V) {l a b : Nat} {x : Int32} (hx : x.toInt = 9 ∨ (0 ≤ x.toInt ∧ x.toInt < (V 0).toInt)) : wvV (aStand V l a b x) := by
  obtain ⟨h0, h1, h2, h3, h4⟩ := h
  have eo : ∀ p, p < 28 → aStand V l a b x p = V p := fun p b => by unfold aStand; rw [if_neg (by omega)]
  refine ⟨by rw [eo 0 (by omega)]; exact h0, by rw [eo 1 (by omega)]; exact h1, by rw [eo 2 (by omega)]; exact h2, fun p a b => by rw [eo p (by omega)]; exact h3 p a b, fun p a' b' c => ?_⟩
  rw [eo 0 (by omega)]
  unfold aStand
  by_cases e : 28 + 24 * l + a ≤ p ∧ p ≤ 28 + 24 * l + b
  · rw [if_pos e]
    by_cases e9 : x = 9
    · unfold wvN; rw [if_pos e9]; left; rfl
    · rcases hx with q | q
      · exact absurd (Int32.toInt_inj.mp (by rw [q]; rfl)) e9
      · rw [wvN_o q.1 e9]; right; exact q
  · rw [if_neg e]
    exact h4 p a' b' (live_1 (eo 1 (by omega)) c)
theorem wvV_aLooker {V : Nat → Int32} (h : wvV V) {k f : Int32} (b : (V 1).toInt < 5) : wvV (aLooker V k f) := by
  obtain ⟨h0, h1, h2, h3, h4⟩ := h
  have hn : (V 1 + 1).toNatClampNeg = (V 1).toNatClampNeg + 1 := by
    rw [ti_nat, ti_nat, ti_add (by rw [tz_1]; omega) (by rw [tz_1]; omega), tz_1]; omega
  have hA : (V 1).toNatClampNeg < 5 := tn_lt h1.1 b
  have eo : ∀ p, p < 18 → p ≠ 1 → aLooker V k f p = V p := fun p a b => by
    unfold aLooker
    rw [if_neg b, if_neg (by omega), if_neg (by omega), if_neg (by omega), if_neg (by omega)]
  refine ⟨by rw [eo 0 (by omega) (by omega)]; exact h0, ?_, by rw [eo 2 (by omega) (by omega)]; exact h2, fun p a b => by rw [eo p (by omega) (by omega)]; exact h3 p a b, fun p a' b' c => ?_⟩
  · rw [aLooker_1, ti_add (by rw [tz_1]; omega) (by rw [tz_1]; omega), tz_1]; omega
  rw [eo 0 (by omega) (by omega)]
  unfold live at c
  rw [aLooker_1, hn] at c
  unfold aLooker
  rw [if_neg (by omega), if_neg (by omega), if_neg (by omega)]
  by_cases e : 28 + 24 * (V 1).toNatClampNeg ≤ p ∧ p < 52 + 24 * (V 1).toNatClampNeg
  · rw [if_pos e]; left; rfl
  · rw [if_neg e, if_neg (by omega)]
    have := c.1 a' b'
    exact h4 p a' b' ⟨fun _ _ => by omega, fun q => by omega⟩
end
section
/-! the two sides hold the same -/
def wsT (σ : Mem) (t j : Nat) (p : Nat) : Int32 := if j = t then wvM σ p else σ 117 (188 * j + p)
/-- the step in the slot q brings the house B back to A -/
def wsU (σ : Mem) (q : Nat) (A B : Nat → Int32) : Prop :=
  (σ 71 q = 0 ∧ ∃ l : Nat, (σ 72 q).toInt = (l : Int) ∧ (l : Int) < (B 1).toInt ∧ (∀ t, t < 24 → A (28 + 24 * l + t) = wvN (σ (75 + q) t)) ∧ (∀ t, t < 24 → (σ (75 + q) t).toInt = 9 ∨ (0 ≤ (σ (75 + q) t).toInt ∧ (σ (75 + q) t).toInt < (B 0).toInt)) ∧ ∀ p, p < 188 → ¬ (28 + 24 * l ≤ p ∧ p < 52 + 24 * l) → A p = B p) ∨
  (σ 71 q = 1 ∧ ∃ i : Nat, (σ 72 q).toInt = (i : Int) ∧ (i : Int) < (B 0).toInt ∧ A (12 + i) = σ 73 q ∧ ∀ p, p < 188 → ¬ p = 12 + i → A p = B p) ∨
  (σ 71 q = 2 ∧ ∃ i : Nat, (σ 72 q).toInt = (i : Int) ∧ i < 8 ∧ (0 ≤ (σ 73 q).toInt ∧ (σ 73 q).toInt ≤ 9) ∧ A (4 + i) = σ 73 q ∧ ∀ p, p < 188 → ¬ p = 4 + i → A p = B p) ∨
  (σ 71 q = 3 ∧ (0 ≤ (σ 73 q).toInt ∧ (σ 73 q).toInt ≤ 2) ∧ A 2 = σ 73 q ∧ ∀ p, p < 188 → ¬ p = 2 → A p = B p)
theorem wsU_cg {σ s : Mem} {q : Nat} {A B A' B' : Nat → Int32} (h : wsU σ q A B) (b0 : (B 1).toInt ≤ 5) (b1 : (B 0).toInt ≤ 6) (e1 : s 71 q = σ 71 q) (e2 : s 72 q = σ 72 q) (e3 : s 73 q = σ 73 q) (e4 : s (75 + q) = σ (75 + q)) (hA : ∀ p, p < 188 → A' p = A p) (hB : ∀ p, p < 188 → B' p = B p) : wsU s q A' B' := by
  unfold wsU at h ⊢
  rw [e1, e2, e3, e4, hB 0 (by decide), hB 1 (by decide)]
  rcases h with ⟨h1, l, h2, h3, h4, h5, h6⟩ | ⟨h1, i, h2, h3, h4, h5⟩ | ⟨h1, i, h2, h3, h4, h5, h6⟩ | ⟨h1, h2, h3, h4⟩
  · exact Or.inl ⟨h1, l, h2, h3, fun t ht => by rw [hA _ (by omega)]; exact h4 t ht, h5, fun p hp hn => by rw [hA p hp, hB p hp]; exact h6 p hp hn⟩
  · exact Or.inr (Or.inl ⟨h1, i, h2, h3, by rw [hA _ (by omega)]; exact h4, fun p hp hn => by rw [hA p hp, hB p hp]; exact h5 p hp hn⟩)
  · exact Or.inr (Or.inr (Or.inl ⟨h1, i, h2, h3, h4, by rw [hA _ (by omega)]; exact h5, fun p hp hn => by rw [hA p hp, hB p hp]; exact h6 p hp hn⟩))
  · exact Or.inr (Or.inr (Or.inr ⟨h1, h2, by rw [hA 2 (by decide)]; exact h3, fun p hp hn => by rw [hA p hp, hB p hp]; exact h4 p hp hn⟩))
def rV (lim : Nat) (σ : Mem) : Prop := wvV (wvM σ) ∧ weq lim (wvM σ) (wvX 1 σ)
def rI (lim : Nat) (σ : Mem) : Prop := σ 0 3 = σ 101 24 ∧ (¬ σ 0 3 = 0 → wvV (σ 116) ∧ weq lim (σ 116) (wvX 47 σ))
def rS (σ : Mem) : Prop := σ 70 5 = σ 101 30 ∧ ∀ j, j < (σ 101 30).toNatClampNeg → wvV (wsT σ (σ 101 30).toNatClampNeg j) ∧ wsU σ (((σ 70 4).toNatClampNeg + j) % 8) (wsT σ (σ 101 30).toNatClampNeg j) (wsT σ (σ 101 30).toNatClampNeg (j + 1))
def rL (σ : Mem) : Prop := σ 83 1 = σ 101 15 ∧ ∀ i, i < (σ 101 15).toNatClampNeg → σ 84 i = σ 111 i
def rW (σ : Mem) : Prop := σ 0 7 = σ 101 34 ∧ ∀ i, i < (σ 101 34).toNatClampNeg → σ 85 i = σ 121 i
def wR (lim : Nat) (σ : Mem) : Prop := wiX σ ∧ wiM σ ∧ rV lim σ ∧ rI lim σ ∧ rS σ ∧ rL σ ∧ rW σ
/-- the cells of C are as they were -/
def ag (C : Nat → Prop) (σ s : Mem) : Prop := ∀ k i, C (wcid k i) → s k i = σ k i
theorem ag_fr {W C : Nat → Prop} {σ s : Mem} (h : fr W σ s) (hC : ∀ c, C c → ¬ W c) : ag C σ s := fun k i hc => h k i (hC _ hc)
theorem ag_tr {C : Nat → Prop} {σ s z : Mem} (h1 : ag C σ s) (h2 : ag C s z) : ag C σ z := fun k i hc => (h2 k i hc).trans (h1 k i hc)
theorem ag_mono {C D : Nat → Prop} {σ s : Mem} (h : ag D σ s) (hC : ∀ c, C c → D c) : ag C σ s := fun k i hc => h k i (hC _ hc)
def cX (c : Nat) : Prop := 1 ≤ c ∧ c ≤ 17
def cM (c : Nat) : Prop := (102 ≤ c ∧ c ≤ 107) ∨ c = 1001 ∨ c = 1003 ∨ c = 1008 ∨ c = 1009
def cV (c : Nat) : Prop := cX c ∨ cM c
def cI (c : Nat) : Prop := (47 ≤ c ∧ c ≤ 63) ∨ c = 116 ∨ c = 2003 ∨ c = 1024
def cS (c : Nat) : Prop := cM c ∨ (71 ≤ c ∧ c ≤ 82) ∨ c = 117 ∨ c = 3004 ∨ c = 3005 ∨ c = 1030
def cL (c : Nat) : Prop := c = 84 ∨ c = 111 ∨ c = 4001 ∨ c = 1015
def cW (c : Nat) : Prop := c = 85 ∨ c = 121 ∨ c = 2007 ∨ c = 1034
theorem ag_wvX {h : Nat} {σ s : Mem} (hh : wt_isH h) (e : ag (fun c => h ≤ c ∧ c ≤ h + 16) σ s) {p : Nat} (hp : p < 188) : wvX h s p = wvX h σ p := by
  refine wvX_eq (fun p hp => e _ _ ?_) hp
  have h1 := wvJ_le p hp
  have h2 := wt_Hcs hh
  rw [wcid_lo (by omega) (by omega)]
  omega
theorem ag_wvM {σ s : Mem} (e : ag cM σ s) {p : Nat} (hp : p < 188) : wvM s p = wvM σ p := e _ _ (wvM_cid hp)
theorem rV_ag {lim : Nat} {σ s : Mem} (hl : 28 ≤ lim ∧ lim ≤ 188) (h : rV lim σ) (e : ag cV σ s) : rV lim s := by
  have e1 : ∀ p, p < 188 → wvM s p = wvM σ p := fun p hp => ag_wvM (ag_mono e (fun c hc => Or.inr hc)) hp
  have e2 : ∀ p, p < 188 → wvX 1 s p = wvX 1 σ p := fun p hp => ag_wvX wt_h1 (ag_mono e (fun c hc => Or.inl (by unfold cX; omega))) hp
  exact ⟨wvV_cg h.1 e1, weq_cg h.2 hl.1 (fun p hp => e1 p (by omega)) (fun p hp => e2 p (by omega))⟩
theorem rI_ag {lim : Nat} {σ s : Mem} (hl : 28 ≤ lim ∧ lim ≤ 188) (h : rI lim σ) (e : ag cI σ s) : rI lim s := by
  have e1 : s 0 3 = σ 0 3 := e 0 3 (Or.inr (Or.inr (Or.inl rfl)))
  have e2 : s 101 24 = σ 101 24 := e 101 24 (Or.inr (Or.inr (Or.inr rfl)))
  have e3 : ∀ p, s 116 p = σ 116 p := fun p => e 116 p (Or.inr (Or.inl rfl))
  have e4 : ∀ p, p < 188 → wvX 47 s p = wvX 47 σ p := fun p hp => ag_wvX wt_h47 (ag_mono e (fun c hc => Or.inl hc)) hp
  refine ⟨by rw [e1, e2]; exact h.1, fun hn => ?_⟩
  rw [e1] at hn
  obtain ⟨h1, h2⟩ := h.2 hn
  exact ⟨wvV_cg h1 (fun p _ => e3 p), weq_cg h2 hl.1 (fun p _ => e3 p) (fun p hp => e4 p (by omega))⟩
theorem rL_ag {σ s : Mem} (h : rL σ) (e : ag cL σ s) : rL s := by
  have e1 : s 83 1 = σ 83 1 := e 83 1 (Or.inr (Or.inr (Or.inl rfl)))
  have e2 : s 101 15 = σ 101 15 := e 101 15 (Or.inr (Or.inr (Or.inr rfl)))
  refine ⟨by rw [e1, e2]; exact h.1, fun i hi => ?_⟩
  rw [e2] at hi
  rw [e 84 i (Or.inl rfl), e 111 i (Or.inr (Or.inl rfl))]
  exact h.2 i hi
theorem rW_ag {σ s : Mem} (h : rW σ) (e : ag cW σ s) : rW s := by
  have e1 : s 0 7 = σ 0 7 := e 0 7 (Or.inr (Or.inr (Or.inl rfl)))
  have e2 : s 101 34 = σ 101 34 := e 101 34 (Or.inr (Or.inr (Or.inr rfl)))
  refine ⟨by rw [e1, e2]; exact h.1, fun i hi => ?_⟩
  rw [e2] at hi
  rw [e 85 i (Or.inl rfl), e 121 i (Or.inr (Or.inl rfl))]
  exact h.2 i hi
theorem wvV_b {V : Nat → Int32} (h : wvV V) : (V 1).toInt ≤ 5 ∧ (V 0).toInt ≤ 6 := ⟨h.2.1.2, h.1.2⟩
theorem wsT_t {σ : Mem} {t p : Nat} : wsT σ t t p = wvM σ p := if_pos rfl
theorem wsT_n {σ : Mem} {t j p : Nat} (h : ¬ j = t) : wsT σ t j p = σ 117 (188 * j + p) := if_neg h
theorem rS_V {σ : Mem} (hV : wvV (wvM σ)) (h : rS σ) {j : Nat} (hj : j ≤ (σ 101 30).toNatClampNeg) : wvV (wsT σ (σ 101 30).toNatClampNeg j) := by
  by_cases e : j = (σ 101 30).toNatClampNeg
  · exact wvV_cg hV (fun p _ => by rw [e, wsT_t])
  · exact (h.2 j (by omega)).1
theorem wcid_i {k i n : Nat} (h : wcid k i = n) : wcid k i = n := h
theorem rS_ag {σ s : Mem} (hV : wvV (wvM σ)) (h : rS σ) (e : ag cS σ s) : rS s := by
  have e1 : s 70 4 = σ 70 4 := e 70 4 (Or.inr (Or.inr (Or.inr (Or.inl rfl))))
  have e2 : s 70 5 = σ 70 5 := e 70 5 (Or.inr (Or.inr (Or.inr (Or.inr (Or.inl rfl)))))
  have e3 : s 101 30 = σ 101 30 := e 101 30 (Or.inr (Or.inr (Or.inr (Or.inr (Or.inr rfl)))))
  have e4 : ∀ i, s 117 i = σ 117 i := fun i => e 117 i (Or.inr (Or.inr (Or.inl rfl)))
  have e5 : ∀ k, 71 ≤ k → k ≤ 82 → ∀ i, s k i = σ k i := fun k a b i => e k i (Or.inr (Or.inl (by rw [wcid_hi (by omega)]; exact ⟨a, b⟩)))
  have e6 : ∀ p, p < 188 → wvM s p = wvM σ p := fun p hp => ag_wvM (ag_mono e (fun c hc => Or.inl hc)) hp
  have eT : ∀ j p, p < 188 → wsT s (σ 101 30).toNatClampNeg j p = wsT σ (σ 101 30).toNatClampNeg j p := fun j p hp => by
    unfold wsT
    rw [e6 p hp, e4]
  refine ⟨by rw [e2, e3]; exact h.1, fun j hj => ?_⟩
  rw [e3] at hj ⊢
  rw [e1]
  have b := wvV_b (rS_V hV h (j := j + 1) (by omega))
  have hm : ((σ 70 4).toNatClampNeg + j) % 8 < 8 := Nat.mod_lt _ (by decide)
  refine ⟨wvV_cg (h.2 j hj).1 (fun p hp => eT j p hp), wsU_cg (h.2 j hj).2 b.1 b.2 (e5 71 (by omega) (by omega) _) (e5 72 (by omega) (by omega) _) (e5 73 (by omega) (by omega) _) (funext fun i => e5 _ (by omega) (by omega) i) (fun p hp => eT j p hp) (fun p hp => eT _ p hp)⟩
theorem rS_0 {s : Mem} (h1 : s 70 5 = 0) (h2 : s 101 30 = 0) : rS s := ⟨by rw [h1, h2], fun j hj => by rw [h2] at hj; exact absurd hj (Nat.not_lt_zero j)⟩
/-- a step more -/
theorem rS_push {σ s : Mem} (hV : wvV (wvM σ)) (h : rS σ) (b4 : 0 ≤ (σ 70 4).toInt ∧ (σ 70 4).toInt ≤ 7) (b5 : 0 ≤ (σ 70 5).toInt ∧ (σ 70 5).toInt ≤ 8) (hR : wsRing σ s)
    (hslot : ∀ i, i < 8 → i ≠ wsSlot σ → s 71 i = σ 71 i ∧ s 72 i = σ 72 i ∧ s 73 i = σ 73 i ∧ s (75 + i) = σ (75 + i))
    (hK : ∃ t d : Nat, (((σ 101 30).toInt = 8 ∧ t = 7 ∧ d = 1) ∨ ((σ 101 30).toInt < 8 ∧ t = (σ 101 30).toNatClampNeg ∧ d = 0)) ∧ (s 101 30).toInt = (t : Int) + 1 ∧ (∀ i, i < 188 * t → s 117 i = σ 117 (i + 188 * d)) ∧ ∀ p, p < 188 → s 117 (188 * t + p) = wvM σ p)
    (hU : wsU s (wsSlot σ) (wvM σ) (wvM s)) : rS s := by
  obtain ⟨t, d, htd, k1, k2, k3⟩ := hK
  obtain ⟨hn, hj⟩ := h
  have h5 : (σ 70 5).toInt = (σ 101 30).toInt := congrArg Int32.toInt hn
  have e5 := ti_nat (σ 70 5)
  have e30 := ti_nat (σ 101 30)
  have e4 := ti_nat (σ 70 4)
  have es30 := ti_nat (s 101 30)
  have es4 := ti_nat (s 70 4)
  have hVj : ∀ j, j ≤ (σ 101 30).toNatClampNeg → wvV (wsT σ (σ 101 30).toNatClampNeg j) := fun j q => rS_V hV ⟨hn, hj⟩ q
  rcases htd with ⟨q8, rfl, rfl⟩ | ⟨q8, rfl, rfl⟩
  · obtain ⟨r1, r2⟩ := hR.2 (by omega)
    have n8 : (σ 101 30).toNatClampNeg = 8 := by omega
    have m8 : (s 101 30).toNatClampNeg = 8 := by omega
    have hq : wsSlot σ = (σ 70 4).toNatClampNeg := by unfold wsSlot; omega
    refine ⟨Int32.toInt_inj.mp (by omega), fun j hj8 => ?_⟩
    rw [m8] at hj8 ⊢
    rw [n8] at hj hVj
    have hT : ∀ j, j < 8 → ∀ p, p < 188 → wsT s 8 j p = wsT σ 8 (j + 1) p := fun j h8 p hp => by
      rw [wsT_n (by omega)]
      by_cases e : j = 7
      · subst e; rw [wsT_t]; exact k3 p hp
      · rw [wsT_n (by omega), k2 _ (by omega), show 188 * j + p + 188 * 1 = 188 * (j + 1) + p by omega]
    by_cases e : j = 7
    · subst e
      have hsl : ((s 70 4).toNatClampNeg + 7) % 8 = wsSlot σ := by rw [hq]; omega
      rw [hsl]
      refine ⟨wvV_cg (hVj 8 (by omega)) (hT 7 (by omega)), ?_⟩
      have b := wvV_b hV
      have hTt : ∀ p, p < 188 → wsT s 8 7 p = wvM σ p := fun p hp => by rw [hT 7 (by omega) p hp, wsT_t]
      unfold wsU at hU ⊢
      have hl7 : (∀ p, wsT s 8 (7 + 1) p = wvM s p) := fun p => wsT_t
      rcases hU with ⟨h1, l, h2, h3, h4, h5', h6⟩ | ⟨h1, i, h2, h3, h4, h5'⟩ | ⟨h1, i, h2, h3, h4, h5', h6⟩ | ⟨h1, h2, h3, h4⟩
      · by_cases hl5 : l < 5
        · exact Or.inl ⟨h1, l, h2, by rw [hl7]; exact h3, fun t ht => by rw [hTt _ (by omega)]; exact h4 t ht, by rw [hl7]; exact h5', fun p hp hn => by rw [hTt p hp, hl7]; exact h6 p hp hn⟩
        · exfalso
          have := h6 1 (by decide) (by omega)
          rw [← this] at h3
          omega
      · by_cases hl5 : i < 6
        · exact Or.inr (Or.inl ⟨h1, i, h2, by rw [hl7]; exact h3, by rw [hTt _ (by omega)]; exact h4, fun p hp hn => by rw [hTt p hp, hl7]; exact h5' p hp hn⟩)
        · exfalso
          have := h5' 0 (by decide) (by omega)
          rw [← this] at h3
          omega
      · exact Or.inr (Or.inr (Or.inl ⟨h1, i, h2, h3, h4, by rw [hTt _ (by omega)]; exact h5', fun p hp hn => by rw [hTt p hp, hl7]; exact h6 p hp hn⟩))
      · exact Or.inr (Or.inr (Or.inr ⟨h1, h2, by rw [hTt 2 (by decide)]; exact h3, fun p hp hn => by rw [hTt p hp, hl7]; exact h4 p hp hn⟩))
    · have hsl : ((s 70 4).toNatClampNeg + j) % 8 = ((σ 70 4).toNatClampNeg + (j + 1)) % 8 := by omega
      rw [hsl]
      obtain ⟨o1, o2, o3, o4⟩ := hslot (((σ 70 4).toNatClampNeg + (j + 1)) % 8) (Nat.mod_lt _ (by decide)) (by rw [hq]; omega)
      have b := wvV_b (hVj (j + 1 + 1) (by omega))
      exact ⟨wvV_cg (hVj (j + 1) (by omega)) (hT j (by omega)), wsU_cg (hj (j + 1) (by omega)).2 b.1 b.2 o1 o2 o3 o4 (hT j (by omega)) (hT (j + 1) (by omega))⟩
  · obtain ⟨r1, r2⟩ := hR.1 (by omega)
    generalize hN : (σ 101 30).toNatClampNeg = n at *
    have m8 : (s 101 30).toNatClampNeg = n + 1 := by omega
    have hq : wsSlot σ = ((σ 70 4).toNatClampNeg + n) % 8 := by unfold wsSlot; rw [show (σ 70 5).toNatClampNeg = n by omega]
    have es : (s 70 4).toNatClampNeg = (σ 70 4).toNatClampNeg := by omega
    refine ⟨Int32.toInt_inj.mp (by omega), fun j hj8 => ?_⟩
    rw [m8] at hj8 ⊢
    rw [es]
    have hT : ∀ j, j ≤ n → ∀ p, p < 188 → wsT s (n + 1) j p = wsT σ n j p := fun j h8 p hp => by
      rw [wsT_n (by omega)]
      by_cases e : j = n
      · subst e; rw [wsT_t]; exact k3 p hp
      · rw [wsT_n e, k2 _ (by omega), show 188 * j + p + 188 * 0 = 188 * j + p by omega]
    by_cases e : j = n
    · subst e
      rw [← hq]
      refine ⟨wvV_cg (hVj j (by omega)) (hT j (by omega)), ?_⟩
      have b := wvV_b hV
      have hTt : ∀ p, p < 188 → wsT s (j + 1) j p = wvM σ p := fun p hp => by rw [hT j (by omega) p hp, wsT_t]
      unfold wsU at hU ⊢
      have hl7 : (∀ p, wsT s (j + 1) (j + 1) p = wvM s p) := fun p => wsT_t
      rcases hU with ⟨h1, l, h2, h3, h4, h5', h6⟩ | ⟨h1, i, h2, h3, h4, h5'⟩ | ⟨h1, i, h2, h3, h4, h5', h6⟩ | ⟨h1, h2, h3, h4⟩
      · by_cases hl5 : l < 5
        · exact Or.inl ⟨h1, l, h2, by rw [hl7]; exact h3, fun t ht => by rw [hTt _ (by omega)]; exact h4 t ht, by rw [hl7]; exact h5', fun p hp hn => by rw [hTt p hp, hl7]; exact h6 p hp hn⟩
        · exfalso
          have := h6 1 (by decide) (by omega)
          rw [← this] at h3
          omega
      · by_cases hl5 : i < 6
        · exact Or.inr (Or.inl ⟨h1, i, h2, by rw [hl7]; exact h3, by rw [hTt _ (by omega)]; exact h4, fun p hp hn => by rw [hTt p hp, hl7]; exact h5' p hp hn⟩)
        · exfalso
          have := h5' 0 (by decide) (by omega)
          rw [← this] at h3
          omega
      · exact Or.inr (Or.inr (Or.inl ⟨h1, i, h2, h3, h4, by rw [hTt _ (by omega)]; exact h5', fun p hp hn => by rw [hTt p hp, hl7]; exact h6 p hp hn⟩))
      · exact Or.inr (Or.inr (Or.inr ⟨h1, h2, by rw [hTt 2 (by decide)]; exact h3, fun p hp hn => by rw [hTt p hp, hl7]; exact h4 p hp hn⟩))
    · obtain ⟨o1, o2, o3, o4⟩ := hslot (((σ 70 4).toNatClampNeg + j) % 8) (Nat.mod_lt _ (by decide)) (by rw [hq]; omega)
      have b := wvV_b (hVj (j + 1) (by omega))
      exact ⟨wvV_cg (hVj j (by omega)) (hT j (by omega)), wsU_cg (hj j (by omega)).2 b.1 b.2 o1 o2 o3 o4 (hT j (by omega)) (hT (j + 1) (by omega))⟩
/-- a step taken back -/
theorem rS_pop {σ s : Mem} {n : Nat} (hV : wvV (wvM σ)) (h : rS σ) (hn : (σ 101 30).toInt = (n : Int) + 1) (e4 : s 70 4 = σ 70 4) (e5 : (s 70 5).toInt = (n : Int)) (e30 : (s 101 30).toInt = (n : Int)) (o : ∀ k, 71 ≤ k → k ≤ 82 → s k = σ k) (o7 : s 117 = σ 117) (hM : ∀ p, p < 188 → wvM s p = σ 117 (188 * n + p)) : rS s ∧ wvV (wvM s) := by
  have n1 : (σ 101 30).toNatClampNeg = n + 1 := by rw [ti_nat, hn]; omega
  have m1 : (s 101 30).toNatClampNeg = n := by rw [ti_nat, e30]; omega
  have hh := h.2
  rw [n1] at hh
  have hT : ∀ j, j ≤ n → ∀ p, p < 188 → wsT s n j p = wsT σ (n + 1) j p := fun j h8 p hp => by
    rw [wsT_n (t := n + 1) (by omega)]
    by_cases e : j = n
    · subst e; rw [wsT_t, hM p hp]
    · rw [wsT_n e, o7]
  refine ⟨⟨Int32.toInt_inj.mp (by omega), fun j hj => ?_⟩, wvV_cg (hh n (by omega)).1 (fun p hp => by rw [wsT_n (by omega), hM p hp])⟩
  rw [m1] at hj ⊢
  rw [e4]
  have hm : ((σ 70 4).toNatClampNeg + j) % 8 < 8 := Nat.mod_lt _ (by decide)
  have b := wvV_b (by have := rS_V hV h (j := j + 1) (by omega); rw [n1] at this; exact this)
  exact ⟨wvV_cg (hh j (by omega)).1 (hT j (by omega)), wsU_cg (hh j (by omega)).2 b.1 b.2 (by rw [o 71 (by omega) (by omega)]) (by rw [o 72 (by omega) (by omega)]) (by rw [o 73 (by omega) (by omega)]) (o _ (by omega) (by omega)) (hT j (by omega)) (hT (j + 1) (by omega))⟩
/-- what it is taken back to, on the class's side -/
theorem weq_undone {lim n : Nat} {σ s : Mem} (hl : 28 ≤ lim ∧ lim ≤ 188) (hV : wvV (wvM σ)) (hw : weq lim (wvM σ) (wvX 1 σ)) (h : rS σ) (hn : (σ 101 30).toInt = (n : Int) + 1) (hU : wsUndone σ s (wsLast σ)) (hM : ∀ p, p < 188 → wvM s p = σ 117 (188 * n + p)) : weq lim (wvM s) (wvX 1 s) := by
  have n1 : (σ 101 30).toNatClampNeg = n + 1 := by rw [ti_nat, hn]; omega
  have hh := (h.2 n (by omega)).2
  have h5 : (σ 70 5).toNatClampNeg = n + 1 := by rw [h.1]; exact n1
  rw [n1] at hh
  have hq : ((σ 70 4).toNatClampNeg + n) % 8 = wsLast σ := by unfold wsLast; rw [h5]; rfl
  rw [hq] at hh
  have eA : ∀ p, p < 188 → wsT σ (n + 1) n p = wvM s p := fun p hp => by rw [wsT_n (by omega), hM p hp]
  have eB : ∀ p, wsT σ (n + 1) (n + 1) p = wvM σ p := fun p => wsT_t
  have b0 : σ 1 0 = wvM σ 0 := weq_lo hw hl.1 (p := 0) (by decide)
  have b1 : σ 1 2 = wvM σ 1 := weq_lo hw hl.1 (p := 1) (by decide)
  generalize wsLast σ = q at hU hh
  obtain ⟨u0, u1, u2, u3⟩ := hU
  have lv : ∀ p, wvM s 1 = wvM σ 1 → live (wvM s) p → live (wvM σ) p := fun p e hv => live_1 e hv
  rcases hh with ⟨h1, l, h2, h3, h4, h5', h6⟩ | ⟨h1, i, h2, h3, h4, h5'⟩ | ⟨h1, i, h2, h3, h4, h5', h6⟩ | ⟨h1, h2, h3, h4⟩
  · rw [eB] at h3 h5'
    have hx := u0 h1 l h2 (by rw [b1]; exact h3) (fun t ht => by rw [b0]; exact h5' t ht)
    have hl5 : l < 5 := by have := hV.2.1.2; omega
    intro p hp hv
    rw [hx p (by omega)]
    by_cases e : 28 + 24 * l ≤ p ∧ p < 52 + 24 * l
    · rw [if_pos e, ← eA p (by omega), show p = 28 + 24 * l + (p - (28 + 24 * l)) by omega, h4 _ (by omega), show 28 + 24 * l + (p - (28 + 24 * l)) - (28 + 24 * l) = p - (28 + 24 * l) by omega]
    · have e1 := h6 1 (by decide) (by omega)
      rw [eA 1 (by decide), eB] at e1
      have e2 := h6 p (by omega) e
      rw [eA p (by omega), eB] at e2
      rw [if_neg e, e2]
      exact hw p hp (lv p e1 hv)
  · rw [eB] at h3
    have hi6 : i < 6 := by have := hV.1.2; omega
    have hx := u1 h1 i h2 (by rw [b0]; exact h3)
    intro p hp hv
    rw [hx p (by omega)]
    by_cases e : p = 12 + i
    · subst e; rw [wv_us, ← eA _ (by omega), h4]
    · have e1 := h5' 1 (by decide) (by omega)
      rw [eA 1 (by decide), eB] at e1
      have e2 := h5' p (by omega) e
      rw [eA p (by omega), eB] at e2
      rw [wv_un e, e2]
      exact hw p hp (lv p e1 hv)
  · have hx := u2 h1 i h2 h3 h4.1 h4.2
    intro p hp hv
    rw [hx p (by omega)]
    by_cases e : p = 4 + i
    · subst e; rw [wv_us, ← eA _ (by omega), h5']
    · have e1 := h6 1 (by decide) (by omega)
      rw [eA 1 (by decide), eB] at e1
      have e2 := h6 p (by omega) e
      rw [eA p (by omega), eB] at e2
      rw [wv_un e, e2]
      exact hw p hp (lv p e1 hv)
  · have hx := u3 h1 h2.1 h2.2
    intro p hp hv
    rw [hx p (by omega)]
    by_cases e : p = 2
    · subst e; rw [wv_us, ← eA _ (by omega), h3]
    · have e1 := h4 1 (by decide) (by omega)
      rw [eA 1 (by decide), eB] at e1
      have e2 := h4 p (by omega) e
      rw [eA p (by omega), eB] at e2
      rw [wv_un e, e2]
      exact hw p hp (lv p e1 hv)
end
section
/-! the class's refusals -/
def cN (x a b : Int32) : Int32 := if a.toInt ≤ x.toInt then (if x.toInt ≤ b.toInt then 0 else -6) else -4
def cO (x n : Int32) : Int32 := if 0 ≤ x.toInt ∧ x.toInt < n.toInt then 0 else -2
def cF (a b : Int32) : Int32 := if a = 0 then b else a
def cB (c : Prop) [Decidable c] : Int32 := if c then 0 else -1
theorem cB_t {c : Prop} [Decidable c] (h : c) : cB c = 0 := if_pos h
theorem cB_f {c : Prop} [Decidable c] (h : ¬ c) : cB c = -1 := if_neg h
theorem cB_0 {c : Prop} [Decidable c] (h : cB c = 0) : c := by
  by_cases q : c
  · exact q
  · rw [cB_f q] at h; exact absurd h (by decide)
theorem cB_cg {c d : Prop} [Decidable c] [Decidable d] (h : c ↔ d) : cB c = cB d := by
  by_cases q : c
  · rw [cB_t q, cB_t (h.mp q)]
  · rw [cB_f q, cB_f (fun r => q (h.mpr r))]
theorem cF_0 {a b : Int32} (h : cF a b = 0) : a = 0 ∧ b = 0 := by
  unfold cF at h
  by_cases q : a = 0
  · rw [if_pos q] at h; exact ⟨q, h⟩
  · rw [if_neg q] at h; exact absurd h q
theorem cN_0 {x a b : Int32} (h : cN x a b = 0) : a.toInt ≤ x.toInt ∧ x.toInt ≤ b.toInt := by
  unfold cN at h
  by_cases q : a.toInt ≤ x.toInt
  · rw [if_pos q] at h
    by_cases r : x.toInt ≤ b.toInt
    · exact ⟨q, r⟩
    · rw [if_neg r] at h; exact absurd h (by decide)
  · rw [if_neg q] at h; exact absurd h (by decide)
theorem cN_t {x a b : Int32} (h1 : a.toInt ≤ x.toInt) (h2 : x.toInt ≤ b.toInt) : cN x a b = 0 := by
  unfold cN; rw [if_pos h1, if_pos h2]
theorem cO_0 {x n : Int32} (h : cO x n = 0) : 0 ≤ x.toInt ∧ x.toInt < n.toInt := by
  unfold cO at h
  by_cases q : 0 ≤ x.toInt ∧ x.toInt < n.toInt
  · exact q
  · rw [if_neg q] at h; exact absurd h (by decide)
theorem ax_outside {F : Nat} {x a b : Int32} {σ : Mem} : f_X3_outside F x a b σ = some (cN x a b, σ) := by
  rw [f_X3_outside_e]
  unfold cN
  by_cases c1 : a ≤ x
  · rw [if_pos c1, if_pos (ti_le c1)]
    by_cases c2 : x ≤ b
    · rw [if_pos c2, if_pos (ti_le c2)]
    · rw [if_neg c2, if_neg (Int.not_le.mpr (ti_nle c2))]
  · rw [if_neg c1, if_neg (Int.not_le.mpr (ti_nle c1))]
theorem mx_wrongN {F : Nat} {x a b : Int32} {σ : Mem} : f_X4_wrongNumber F x a b σ = some (cN x a b, σ) := mx_wrongNumber
theorem ax_notBelow {F : Nat} {x n : Int32} {σ : Mem} : f_X3_notBelow F x n σ = some (cO x n, σ) := by
  rw [f_X3_notBelow_e]
  simp only [j_X3_notBelow_13_e]
  unfold cO
  by_cases c1 : x < 0
  · rw [if_pos c1, if_neg (fun q => by have := ti_lt c1; rw [tz_0] at this; have := q.1; omega)]
  · rw [if_neg c1]
    have d1 := ti_nlt c1
    rw [tz_0] at d1
    by_cases c2 : n ≤ x
    · rw [if_pos c2, if_neg (fun q => by have := ti_le c2; have := q.2; omega)]
    · rw [if_neg c2, if_pos ⟨d1, ti_nle c2⟩]
theorem ax_firstOf {F : Nat} {a b : Int32} {σ : Mem} : f_X3_firstOf F a b σ = some (cF a b, σ) := by
  rw [f_X3_firstOf_e]
  unfold cF
  by_cases c : a = 0
  · rw [if_pos c, if_pos c]
  · rw [if_neg c, if_neg c]
theorem ax_flag {c : Prop} [Decidable c] {σ : Mem} : (if (if c then (1 : Int32) else 0) = 0 then some ((-1 : Int32), σ) else some ((0 : Int32), σ)) = some (cB c, σ) := by
  by_cases q : c
  · rw [if_pos q, if_neg (by decide), cB_t q]
  · rw [if_neg q, if_pos rfl, cB_f q]
theorem ax_noView {F : Nat} {x : Int32} {σ : Mem} : f_X3_noView F x σ = some (cB (0 ≤ x.toInt ∧ x.toInt ≤ 7), σ) := by
  rw [f_X3_noView_e, wt_bnd_eq ax_isView, ax_flag]
theorem ax_noHour {F : Nat} {x : Int32} {σ : Mem} : f_X3_noHour F x σ = some (cB (0 ≤ x.toInt ∧ x.toInt ≤ 23), σ) := by
  rw [f_X3_noHour_e, wt_bnd_eq ax_isHour, ax_flag]
theorem ax_noPane {F : Nat} {x : Int32} {σ : Mem} (b : (σ 1 0).toInt ≤ 6) : f_X3_noPane F x σ = some (cB (0 ≤ x.toInt ∧ x.toInt < (σ 1 0).toInt), σ) := by
  rw [f_X3_noPane_e, wt_bnd_eq (ax_isPane b), ax_flag]
theorem ax_noLooker {F : Nat} {x : Int32} {σ : Mem} (b : (σ 1 2).toInt ≤ 5) : f_X3_noLooker F x σ = some (cB (0 ≤ x.toInt ∧ x.toInt < (σ 1 2).toInt), σ) := by
  rw [f_X3_noLooker_e, wt_bnd_eq (ax_isLooker b), ax_flag]
theorem ax_refuse {F : Nat} {x : Int32} {σ : Mem} : pc (f_X3_refuse F x σ) (fun r s => r = x ∧ ∀ k, k ≠ 86 → s k = σ k) := by
  rw [f_X3_refuse_e]
  simp only [j_X3_refuse_23_e]
  refine pc_ite (fun _ => pc_ret ⟨rfl, fun _ _ => rfl⟩) (fun _ => pc_ite (fun _ => pc_ret ⟨rfl, fun _ _ => rfl⟩) (fun _ => ?_))
  exact pc_chk (fun _ => pc_lt (fun s2 h2 => pc_ret ⟨rfl, fun k hk => by rw [h2, up2_k hk]⟩))
/-- what a call of the class with a refusal e does -/
def cR (e : Int32) (G : Int32 → Mem → Prop) (σ : Mem) (r : Int32) (s : Mem) : Prop := (e = 0 → G r s) ∧ (¬ e = 0 → r = e ∧ ∀ k, k ≠ 86 → s k = σ k)
/-- and one of the reference -/
def mR (e : Int32) (G : Int32 → Mem → Prop) (σ : Mem) (r : Int32) (s : Mem) : Prop := (e = 0 → G r s) ∧ (¬ e = 0 → r = e ∧ ∀ k i, k ≠ 108 → ¬ (k = 101 ∧ i = 10) → s k i = σ k i)
theorem cR_end {F : Nat} {e : Int32} {G : Int32 → Mem → Prop} {σ : Mem} {A : Option (Int32 × Mem)} (h : e = 0 → pc A G) : pc (if e = 0 then A else wt_bnd (f_X3_refuse F e σ) fun r s => some (r, s)) (cR e G σ) := by
  refine pc_ite (fun c => pc_mono (h c) (fun a s g => ⟨fun _ => g, fun n => absurd c n⟩)) (fun c => pc_bnd ax_refuse (fun r s q => pc_ret ⟨fun n => absurd n c, fun _ => q⟩))
theorem ax_forget {F : Nat} {σ : Mem} : f_X2_forget F σ = some ((), up2 σ 70 5 0) := by rw [f_X2_forget_e]; rfl
def ePane (P x : Int32) : Int32 := cF (cN x 0 255) (if P.toInt < 6 then 0 else -6)
def eLooker (L k f : Int32) : Int32 := cF (cF (cO k 6) (cN f 0 9)) (if L.toInt < 5 then 0 else -6)
theorem cF_i {a b : Int32} : (if a = 0 then b else a) = cF a b := rfl
theorem pc_iteR {β : Type} {c : Prop} [Decidable c] {A E : Option (β × Mem)} {Q : β → Mem → Prop} (h1 : c → pc A Q) (h2 : ¬ c → pc E Q) : pc (if c then A else E) Q := pc_ite h1 h2
theorem cx_pane {F : Nat} {x : Int32} {σ : Mem} (b : 0 ≤ (σ 1 0).toInt ∧ (σ 1 0).toInt ≤ 6) : pc (f_X3_pane F x σ) (cR (ePane (σ 1 0) x) (fun r s => (∀ p, p < 188 → wvX 1 s p = aPane (wvX 1 σ) x p) ∧ r = s 1 0 - (1 : Int32) ∧ s 70 5 = 0) σ) := by
  rw [f_X3_pane_e]
  refine pc_be ax_outside ?_
  simp only [j_X3_pane_28_e]
  have good : ePane (σ 1 0) x = 0 → pc (wt_bnd (f_X0_addPane F 1 x σ) fun r1 s2 => wt_bnd (f_X2_forget F s2) fun r3 s4 => some ((s4 1 0) - (1 : Int32), s4)) (fun r s => (∀ p, p < 188 → wvX 1 s p = aPane (wvX 1 σ) x p) ∧ r = s 1 0 - (1 : Int32) ∧ s 70 5 = 0) := fun e => by
    obtain ⟨e1, e2⟩ := cF_0 e
    have e3 := cN_0 e1
    rw [tz_0, tz_255] at e3
    refine pc_bnd (ax_addPane wt_h1 b) (fun r s q => pc_be ax_forget (pc_ret ⟨fun p hp => ?_, rfl, up2_s⟩))
    rw [wvX_k (by omega) hp]
    refine (q.1 ⟨e3.1, e3.2, ?_⟩).2 p hp
    by_cases c : (σ 1 0).toInt < 6
    · exact c
    · rw [if_neg c] at e2; exact absurd e2 (by decide)
  have key : ∀ e, e = ePane (σ 1 0) x → pc (if e = 0 then (wt_bnd (f_X0_addPane F 1 x σ) fun r1 s2 => wt_bnd (f_X2_forget F s2) fun r3 s4 => some ((s4 1 0) - (1 : Int32), s4)) else wt_bnd (f_X3_refuse F e σ) fun r5 s6 => some (r5, s6)) (cR (ePane (σ 1 0) x) (fun r s => (∀ p, p < 188 → wvX 1 s p = aPane (wvX 1 σ) x p) ∧ r = s 1 0 - (1 : Int32) ∧ s 70 5 = 0) σ) := fun e he => by
    subst he; exact cR_end good
  by_cases c1 : cN x 0 255 = 0
  · rw [if_pos c1]
    by_cases c2 : σ 1 0 < 6
    · rw [if_pos c2]
      refine key _ ?_
      unfold ePane cF
      have := ti_lt c2
      rw [tz_6] at this
      rw [if_pos c1, if_pos this, c1]
    · rw [if_neg c2]
      refine key _ ?_
      unfold ePane cF
      have := ti_nlt c2
      rw [tz_6] at this
      rw [if_pos c1, if_neg (by omega)]
  · rw [if_neg c1]
    refine key _ ?_
    unfold ePane cF
    rw [if_neg c1]
theorem cx_looker {F : Nat} {k f : Int32} {σ : Mem} (b : 0 ≤ (σ 1 2).toInt ∧ (σ 1 2).toInt ≤ 5) : pc (f_X3_looker F k f σ) (cR (eLooker (σ 1 2) k f) (fun r s => (∀ p, p < 188 → wvX 1 s p = aLooker (wvX 1 σ) k f p) ∧ r = s 1 2 - (1 : Int32) ∧ s 70 5 = 0) σ) := by
  rw [f_X3_looker_e]
  refine pc_be ax_notBelow (pc_be ax_outside (pc_be ax_firstOf ?_))
  simp only [j_X3_looker_35_e]
  have good : eLooker (σ 1 2) k f = 0 → pc (wt_bnd (f_X0_addLooker F 1 k f σ) fun r1 s2 => wt_bnd (f_X2_forget F s2) fun r3 s4 => some ((s4 1 2) - (1 : Int32), s4)) (fun r s => (∀ p, p < 188 → wvX 1 s p = aLooker (wvX 1 σ) k f p) ∧ r = s 1 2 - (1 : Int32) ∧ s 70 5 = 0) := fun e => by
    obtain ⟨e1, e2⟩ := cF_0 e
    obtain ⟨e0, e1⟩ := cF_0 e1
    have e3 := cN_0 e1
    have e4 := cO_0 e0
    rw [tz_0, tz_9] at e3
    rw [tz_6] at e4
    refine pc_bnd (ax_addLooker wt_h1 b) (fun r s q => pc_be ax_forget (pc_ret ⟨fun p hp => ?_, rfl, up2_s⟩))
    rw [wvX_k (by omega) hp]
    refine (q.1 ⟨⟨e4.1, by omega⟩, e3, ?_⟩).2 p hp
    by_cases c : (σ 1 2).toInt < 5
    · exact c
    · rw [if_neg c] at e2; exact absurd e2 (by decide)
  have key : ∀ e, e = eLooker (σ 1 2) k f → pc (if e = 0 then (wt_bnd (f_X0_addLooker F 1 k f σ) fun r1 s2 => wt_bnd (f_X2_forget F s2) fun r3 s4 => some ((s4 1 2) - (1 : Int32), s4)) else wt_bnd (f_X3_refuse F e σ) fun r5 s6 => some (r5, s6)) (cR (eLooker (σ 1 2) k f) (fun r s => (∀ p, p < 188 → wvX 1 s p = aLooker (wvX 1 σ) k f p) ∧ r = s 1 2 - (1 : Int32) ∧ s 70 5 = 0) σ) := fun e he => by
    subst he; exact cR_end good
  generalize hc : cF (cO k 6) (cN f 0 9) = c at *
  have hE : eLooker (σ 1 2) k f = cF c (if (σ 1 2).toInt < 5 then 0 else -6) := by unfold eLooker; rw [hc]
  by_cases c1 : c = 0
  · rw [if_pos c1]
    by_cases c2 : σ 1 2 < 5
    · rw [if_pos c2]
      refine key _ ?_
      have := ti_lt c2
      rw [tz_5] at this
      rw [hE]
      unfold cF
      rw [if_pos c1, if_pos this, c1]
    · rw [if_neg c2]
      refine key _ ?_
      have := ti_nlt c2
      rw [tz_5] at this
      rw [hE]
      unfold cF
      rw [if_pos c1, if_neg (by omega)]
  · rw [if_neg c1]
    refine key _ ?_
    rw [hE]
    unfold cF
    rw [if_neg c1]
end
section
/-- a step laid in the ring (no roster) -/
def wsPut (σ s : Mem) (w x old : Int32) : Prop := wsRing σ s ∧ s 71 = upd (σ 71) (wsSlot σ) w ∧ s 72 = upd (σ 72) (wsSlot σ) x ∧ s 73 = upd (σ 73) (wsSlot σ) old ∧ ∀ k, 75 ≤ k → k ≤ 82 → s k = σ k
def wsPutR (σ s : Mem) (x : Int32) (f : Nat → Int32) : Prop := wsRing σ s ∧ s 71 = upd (σ 71) (wsSlot σ) 0 ∧ s 72 = upd (σ 72) (wsSlot σ) x ∧ (∀ t, t < 24 → s (75 + wsSlot σ) t = f t) ∧ s 73 = σ 73 ∧ ∀ k, 75 ≤ k → k ≤ 82 → ¬ k = 75 + wsSlot σ → s k = σ k
theorem wsPut_k {σ s z : Mem} {w x old : Int32} (h : wsPut σ s w x old) (e : ∀ k, 70 ≤ k → k ≤ 82 → z k = s k) : wsPut σ z w x old := by
  obtain ⟨h1, h2, h3, h4, h5⟩ := h
  refine ⟨?_, by rw [e 71 (by omega) (by omega)]; exact h2, by rw [e 72 (by omega) (by omega)]; exact h3, by rw [e 73 (by omega) (by omega)]; exact h4, fun k a b => by rw [e k (by omega) b]; exact h5 k a b⟩
  unfold wsRing at h1 ⊢
  rw [e 70 (by omega) (by omega)]
  exact h1
theorem wsPutR_k {σ s z : Mem} {x : Int32} {f : Nat → Int32} (h : wsPutR σ s x f) (e : ∀ k, 70 ≤ k → k ≤ 82 → z k = s k) : wsPutR σ z x f := by
  obtain ⟨h1, h2, h3, h4, h5, h6⟩ := h
  have hq : wsSlot σ < 8 := Nat.mod_lt _ (by decide)
  refine ⟨?_, by rw [e 71 (by omega) (by omega)]; exact h2, by rw [e 72 (by omega) (by omega)]; exact h3, fun t ht => by rw [e _ (by omega) (by omega)]; exact h4 t ht, by rw [e 73 (by omega) (by omega)]; exact h5, fun k a b c => by rw [e k (by omega) b]; exact h6 k a b c⟩
  unfold wsRing at h1 ⊢
  rw [e 70 (by omega) (by omega)]
  exact h1
theorem keep_wvX {σ s : Mem} (ho : ∀ k, k ≠ 70 → k ≠ 71 → k ≠ 72 → k ≠ 73 → s k = σ k) {p : Nat} (hp : p < 188) : wvX 1 s p = wvX 1 σ p := wvX_eq (fun p hp => by have := wvJ_le p hp; rw [ho _ (by omega) (by omega) (by omega) (by omega)]) hp
theorem cx_law {F : Nat} (hF : 1000 ≤ F) {x : Int32} {σ : Mem} (b4 : 0 ≤ (σ 70 4).toInt ∧ (σ 70 4).toInt ≤ 7) (b5 : 0 ≤ (σ 70 5).toInt ∧ (σ 70 5).toInt ≤ 8) : pc (f_X3_law F x σ) (cR (cO x 3) (fun r s => (∀ p, p < 188 → wvX 1 s p = aLaw (wvX 1 σ) x p) ∧ r = σ 1 8 ∧ wsPut σ s 3 0 (σ 1 8)) σ) := by
  rw [f_X3_law_e]
  refine pc_be ax_notBelow (cR_end (fun e => ?_))
  have e4 := cO_0 e
  rw [tz_3] at e4
  refine pc_bnd (ax_keep b4 b5) (fun _ s4 q => pc_bnd (pc_and ax_rule (pc_pf (fr_X0_rule hF wt_h1))) (fun r s w => pc_ret ⟨fun p hp => ?_, rfl, ?_⟩))
  · rw [(w.1.1 ⟨e4.1, by omega⟩).2 p hp]
    unfold aLaw
    exact upd_cg (keep_wvX q.2.2.2.2 hp) rfl
  · exact wsPut_k ⟨q.1, q.2.1, q.2.2.1, q.2.2.2.1, fun k a b => q.2.2.2.2 k (by omega) (by omega) (by omega) (by omega)⟩ (fun k a b => fr_reg w.2 (by unfold wf_7; omega) (fun c hc => by unfold wf_7; omega))
theorem cx_worth {F : Nat} (hF : 1000 ≤ F) {x1 x2 : Int32} {σ : Mem} (b4 : 0 ≤ (σ 70 4).toInt ∧ (σ 70 4).toInt ≤ 7) (b5 : 0 ≤ (σ 70 5).toInt ∧ (σ 70 5).toInt ≤ 8) : pc (f_X3_worth F x1 x2 σ) (cR (cF (cB (0 ≤ x1.toInt ∧ x1.toInt ≤ 7)) (cN x2 0 9)) (fun r s => (∀ p, p < 188 → wvX 1 s p = aWorth (wvX 1 σ) x1 x2 p) ∧ r = σ 17 x1.toNatClampNeg ∧ wsPut σ s 2 x1 (σ 17 x1.toNatClampNeg)) σ) := by
  rw [f_X3_worth_e]
  refine pc_be ax_noView (pc_be ax_outside (pc_be ax_firstOf (cR_end (fun e => ?_))))
  obtain ⟨e1, e2⟩ := cF_0 e
  have e3 := cB_0 e1
  have e4 := cN_0 e2
  rw [tz_0, tz_9] at e4
  refine pc_chk (fun _ => pc_lt (fun z8 h8 => pc_bnd (ax_keep b4 b5) (fun _ s4 q => pc_bnd (pc_and ax_price (pc_pf (fr_X0_price hF wt_h1))) (fun r s w => pc_ret ⟨fun p hp => ?_, h8, ?_⟩))))
  · rw [(w.1.1 ⟨e3.1, e3.2, e4.1, e4.2⟩).2 p hp]
    unfold aWorth
    exact upd_cg (keep_wvX q.2.2.2.2 hp) rfl
  · rw [h8] at q
    exact wsPut_k ⟨q.1, q.2.1, q.2.2.1, q.2.2.2.1, fun k a b => q.2.2.2.2 k (by omega) (by omega) (by omega) (by omega)⟩ (fun k a b => fr_reg w.2 (by unfold wf_6; omega) (fun c hc => by unfold wf_6; omega))
theorem ax_and1 (w : Int32) : w &&& (1 : Int32) = 0 ∨ w &&& (1 : Int32) = 1 := by
  have h : (w &&& (1 : Int32)).toBitVec.toNat = w.toBitVec.toNat % 2 := by
    rw [Int32.toBitVec_and, BitVec.toNat_and]
    exact Nat.and_one_is_mod _
  have h2 : w.toBitVec.toNat % 2 < 2 := Nat.mod_lt _ (by decide)
  rcases (show w.toBitVec.toNat % 2 = 0 ∨ w.toBitVec.toNat % 2 = 1 by omega) with e | e
  · left
    rw [e] at h
    exact Int32.toBitVec_inj.mp (BitVec.eq_of_toNat_eq h)
  · right
    rw [e] at h
    exact Int32.toBitVec_inj.mp (BitVec.eq_of_toNat_eq h)
theorem ax_shows {F h : Nat} {x1 x2 : Int32} {σ : Mem} (b : (σ h 0).toInt ≤ 6) (h1 : 0 ≤ x1.toInt ∧ x1.toInt < (σ h 0).toInt) (h2 : 0 ≤ x2.toInt ∧ x2.toInt ≤ 7) : pc (f_X0_shows F h x1 x2 σ) (fun r s => s = σ ∧ r = ((σ (h + 1) x1.toNatClampNeg) >>> (x2 &&& 31)) &&& (1 : Int32)) := by
  rw [f_X0_shows_e]
  refine pc_be (ax_isPane b) ?_
  rw [if_pos h1, if_neg (by decide)]
  refine pc_be ax_isView ?_
  rw [if_pos h2, if_neg (by decide)]
  refine pc_chk (fun _ => pc_ite (fun c => pc_ret ⟨rfl, c.symm⟩) (fun c => ?_))
  rw [j_X0_shows_33_e]
  refine pc_ret ⟨rfl, ?_⟩
  rcases ax_and1 ((σ (h + 1) x1.toNatClampNeg) >>> (x2 &&& 31)) with e | e
  · exact e.symm
  · exact absurd e c
theorem cx_wall {F : Nat} (hF : 1000 ≤ F) {x1 x2 : Int32} {σ : Mem} (b : (σ 1 0).toInt ≤ 6) (b4 : 0 ≤ (σ 70 4).toInt ∧ (σ 70 4).toInt ≤ 7) (b5 : 0 ≤ (σ 70 5).toInt ∧ (σ 70 5).toInt ≤ 8) : pc (f_X3_wall F x1 x2 σ) (cR (cF (cB (0 ≤ x1.toInt ∧ x1.toInt < (σ 1 0).toInt)) (cB (0 ≤ x2.toInt ∧ x2.toInt ≤ 7))) (fun r s => (∀ p, p < 188 → wvX 1 s p = aWall (wvX 1 σ) x1 x2 p) ∧ r = ((s 2 x1.toNatClampNeg) >>> (x2 &&& 31)) &&& (1 : Int32) ∧ wsPut σ s 1 x1 (σ 2 x1.toNatClampNeg)) σ) := by
  rw [f_X3_wall_e]
  refine pc_be (ax_noPane b) (pc_be ax_noView (pc_be ax_firstOf (cR_end (fun e => ?_))))
  obtain ⟨e1, e2⟩ := cF_0 e
  have e3 := cB_0 e1
  have e4 := cB_0 e2
  refine pc_chk (fun _ => pc_bnd (ax_keep b4 b5) (fun _ s4 q => ?_))
  have q1 : s4 1 = σ 1 := q.2.2.2.2 1 (by decide) (by decide) (by decide) (by decide)
  refine pc_bnd (pc_and (ax_flip (by rw [q1]; exact b)) (pc_pf (fr_X0_flip hF wt_h1))) (fun r s w => ?_)
  have w1 := (w.1.1 ⟨e3.1, by rw [q1]; exact e3.2, e4.1, e4.2⟩).2
  have hV : ∀ p, p < 188 → wvX 1 s p = aWall (wvX 1 σ) x1 x2 p := fun p hp => by
    rw [w1 p hp]
    unfold aWall
    have hn : x1.toNatClampNeg < 6 := tn_lt e3.1 (by omega)
    exact upd_cg (keep_wvX q.2.2.2.2 hp) (by rw [keep_wvX q.2.2.2.2 (by omega)])
  have p1 : s 1 0 = σ 1 0 := by
    have := hV 0 (by decide)
    unfold aWall at this
    rw [wv_un (by omega)] at this
    exact this
  refine pc_bnd (ax_shows (by rw [p1]; exact b) (by rw [p1]; exact e3) e4) (fun r z y => ?_)
  obtain ⟨rfl, y⟩ := y
  have hP : wsPut σ z 1 x1 (σ 2 x1.toNatClampNeg) := wsPut_k ⟨q.1, q.2.1, q.2.2.1, q.2.2.2.1, fun k a b => q.2.2.2.2 k (by omega) (by omega) (by omega) (by omega)⟩ (fun k a b => fr_reg w.2 (by unfold wf_5; omega) (fun c hc => by unfold wf_5; omega))
  refine pc_ite (fun c => pc_ret ⟨hV, ?_, hP⟩) (fun c => pc_ret ⟨hV, ?_, hP⟩)
  · rw [← c, y]
  · rcases ax_and1 ((z 2 x1.toNatClampNeg) >>> (x2 &&& 31)) with e | e
    · exact absurd (y.trans e) c
    · exact e.symm
def aHours (V : Nat → Int32) (l : Nat) : Nat → Int32
  | 0 => 0
  | t + 1 => aHours V l t + (if (V (28 + 24 * l + t)).toInt < 0 then 0 else 1)
theorem ax_hoursOf_4 {F h : Nat} {x1 : Int32} {σ : Mem} {l : Nat} (hl : x1.toInt = (l : Int)) (hl5 : l < 5) (hv : ∀ t, t < 24 → (wvX h σ (28 + 24 * l + t)).toInt = -9 ∨ 0 ≤ (wvX h σ (28 + 24 * l + t)).toInt) : ∀ (N t : Nat) (x2 x3 : Int32), x3.toInt = (t : Int) → t ≤ 24 → x2 = aHours (wvX h σ) l t → pc (lp_X0_hoursOf_4 F h x1 N x2 x3 σ) (fun r s => r = aHours (wvX h σ) l 24 ∧ s = σ) := by
  intro N
  induction N with
  | zero => intro t x2 x3 h1 h2 h3; exact pc_none rfl
  | succ N ih =>
    intro t x2 x3 h1 h2 h3
    rw [lp_X0_hoursOf_4_s]
    simp only [j_X0_hoursOf_26_e]
    refine pc_ite (fun c => ?_) (fun c => pc_chk (fun _ => pc_chk (fun _ => ?_)))
    · have d := ti_le c
      rw [tz_24] at d
      refine pc_ret ⟨?_, rfl⟩
      rw [h3, show t = 24 by omega]
    have d := ti_nle c
    rw [tz_24] at d
    rw [tn_int hl, tn_int h1]
    have hj := wvJI_5 l hl5 t (by omega)
    have ew : wvX h σ (28 + 24 * l + t) = wvN (σ (h + 5 + l) t) := by
      unfold wvX
      rw [wvE_i (by omega), ← hj.1, ← hj.2, show h + (5 + l) = h + 5 + l by omega]
    have hvt := hv t (by omega)
    rw [ew] at hvt
    refine pc_ite (fun c9 => ih (t + 1) _ _ (ti_nx h1 (by omega)) (by omega) ?_) (fun c9 => ih (t + 1) _ _ (ti_nx h1 (by omega)) (by omega) ?_)
    · show x2 = aHours (wvX h σ) l t + _
      rw [ew, c9, if_pos (by decide), h3, Int32.add_zero]
    · show x2 + 1 = aHours (wvX h σ) l t + _
      have hn : ¬ (wvN (σ (h + 5 + l) t)).toInt < 0 := fun q => by
        rcases hvt with e | e
        · unfold wvN at e
          rw [if_neg c9] at e
          by_cases e2 : σ (h + 5 + l) t = -9
          · rw [if_pos e2] at e; exact absurd e (by decide)
          · rw [if_neg e2] at e; exact e2 (Int32.toInt_inj.mp (by rw [e]; rfl))
        · omega
      rw [ew, if_neg hn, h3]
theorem ax_hoursOf {F h : Nat} {x1 : Int32} {σ : Mem} {l : Nat} (hl : x1.toInt = (l : Int)) (hl5 : l < 5) (hv : ∀ t, t < 24 → (wvX h σ (28 + 24 * l + t)).toInt = -9 ∨ 0 ≤ (wvX h σ (28 + 24 * l + t)).toInt) : pc (f_X0_hoursOf F h x1 σ) (fun r s => r = aHours (wvX h σ) l 24 ∧ s = σ) := by
  rw [f_X0_hoursOf_e]
  exact ax_hoursOf_4 hl hl5 hv F 0 0 0 rfl (by omega) rfl
def eStands (P L : Int) (x1 x2 x3 x4 : Int32) : Int32 := cF (cF (cF (cB (0 ≤ x1.toInt ∧ x1.toInt < L)) (cF (cB (0 ≤ x2.toInt ∧ x2.toInt ≤ 23)) (cB (0 ≤ x3.toInt ∧ x3.toInt ≤ 23)))) (if x4 = 9 then 0 else cB (0 ≤ x4.toInt ∧ x4.toInt < P))) (if x2.toInt ≤ x3.toInt then 0 else -3)
theorem eStands_0 {P L : Int} {x1 x2 x3 x4 : Int32} (h : eStands P L x1 x2 x3 x4 = 0) : cPost P L x1 x2 x3 x4 := by
  unfold eStands at h
  obtain ⟨h1, h2⟩ := cF_0 h
  obtain ⟨h1, h3⟩ := cF_0 h1
  obtain ⟨h1, h4⟩ := cF_0 h1
  obtain ⟨h4, h5⟩ := cF_0 h4
  refine ⟨cB_0 h1, cB_0 h4, cB_0 h5, ?_, ?_⟩
  · by_cases q : x2.toInt ≤ x3.toInt
    · exact q
    · rw [if_neg q] at h2; exact absurd h2 (by decide)
  · by_cases q : x4 = 9
    · left; rw [q]; rfl
    · rw [if_neg q] at h3; right; exact cB_0 h3
/-- the hours of a house are none or of a pane -/
def hOK (h : Nat) (σ : Mem) : Prop := ∀ p, 28 ≤ p → p < 148 → live (wvX h σ) p → (wvX h σ p).toInt = -9 ∨ (0 ≤ (wvX h σ p).toInt ∧ (wvX h σ p).toInt < (wvX h σ 0).toInt)
theorem hOK_l {h : Nat} {V : Nat → Int32} (hv : ∀ p, 28 ≤ p → p < 148 → live V p → (V p).toInt = -9 ∨ (0 ≤ (V p).toInt ∧ (V p).toInt < (V 0).toInt)) {l : Nat} (hl : (l : Int) < (V 1).toInt) (hl5 : l < 5) : ∀ t, t < 24 → (V (28 + 24 * l + t)).toInt = -9 ∨ 0 ≤ (V (28 + 24 * l + t)).toInt := fun t ht => by
  have := hv (28 + 24 * l + t) (by omega) (by omega) ⟨fun _ _ => by rw [ti_nat]; omega, fun q => by omega⟩
  omega
theorem cx_stands {F : Nat} (hF : 1000 ≤ F) {x1 x2 x3 x4 : Int32} {σ : Mem} (hv : wvV (wvX 1 σ)) (b4 : 0 ≤ (σ 70 4).toInt ∧ (σ 70 4).toInt ≤ 7) (b5 : 0 ≤ (σ 70 5).toInt ∧ (σ 70 5).toInt ≤ 8) : pc (f_X3_stands F x1 x2 x3 x4 σ) (cR (eStands (σ 1 0).toInt (σ 1 2).toInt x1 x2 x3 x4) (fun r s => (∀ p, p < 188 → wvX 1 s p = aStand (wvX 1 σ) x1.toNatClampNeg x2.toNatClampNeg x3.toNatClampNeg x4 p) ∧ r = aHours (aStand (wvX 1 σ) x1.toNatClampNeg x2.toNatClampNeg x3.toNatClampNeg x4) x1.toNatClampNeg 24 ∧ wsPutR σ s x1 (σ (1 + 5 + x1.toNatClampNeg))) σ) := by
  have bP : (σ 1 0).toInt ≤ 6 := hv.1.2
  have bL : (σ 1 2).toInt ≤ 5 := hv.2.1.2
  rw [f_X3_stands_e]
  refine pc_be (ax_noLooker bL) (pc_be ax_noHour (pc_be ax_noHour (pc_be ax_firstOf (pc_be ax_firstOf ?_))))
  simp only [j_X3_stands_41_e, j_X3_stands_55_e]
  have good : eStands (σ 1 0).toInt (σ 1 2).toInt x1 x2 x3 x4 = 0 → pc (wt_chk x1 5 (wt_bnd (f_X2_keepRoster F x1 (1 + 5 + Int32.toNatClampNeg x1) σ) fun r2 s3 => wt_bnd (f_X0_post F 1 x1 x2 x3 x4 s3) fun r4 s5 => wt_bnd (f_X0_hoursOf F 1 x1 s5) fun r6 s7 => some (r6, s7))) (fun r s => (∀ p, p < 188 → wvX 1 s p = aStand (wvX 1 σ) x1.toNatClampNeg x2.toNatClampNeg x3.toNatClampNeg x4 p) ∧ r = aHours (aStand (wvX 1 σ) x1.toNatClampNeg x2.toNatClampNeg x3.toNatClampNeg x4) x1.toNatClampNeg 24 ∧ wsPutR σ s x1 (σ (1 + 5 + x1.toNatClampNeg))) := fun e => by
    have hc := eStands_0 e
    have hl1 : x1.toInt = (x1.toNatClampNeg : Int) := by have := hc.1; rw [ti_nat]; omega
    have hl5 : x1.toNatClampNeg < 5 := by have := hc.1; omega
    refine pc_chk (fun _ => pc_bnd (ax_keepRoster (by omega) b4 b5) (fun _ s3 q => ?_))
    obtain ⟨q1, q2, q3, q4, q5⟩ := q
    have hq8 : wsSlot σ < 8 := Nat.mod_lt _ (by decide)
    have o1 : s3 1 = σ 1 := q5 1 (by decide) (by decide) (by decide) (by omega)
    have oX : ∀ p, p < 188 → wvX 1 s3 p = wvX 1 σ p := fun p hp => wvX_eq (fun p hp => by have := wvJ_le p hp; rw [q5 _ (by omega) (by omega) (by omega) (by omega)]) hp
    refine pc_bnd (pc_and (ax_post (by rw [o1]; exact bP) (by rw [o1]; exact bL)) (pc_pf (fr_X0_post hF wt_h1))) (fun r s5 w => ?_)
    have w1 := (w.1.1 (by rw [o1]; exact hc)).2
    have hV : ∀ p, p < 188 → wvX 1 s5 p = aStand (wvX 1 σ) x1.toNatClampNeg x2.toNatClampNeg x3.toNatClampNeg x4 p := fun p hp => by
      rw [w1 p hp]
      unfold aStand
      by_cases e : 28 + 24 * x1.toNatClampNeg + x2.toNatClampNeg ≤ p ∧ p ≤ 28 + 24 * x1.toNatClampNeg + x3.toNatClampNeg
      · rw [if_pos e, if_pos e]
      · rw [if_neg e, if_neg e, oX p hp]
    have hv5 : wvV (wvX 1 s5) := wvV_cg (wvV_aStand hv hc.2.2.2.2) hV
    have b1 : (wvX 1 s5 1).toInt = (σ 1 2).toInt := by
      rw [hV 1 (by decide)]
      unfold aStand
      rw [if_neg (by omega)]
      rfl
    refine pc_bnd (ax_hoursOf hl1 hl5 (hOK_l (h := 1) hv5.2.2.2.2 (by rw [b1, ← hl1]; exact hc.1.2) hl5)) (fun r z y => ?_)
    obtain ⟨rfl, rfl⟩ := y
    refine pc_ret ⟨hV, ?_, wsPutR_k ⟨q1, q2, q3, q4, q5 73 (by decide) (by decide) (by decide) (by omega), fun k a b c => q5 k (by omega) (by omega) (by omega) c⟩ (fun k a b => fr_reg w.2 (by unfold wf_4; omega) (fun c hc => by unfold wf_4; omega))⟩
    have hA : ∀ (A B : Nat → Int32), (∀ p, p < 148 → A p = B p) → ∀ t, t ≤ 24 → aHours A x1.toNatClampNeg t = aHours B x1.toNatClampNeg t := fun A B hAB t => by
      induction t with
      | zero => intro _; rfl
      | succ t ih => intro ht; show aHours A _ t + _ = aHours B _ t + _; rw [ih (by omega), hAB _ (by omega)]
    exact hA _ _ (fun p hp => hV p (by omega)) 24 (by omega)
  have key : ∀ e, e = eStands (σ 1 0).toInt (σ 1 2).toInt x1 x2 x3 x4 → pc (if e = 0 then (wt_chk x1 5 (wt_bnd (f_X2_keepRoster F x1 (1 + 5 + Int32.toNatClampNeg x1) σ) fun r2 s3 => wt_bnd (f_X0_post F 1 x1 x2 x3 x4 s3) fun r4 s5 => wt_bnd (f_X0_hoursOf F 1 x1 s5) fun r6 s7 => some (r6, s7))) else wt_bnd (f_X3_refuse F e σ) fun r8 s9 => some (r8, s9)) (cR (eStands (σ 1 0).toInt (σ 1 2).toInt x1 x2 x3 x4) (fun r s => (∀ p, p < 188 → wvX 1 s p = aStand (wvX 1 σ) x1.toNatClampNeg x2.toNatClampNeg x3.toNatClampNeg x4 p) ∧ r = aHours (aStand (wvX 1 σ) x1.toNatClampNeg x2.toNatClampNeg x3.toNatClampNeg x4) x1.toNatClampNeg 24 ∧ wsPutR σ s x1 (σ (1 + 5 + x1.toNatClampNeg))) σ) := fun e he => by
    subst he; exact cR_end good
  have hE : eStands (σ 1 0).toInt (σ 1 2).toInt x1 x2 x3 x4 = cF (cF (cF (cB (0 ≤ x1.toInt ∧ x1.toInt < (σ 1 2).toInt)) (cF (cB (0 ≤ x2.toInt ∧ x2.toInt ≤ 23)) (cB (0 ≤ x3.toInt ∧ x3.toInt ≤ 23)))) (if x4 = 9 then 0 else cB (0 ≤ x4.toInt ∧ x4.toInt < (σ 1 0).toInt))) (if x2.toInt ≤ x3.toInt then 0 else -3) := rfl
  generalize eStands (σ 1 0).toInt (σ 1 2).toInt x1 x2 x3 x4 = E at *
  generalize cF (cB (0 ≤ x1.toInt ∧ x1.toInt < (σ 1 2).toInt)) (cF (cB (0 ≤ x2.toInt ∧ x2.toInt ≤ 23)) (cB (0 ≤ x3.toInt ∧ x3.toInt ≤ 23))) = a at *
  have last : ∀ b, E = cF b (if x2.toInt ≤ x3.toInt then 0 else -3) → pc (if b = 0 then (if x2 ≤ x3 then (if b = 0 then (wt_chk x1 5 (wt_bnd (f_X2_keepRoster F x1 (1 + 5 + Int32.toNatClampNeg x1) σ) fun r2 s3 => wt_bnd (f_X0_post F 1 x1 x2 x3 x4 s3) fun r4 s5 => wt_bnd (f_X0_hoursOf F 1 x1 s5) fun r6 s7 => some (r6, s7))) else wt_bnd (f_X3_refuse F b σ) fun r8 s9 => some (r8, s9)) else (if (-3 : Int32) = 0 then (wt_chk x1 5 (wt_bnd (f_X2_keepRoster F x1 (1 + 5 + Int32.toNatClampNeg x1) σ) fun r2 s3 => wt_bnd (f_X0_post F 1 x1 x2 x3 x4 s3) fun r4 s5 => wt_bnd (f_X0_hoursOf F 1 x1 s5) fun r6 s7 => some (r6, s7))) else wt_bnd (f_X3_refuse F (-3) σ) fun r8 s9 => some (r8, s9))) else (if b = 0 then (wt_chk x1 5 (wt_bnd (f_X2_keepRoster F x1 (1 + 5 + Int32.toNatClampNeg x1) σ) fun r2 s3 => wt_bnd (f_X0_post F 1 x1 x2 x3 x4 s3) fun r4 s5 => wt_bnd (f_X0_hoursOf F 1 x1 s5) fun r6 s7 => some (r6, s7))) else wt_bnd (f_X3_refuse F b σ) fun r8 s9 => some (r8, s9))) (cR E (fun r s => (∀ p, p < 188 → wvX 1 s p = aStand (wvX 1 σ) x1.toNatClampNeg x2.toNatClampNeg x3.toNatClampNeg x4 p) ∧ r = aHours (aStand (wvX 1 σ) x1.toNatClampNeg x2.toNatClampNeg x3.toNatClampNeg x4) x1.toNatClampNeg 24 ∧ wsPutR σ s x1 (σ (1 + 5 + x1.toNatClampNeg))) σ) := fun b hb => by
    refine pc_ite (fun c => ?_) (fun c => ?_)
    · refine pc_ite (fun c2 => key b ?_) (fun c2 => key (-3) ?_)
      · rw [hb]; unfold cF; rw [if_pos c, if_pos (ti_le c2), c]
      · rw [hb]; unfold cF; rw [if_pos c, if_neg (Int.not_le.mpr (ti_nle c2))]
    · refine key b ?_
      rw [hb]; unfold cF; rw [if_neg c]
  refine pc_ite (fun c => ?_) (fun c => last a ?_)
  · refine pc_ite (fun c9 => last a ?_) (fun c9 => pc_be (ax_noPane bP) (last _ ?_))
    · rw [hE, if_pos c9]
      show _ = cF a _
      unfold cF
      rw [if_pos c, if_pos c]
      by_cases q : x2.toInt ≤ x3.toInt
      · rw [if_pos q]; rfl
      · rw [if_neg q]; rfl
    · rw [hE, if_neg c9]
      unfold cF
      rw [if_pos c]
  · rw [hE]
    unfold cF
    rw [if_neg c, if_neg c]
theorem cx_back {F : Nat} (hF : 1000 ≤ F) {σ : Mem} (b0 : 0 ≤ (σ 1 0).toInt ∧ (σ 1 0).toInt ≤ 6) (b2 : 0 ≤ (σ 1 2).toInt ∧ (σ 1 2).toInt ≤ 5) (b4 : 0 ≤ (σ 70 4).toInt ∧ (σ 70 4).toInt ≤ 7) (b5 : 0 ≤ (σ 70 5).toInt ∧ (σ 70 5).toInt ≤ 8) : pc (f_X3_back F σ) (cR (if (σ 70 5).toInt = 0 then -3 else 0) (fun r s => r = s 70 5 ∧ (s 70 4 = σ 70 4 ∧ (s 70 5).toInt = (σ 70 5).toInt - 1) ∧ wsUndone σ s (wsLast σ)) σ) := by
  rw [f_X3_back_e]
  refine pc_ite (fun c => ?_) (fun c => ?_)
  · have d := ti_eq c
    rw [tz_0] at d
    rw [if_pos d]
    exact pc_bnd ax_refuse (fun r s q => pc_ret ⟨fun n => absurd n (by decide), fun _ => q⟩)
  · have d := ti_ne c
    rw [tz_0] at d
    rw [if_neg d]
    exact pc_bnd (ax_undo hF b0 b2 b4 (by omega)) (fun r s q => pc_ret ⟨fun _ => ⟨rfl, q⟩, fun n => absurd rfl n⟩)
theorem cx_restore {F : Nat} {σ : Mem} : pc (f_X3_restore F σ) (cR (if σ 0 3 = 0 then -3 else 0) (fun r s => (∀ p, p < 188 → wvX 1 s p = wvX 47 σ p) ∧ r = s 1 9 ∧ s 70 5 = 0) σ) := by
  rw [f_X3_restore_e]
  refine pc_ite (fun c => ?_) (fun c => ?_)
  · rw [if_pos c]
    exact pc_bnd ax_refuse (fun r s q => pc_ret ⟨fun n => absurd n (by decide), fun _ => q⟩)
  · rw [if_neg c]
    refine pc_bnd (ax_takeFrom (by omega)) (fun r s q => pc_be ax_forget (pc_ret ⟨fun _ => ⟨fun p hp => ?_, rfl, up2_s⟩, fun n => absurd rfl n⟩))
    rw [wvX_k (by omega) hp]
    exact q p hp
theorem cx_image {F : Nat} {σ : Mem} : pc (f_X3_image F σ) (fun r s => (∀ p, p < 188 → wvX 47 s p = wvX 1 σ p) ∧ r = s 1 9 ∧ s 0 3 = 1) := by
  rw [f_X3_image_e]
  refine pc_bnd (ax_takeFrom (by omega)) (fun r s q => pc_lt (fun s3 h3 => pc_ret ⟨fun p hp => ?_, rfl, by rw [h3, up2_s]⟩))
  rw [h3, wvX_k (by omega) hp]
  exact q p hp
def eDays (D x : Int32) : Int32 := cF (cN x 1 99) (if (D + x).toInt ≤ 9999 then 0 else -6)
theorem cx_days {F : Nat} (hF : 1000 ≤ F) {x : Int32} {σ : Mem} : pc (f_X3_days F x σ) (cR (eDays (σ 1 9) x) (fun r s => (∀ p, p < 148 → wvX 1 s p = aDay (wvX 1 σ) x p) ∧ s 70 5 = 0) σ) := by
  rw [f_X3_days_e]
  refine pc_be ax_outside ?_
  simp only [j_X3_days_30_e]
  have good : eDays (σ 1 9) x = 0 → pc (wt_bnd (f_X0_pass F 1 x σ) fun r1 s2 => wt_bnd (f_X2_forget F s2) fun r3 s4 => wt_bnd (f_X0_held F 1 (0 : Int32) s4) fun r5 s6 => wt_bnd (f_J6_bitCount_0f7a4 F r5 s6) fun r7 s8 => some (r7, s8)) (fun r s => (∀ p, p < 148 → wvX 1 s p = aDay (wvX 1 σ) x p) ∧ s 70 5 = 0) := fun e => by
    obtain ⟨e1, e2⟩ := cF_0 e
    have e3 := cN_0 e1
    rw [tz_1, tz_99] at e3
    have e4 : (σ 1 9 + x).toInt ≤ 9999 := by
      by_cases c : (σ 1 9 + x).toInt ≤ 9999
      · exact c
      · rw [if_neg c] at e2; exact absurd e2 (by decide)
    refine pc_bnd (ax_pass hF wt_h1) (fun r s q => pc_be ax_forget (pc_bnd (pc_pf (fr_X0_held hF wt_h1)) (fun r5 s6 f6 => pc_bnd (pc_pf (fr_J6_bitCount_0f7a4 hF)) (fun r7 s8 f8 => pc_ret ?_))))
    have o : s8 = up2 s 70 5 0 := by
      funext k i
      rw [f8 k i (fun w => by revert w; unfold wf_1; exact id), f6 k i (fun w => by revert w; unfold wf_1; exact id)]
    refine ⟨fun p hp => ?_, by rw [o, up2_s]⟩
    rw [o, wvX_k (by omega) (by omega)]
    exact (q.1 ⟨e3.1, e3.2, e4⟩).2 p hp
  have key : ∀ e, e = eDays (σ 1 9) x → pc (if e = 0 then (wt_bnd (f_X0_pass F 1 x σ) fun r1 s2 => wt_bnd (f_X2_forget F s2) fun r3 s4 => wt_bnd (f_X0_held F 1 (0 : Int32) s4) fun r5 s6 => wt_bnd (f_J6_bitCount_0f7a4 F r5 s6) fun r7 s8 => some (r7, s8)) else wt_bnd (f_X3_refuse F e σ) fun r9 s10 => some (r9, s10)) (cR (eDays (σ 1 9) x) (fun r s => (∀ p, p < 148 → wvX 1 s p = aDay (wvX 1 σ) x p) ∧ s 70 5 = 0) σ) := fun e he => by
    subst he; exact cR_end good
  by_cases c1 : cN x 1 99 = 0
  · rw [if_pos c1]
    by_cases c2 : σ 1 9 + x ≤ 9999
    · rw [if_pos c2]
      refine key _ ?_
      unfold eDays cF
      have := ti_le c2
      rw [tz_9999] at this
      rw [if_pos c1, if_pos this, c1]
    · rw [if_neg c2]
      refine key _ ?_
      unfold eDays cF
      have := ti_nle c2
      rw [tz_9999] at this
      rw [if_pos c1, if_neg (by omega)]
  · rw [if_neg c1]
    refine key _ ?_
    unfold eDays cF
    rw [if_neg c1]
end
section
/-! the reference's calls that change its house -/
def sg (e : Int32) : Prop := e = 0 ∨ e.toInt < 0
theorem sg_cN {x a b : Int32} : sg (cN x a b) := by
  unfold cN
  by_cases q : a.toInt ≤ x.toInt
  · rw [if_pos q]
    by_cases r : x.toInt ≤ b.toInt
    · rw [if_pos r]; exact Or.inl rfl
    · rw [if_neg r]; exact Or.inr (by decide)
  · rw [if_neg q]; exact Or.inr (by decide)
theorem sg_cB {c : Prop} [Decidable c] : sg (cB c) := by
  by_cases q : c
  · rw [cB_t q]; exact Or.inl rfl
  · rw [cB_f q]; exact Or.inr (by decide)
theorem sg_cO {x n : Int32} : sg (cO x n) := by
  unfold cO
  by_cases q : 0 ≤ x.toInt ∧ x.toInt < n.toInt
  · rw [if_pos q]; exact Or.inl rfl
  · rw [if_neg q]; exact Or.inr (by decide)
theorem sg_i {c : Prop} [Decidable c] {n : Int32} (h : n.toInt < 0) : sg (if c then 0 else n) := by
  by_cases q : c
  · rw [if_pos q]; exact Or.inl rfl
  · rw [if_neg q]; exact Or.inr h
theorem sg_cF {a b : Int32} (h1 : sg a) (h2 : sg b) : sg (cF a b) := by
  unfold cF
  by_cases q : a = 0
  · rw [if_pos q]; exact h2
  · rw [if_neg q]; exact h1
theorem mR_end {F : Nat} {e : Int32} (he : sg e) {G : Int32 → Mem → Prop} {σ s1 : Mem} (h1 : ∀ k i, ¬ (k = 101 ∧ i = 10) → s1 k i = σ k i) {A : Option (Int32 × Mem)} (h : e = 0 → pc A G) : pc (if 0 ≤ e then A else wt_bnd (f_X4_refuse F e s1) fun r s => some (r, s)) (mR e G σ) := by
  refine pc_ite (fun c => ?_) (fun c => pc_bnd mx_refuse (fun r s q => pc_ret ⟨fun n => absurd (by rw [n]; decide) c, fun _ => ⟨q.1, fun k i hk hi => by rw [q.2 k hk]; exact h1 k i hi⟩⟩))
  have d := ti_le c
  rw [tz_0] at d
  have e0 : e = 0 := by
    rcases he with q | q
    · exact q
    · omega
  exact pc_mono (h e0) (fun a s g => ⟨fun _ => g, fun n => absurd e0 n⟩)
theorem mR_ref {F : Nat} {e : Int32} (he : ¬ e = 0) {G : Int32 → Mem → Prop} {σ s1 : Mem} (h1 : ∀ k i, ¬ (k = 101 ∧ i = 10) → s1 k i = σ k i) : pc (wt_bnd (f_X4_refuse F e s1) fun r s => some (r, s)) (mR e G σ) := pc_bnd mx_refuse (fun r s q => pc_ret ⟨fun n => absurd n he, fun _ => ⟨q.1, fun k i hk hi => by rw [q.2 k hk]; exact h1 k i hi⟩⟩)
theorem th_k {σ : Mem} : ∀ k i, ¬ (k = 101 ∧ i = 10) → up2 σ 101 10 0 k i = σ k i := fun k i h => by rw [wm_key, if_neg h]
theorem th_V {σ : Mem} {p : Nat} (hp : p < 188) : wvM (up2 σ 101 10 0) p = wvM σ p := wvM_no (by omega) (by omega) hp
theorem cm_pane {F : Nat} {x : Int32} {σ : Mem} (b : 0 ≤ (σ 101 1).toInt ∧ (σ 101 1).toInt ≤ 6) : pc (f_X4_pane F x σ) (mR (ePane (σ 101 1) x) (fun r s => (∀ p, p < 188 → wvM s p = aPane (wvM σ) x p) ∧ r = s 101 1 - (1 : Int32) ∧ s 101 30 = 0) σ) := by
  rw [f_X4_pane_e]
  refine pc_lt (fun s7 h7 => pc_be mx_wrongN ?_)
  simp only [j_X4_pane_32_e, j_X4_pane_33_e]
  have e7 : s7 101 1 = σ 101 1 := by rw [h7, up2_i (by decide)]
  have k7 : ∀ k i, ¬ (k = 101 ∧ i = 10) → s7 k i = σ k i := by rw [h7]; exact th_k
  have hG : ∀ e, e = ePane (σ 101 1) x → pc (if 0 ≤ e then (wt_chk (s7 101 1) 6 (wt_lt (up2 s7 103 (Int32.toNatClampNeg (s7 101 1)) x) fun s2 => wt_lt (up2 s2 101 1 ((s2 101 1) + (1 : Int32))) fun s3 => wt_lt (up2 s3 101 30 (0 : Int32)) fun s4 => some (((s4 101 1) - (1 : Int32)), s4))) else wt_bnd (f_X4_refuse F e s7) fun r s => some (r, s)) (mR (ePane (σ 101 1) x) (fun r s => (∀ p, p < 188 → wvM s p = aPane (wvM σ) x p) ∧ r = s 101 1 - (1 : Int32) ∧ s 101 30 = 0) σ) := fun e he => by
    subst he
    refine mR_end (sg_cF sg_cN (sg_i (by decide))) k7 (fun e => pc_chk (fun v => pc_lt (fun s2 h2 => pc_lt (fun s3 h3 => pc_lt (fun s4 h4 => pc_ret ⟨fun p hp => ?_, rfl, by rw [h4, up2_s]⟩)))))
    rw [e7] at v h2
    have hj := wtJI_103 _ v.2.2
    rw [h4, wvM_no (by omega) (by omega) hp, h3, wvM_at (k := 101) (i := 1) (q := 0) (by decide) rfl rfl hp]
    unfold aPane
    refine upd_cg ?_ ?_
    · rw [h2, wvM_at (q := 12 + (σ 101 1).toNatClampNeg) (by have := v.2.2; omega) hj.1.symm hj.2.symm hp]
      exact upd_cg (by rw [h7]; exact th_V hp) rfl
    · rw [h2, up2_k (by decide), e7]; rfl
  by_cases c1 : cN x 0 255 = 0
  · rw [if_pos c1]
    by_cases c2 : s7 101 1 = 6
    · rw [if_pos c2]
      rw [e7] at c2
      refine hG _ ?_
      unfold ePane cF
      have := congrArg Int32.toInt c2
      rw [tz_6] at this
      rw [if_pos c1, if_neg (by omega)]
    · rw [if_neg c2]
      rw [e7] at c2
      refine hG _ ?_
      unfold ePane cF
      have := ti_ne c2
      rw [tz_6] at this
      rw [if_pos c1, if_pos (by omega), c1]
  · rw [if_neg c1]
    refine hG _ ?_
    unfold ePane cF
    rw [if_neg c1]
theorem in_cO {x : Int32} : (if 0 ≤ x.toInt ∧ x.toInt ≤ 5 then (1 : Int32) else 0) = 0 ↔ ¬ cO x 6 = 0 := by
  unfold cO
  rw [tz_6]
  by_cases q : 0 ≤ x.toInt ∧ x.toInt ≤ 5
  · rw [if_pos q, if_pos (by omega)]; exact ⟨fun h => absurd h (by decide), fun h => absurd rfl h⟩
  · rw [if_neg q, if_neg (by omega)]; exact ⟨fun _ => by decide, fun _ => rfl⟩
theorem cO_n {x n : Int32} (h : ¬ cO x n = 0) : cO x n = -2 := by
  unfold cO at h ⊢
  by_cases q : 0 ≤ x.toInt ∧ x.toInt < n.toInt
  · rw [if_pos q] at h; exact absurd rfl h
  · rw [if_neg q]
theorem cm_looker {F : Nat} {k f : Int32} {σ : Mem} (b : 0 ≤ (σ 101 3).toInt ∧ (σ 101 3).toInt ≤ 5) : pc (f_X4_looker F k f σ) (mR (eLooker (σ 101 3) k f) (fun r s => (∀ p, p < 188 → wvM s p = aLooker (wvM σ) k f p) ∧ r = s 101 3 - (1 : Int32) ∧ s 101 30 = 0) σ) := by
  rw [f_X4_looker_e]
  refine pc_lt (fun s7 h7 => pc_be (mx_in32 (lo := 0) (hi := 5) rfl rfl) ?_)
  simp only [j_X4_looker_29_e, j_X4_looker_47_e, j_X4_looker_48_e]
  have e7 : s7 101 3 = σ 101 3 := by rw [h7, up2_i (by decide)]
  have k7 : ∀ k i, ¬ (k = 101 ∧ i = 10) → s7 k i = σ k i := by rw [h7]; exact th_k
  have hG : ∀ e, e = eLooker (σ 101 3) k f → pc (if 0 ≤ e then (wt_bnd (f_X4_lookerComes F k f s7) fun r1 s2 => wt_lt (up2 s2 101 30 (0 : Int32)) fun s3 => some (((s3 101 3) - (1 : Int32)), s3)) else wt_bnd (f_X4_refuse F e s7) fun r s => some (r, s)) (mR (eLooker (σ 101 3) k f) (fun r s => (∀ p, p < 188 → wvM s p = aLooker (wvM σ) k f p) ∧ r = s 101 3 - (1 : Int32) ∧ s 101 30 = 0) σ) := fun e he => by
    subst he
    refine mR_end (sg_cF (sg_cF sg_cO sg_cN) (sg_i (by decide))) k7 (fun e => ?_)
    have hL : (σ 101 3).toInt < 5 := by
      have := (cF_0 e).2
      by_cases c : (σ 101 3).toInt < 5
      · exact c
      · rw [if_neg c] at this; exact absurd this (by decide)
    refine pc_bnd (mx_lookerComes (by rw [e7]; exact ⟨b.1, hL⟩)) (fun _ s2 q => pc_lt (fun s3 h3 => pc_ret ⟨fun p hp => ?_, rfl, by rw [h3, up2_s]⟩))
    rw [h3, wvM_no (by omega) (by omega) hp, q p hp]
    unfold aLooker
    rw [show wvM s7 1 = wvM σ 1 from e7, show wvM s7 p = wvM σ p by rw [h7]; exact th_V hp]
  have hE : eLooker (σ 101 3) k f = cF (cF (cO k 6) (cN f 0 9)) (if (σ 101 3).toInt < 5 then 0 else -6) := rfl
  generalize eLooker (σ 101 3) k f = E at *
  have hL2 : ∀ t, E = cF t (if (σ 101 3).toInt < 5 then 0 else -6) → pc (if t = 0 then (if s7 101 3 = 5 then (if (0 : Int32) ≤ -6 then (wt_bnd (f_X4_lookerComes F k f s7) fun r1 s2 => wt_lt (up2 s2 101 30 (0 : Int32)) fun s3 => some (((s3 101 3) - (1 : Int32)), s3)) else wt_bnd (f_X4_refuse F (-6) s7) fun r s => some (r, s)) else (if 0 ≤ t then (wt_bnd (f_X4_lookerComes F k f s7) fun r1 s2 => wt_lt (up2 s2 101 30 (0 : Int32)) fun s3 => some (((s3 101 3) - (1 : Int32)), s3)) else wt_bnd (f_X4_refuse F t s7) fun r s => some (r, s))) else (if 0 ≤ t then (wt_bnd (f_X4_lookerComes F k f s7) fun r1 s2 => wt_lt (up2 s2 101 30 (0 : Int32)) fun s3 => some (((s3 101 3) - (1 : Int32)), s3)) else wt_bnd (f_X4_refuse F t s7) fun r s => some (r, s))) (mR E (fun r s => (∀ p, p < 188 → wvM s p = aLooker (wvM σ) k f p) ∧ r = s 101 3 - (1 : Int32) ∧ s 101 30 = 0) σ) := fun t ht => by
    refine pc_ite (fun c => ?_) (fun c => ?_)
    · refine pc_ite (fun c2 => hG (-6) ?_) (fun c2 => hG t ?_)
      · rw [e7] at c2
        have := congrArg Int32.toInt c2
        rw [tz_5] at this
        rw [ht]; unfold cF; rw [if_pos c, if_neg (by omega)]
      · rw [e7] at c2
        have := ti_ne c2
        rw [tz_5] at this
        rw [ht]; unfold cF; rw [if_pos c, if_pos (by omega), c]
    · refine hG t ?_
      rw [ht]; unfold cF; rw [if_neg c]
  refine pc_ite (fun c => ?_) (fun c => pc_be mx_wrongN ?_)
  · have c2 := in_cO.mp c
    have e2 := cO_n c2
    refine hL2 (-2) ?_
    rw [hE, show cF (cO k 6) (cN f 0 9) = -2 by unfold cF; rw [if_neg c2, e2]]
  · have c2 : cO k 6 = 0 := Classical.byContradiction (fun q => c (in_cO.mpr q))
    refine hL2 _ ?_
    rw [hE, show cF (cO k 6) (cN f 0 9) = cN f 0 9 by unfold cF; rw [if_pos c2]]
def wsKept (σ s : Mem) : Prop := ∃ t d : Nat, (((σ 101 30).toInt = 8 ∧ t = 7 ∧ d = 1) ∨ ((σ 101 30).toInt < 8 ∧ t = (σ 101 30).toNatClampNeg ∧ d = 0)) ∧ (s 101 30).toInt = (t : Int) + 1 ∧ (∀ i, i < 188 * t → s 117 i = σ 117 (i + 188 * d)) ∧ ∀ p, p < 188 → s 117 (188 * t + p) = wvM σ p
theorem wsKept_k {σ s z : Mem} (h : wsKept σ s) (e1 : z 101 30 = s 101 30) (e2 : z 117 = s 117) : wsKept σ z := by
  unfold wsKept at h ⊢
  rw [e1, e2]
  exact h
def cIW (c : Nat) : Prop := cI c ∨ cL c ∨ cW c
def wsOld (σ s : Mem) : Prop := ∀ j i, j ≠ 117 → j ≠ 118 → ¬ wtHd j i → ¬ (j = 101 ∧ i = 30) → ¬ (j = 101 ∧ i = 10) → s j i = σ j i
theorem wsOld_V {σ s : Mem} (h : wsOld σ s) {p : Nat} (hp : p < 188) : wvM s p = wvM σ p := by
  have h1 := wtJ_101 p hp
  refine h _ _ (by omega) (by omega) (wtHd_no hp) (fun q => ?_) (fun q => ?_)
  · have := wtI_fld p hp q.1; omega
  · have := wtI_fld p hp q.1; omega
theorem mk_keep {F : Nat} (hF : 73786976294838206464 ≤ F) {σ s1 : Mem} (hM : wiM σ) (h1 : s1 = up2 σ 101 10 0) : pc (f_X4_keepTurn F s1) (fun _ s => wsKept σ s ∧ wsOld σ s) := by
  have hM1 : wiM s1 := by rw [h1]; exact wm_fld hM (by decide) (by decide) (by decide) (by decide) (by decide) (by decide) (by decide)
  have e30 : s1 101 30 = σ 101 30 := by rw [h1, up2_i (by decide)]
  have b30 := wx_X4_30 hM
  have k7 : ∀ k i, ¬ (k = 101 ∧ i = 10) → s1 k i = σ k i := by rw [h1]; exact th_k
  refine pc_mono (sf_pc (wt_keepTurn (by omega) hM1)) (fun _ s q => ?_)
  rw [e30] at q
  have old : ∀ t d, wtKeep s1 s t d → wsOld σ s := fun t d w j i a b c e f => (w.2.1 j i a b c e).trans (k7 j i f)
  have eV : ∀ p, p < 188 → s1 (wtJ p) (wtI p) = wvM σ p := fun p hp => by rw [h1]; exact th_V hp
  have e117 : ∀ i, s1 117 i = σ 117 i := fun i => k7 117 i (by omega)
  by_cases c : (σ 101 30).toInt = 8
  · rw [if_pos c] at q
    exact ⟨⟨7, 1, Or.inl ⟨c, rfl, rfl⟩, q.1, fun i hi => (q.2.2.1 i hi).trans (e117 _), fun p hp => (q.2.2.2.1 p hp).trans (eV p hp)⟩, old _ _ q⟩
  · rw [if_neg c] at q
    exact ⟨⟨(σ 101 30).toNatClampNeg, 0, Or.inr ⟨by omega, rfl, rfl⟩, q.1, fun i hi => (q.2.2.1 i hi).trans (e117 _), fun p hp => (q.2.2.2.1 p hp).trans (eV p hp)⟩, old _ _ q⟩
theorem wcid_cIW {k i : Nat} (h : cIW (wcid k i)) : k ≠ 117 ∧ k ≠ 118 ∧ ¬ wtHd k i ∧ ¬ (k = 101 ∧ (i = 30 ∨ i = 10 ∨ i = 8)) ∧ ¬ (102 ≤ k ∧ k ≤ 107) := by
  have e := wcid_or k i
  unfold cIW cI cL cW at h
  refine ⟨?_, ?_, fun q => ?_, fun q => ?_, fun q => ?_⟩
  · rintro rfl; rw [show wcid 117 i = 117 from rfl] at h; omega
  · rintro rfl; rw [show wcid 118 i = 118 from rfl] at h; omega
  · have := wcid_Hd q; omega
  · obtain ⟨rfl, q⟩ := q
    rw [show wcid 101 i = 1000 + i from rfl] at h; omega
  · rw [wcid_M (by omega)] at h; omega
theorem ag_old {σ s z : Mem} (h : wsOld σ s) (e : ∀ k i, ¬ (k = 101 ∧ i = 8) → ¬ (102 ≤ k ∧ k ≤ 107) → z k i = s k i) : ag cIW σ z := fun k i hc => by
  obtain ⟨h1, h2, h3, h4, h5⟩ := wcid_cIW hc
  rw [e k i (by omega) h5]
  exact h k i h1 h2 h3 (by omega) (by omega)
theorem cm_law {F : Nat} (hF : 73786976294838206464 ≤ F) {x : Int32} {σ : Mem} (hM : wiM σ) : pc (f_X4_law F x σ) (mR (cO x 3) (fun r s => (∀ p, p < 188 → wvM s p = aLaw (wvM σ) x p) ∧ r = σ 101 8 ∧ wsKept σ s ∧ ag cIW σ s) σ) := by
  rw [f_X4_law_e]
  refine pc_lt (fun s1 h1 => pc_be (mx_in32 (lo := 0) (hi := 2) rfl rfl) ?_)
  have k7 : ∀ k i, ¬ (k = 101 ∧ i = 10) → s1 k i = σ k i := by rw [h1]; exact th_k
  refine pc_ite (fun c => ?_) (fun c => ?_)
  · have e : cO x 3 = -2 := by
      unfold cO
      rw [tz_3]
      refine if_neg (fun q => ?_)
      rw [if_pos (by omega)] at c
      exact absurd c (by decide)
    rw [e]
    exact mR_ref (by decide) k7
  · have e : cO x 3 = 0 := by
      unfold cO
      rw [tz_3]
      refine if_pos ?_
      by_cases q : 0 ≤ x.toInt ∧ x.toInt ≤ 2
      · omega
      · rw [if_neg q] at c; exact absurd rfl c
    rw [e]
    refine pc_bnd (mk_keep hF hM h1) (fun _ s5 q => pc_lt (fun s6 h6 => pc_ret ⟨fun _ => ⟨fun p hp => ?_, ?_, wsKept_k q.1 ?_ ?_, ag_old q.2 (fun k i a b => ?_)⟩, fun n => absurd rfl n⟩))
    · rw [h6, wvM_at (k := 101) (i := 8) (q := 2) (by decide) rfl rfl hp]
      exact upd_cg (wsOld_V q.2 hp) rfl
    · exact wsOld_V q.2 (p := 2) (by decide)
    · rw [h6, up2_i (by decide)]
    · rw [h6, up2_k (by decide)]
    · rw [h6, wm_key, if_neg a]
theorem cm_worth {F : Nat} (hF : 73786976294838206464 ≤ F) {x1 x2 : Int32} {σ : Mem} (hM : wiM σ) : pc (f_X4_worth F x1 x2 σ) (mR (cF (cB (0 ≤ x1.toInt ∧ x1.toInt ≤ 7)) (cN x2 0 9)) (fun r s => (∀ p, p < 188 → wvM s p = aWorth (wvM σ) x1 x2 p) ∧ r = σ 102 x1.toNatClampNeg ∧ wsKept σ s ∧ ag cIW σ s) σ) := by
  rw [f_X4_worth_e]
  refine pc_lt (fun s1 h1 => pc_be mx_isView ?_)
  simp only [j_X4_worth_23_e]
  have k7 : ∀ k i, ¬ (k = 101 ∧ i = 10) → s1 k i = σ k i := by rw [h1]; exact th_k
  by_cases c : 0 ≤ x1.toInt ∧ x1.toInt ≤ 7
  · rw [if_pos c, if_neg (by decide), cB_t c]
    refine pc_be mx_wrongN (mR_end sg_cN k7 (fun e => ?_))
    refine pc_bnd (mk_keep hF hM h1) (fun _ s5 q => pc_chk (fun v => pc_lt (fun z4 h4 => pc_lt (fun s6 h6 => pc_ret ⟨fun p hp => ?_, ?_, wsKept_k q.1 ?_ ?_, ag_old q.2 (fun k i a b => ?_)⟩))))
    · have hj := wtJI_102 _ v.2.2
      rw [h6, wvM_at (q := 4 + x1.toNatClampNeg) (by have := v.2.2; omega) hj.1.symm hj.2.symm hp]
      exact upd_cg (wsOld_V q.2 hp) rfl
    · rw [h4]
      exact q.2 _ _ (by decide) (by decide) (fun w => by have := w.1; omega) (by omega) (by omega)
    · rw [h6, up2_k (by decide)]
    · rw [h6, up2_k (by decide)]
    · rw [h6, wm_key, if_neg (by omega)]
  · rw [if_neg c, if_pos rfl, cB_f c]
    exact mR_end (e := -1) (Or.inr (by decide)) k7 (fun e => absurd e (by decide))
theorem cm_wall {F : Nat} (hF : 73786976294838206464 ≤ F) {x1 x2 : Int32} {σ : Mem} (hM : wiM σ) : pc (f_X4_wall F x1 x2 σ) (mR (cF (cB (0 ≤ x1.toInt ∧ x1.toInt < (σ 101 1).toInt)) (cB (0 ≤ x2.toInt ∧ x2.toInt ≤ 7))) (fun r s => (∀ p, p < 188 → wvM s p = aWall (wvM σ) x1 x2 p) ∧ r = ((s 103 x1.toNatClampNeg) >>> (x2 &&& 31)) &&& (1 : Int32) ∧ wsKept σ s ∧ ag cIW σ s) σ) := by
  rw [f_X4_wall_e]
  have bp := wx_X4_1 hM
  have k7 : ∀ k i, ¬ (k = 101 ∧ i = 10) → up2 σ 101 10 0 k i = σ k i := th_k
  refine pc_lt (fun s1 h1 => ?_)
  have e7 : s1 101 1 = σ 101 1 := by rw [h1, up2_i (by decide)]
  rw [← h1] at k7
  refine pc_be (mx_isPane (by rw [e7]; exact bp.1)) ?_
  simp only [j_X4_wall_20_e]
  rw [e7]
  by_cases c : 0 ≤ x1.toInt ∧ x1.toInt < (σ 101 1).toInt
  · rw [if_pos c, if_neg (by decide), cB_t c]
    refine pc_be mx_isView ?_
    by_cases c2 : 0 ≤ x2.toInt ∧ x2.toInt ≤ 7
    · rw [if_pos c2, if_neg (by decide), cB_t c2]
      refine pc_bnd (mk_keep hF hM h1) (fun _ s5 q => pc_chk (fun v => pc_lt (fun s6 h6 => pc_ret ⟨fun _ => ⟨fun p hp => ?_, rfl, wsKept_k q.1 ?_ ?_, ag_old q.2 (fun k i a b => ?_)⟩, fun n => absurd rfl n⟩)))
      · have hj := wtJI_103 _ v.2.2
        have ev := wsOld_V q.2 (p := 12 + x1.toNatClampNeg) (by have := v.2.2; omega)
        rw [h6, wvM_at (q := 12 + x1.toNatClampNeg) (by have := v.2.2; omega) hj.1.symm hj.2.symm hp]
        refine upd_cg (wsOld_V q.2 hp) ?_
        rw [← ev]
        unfold wvM
        rw [hj.1, hj.2]
      · rw [h6, up2_k (by decide)]
      · rw [h6, up2_k (by decide)]
      · rw [h6, wm_key, if_neg (by omega)]
    · rw [if_neg c2, if_pos rfl, cB_f c2]
      exact mR_ref (by decide) k7
  · rw [if_neg c, if_pos rfl, cB_f c]
    exact mR_ref (by decide) k7
theorem mx_hoursOf_4 {F : Nat} {x1 : Int32} {σ : Mem} {l : Nat} (hl : x1.toInt = (l : Int)) (hl5 : l < 5) : ∀ (N t : Nat) (x2 x3 : Int32), x3.toInt = (t : Int) → t ≤ 24 → x2 = aHours (wvM σ) l t → pc (lp_X4_hoursOf_4 F x1 N x2 x3 σ) (fun r s => r = aHours (wvM σ) l 24 ∧ s = σ) := by
  intro N
  induction N with
  | zero => intro t x2 x3 h1 h2 h3; exact pc_none rfl
  | succ N ih =>
    intro t x2 x3 h1 h2 h3
    rw [lp_X4_hoursOf_4_s]
    simp only [j_X4_hoursOf_30_e]
    refine pc_ite (fun c => ?_) (fun c => pc_chk (fun _ => ?_))
    · have d := ti_le c
      rw [tz_24] at d
      refine pc_ret ⟨?_, rfl⟩
      rw [h3, show t = 24 by omega]
    have d := ti_nle c
    rw [tz_24] at d
    rw [tn_24 hl h1 hl5 (by omega)]
    have hj := wtJI_106 (24 * l + t) (by omega)
    have ew : wvM σ (28 + 24 * l + t) = σ 106 (24 * l + t) := by
      unfold wvM
      rw [show 28 + 24 * l + t = 28 + (24 * l + t) by omega, hj.1, hj.2]
    refine pc_ite (fun c9 => ih (t + 1) _ _ (ti_nx h1 (by omega)) (by omega) ?_) (fun c9 => ih (t + 1) _ _ (ti_nx h1 (by omega)) (by omega) ?_)
    · show x2 + 0 = aHours (wvM σ) l t + _
      have := ti_lt c9
      rw [tz_0] at this
      rw [ew, if_pos this, h3]
    · show x2 + 1 = aHours (wvM σ) l t + _
      have := ti_nlt c9
      rw [tz_0] at this
      rw [ew, if_neg (by omega), h3]
theorem mx_hoursOf {F : Nat} {x1 : Int32} {σ : Mem} {l : Nat} (hl : x1.toInt = (l : Int)) (hl5 : l < 5) : pc (f_X4_hoursOf F x1 σ) (fun r s => r = aHours (wvM σ) l 24 ∧ s = σ) := by
  rw [f_X4_hoursOf_e]
  exact mx_hoursOf_4 hl hl5 F 0 0 0 rfl (by omega) rfl
theorem aHours_cg {A B : Nat → Int32} {l : Nat} (hl5 : l < 5) (hAB : ∀ p, p < 148 → A p = B p) : ∀ t, t ≤ 24 → aHours A l t = aHours B l t := fun t => by
  induction t with
  | zero => intro _; rfl
  | succ t ih => intro ht; show aHours A _ t + _ = aHours B _ t + _; rw [ih (by omega), hAB _ (by omega)]
theorem cm_stands {F : Nat} (hF : 73786976294838206464 ≤ F) {x1 x2 x3 x4 : Int32} {σ : Mem} (hM : wiM σ) : pc (f_X4_stands F x1 x2 x3 x4 σ) (mR (eStands (σ 101 1).toInt (σ 101 3).toInt x1 x2 x3 x4) (fun r s => (∀ p, p < 188 → wvM s p = aStand (wvM σ) x1.toNatClampNeg x2.toNatClampNeg x3.toNatClampNeg x4 p) ∧ r = aHours (aStand (wvM σ) x1.toNatClampNeg x2.toNatClampNeg x3.toNatClampNeg x4) x1.toNatClampNeg 24 ∧ wsKept σ s ∧ ag cIW σ s) σ) := by
  have bp := wx_X4_1 hM
  have bl := wx_X4_3 hM
  rw [f_X4_stands_e]
  refine pc_lt (fun s1 h1 => ?_)
  simp only [j_X4_stands_57_e, j_X4_stands_43_e, j_X4_stands_58_e]
  have k7 : ∀ k i, ¬ (k = 101 ∧ i = 10) → s1 k i = σ k i := by rw [h1]; exact th_k
  have e1 : s1 101 1 = σ 101 1 := k7 _ _ (by omega)
  have e3 : s1 101 3 = σ 101 3 := k7 _ _ (by omega)
  have hG : ∀ e, e = eStands (σ 101 1).toInt (σ 101 3).toInt x1 x2 x3 x4 → pc (if 0 ≤ e then (wt_bnd (f_X4_keepTurn F s1) fun r1 s2 => wt_bnd (f_X4_stand F x1 x2 x3 x4 s2) fun r3 s4 => wt_bnd (f_X4_hoursOf F x1 s4) fun r5 s6 => some (r5, s6)) else wt_bnd (f_X4_refuse F e s1) fun r s => some (r, s)) (mR (eStands (σ 101 1).toInt (σ 101 3).toInt x1 x2 x3 x4) (fun r s => (∀ p, p < 188 → wvM s p = aStand (wvM σ) x1.toNatClampNeg x2.toNatClampNeg x3.toNatClampNeg x4 p) ∧ r = aHours (aStand (wvM σ) x1.toNatClampNeg x2.toNatClampNeg x3.toNatClampNeg x4) x1.toNatClampNeg 24 ∧ wsKept σ s ∧ ag cIW σ s) σ) := fun e he => by
    subst he
    refine mR_end (sg_cF (sg_cF (sg_cF sg_cB (sg_cF sg_cB sg_cB)) ?_) (sg_i (by decide))) k7 (fun e => ?_)
    · by_cases q : x4 = 9
      · rw [if_pos q]; exact Or.inl rfl
      · rw [if_neg q]; exact sg_cB
    have hc := eStands_0 e
    have l1 : x1.toInt = (x1.toNatClampNeg : Int) := by have := hc.1; rw [ti_nat]; omega
    have l2 : x2.toInt = (x2.toNatClampNeg : Int) := by have := hc.2.1; rw [ti_nat]; omega
    have l3 : x3.toInt = (x3.toNatClampNeg : Int) := by have := hc.2.2.1; rw [ti_nat]; omega
    have hl5 : x1.toNatClampNeg < 5 := by have := hc.1; omega
    refine pc_bnd (mk_keep hF hM h1) (fun _ s2 q => ?_)
    have hx4 : x4.toInt = 9 ∨ 0 ≤ x4.toInt := by have := hc.2.2.2.2; omega
    refine pc_bnd (mx_stand hx4 l1 hl5 l2 l3 (by have := hc.2.2.2.1; omega) (by have := hc.2.2.1; omega)) (fun _ s4 w => ?_)
    have hV : ∀ p, p < 188 → wvM s4 p = aStand (wvM σ) x1.toNatClampNeg x2.toNatClampNeg x3.toNatClampNeg x4 p := fun p hp => by
      rw [w.1 p hp]
      unfold aStand
      by_cases e : 28 + 24 * x1.toNatClampNeg + x2.toNatClampNeg ≤ p ∧ p ≤ 28 + 24 * x1.toNatClampNeg + x3.toNatClampNeg
      · rw [if_pos e, if_pos e]
      · rw [if_neg e, if_neg e, wsOld_V q.2 hp]
    refine pc_bnd (mx_hoursOf l1 hl5) (fun r z y => ?_)
    obtain ⟨rfl, rfl⟩ := y
    exact pc_ret ⟨hV, aHours_cg hl5 (fun p hp => hV p (by omega)) 24 (by omega), wsKept_k q.1 (by rw [w.2.1 101 (by decide)]) (w.2.1 117 (by decide)), ag_old q.2 (fun k i a b => by rw [w.2.1 k (by omega)])⟩
  have hE : eStands (σ 101 1).toInt (σ 101 3).toInt x1 x2 x3 x4 = cF (cF (cF (cB (0 ≤ x1.toInt ∧ x1.toInt < (σ 101 3).toInt)) (cF (cB (0 ≤ x2.toInt ∧ x2.toInt ≤ 23)) (cB (0 ≤ x3.toInt ∧ x3.toInt ≤ 23)))) (if x4 = 9 then 0 else cB (0 ≤ x4.toInt ∧ x4.toInt < (σ 101 1).toInt))) (if x2.toInt ≤ x3.toInt then 0 else -3) := rfl
  generalize eStands (σ 101 1).toInt (σ 101 3).toInt x1 x2 x3 x4 = E at *
  have m1 : cF (-1 : Int32) (if x2.toInt ≤ x3.toInt then 0 else -3) = -1 := rfl
  refine pc_be (mx_isLooker (by rw [e3]; exact bl.1)) ?_
  rw [e3]
  by_cases c : 0 ≤ x1.toInt ∧ x1.toInt < (σ 101 3).toInt
  rotate_left
  · rw [if_neg c, if_pos rfl]
    refine hG (-1) ?_
    rw [hE, cB_f c]; rfl
  rw [if_pos c, if_neg (by decide)]
  refine pc_be mx_isHour ?_
  by_cases c2 : 0 ≤ x2.toInt ∧ x2.toInt ≤ 23
  rotate_left
  · rw [if_neg c2, if_pos rfl]
    refine hG (-1) ?_
    rw [hE, cB_t c, cB_f c2]; rfl
  rw [if_pos c2, if_neg (by decide)]
  refine pc_be mx_isHour ?_
  by_cases c3 : 0 ≤ x3.toInt ∧ x3.toInt ≤ 23
  rotate_left
  · rw [if_neg c3, if_pos rfl]
    refine hG (-1) ?_
    rw [hE, cB_t c, cB_t c2, cB_f c3]; rfl
  rw [if_pos c3, if_neg (by decide)]
  rw [cB_t c, cB_t c2, cB_t c3] at hE
  have fin : E = (if x2.toInt ≤ x3.toInt then 0 else -3) → pc (if x2 ≤ x3 then (if (0 : Int32) ≤ 0 then (wt_bnd (f_X4_keepTurn F s1) fun r1 s2 => wt_bnd (f_X4_stand F x1 x2 x3 x4 s2) fun r3 s4 => wt_bnd (f_X4_hoursOf F x1 s4) fun r5 s6 => some (r5, s6)) else wt_bnd (f_X4_refuse F 0 s1) fun r s => some (r, s)) else (if (0 : Int32) ≤ -3 then (wt_bnd (f_X4_keepTurn F s1) fun r1 s2 => wt_bnd (f_X4_stand F x1 x2 x3 x4 s2) fun r3 s4 => wt_bnd (f_X4_hoursOf F x1 s4) fun r5 s6 => some (r5, s6)) else wt_bnd (f_X4_refuse F (-3) s1) fun r s => some (r, s))) (mR E (fun r s => (∀ p, p < 188 → wvM s p = aStand (wvM σ) x1.toNatClampNeg x2.toNatClampNeg x3.toNatClampNeg x4 p) ∧ r = aHours (aStand (wvM σ) x1.toNatClampNeg x2.toNatClampNeg x3.toNatClampNeg x4) x1.toNatClampNeg 24 ∧ wsKept σ s ∧ ag cIW σ s) σ) := fun h => by
    refine pc_ite (fun c => hG 0 ?_) (fun c => hG (-3) ?_)
    · rw [h, if_pos (ti_le c)]
    · rw [h, if_neg (Int.not_le.mpr (ti_nle c))]
  refine pc_ite (fun c9 => fin ?_) (fun c9 => ?_)
  · rw [hE, if_pos c9]; rfl
  refine pc_be (mx_isPane (by rw [e1]; exact bp.1)) ?_
  rw [e1]
  by_cases c4 : 0 ≤ x4.toInt ∧ x4.toInt < (σ 101 1).toInt
  · rw [if_pos c4, if_neg (by decide)]
    refine fin ?_
    rw [hE, if_neg c9, cB_t c4]; rfl
  · rw [if_neg c4, if_pos rfl]
    refine hG (-1) ?_
    rw [hE, if_neg c9, cB_f c4]; rfl
end
section
theorem wtB_fld {x : Int32} {σ s : Mem} (hC : wtCar x 116 σ 188 s) {i : Nat} (h3 : i ≠ 1 ∧ i ≠ 3 ∧ i ≠ 8 ∧ i ≠ 9) (h4 : i < 25 ∨ 27 < i) : s 101 i = σ 101 i := wt_Car_fld (by unfold wiK; omega) hC h3 h4
theorem cm_image {F : Nat} (hF : 1000 ≤ F) {σ : Mem} : pc (f_X4_image F σ) (fun r s => (∀ p, p < 188 → s 116 p = wvM σ p) ∧ r = s 101 9 ∧ s 101 24 = 1 ∧ ∀ k i, k ≠ 116 → ¬ (k = 101 ∧ (i = 10 ∨ i = 24 ∨ (25 ≤ i ∧ i ≤ 27))) → s k i = σ k i) := by
  rw [f_X4_image_e]
  refine pc_lt (fun s1 h1 => pc_lt (fun s2 h2 => pc_bnd (sf_pc (wt_carryAll hF (Or.inr rfl) (by unfold wiK; omega))) (fun _ s4 q => pc_ret ?_)))
  have e2 : ∀ k i, ¬ (k = 101 ∧ (i = 10 ∨ i = 24)) → s2 k i = σ k i := fun k i h => by rw [h2, wm_key, if_neg (by omega), h1, wm_key, if_neg (by omega)]
  obtain ⟨q1, q2⟩ := q.2.2.2.1 (by decide)
  refine ⟨fun p hp => ?_, rfl, ?_, fun k i a b => ?_⟩
  · rw [q1 p hp]
    have h1 := wtJ_101 p hp
    exact e2 _ _ (fun w => by have := wtI_fld p hp w.1; omega)
  · rw [wtB_fld q (by decide) (by decide), h2, up2_s]
  · rw [q2 k i (fun w => b ⟨w.1, by have := w.2; omega⟩) (fun w => a w.1), e2 k i (fun w => b ⟨w.1, by omega⟩)]
theorem cm_restore {F : Nat} (hF : 1000 ≤ F) {σ : Mem} : pc (f_X4_restore F σ) (mR (if σ 101 24 = 0 then -3 else 0) (fun r s => (∀ p, p < 188 → wvM s p = σ 116 p) ∧ r = s 101 9 ∧ s 101 30 = 0 ∧ ag cIW σ s) σ) := by
  rw [f_X4_restore_e]
  refine pc_lt (fun s1 h1 => ?_)
  have k7 : ∀ k i, ¬ (k = 101 ∧ i = 10) → s1 k i = σ k i := by rw [h1]; exact th_k
  rw [k7 101 24 (by omega)]
  refine pc_ite (fun c => ?_) (fun c => ?_)
  · rw [if_pos c]; exact mR_ref (by decide) k7
  · rw [if_neg c]
    refine pc_bnd (sf_pc (wt_carryAll hF (Or.inl rfl) (by unfold wiK; omega))) (fun _ s4 q => pc_lt (fun s5 h5 => pc_ret ⟨fun _ => ⟨fun p hp => ?_, ?_, by rw [h5, up2_s], fun k i hc => ?_⟩, fun n => absurd rfl n⟩))
    · rw [h5, wvM_no (by omega) (by omega) hp]
      exact ((q.2.2.2.2 rfl).1 p hp).trans (k7 116 p (by omega))
    · rfl
    · obtain ⟨a1, a2, a3, a4, a5⟩ := wcid_cIW hc
      rw [h5, wm_key, if_neg (fun w => a4 ⟨w.1, by have := w.2; omega⟩)]
      have hcc : ¬ (k = 101 ∧ (i = 1 ∨ i = 3 ∨ i = 8 ∨ i = 9)) := fun w => by
        obtain ⟨rfl, w⟩ := w
        unfold cIW cI cL cW at hc
        rw [show wcid 101 i = 1000 + i from rfl] at hc
        omega
      rw [(q.2.2.2.2 rfl).2 k i a3 (fun p hp w => by
        obtain ⟨rfl, rfl⟩ := w
        have h1 := wtJ_101 p hp
        by_cases e : wtJ p = 101
        · exact hcc ⟨e, wtI_fld p hp e⟩
        · exact a5 (by omega)), k7 k i (fun w => a4 ⟨w.1, by omega⟩)]
theorem cm_back {F : Nat} (hF : 73786976294838206464 ≤ F) {σ : Mem} (hM : wiM σ) : pc (f_X4_back F σ) (mR (if (σ 101 30).toInt = 0 then -3 else 0) (fun r s => r = s 101 30 ∧ (s 101 30).toInt = (σ 101 30).toInt - 1 ∧ (∀ p, p < 188 → wvM s p = σ 117 (188 * ((σ 101 30).toNatClampNeg - 1) + p)) ∧ s 117 = σ 117 ∧ ag cIW σ s) σ) := by
  rw [f_X4_back_e]
  have b := wx_X4_30 hM
  refine pc_lt (fun s6 h6 => ?_)
  have k7 : ∀ k i, ¬ (k = 101 ∧ i = 10) → s6 k i = σ k i := by rw [h6]; exact th_k
  have I6 : wiM s6 := by rw [h6]; exact wm_fld hM (by decide) (by decide) (by decide) (by decide) (by decide) (by decide) (by decide)
  have u6 : s6 101 30 = σ 101 30 := k7 _ _ (by omega)
  refine pc_ite (fun c => ?_) (fun c => ?_)
  · have d := ti_eq c
    rw [u6, tz_0] at d
    rw [if_pos d]; exact mR_ref (by decide) k7
  have d := ti_ne c
  rw [u6, tz_0] at d
  rw [if_neg d]
  refine pc_lt (fun s7 h7 => ?_)
  have e7 : (s6 101 30 - 1).toInt = (σ 101 30).toInt - 1 := by rw [ti_sub (by rw [u6, tz_1]; omega) (by rw [u6, tz_1]; omega), u6, tz_1]
  have en := ti_nat (σ 101 30)
  refine pc_mono (sf_pc (wt_bk_31 (τ := s6) (t := (σ 101 30).toNatClampNeg - 1) (by omega) (by omega) (by rw [h7, up2_s, e7]; omega) (fun j i h => by rw [h7, wm_key, if_neg h]) F 0 (0 : Int32) s7 rfl (by omega) (by omega) (by rw [h7]; exact wx_put_X4_30 I6 (by omega) (by omega)) (fun _ _ _ => rfl) (fun p hp => by omega))) (fun r s h => ?_)
  obtain ⟨g0, g1, g2, g3, g4⟩ := h
  refine ⟨fun _ => ⟨Int32.toInt_inj.mp (by rw [g0, g1]), by rw [g1]; omega, fun p hp => ?_, ?_, fun k i hc => ?_⟩, fun n => absurd rfl n⟩
  · show s (wtJ p) (wtI p) = _
    rw [g2 p hp, k7 117 _ (by omega)]
  · funext i
    rw [g3 117 i (by decide) (fun w => by have := w.1; omega) (by omega) (fun p hp w => by have := wtJ_101 p hp; omega), k7 117 i (by omega)]
  · obtain ⟨a1, a2, a3, a4, a5⟩ := wcid_cIW hc
    have hcc : ¬ (k = 101 ∧ (i = 1 ∨ i = 3 ∨ i = 8 ∨ i = 9)) := fun w => by
      obtain ⟨rfl, w⟩ := w
      unfold cIW cI cL cW at hc
      rw [show wcid 101 i = 1000 + i from rfl] at hc
      omega
    rw [g3 k i a2 a3 (fun w => a4 ⟨w.1, by omega⟩) (fun p hp w => by
      obtain ⟨rfl, rfl⟩ := w
      have h1 := wtJ_101 p hp
      by_cases e : wtJ p = 101
      · exact hcc ⟨e, wtI_fld p hp e⟩
      · exact a5 (by omega)), k7 k i (fun w => a4 ⟨w.1, by omega⟩)]
theorem cm_days {F : Nat} (hF : 1000 ≤ F) {x : Int32} {σ : Mem} : pc (f_X4_days F x σ) (mR (eDays (σ 101 9) x) (fun r s => (∀ p, p < 148 → wvM s p = aDay (wvM σ) x p) ∧ s 101 30 = 0) σ) := by
  rw [f_X4_days_e]
  refine pc_lt (fun s7 h7 => pc_be mx_wrongN ?_)
  simp only [j_X4_days_34_e, j_X4_days_35_e]
  have k7 : ∀ k i, ¬ (k = 101 ∧ i = 10) → s7 k i = σ k i := by rw [h7]; exact th_k
  have e7 : s7 101 9 = σ 101 9 := k7 _ _ (by omega)
  have hG : ∀ e, e = eDays (σ 101 9) x → pc (if 0 ≤ e then (wt_bnd (f_X4_goDays F x s7) fun r1 s2 => wt_lt (up2 s2 101 30 (0 : Int32)) fun s3 => wt_bnd (f_X4_owned F s3) fun r4 s5 => some (r4, s5)) else wt_bnd (f_X4_refuse F e s7) fun r s => some (r, s)) (mR (eDays (σ 101 9) x) (fun r s => (∀ p, p < 148 → wvM s p = aDay (wvM σ) x p) ∧ s 101 30 = 0) σ) := fun e he => by
    subst he
    refine mR_end (sg_cF sg_cN (sg_i (by decide))) k7 (fun e => pc_bnd (mx_goDays hF) (fun _ s2 q => pc_lt (fun s3 h3 => pc_bnd (pc_pf (fr_X4_owned hF)) (fun r s f => pc_ret ⟨fun p hp => ?_, ?_⟩))))
    · rw [wvM_fr f (fun c hc => by show ¬ _; unfold wf_48; omega) (by omega), h3, wvM_no (by omega) (by omega) (by omega), q p hp]
      unfold aDay
      exact upd_cg (by rw [h7]; exact th_V (by omega)) (by rw [h7, th_V (by omega)])
    · rw [f 101 30 (fun w => by revert w; show ¬ _; unfold wf_48; rw [show wcid 101 30 = 1030 from rfl]; omega), h3, up2_s]
  by_cases c1 : cN x 1 99 = 0
  · rw [if_pos c1, e7]
    by_cases c2 : σ 101 9 + x ≤ 9999
    · rw [if_pos c2]
      refine hG _ ?_
      unfold eDays cF
      have := ti_le c2
      rw [tz_9999] at this
      rw [if_pos c1, if_pos this, c1]
    · rw [if_neg c2]
      refine hG _ ?_
      unfold eDays cF
      have := ti_nle c2
      rw [tz_9999] at this
      rw [if_pos c1, if_neg (by omega)]
  · rw [if_neg c1]
    refine hG _ ?_
    unfold eDays cF
    rw [if_neg c1]
end
