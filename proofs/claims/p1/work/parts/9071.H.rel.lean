/-! the two sides hold the same -/
def wsT (σ : Mem) (t j : Nat) (p : Nat) : Int32 := if j = t then wvM σ p else σ 117 (188 * j + p)
/-- the step in the slot q brings the house B back to A -/
def wsU (σ : Mem) (q : Nat) (A B : Nat → Int32) : Prop :=
  (σ 71 q = 0 ∧ ∃ l : Nat, (σ 72 q).toInt = (l : Int) ∧ (l : Int) < (B 1).toInt ∧ (∀ t, t < 24 → A (28 + 24 * l + t) = wvN (σ (75 + q) t)) ∧ (∀ t, t < 24 → (σ (75 + q) t).toInt = 9 ∨ (0 ≤ (σ (75 + q) t).toInt ∧ (σ (75 + q) t).toInt < (B 0).toInt)) ∧ ∀ p, p < 188 → ¬ (28 + 24 * l ≤ p ∧ p < 52 + 24 * l) → A p = B p) ∨
  (σ 71 q = 1 ∧ ∃ i : Nat, (σ 72 q).toInt = (i : Int) ∧ (i : Int) < (B 0).toInt ∧ A (12 + i) = σ 73 q ∧ ∀ p, p < 188 → ¬ p = 12 + i → A p = B p) ∨
  (σ 71 q = 2 ∧ ∃ i : Nat, (σ 72 q).toInt = (i : Int) ∧ i < 8 ∧ (0 ≤ (σ 73 q).toInt ∧ (σ 73 q).toInt ≤ 9) ∧ A (4 + i) = σ 73 q ∧ ∀ p, p < 188 → ¬ p = 4 + i → A p = B p) ∨
  (σ 71 q = 3 ∧ (0 ≤ (σ 73 q).toInt ∧ (σ 73 q).toInt ≤ 2) ∧ A 2 = σ 73 q ∧ ∀ p, p < 188 → ¬ p = 2 → A p = B p)
theorem wsU_cg {σ s : Mem} {q : Nat} {A B A' B' : Nat → Int32} (h : wsU σ q A B) (b0 : (B 1).toInt ≤ 5) (b1 : (B 0).toInt ≤ 6) (e1 : s 71 q = σ 71 q) (e2 : s 72 q = σ 72 q) (e3 : s 73 q = σ 73 q) (e4 : s (75 + q) = σ (75 + q)) (hA : ∀ p, p < 188 → A' p = A p) (hB : ∀ p, p < 188 → B' p = B p) : wsU s q A' B' := by
  unfold wsU at h ⊢
  rw [e1, e2, e3, e4, hB 0 (by decide), hB 1 (by decide)]
  rcases h with ⟨h1, l, h2, h3, h4, h5, h6⟩ | ⟨h1, i, h2, h3, h4, h5⟩ | ⟨h1, i, h2, h3, h4, h5, h6⟩ | ⟨h1, h2, h3, h4⟩
  · exact Or.inl ⟨h1, l, h2, h3, fun t ht => by rw [hA _ (by omega)]; exact h4 t ht, h5, fun p hp hn => by rw [hA p hp, hB p hp]; exact h6 p hp hn⟩
  · exact Or.inr (Or.inl ⟨h1, i, h2, h3, by rw [hA _ (by omega)]; exact h4, fun p hp hn => by rw [hA p hp, hB p hp]; exact h5 p hp hn⟩)
  · exact Or.inr (Or.inr (Or.inl ⟨h1, i, h2, h3, h4, by rw [hA _ (by omega)]; exact h5, fun p hp hn => by rw [hA p hp, hB p hp]; exact h6 p hp hn⟩))
  · exact Or.inr (Or.inr (Or.inr ⟨h1, h2, by rw [hA 2 (by decide)]; exact h3, fun p hp hn => by rw [hA p hp, hB p hp]; exact h4 p hp hn⟩))
def rV (lim : Nat) (σ : Mem) : Prop := wvV (wvM σ) ∧ weq lim (wvM σ) (wvX 1 σ)
def rI (lim : Nat) (σ : Mem) : Prop := σ 0 3 = σ 101 24 ∧ (¬ σ 0 3 = 0 → wvV (σ 116) ∧ weq lim (σ 116) (wvX 47 σ))
def rS (σ : Mem) : Prop := σ 70 5 = σ 101 30 ∧ ∀ j, j < (σ 101 30).toNatClampNeg → wvV (wsT σ (σ 101 30).toNatClampNeg j) ∧ wsU σ (((σ 70 4).toNatClampNeg + j) % 8) (wsT σ (σ 101 30).toNatClampNeg j) (wsT σ (σ 101 30).toNatClampNeg (j + 1))
def rL (σ : Mem) : Prop := σ 83 1 = σ 101 15 ∧ ∀ i, i < (σ 101 15).toNatClampNeg → σ 84 i = σ 111 i
def rW (σ : Mem) : Prop := σ 0 7 = σ 101 34 ∧ ∀ i, i < (σ 101 34).toNatClampNeg → σ 85 i = σ 121 i
def wR (lim : Nat) (σ : Mem) : Prop := wiX σ ∧ wiM σ ∧ rV lim σ ∧ rI lim σ ∧ rS σ ∧ rL σ ∧ rW σ
/-- the cells of C are as they were -/
def ag (C : Nat → Prop) (σ s : Mem) : Prop := ∀ k i, C (wcid k i) → s k i = σ k i
theorem ag_fr {W C : Nat → Prop} {σ s : Mem} (h : fr W σ s) (hC : ∀ c, C c → ¬ W c) : ag C σ s := fun k i hc => h k i (hC _ hc)
theorem ag_tr {C : Nat → Prop} {σ s z : Mem} (h1 : ag C σ s) (h2 : ag C s z) : ag C σ z := fun k i hc => (h2 k i hc).trans (h1 k i hc)
theorem ag_mono {C D : Nat → Prop} {σ s : Mem} (h : ag D σ s) (hC : ∀ c, C c → D c) : ag C σ s := fun k i hc => h k i (hC _ hc)
def cX (c : Nat) : Prop := 1 ≤ c ∧ c ≤ 17
def cM (c : Nat) : Prop := (102 ≤ c ∧ c ≤ 107) ∨ c = 1001 ∨ c = 1003 ∨ c = 1008 ∨ c = 1009
def cV (c : Nat) : Prop := cX c ∨ cM c
def cI (c : Nat) : Prop := (47 ≤ c ∧ c ≤ 63) ∨ c = 116 ∨ c = 2003 ∨ c = 1024
def cS (c : Nat) : Prop := cM c ∨ (71 ≤ c ∧ c ≤ 82) ∨ c = 117 ∨ c = 3004 ∨ c = 3005 ∨ c = 1030
def cL (c : Nat) : Prop := c = 84 ∨ c = 111 ∨ c = 4001 ∨ c = 1015
def cW (c : Nat) : Prop := c = 85 ∨ c = 121 ∨ c = 2007 ∨ c = 1034
theorem ag_wvX {h : Nat} {σ s : Mem} (hh : wt_isH h) (e : ag (fun c => h ≤ c ∧ c ≤ h + 16) σ s) {p : Nat} (hp : p < 188) : wvX h s p = wvX h σ p := by
  refine wvX_eq (fun p hp => e _ _ ?_) hp
  have h1 := wvJ_le p hp
  have h2 := wt_Hcs hh
  rw [wcid_lo (by omega) (by omega)]
  omega
theorem ag_wvM {σ s : Mem} (e : ag cM σ s) {p : Nat} (hp : p < 188) : wvM s p = wvM σ p := e _ _ (wvM_cid hp)
theorem rV_ag {lim : Nat} {σ s : Mem} (hl : 28 ≤ lim ∧ lim ≤ 188) (h : rV lim σ) (e : ag cV σ s) : rV lim s := by
  have e1 : ∀ p, p < 188 → wvM s p = wvM σ p := fun p hp => ag_wvM (ag_mono e (fun c hc => Or.inr hc)) hp
  have e2 : ∀ p, p < 188 → wvX 1 s p = wvX 1 σ p := fun p hp => ag_wvX wt_h1 (ag_mono e (fun c hc => Or.inl (by unfold cX; omega))) hp
  exact ⟨wvV_cg h.1 e1, weq_cg h.2 hl.1 (fun p hp => e1 p (by omega)) (fun p hp => e2 p (by omega))⟩
theorem rI_ag {lim : Nat} {σ s : Mem} (hl : 28 ≤ lim ∧ lim ≤ 188) (h : rI lim σ) (e : ag cI σ s) : rI lim s := by
  have e1 : s 0 3 = σ 0 3 := e 0 3 (Or.inr (Or.inr (Or.inl rfl)))
  have e2 : s 101 24 = σ 101 24 := e 101 24 (Or.inr (Or.inr (Or.inr rfl)))
  have e3 : ∀ p, s 116 p = σ 116 p := fun p => e 116 p (Or.inr (Or.inl rfl))
  have e4 : ∀ p, p < 188 → wvX 47 s p = wvX 47 σ p := fun p hp => ag_wvX wt_h47 (ag_mono e (fun c hc => Or.inl hc)) hp
  refine ⟨by rw [e1, e2]; exact h.1, fun hn => ?_⟩
  rw [e1] at hn
  obtain ⟨h1, h2⟩ := h.2 hn
  exact ⟨wvV_cg h1 (fun p _ => e3 p), weq_cg h2 hl.1 (fun p _ => e3 p) (fun p hp => e4 p (by omega))⟩
theorem rL_ag {σ s : Mem} (h : rL σ) (e : ag cL σ s) : rL s := by
  have e1 : s 83 1 = σ 83 1 := e 83 1 (Or.inr (Or.inr (Or.inl rfl)))
  have e2 : s 101 15 = σ 101 15 := e 101 15 (Or.inr (Or.inr (Or.inr rfl)))
  refine ⟨by rw [e1, e2]; exact h.1, fun i hi => ?_⟩
  rw [e2] at hi
  rw [e 84 i (Or.inl rfl), e 111 i (Or.inr (Or.inl rfl))]
  exact h.2 i hi
theorem rW_ag {σ s : Mem} (h : rW σ) (e : ag cW σ s) : rW s := by
  have e1 : s 0 7 = σ 0 7 := e 0 7 (Or.inr (Or.inr (Or.inl rfl)))
  have e2 : s 101 34 = σ 101 34 := e 101 34 (Or.inr (Or.inr (Or.inr rfl)))
  refine ⟨by rw [e1, e2]; exact h.1, fun i hi => ?_⟩
  rw [e2] at hi
  rw [e 85 i (Or.inl rfl), e 121 i (Or.inr (Or.inl rfl))]
  exact h.2 i hi
theorem wvV_b {V : Nat → Int32} (h : wvV V) : (V 1).toInt ≤ 5 ∧ (V 0).toInt ≤ 6 := ⟨h.2.1.2, h.1.2⟩
theorem wsT_t {σ : Mem} {t p : Nat} : wsT σ t t p = wvM σ p := if_pos rfl
theorem wsT_n {σ : Mem} {t j p : Nat} (h : ¬ j = t) : wsT σ t j p = σ 117 (188 * j + p) := if_neg h
theorem rS_V {σ : Mem} (hV : wvV (wvM σ)) (h : rS σ) {j : Nat} (hj : j ≤ (σ 101 30).toNatClampNeg) : wvV (wsT σ (σ 101 30).toNatClampNeg j) := by
  by_cases e : j = (σ 101 30).toNatClampNeg
  · exact wvV_cg hV (fun p _ => by rw [e, wsT_t])
  · exact (h.2 j (by omega)).1
theorem wcid_i {k i n : Nat} (h : wcid k i = n) : wcid k i = n := h
theorem rS_ag {σ s : Mem} (hV : wvV (wvM σ)) (h : rS σ) (e : ag cS σ s) : rS s := by
  have e1 : s 70 4 = σ 70 4 := e 70 4 (Or.inr (Or.inr (Or.inr (Or.inl rfl))))
  have e2 : s 70 5 = σ 70 5 := e 70 5 (Or.inr (Or.inr (Or.inr (Or.inr (Or.inl rfl)))))
  have e3 : s 101 30 = σ 101 30 := e 101 30 (Or.inr (Or.inr (Or.inr (Or.inr (Or.inr rfl)))))
  have e4 : ∀ i, s 117 i = σ 117 i := fun i => e 117 i (Or.inr (Or.inr (Or.inl rfl)))
  have e5 : ∀ k, 71 ≤ k → k ≤ 82 → ∀ i, s k i = σ k i := fun k a b i => e k i (Or.inr (Or.inl (by rw [wcid_hi (by omega)]; exact ⟨a, b⟩)))
  have e6 : ∀ p, p < 188 → wvM s p = wvM σ p := fun p hp => ag_wvM (ag_mono e (fun c hc => Or.inl hc)) hp
  have eT : ∀ j p, p < 188 → wsT s (σ 101 30).toNatClampNeg j p = wsT σ (σ 101 30).toNatClampNeg j p := fun j p hp => by
    unfold wsT
    rw [e6 p hp, e4]
  refine ⟨by rw [e2, e3]; exact h.1, fun j hj => ?_⟩
  rw [e3] at hj ⊢
  rw [e1]
  have b := wvV_b (rS_V hV h (j := j + 1) (by omega))
  have hm : ((σ 70 4).toNatClampNeg + j) % 8 < 8 := Nat.mod_lt _ (by decide)
  refine ⟨wvV_cg (h.2 j hj).1 (fun p hp => eT j p hp), wsU_cg (h.2 j hj).2 b.1 b.2 (e5 71 (by omega) (by omega) _) (e5 72 (by omega) (by omega) _) (e5 73 (by omega) (by omega) _) (funext fun i => e5 _ (by omega) (by omega) i) (fun p hp => eT j p hp) (fun p hp => eT _ p hp)⟩
theorem rS_0 {s : Mem} (h1 : s 70 5 = 0) (h2 : s 101 30 = 0) : rS s := ⟨by rw [h1, h2], fun j hj => by rw [h2] at hj; exact absurd hj (Nat.not_lt_zero j)⟩
/-- a step more -/
theorem rS_push {σ s : Mem} (hV : wvV (wvM σ)) (h : rS σ) (b4 : 0 ≤ (σ 70 4).toInt ∧ (σ 70 4).toInt ≤ 7) (b5 : 0 ≤ (σ 70 5).toInt ∧ (σ 70 5).toInt ≤ 8) (hR : wsRing σ s)
    (hslot : ∀ i, i < 8 → i ≠ wsSlot σ → s 71 i = σ 71 i ∧ s 72 i = σ 72 i ∧ s 73 i = σ 73 i ∧ s (75 + i) = σ (75 + i))
    (hK : ∃ t d : Nat, (((σ 101 30).toInt = 8 ∧ t = 7 ∧ d = 1) ∨ ((σ 101 30).toInt < 8 ∧ t = (σ 101 30).toNatClampNeg ∧ d = 0)) ∧ (s 101 30).toInt = (t : Int) + 1 ∧ (∀ i, i < 188 * t → s 117 i = σ 117 (i + 188 * d)) ∧ ∀ p, p < 188 → s 117 (188 * t + p) = wvM σ p)
    (hU : wsU s (wsSlot σ) (wvM σ) (wvM s)) : rS s := by
  obtain ⟨t, d, htd, k1, k2, k3⟩ := hK
  obtain ⟨hn, hj⟩ := h
  have h5 : (σ 70 5).toInt = (σ 101 30).toInt := congrArg Int32.toInt hn
  have e5 := ti_nat (σ 70 5)
  have e30 := ti_nat (σ 101 30)
  have e4 := ti_nat (σ 70 4)
  have es30 := ti_nat (s 101 30)
  have es4 := ti_nat (s 70 4)
  have hVj : ∀ j, j ≤ (σ 101 30).toNatClampNeg → wvV (wsT σ (σ 101 30).toNatClampNeg j) := fun j q => rS_V hV ⟨hn, hj⟩ q
  rcases htd with ⟨q8, rfl, rfl⟩ | ⟨q8, rfl, rfl⟩
  · obtain ⟨r1, r2⟩ := hR.2 (by omega)
    have n8 : (σ 101 30).toNatClampNeg = 8 := by omega
    have m8 : (s 101 30).toNatClampNeg = 8 := by omega
    have hq : wsSlot σ = (σ 70 4).toNatClampNeg := by unfold wsSlot; omega
    refine ⟨Int32.toInt_inj.mp (by omega), fun j hj8 => ?_⟩
    rw [m8] at hj8 ⊢
    rw [n8] at hj hVj
    have hT : ∀ j, j < 8 → ∀ p, p < 188 → wsT s 8 j p = wsT σ 8 (j + 1) p := fun j h8 p hp => by
      rw [wsT_n (by omega)]
      by_cases e : j = 7
      · subst e; rw [wsT_t]; exact k3 p hp
      · rw [wsT_n (by omega), k2 _ (by omega), show 188 * j + p + 188 * 1 = 188 * (j + 1) + p by omega]
    by_cases e : j = 7
    · subst e
      have hsl : ((s 70 4).toNatClampNeg + 7) % 8 = wsSlot σ := by rw [hq]; omega
      rw [hsl]
      refine ⟨wvV_cg (hVj 8 (by omega)) (hT 7 (by omega)), ?_⟩
      have b := wvV_b hV
      have hTt : ∀ p, p < 188 → wsT s 8 7 p = wvM σ p := fun p hp => by rw [hT 7 (by omega) p hp, wsT_t]
      unfold wsU at hU ⊢
      have hl7 : (∀ p, wsT s 8 (7 + 1) p = wvM s p) := fun p => wsT_t
      rcases hU with ⟨h1, l, h2, h3, h4, h5', h6⟩ | ⟨h1, i, h2, h3, h4, h5'⟩ | ⟨h1, i, h2, h3, h4, h5', h6⟩ | ⟨h1, h2, h3, h4⟩
      · by_cases hl5 : l < 5
        · exact Or.inl ⟨h1, l, h2, by rw [hl7]; exact h3, fun t ht => by rw [hTt _ (by omega)]; exact h4 t ht, by rw [hl7]; exact h5', fun p hp hn => by rw [hTt p hp, hl7]; exact h6 p hp hn⟩
        · exfalso
          have := h6 1 (by decide) (by omega)
          rw [← this] at h3
          omega
      · by_cases hl5 : i < 6
        · exact Or.inr (Or.inl ⟨h1, i, h2, by rw [hl7]; exact h3, by rw [hTt _ (by omega)]; exact h4, fun p hp hn => by rw [hTt p hp, hl7]; exact h5' p hp hn⟩)
        · exfalso
          have := h5' 0 (by decide) (by omega)
          rw [← this] at h3
          omega
      · exact Or.inr (Or.inr (Or.inl ⟨h1, i, h2, h3, h4, by rw [hTt _ (by omega)]; exact h5', fun p hp hn => by rw [hTt p hp, hl7]; exact h6 p hp hn⟩))
      · exact Or.inr (Or.inr (Or.inr ⟨h1, h2, by rw [hTt 2 (by decide)]; exact h3, fun p hp hn => by rw [hTt p hp, hl7]; exact h4 p hp hn⟩))
    · have hsl : ((s 70 4).toNatClampNeg + j) % 8 = ((σ 70 4).toNatClampNeg + (j + 1)) % 8 := by omega
      rw [hsl]
      obtain ⟨o1, o2, o3, o4⟩ := hslot (((σ 70 4).toNatClampNeg + (j + 1)) % 8) (Nat.mod_lt _ (by decide)) (by rw [hq]; omega)
      have b := wvV_b (hVj (j + 1 + 1) (by omega))
      exact ⟨wvV_cg (hVj (j + 1) (by omega)) (hT j (by omega)), wsU_cg (hj (j + 1) (by omega)).2 b.1 b.2 o1 o2 o3 o4 (hT j (by omega)) (hT (j + 1) (by omega))⟩
  · obtain ⟨r1, r2⟩ := hR.1 (by omega)
    generalize hN : (σ 101 30).toNatClampNeg = n at *
    have m8 : (s 101 30).toNatClampNeg = n + 1 := by omega
    have hq : wsSlot σ = ((σ 70 4).toNatClampNeg + n) % 8 := by unfold wsSlot; rw [show (σ 70 5).toNatClampNeg = n by omega]
    have es : (s 70 4).toNatClampNeg = (σ 70 4).toNatClampNeg := by omega
    refine ⟨Int32.toInt_inj.mp (by omega), fun j hj8 => ?_⟩
    rw [m8] at hj8 ⊢
    rw [es]
    have hT : ∀ j, j ≤ n → ∀ p, p < 188 → wsT s (n + 1) j p = wsT σ n j p := fun j h8 p hp => by
      rw [wsT_n (by omega)]
      by_cases e : j = n
      · subst e; rw [wsT_t]; exact k3 p hp
      · rw [wsT_n e, k2 _ (by omega), show 188 * j + p + 188 * 0 = 188 * j + p by omega]
    by_cases e : j = n
    · subst e
      rw [← hq]
      refine ⟨wvV_cg (hVj j (by omega)) (hT j (by omega)), ?_⟩
      have b := wvV_b hV
      have hTt : ∀ p, p < 188 → wsT s (j + 1) j p = wvM σ p := fun p hp => by rw [hT j (by omega) p hp, wsT_t]
      unfold wsU at hU ⊢
      have hl7 : (∀ p, wsT s (j + 1) (j + 1) p = wvM s p) := fun p => wsT_t
      rcases hU with ⟨h1, l, h2, h3, h4, h5', h6⟩ | ⟨h1, i, h2, h3, h4, h5'⟩ | ⟨h1, i, h2, h3, h4, h5', h6⟩ | ⟨h1, h2, h3, h4⟩
      · by_cases hl5 : l < 5
        · exact Or.inl ⟨h1, l, h2, by rw [hl7]; exact h3, fun t ht => by rw [hTt _ (by omega)]; exact h4 t ht, by rw [hl7]; exact h5', fun p hp hn => by rw [hTt p hp, hl7]; exact h6 p hp hn⟩
        · exfalso
          have := h6 1 (by decide) (by omega)
          rw [← this] at h3
          omega
      · by_cases hl5 : i < 6
        · exact Or.inr (Or.inl ⟨h1, i, h2, by rw [hl7]; exact h3, by rw [hTt _ (by omega)]; exact h4, fun p hp hn => by rw [hTt p hp, hl7]; exact h5' p hp hn⟩)
        · exfalso
          have := h5' 0 (by decide) (by omega)
          rw [← this] at h3
          omega
      · exact Or.inr (Or.inr (Or.inl ⟨h1, i, h2, h3, h4, by rw [hTt _ (by omega)]; exact h5', fun p hp hn => by rw [hTt p hp, hl7]; exact h6 p hp hn⟩))
      · exact Or.inr (Or.inr (Or.inr ⟨h1, h2, by rw [hTt 2 (by decide)]; exact h3, fun p hp hn => by rw [hTt p hp, hl7]; exact h4 p hp hn⟩))
    · obtain ⟨o1, o2, o3, o4⟩ := hslot (((σ 70 4).toNatClampNeg + j) % 8) (Nat.mod_lt _ (by decide)) (by rw [hq]; omega)
      have b := wvV_b (hVj (j + 1) (by omega))
      exact ⟨wvV_cg (hVj j (by omega)) (hT j (by omega)), wsU_cg (hj j (by omega)).2 b.1 b.2 o1 o2 o3 o4 (hT j (by omega)) (hT (j + 1) (by omega))⟩
/-- a step taken back -/
theorem rS_pop {σ s : Mem} {n : Nat} (hV : wvV (wvM σ)) (h : rS σ) (hn : (σ 101 30).toInt = (n : Int) + 1) (e4 : s 70 4 = σ 70 4) (e5 : (s 70 5).toInt = (n : Int)) (e30 : (s 101 30).toInt = (n : Int)) (o : ∀ k, 71 ≤ k → k ≤ 82 → s k = σ k) (o7 : s 117 = σ 117) (hM : ∀ p, p < 188 → wvM s p = σ 117 (188 * n + p)) : rS s ∧ wvV (wvM s) := by
  have n1 : (σ 101 30).toNatClampNeg = n + 1 := by rw [ti_nat, hn]; omega
  have m1 : (s 101 30).toNatClampNeg = n := by rw [ti_nat, e30]; omega
  have hh := h.2
  rw [n1] at hh
  have hT : ∀ j, j ≤ n → ∀ p, p < 188 → wsT s n j p = wsT σ (n + 1) j p := fun j h8 p hp => by
    rw [wsT_n (t := n + 1) (by omega)]
    by_cases e : j = n
    · subst e; rw [wsT_t, hM p hp]
    · rw [wsT_n e, o7]
  refine ⟨⟨Int32.toInt_inj.mp (by omega), fun j hj => ?_⟩, wvV_cg (hh n (by omega)).1 (fun p hp => by rw [wsT_n (by omega), hM p hp])⟩
  rw [m1] at hj ⊢
  rw [e4]
  have hm : ((σ 70 4).toNatClampNeg + j) % 8 < 8 := Nat.mod_lt _ (by decide)
  have b := wvV_b (by have := rS_V hV h (j := j + 1) (by omega); rw [n1] at this; exact this)
  exact ⟨wvV_cg (hh j (by omega)).1 (hT j (by omega)), wsU_cg (hh j (by omega)).2 b.1 b.2 (by rw [o 71 (by omega) (by omega)]) (by rw [o 72 (by omega) (by omega)]) (by rw [o 73 (by omega) (by omega)]) (o _ (by omega) (by omega)) (hT j (by omega)) (hT (j + 1) (by omega))⟩
/-- what it is taken back to, on the class's side -/
theorem weq_undone {lim n : Nat} {σ s : Mem} (hl : 28 ≤ lim ∧ lim ≤ 188) (hV : wvV (wvM σ)) (hw : weq lim (wvM σ) (wvX 1 σ)) (h : rS σ) (hn : (σ 101 30).toInt = (n : Int) + 1) (hU : wsUndone σ s (wsLast σ)) (hM : ∀ p, p < 188 → wvM s p = σ 117 (188 * n + p)) : weq lim (wvM s) (wvX 1 s) := by
  have n1 : (σ 101 30).toNatClampNeg = n + 1 := by rw [ti_nat, hn]; omega
  have hh := (h.2 n (by omega)).2
  have h5 : (σ 70 5).toNatClampNeg = n + 1 := by rw [h.1]; exact n1
  rw [n1] at hh
  have hq : ((σ 70 4).toNatClampNeg + n) % 8 = wsLast σ := by unfold wsLast; rw [h5]; rfl
  rw [hq] at hh
  have eA : ∀ p, p < 188 → wsT σ (n + 1) n p = wvM s p := fun p hp => by rw [wsT_n (by omega), hM p hp]
  have eB : ∀ p, wsT σ (n + 1) (n + 1) p = wvM σ p := fun p => wsT_t
  have b0 : σ 1 0 = wvM σ 0 := weq_lo hw hl.1 (p := 0) (by decide)
  have b1 : σ 1 2 = wvM σ 1 := weq_lo hw hl.1 (p := 1) (by decide)
  generalize wsLast σ = q at hU hh
  obtain ⟨u0, u1, u2, u3⟩ := hU
  have lv : ∀ p, wvM s 1 = wvM σ 1 → live (wvM s) p → live (wvM σ) p := fun p e hv => live_1 e hv
  rcases hh with ⟨h1, l, h2, h3, h4, h5', h6⟩ | ⟨h1, i, h2, h3, h4, h5'⟩ | ⟨h1, i, h2, h3, h4, h5', h6⟩ | ⟨h1, h2, h3, h4⟩
  · rw [eB] at h3 h5'
    have hx := u0 h1 l h2 (by rw [b1]; exact h3) (fun t ht => by rw [b0]; exact h5' t ht)
    have hl5 : l < 5 := by have := hV.2.1.2; omega
    intro p hp hv
    rw [hx p (by omega)]
    by_cases e : 28 + 24 * l ≤ p ∧ p < 52 + 24 * l
    · rw [if_pos e, ← eA p (by omega), show p = 28 + 24 * l + (p - (28 + 24 * l)) by omega, h4 _ (by omega), show 28 + 24 * l + (p - (28 + 24 * l)) - (28 + 24 * l) = p - (28 + 24 * l) by omega]
    · have e1 := h6 1 (by decide) (by omega)
      rw [eA 1 (by decide), eB] at e1
      have e2 := h6 p (by omega) e
      rw [eA p (by omega), eB] at e2
      rw [if_neg e, e2]
      exact hw p hp (lv p e1 hv)
  · rw [eB] at h3
    have hi6 : i < 6 := by have := hV.1.2; omega
    have hx := u1 h1 i h2 (by rw [b0]; exact h3)
    intro p hp hv
    rw [hx p (by omega)]
    by_cases e : p = 12 + i
    · subst e; rw [wv_us, ← eA _ (by omega), h4]
    · have e1 := h5' 1 (by decide) (by omega)
      rw [eA 1 (by decide), eB] at e1
      have e2 := h5' p (by omega) e
      rw [eA p (by omega), eB] at e2
      rw [wv_un e, e2]
      exact hw p hp (lv p e1 hv)
  · have hx := u2 h1 i h2 h3 h4.1 h4.2
    intro p hp hv
    rw [hx p (by omega)]
    by_cases e : p = 4 + i
    · subst e; rw [wv_us, ← eA _ (by omega), h5']
    · have e1 := h6 1 (by decide) (by omega)
      rw [eA 1 (by decide), eB] at e1
      have e2 := h6 p (by omega) e
      rw [eA p (by omega), eB] at e2
      rw [wv_un e, e2]
      exact hw p hp (lv p e1 hv)
  · have hx := u3 h1 h2.1 h2.2
    intro p hp hv
    rw [hx p (by omega)]
    by_cases e : p = 2
    · subst e; rw [wv_us, ← eA _ (by omega), h3]
    · have e1 := h4 1 (by decide) (by omega)
      rw [eA 1 (by decide), eB] at e1
      have e2 := h4 p (by omega) e
      rw [eA p (by omega), eB] at e2
      rw [wv_un e, e2]
      exact hw p hp (lv p e1 hv)
