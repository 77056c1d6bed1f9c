theorem S_eq {σ : Mem} {n : Nat} (h : ∀ i, i < n → σ 84 i = σ 111 i) : ∀ (d i : Nat), i + d ≤ n → wnum (σ 84) i d = wnum (σ 111) i d := by
  intro d
  induction d with
  | zero => intro i _; rfl
  | succ d ih =>
    intro i hi
    show wnum (σ 84) i d * 10 + (σ 84 (i + d) - 48) = wnum (σ 111) i d * 10 + (σ 111 (i + d) - 48)
    rw [ih i (by omega), h (i + d) (by omega)]
/-- letters alike below n: the same form, the same statements -/
def seq (n : Nat) (S T : Nat → Int32) : Prop := ∀ i, i < n → S i = T i
theorem wfd_cg {n : Nat} {S T : Nat → Int32} (h : seq n S T) : ∀ (d i : Nat), wfd S n d i = wfd T n d i := by
  intro d
  induction d with
  | zero =>
    intro i
    rw [wfd, wfd]
    by_cases c : i < n
    · rw [h i c]
    · rw [if_neg (fun q => c q.1), if_neg (fun q => c q.1)]
  | succ d ih =>
    intro i
    rw [wfd_s, wfd_s]
    by_cases c : i < n
    · have e := h i c
      by_cases c2 : wdg S n i
      · rw [if_pos c2, if_pos ⟨c2.1, by rw [← e]; exact c2.2⟩]; exact ih (i + 1)
      · rw [if_neg c2, if_neg (fun q => c2 ⟨q.1, by rw [e]; exact q.2⟩)]
    · rw [if_neg (fun q => c q.1), if_neg (fun q => c q.1)]
theorem wst_cg {n : Nat} {S T : Nat → Int32} (h : seq n S T) (p : Nat) : wst S n p = wst T n p := by
  unfold wst
  by_cases c : p < n
  · rw [h p c, wfd_cg h]
  · rw [if_neg (fun q => c q.1), if_neg (fun q => c q.1)]
theorem wpar_cg {n : Nat} {S T : Nat → Int32} (h : seq n S T) : ∀ (K p : Nat), wpar S n K p = wpar T n K p := by
  intro K
  induction K with
  | zero => intro p; rfl
  | succ K ih =>
    intro p
    rw [wpar, wpar, wst_cg h, ih]
theorem wdok_cg {n p : Nat} {S T : Nat → Int32} (h : seq n S T) (hd : wdok S n p) : wdok T n p := by
  obtain ⟨h1, h2, h3, h4⟩ := hd
  rw [h p h1] at h2 h3 h4
  exact ⟨h1, h2, fun k hk => by have := h3 k hk; exact ⟨this.1, by rw [← h _ this.1]; exact this.2⟩, h4⟩
theorem wpl_cg {n m : Nat} {S T : Nat → Int32} (h : seq n S T) (hm : wokm S n m) : ∀ j, j ≤ m → wpl S j = wpl T j := by
  intro j
  induction j with
  | zero => intro _; rfl
  | succ j ih =>
    intro hj
    have e := ih (by omega)
    have hd := hm.1 j (by omega)
    show wpl S j + wD (S (wpl S j)) + 2 = wpl T j + wD (T (wpl T j)) + 2
    rw [← e, h _ hd.1]
theorem wokm_cg {n m : Nat} {S T : Nat → Int32} (h : seq n S T) (hm : wokm S n m) : wokm T n m :=
  ⟨fun j hj => by rw [← wpl_cg h hm j (by omega)]; exact wdok_cg h (hm.1 j hj), by rw [← wpl_cg h hm m (Nat.le_refl _)]; exact hm.2⟩
theorem wnum_cg {n : Nat} {S T : Nat → Int32} (h : seq n S T) : ∀ (d i : Nat), i + d ≤ n → wnum S i d = wnum T i d := by
  intro d
  induction d with
  | zero => intro i _; rfl
  | succ d ih =>
    intro i hi
    show wnum S i d * 10 + (S (i + d) - 48) = wnum T i d * 10 + (T (i + d) - 48)
    rw [ih i (by omega), h (i + d) (by omega)]
theorem aSt_cg {n p : Nat} {S T : Nat → Int32} (h : seq n S T) (hd : wdok S n p) (V : Nat → Int32) : aSt S p V = aSt T p V ∧ (cSt S p V ↔ cSt T p V) := by
  have e := h p hd.1
  have w : ∀ i d, i + d ≤ wD (S p) → wnum S (p + 1 + i) d = wnum T (p + 1 + i) d := fun i d hi => wnum_cg h d _ (by have := hd.2.2.2; omega)
  rcases wD_cs (S p) with ⟨-, g0, -⟩ | ⟨-, -, -, -, c⟩
  · exact absurd g0 hd.2.1
  rcases c with c | c | c | c | c | c | c
  · have c' := e.symm.trans c
    have a1 := w 0 2 (by rw [c]; decide)
    rw [show p + 1 + 0 = p + 1 from rfl] at a1
    rw [(cSt_100 c).2, (cSt_100 c').2, (cSt_100 c).1, (cSt_100 c').1, a1]; exact ⟨rfl, Iff.rfl⟩
  · have c' := e.symm.trans c
    have a1 := w 0 1 (by rw [c]; decide)
    have a2 := w 1 1 (by rw [c]; decide)
    rw [show p + 1 + 0 = p + 1 from rfl] at a1
    rw [show p + 1 + 1 = p + 2 from rfl] at a2
    rw [(cSt_108 c).2, (cSt_108 c').2, (cSt_108 c).1, (cSt_108 c').1, a1, a2]; exact ⟨rfl, Iff.rfl⟩
  · have c' := e.symm.trans c
    have a1 := w 0 3 (by rw [c]; decide)
    rw [show p + 1 + 0 = p + 1 from rfl] at a1
    rw [(cSt_112 c).2, (cSt_112 c').2, (cSt_112 c).1, (cSt_112 c').1, a1]; exact ⟨rfl, Iff.rfl⟩
  · have c' := e.symm.trans c
    have a1 := w 0 1 (by rw [c]; decide)
    have a2 := w 1 2 (by rw [c]; decide)
    have a3 := w 3 2 (by rw [c]; decide)
    have a4 := w 5 1 (by rw [c]; decide)
    rw [show p + 1 + 0 = p + 1 from rfl] at a1
    rw [show p + 1 + 1 = p + 2 from rfl] at a2
    rw [show p + 1 + 3 = p + 4 from rfl] at a3
    rw [show p + 1 + 5 = p + 6 from rfl] at a4
    rw [(cSt_115 c).2, (cSt_115 c').2, (cSt_115 c).1, (cSt_115 c').1, a1, a2, a3, a4]; exact ⟨rfl, Iff.rfl⟩
  · have c' := e.symm.trans c
    have a1 := w 0 1 (by rw [c]; decide)
    rw [show p + 1 + 0 = p + 1 from rfl] at a1
    rw [(cSt_117 c).2, (cSt_117 c').2, (cSt_117 c).1, (cSt_117 c').1, a1]; exact ⟨rfl, Iff.rfl⟩
  · have c' := e.symm.trans c
    have a1 := w 0 1 (by rw [c]; decide)
    have a2 := w 1 1 (by rw [c]; decide)
    rw [show p + 1 + 0 = p + 1 from rfl] at a1
    rw [show p + 1 + 1 = p + 2 from rfl] at a2
    rw [(cSt_118 c).2, (cSt_118 c').2, (cSt_118 c).1, (cSt_118 c').1, a1, a2]; exact ⟨rfl, Iff.rfl⟩
  · have c' := e.symm.trans c
    have a1 := w 0 1 (by rw [c]; decide)
    have a2 := w 1 1 (by rw [c]; decide)
    rw [show p + 1 + 0 = p + 1 from rfl] at a1
    rw [show p + 1 + 1 = p + 2 from rfl] at a2
    rw [(cSt_119 c).2, (cSt_119 c').2, (cSt_119 c).1, (cSt_119 c').1, a1, a2]; exact ⟨rfl, Iff.rfl⟩
theorem wr_cg {n m : Nat} {S T : Nat → Int32} (h : seq n S T) (hm : wokm S n m) : ∀ (r j : Nat) (V : Nat → Int32), j + r = m → wrf S r j V = wrf T r j V ∧ wrv S r j V = wrv T r j V := by
  intro r
  induction r with
  | zero => intro j V _; exact ⟨rfl, rfl⟩
  | succ r ih =>
    intro j V hj
    have hd := hm.1 j (by omega)
    have e := wpl_cg h hm j (by omega)
    obtain ⟨a1, a2⟩ := aSt_cg h hd V
    obtain ⟨i1, i2⟩ := ih (j + 1) (aSt S (wpl S j) V) (by omega)
    rw [e] at a1 a2
    refine ⟨?_, ?_⟩
    · by_cases c : cSt S (wpl S j) V
      · have c' : cSt T (wpl T j) V := a2.mp (by rw [← e]; exact c)
        rw [wrf_t c, wrf_t c', i1, e, a1]
      · have c' : ¬ cSt T (wpl T j) V := fun q => c (by rw [e]; exact a2.mpr q)
        rw [wrf_f c, wrf_f c', e]
    · show wrv S r (j + 1) (aSt S (wpl S j) V) = wrv T r (j + 1) (aSt T (wpl T j) V)
      rw [i2, e, a1]
theorem wvV_wrv {n m : Nat} {S : Nat → Int32} (hm : wokm S n m) : ∀ (r j : Nat) (V : Nat → Int32), j + r = m → wvV V → wrf S r j V = none → wvV (wrv S r j V) := by
  intro r
  induction r with
  | zero => intro j V _ hv _; exact hv
  | succ r ih =>
    intro j V hj hv hn
    have hd := hm.1 j (by omega)
    by_cases c : cSt S (wpl S j) V
    · rw [wrf_t c] at hn
      exact ih (j + 1) _ (by omega) (wvV_aSt hv hd c) hn
    · rw [wrf_f c] at hn; cases hn
/-- the same run on houses alike below the counts -/
theorem wrs_lo {n m : Nat} {S : Nat → Int32} (hm : wokm S n m) : ∀ (r j : Nat) (A B : Nat → Int32), j + r = m → wvV A → lo148 A B → wrf S r j A = wrf S r j B ∧ (wrf S r j A = none → lo148 (wrv S r j A) (wrv S r j B)) := by
  intro r
  induction r with
  | zero => intro j A B _ _ h; exact ⟨rfl, fun _ => h⟩
  | succ r ih =>
    intro j A B hj hv h
    have hd := hm.1 j (by omega)
    have hc : cSt S (wpl S j) A ↔ cSt S (wpl S j) B := cSt_cg (h 0 (by decide)) (h 1 (by decide)) (h 3 (by decide))
    by_cases c : cSt S (wpl S j) A
    · rw [wrf_t c, wrf_t (hc.mp c)]
      exact ih (j + 1) _ _ (by omega) (wvV_aSt hv hd c) (aSt_lo (wvV_cg hv (fun q hq => (h q hq).symm)) h hd)
    · rw [wrf_f c, wrf_f (fun q => c (hc.mpr q))]
      exact ⟨rfl, fun q => by cases q⟩
theorem mu_terrace {F : Nat} {σ : Mem} (hF : 73786976294838206464 ≤ F) (h : wR 188 σ) : ∃ r1 s1 r2 s2, f_X3_terrace F σ = some (r1, s1) ∧ f_X4_terrace F s1 = some (r2, s2) ∧ wR 188 s2 ∧ r1 = r2 := by
  obtain ⟨hX, hM, hV, hI, hS, hL, hW⟩ := id h
  have hl : 28 ≤ 188 ∧ 188 ≤ 188 := by omega
  have b1 := wx_X1_1 hX
  have hn : (σ 83 1).toInt = ((σ 83 1).toNatClampNeg : Int) := by rw [ti_nat]; omega
  generalize hN : (σ 83 1).toNatClampNeg = n at hn
  have hnM : (σ 101 15).toInt = (n : Int) := by rw [← hL.1]; exact hn
  have hseq : seq n (σ 84) (σ 111) := fun i hi => hL.2 i (by rw [← hL.1, hN]; exact hi)
  refine two (pc_sf (s_X3_terrace (by omega) hX) (pc_and (cx_terrace (by omega) hX hn (by omega) hV.1 hV.2) (pc_pf (fr_X3_terrace (by omega))))) (fun a s q => pc_sf (s_X4_terrace hF (wm_congr hM q.1.2.1)) (pc_and (cm_terrace hF (wm_congr hM q.1.2.1) (n := n) (by rw [q.1.2.1 101 (by decide)]; exact hnM) (by omega) (wvV_cg hV.1 (eMV q.1.2.1))) (pc_pf (fr_X4_terrace (by omega))))) (fun a s b z q1 q2 => ?_)
  obtain ⟨⟨x1, x2, -, -, -, x83⟩, c1, f1⟩ := q1
  obtain ⟨⟨m1, m2, -, -, -, m15⟩, c2, f2⟩ := q2
  rw [x2 111 (by decide), x2 101 (by decide)] at c2
  have eV : ∀ p, p < 188 → wvM s p = wvM σ p := eMV x2
  -- what neither touches
  have agC : ∀ C : Nat → Prop, (∀ c, C c → ¬ ((1 ≤ c ∧ c ≤ 46) ∨ c = 3005 ∨ c = 4001 ∨ (102 ≤ c ∧ c ≤ 107) ∨ c = 109 ∨ (112 ≤ c ∧ c ≤ 115) ∨ (1001 ≤ c ∧ c ≤ 1018) ∨ (1025 ≤ c ∧ c ≤ 1030))) → ag C σ z := fun C hC => ag_tr (ag_fr f1 (fun c hc => by have := hC c hc; show ¬ _; unfold wf_20; omega)) (ag_fr f2 (fun c hc => by have := hC c hc; show ¬ _; unfold wf_59; omega))
  have rLz : rL z := by
    have e : z 83 1 = z 101 15 := Int32.toInt_inj.mp (by rw [m2 83 (by decide), x83, m15])
    refine ⟨e, fun i hi => ?_⟩
    rw [ti_nat, m15] at hi
    exact absurd hi (Nat.not_lt_zero i)
  have rIz : rI 188 z := rI_ag hl hI (agC _ (fun c hc => by unfold cI at hc; omega))
  have rWz : rW z := rW_ag hW (agC _ (fun c hc => by unfold cW at hc; omega))
  have xz : wiX z := wx_congr x1 m2
  -- nothing has come
  have none_came : (∀ k, (k < 24 ∨ 46 < k) → k ≠ 83 → s k = σ k) → (∀ p, p < 188 → wvM z p = wvM s p) → z 101 30 = s 101 30 → wR 188 z := fun hs hz h30 => by
    have eX : ∀ p, p < 188 → wvX 1 z p = wvX 1 σ p := fun p hp => wvX_eq (fun p hp => by have := wvJ_le p hp; rw [m2 _ (by omega), hs _ (by omega) (by omega)]) hp
    have eM : ∀ p, p < 188 → wvM z p = wvM σ p := fun p hp => by rw [hz p hp, eV p hp]
    have hVz : rV 188 z := ⟨wvV_cg hV.1 eM, weq_cg hV.2 hl.1 (fun p hp => eM p (by omega)) (fun p hp => eX p (by omega))⟩
    have hSz : rS z := by
      have e30 : z 101 30 = σ 101 30 := by rw [h30, x2 101 (by decide)]
      have e70 : ∀ k, 70 ≤ k → k ≤ 82 → z k = σ k := fun k a b => by rw [m2 k (by omega), hs k (by omega) (by omega)]
      have e117 : z 117 = σ 117 := by
        rw [← x2 117 (by decide)]
        exact funext fun i => f2 117 i (by rw [show wcid 117 i = 117 from rfl]; show ¬ _; unfold wf_59; omega)
      have eT : ∀ j p, p < 188 → wsT z (σ 101 30).toNatClampNeg j p = wsT σ (σ 101 30).toNatClampNeg j p := fun j p hp => by
        unfold wsT
        rw [eM p hp, e117]
      refine ⟨by rw [e70 70 (by omega) (by omega), e30]; exact hS.1, fun j hj => ?_⟩
      rw [e30] at hj ⊢
      rw [e70 70 (by omega) (by omega)]
      have bb := wvV_b (rS_V hV.1 hS (j := j + 1) (by omega))
      have hm8 : ((σ 70 4).toNatClampNeg + j) % 8 < 8 := Nat.mod_lt _ (by decide)
      exact ⟨wvV_cg (hS.2 j hj).1 (fun p hp => eT j p hp), wsU_cg (hS.2 j hj).2 bb.1 bb.2 (by rw [e70 71 (by omega) (by omega)]) (by rw [e70 72 (by omega) (by omega)]) (by rw [e70 73 (by omega) (by omega)]) (e70 _ (by omega) (by omega)) (fun p hp => eT j p hp) (fun p hp => eT _ p hp)⟩
    exact ⟨xz, m1, hVz, rIz, hSz, rLz, rWz⟩
  obtain ⟨c1a, c1b⟩ := c1
  obtain ⟨c2a, c2b⟩ := c2
  have hwp : wpar (σ 84) n (n + 1) 0 = wpar (σ 111) n (n + 1) 0 := wpar_cg hseq _ _
  rw [hwp] at c1a c1b
  cases hb : (wpar (σ 111) n (n + 1) 0).2 with
  | false =>
    obtain ⟨g1, g2⟩ := c1a hb
    obtain ⟨n1, n2, n3⟩ := c2a hb
    exact ⟨none_came g2 n2 (by rw [n3, x2 101 (by decide)]), Int32.toInt_inj.mp (by rw [g1, n1])⟩
  | true =>
    obtain ⟨m, -, hm⟩ := wpar_m (S := σ 84) (n + 1) 0 (by show n < 0 + (n + 1); omega) (fun i hi => absurd hi (Nat.not_lt_zero i)) (by show (wpar (σ 84) n (n + 1) 0).2 = true; rw [hwp]; exact hb) (Or.inl rfl)
    have hm2 := wokm_cg hseq hm
    obtain ⟨g1, g2⟩ := c1b hb m hm
    obtain ⟨n1, n2⟩ := c2b hb m hm2
    obtain ⟨w1, w2⟩ := wr_cg hseq hm m 0 (wvM σ) (by omega)
    -- the reference's house before is s's
    have w3 := wrs_lo hm2 m 0 (wvM s) (wvM σ) (by omega) (wvV_cg hV.1 eV) (fun q hq => eV q (by omega))
    rw [w1, ← w3.1] at g1 g2
    rw [w2] at g1
    cases hf : wrf (σ 111) m 0 (wvM s) with
    | none =>
      obtain ⟨a1, a2, a3⟩ := g1 hf
      obtain ⟨d1, d2, d3⟩ := n1 hf
      have hvv : wvV (wrv (σ 111) m 0 (wvM σ)) := wvV_wrv hm2 m 0 _ (by omega) hV.1 (by rw [← w3.1]; exact hf)
      have dd : ∀ q, q < 188 → wvM z q = wrv (σ 111) m 0 (wvM σ) q := fun q hq => by rw [d2 q hq, w3.2 hf q hq]
      refine ⟨⟨xz, m1, rV_mk hl m2 (fun p _ => rfl) dd dd hvv a2, rIz, rS_0 (by rw [m2 70 (by decide)]; exact a3) d3, rLz, rWz⟩, Int32.toInt_inj.mp (by rw [a1, d1])⟩
    | some q =>
      obtain ⟨a1, a2⟩ := g2 q hf
      obtain ⟨d1, d2, d3⟩ := n2 q hf
      exact ⟨none_came a2 d2 (by rw [d3, x2 101 (by decide)]), Int32.toInt_inj.mp (by rw [a1, d1])⟩
