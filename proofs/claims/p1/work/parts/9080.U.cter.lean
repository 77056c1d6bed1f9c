/-! a terrace as a whole -/
def wpl (S : Nat → Int32) : Nat → Nat
  | 0 => 0
  | j + 1 => wpl S j + wD (S (wpl S j)) + 2
/-- m statements, and nothing behind -/
def wokm (S : Nat → Int32) (n m : Nat) : Prop := (∀ j, j < m → wdok S n (wpl S j)) ∧ wpl S m = n
theorem wpl_lt {S : Nat → Int32} {i j : Nat} (h : i < j) : wpl S i + 2 * (j - i) ≤ wpl S j := by
  induction j with
  | zero => omega
  | succ j ih =>
    show _ ≤ wpl S j + wD (S (wpl S j)) + 2
    by_cases e : i = j
    · subst e; omega
    · have := ih (by omega); omega
theorem wokm_u {S : Nat → Int32} {n m m' : Nat} (h : wokm S n m) (h' : wokm S n m') : m = m' := by
  have e1 := h.2
  have e2 := h'.2
  rcases Nat.lt_trichotomy m m' with q | q | q
  · have := wpl_lt (S := S) q; omega
  · exact q
  · have := wpl_lt (S := S) q; omega
theorem wst_ok {S : Nat → Int32} {n p : Nat} (h : (wst S n p).2 = true) : wdok S n p := by
  obtain ⟨-, h1, h2, h3, h4⟩ := wst_t h
  exact ⟨h1, h2, h3, h4⟩
theorem wpar_m {S : Nat → Int32} {n : Nat} : ∀ (K j : Nat), n < wpl S j + K → (∀ i, i < j → wdok S n (wpl S i)) → (wpar S n K (wpl S j)).2 = true → (j = 0 ∨ wpl S j < n) → ∃ m, j < m ∧ wokm S n m := by
  intro K
  induction K with
  | zero =>
    intro j h1 h2 h3 h4
    rcases h4 with h4 | h4
    · subst h4
      exfalso
      have : wpl S 0 = 0 := rfl
      omega
    · omega
  | succ K ih =>
    intro j h1 h2 h3 h4
    rw [wpar] at h3
    cases hb : (wst S n (wpl S j)).2 with
    | false => rw [hb, if_neg bft] at h3; exact absurd h3 bft
    | true =>
      rw [hb, if_pos rfl] at h3
      obtain ⟨e1, -, -, -, e5⟩ := wst_t hb
      have e2 : (wst S n (wpl S j)).1 = wpl S (j + 1) := e1
      have hall : ∀ i, i < j + 1 → wdok S n (wpl S i) := fun i hi => by
        by_cases e : i = j
        · subst e; exact wst_ok hb
        · exact h2 i (by omega)
      rw [e2] at h3
      by_cases c : wpl S (j + 1) < n
      · rw [if_pos c] at h3
        obtain ⟨m, hm1, hm2⟩ := ih (j + 1) (by have : wpl S (j + 1) = wpl S j + wD (S (wpl S j)) + 2 := rfl; omega) hall h3 (Or.inr c)
        exact ⟨m, by omega, hm2⟩
      · exact ⟨j + 1, by omega, hall, by have : wpl S (j + 1) = wpl S j + wD (S (wpl S j)) + 2 := rfl; omega⟩
/-- r statements from the j-th on: the place of the first that isn't as it must be; the house behind them -/
noncomputable def wrf (S : Nat → Int32) : Nat → Nat → (Nat → Int32) → Option Nat
  | 0, _, _ => none
  | r + 1, j, V => @ite _ (cSt S (wpl S j) V) (Classical.propDecidable _) (wrf S r (j + 1) (aSt S (wpl S j) V)) (some (wpl S j))
noncomputable def wrv (S : Nat → Int32) : Nat → Nat → (Nat → Int32) → (Nat → Int32)
  | 0, _, V => V
  | r + 1, j, V => wrv S r (j + 1) (aSt S (wpl S j) V)
theorem wrf_t {S : Nat → Int32} {r j : Nat} {V : Nat → Int32} (h : cSt S (wpl S j) V) : wrf S (r + 1) j V = wrf S r (j + 1) (aSt S (wpl S j) V) := if_pos h
theorem wrf_f {S : Nat → Int32} {r j : Nat} {V : Nat → Int32} (h : ¬ cSt S (wpl S j) V) : wrf S (r + 1) j V = some (wpl S j) := if_neg h
/-- all but the mind is as it was -/
def outM (σ s : Mem) : Prop := ∀ k, (k < 24 ∨ 46 < k) → s k = σ k
theorem ax_behind {F : Nat} {σ : Mem} {n p : Nat} {x : Int32} (hn : (σ 83 1).toInt = (n : Int)) (hn96 : n ≤ 96) (hp : x.toInt = (p : Int)) (hpn : p < n) (hD : wD (σ 84 p) ≠ 0) : pc (f_X1_behind F x σ) (fun r s => s = σ ∧ r.toInt = ((p + wD (σ 84 p) + 2 : Nat) : Int)) := by
  rw [f_X1_behind_e]
  refine pc_ite (fun c => by have := ti_lt c; rw [tz_0] at this; omega) (fun _ => pc_ite (fun _ => pc_chk (fun _ => pc_be ax_digitsOf (pc_ret ⟨rfl, ?_⟩))) (fun c => by have := ti_nlt c; omega))
  rw [tn_int hp]
  rcases wD_cs (σ 84 p) with ⟨-, h0, -⟩ | ⟨-, h1, h2, h3, -⟩
  · exact absurd h0 hD
  · have e1 : (wt_max (wDi (σ 84 p)) 0).toInt = (wD (σ 84 p) : Int) := by
      unfold wt_max
      rw [if_neg (fun q => by have := ti_lt q; rw [tz_0] at this; omega), h1]
    have e2 : (x + wt_max (wDi (σ 84 p)) 0).toInt = (p : Int) + (wD (σ 84 p) : Int) := by rw [ti_add (by rw [hp, e1]; omega) (by rw [hp, e1]; omega), hp, e1]
    rw [ti_add (by rw [e2, tz_2]; omega) (by rw [e2, tz_2]; omega), e2, tz_2]
    omega
/-- what the class's telling ends with -/
def cTer (S : Nat → Int32) (m j : Nat) (V : Nat → Int32) (σ : Mem) (r : Int32) (s : Mem) : Prop :=
  (wrf S (m - j) j V = none → r.toInt = (m : Int) ∧ weq 188 (wrv S (m - j) j V) (wvX 1 s) ∧ s 70 5 = 0) ∧
  (∀ q, wrf S (m - j) j V = some q → r.toInt = -2000 - (q : Int) ∧ outM σ s)
theorem ax_tellTerrace_35 {F : Nat} (hF : 100000 ≤ F) {σ0 : Mem} {S : Nat → Int32} {n m : Nat} (hS : σ0 84 = S) (hn : (σ0 83 1).toInt = (n : Int)) (hn96 : n ≤ 96) (hm : wokm S n m) : ∀ (N j : Nat) (V : Nat → Int32) (x1 x2 x3 : Int32) (σ : Mem), x1.toInt = (wpl S j : Int) → x2.toInt = (j : Int) → x3.toInt = (j : Int) → j ≤ m → wiX σ → outM σ0 σ → wvV V → weq 188 V (wvX 24 σ) → pc (lp_X3_tellTerrace_35 F N x1 x2 x3 σ) (fun r s => cTer S m j V σ0 r s) := by
  intro N
  induction N with
  | zero => intro j V x1 x2 x3 σ h1 h2 h3 h4 h5 h6 h7 h8; exact pc_none rfl
  | succ N ih =>
    intro j V x1 x2 x3 σ h1 h2 h3 h4 h5 h6 h7 h8
    have e83 : σ 83 = σ0 83 := h6 83 (by omega)
    have e84 : σ 84 = S := (h6 84 (by omega)).trans hS
    have hnσ : (σ 83 1).toInt = (n : Int) := by rw [e83]; exact hn
    rw [lp_X3_tellTerrace_35_s]
    simp only [j_X3_tellTerrace_91_e]
    have hjm : wpl S j + 2 * (m - j) ≤ n := by
      rcases Nat.lt_or_ge j m with q | q
      · have := wpl_lt (S := S) q; have := hm.2; omega
      · have : j = m := by omega
        subst this; have := hm.2; omega
    have h0j : 2 * j ≤ wpl S j := by
      rcases Nat.eq_zero_or_pos j with q | q
      · omega
      · have := wpl_lt (S := S) q; omega
    refine pc_ite (fun c => by have := ti_le c; rw [tz_96] at this; omega) (fun _ => ?_)
    refine pc_ite (fun c => ?_) (fun c => ?_)
    · have hc := ti_le c
      have ej : j = m := by omega
      have em : m - j = 0 := by omega
      refine pc_bnd (ax_takeFrom (by omega)) (fun _ s2 q => pc_be ax_forget (pc_ret ?_))
      unfold cTer
      rw [em]
      refine ⟨fun _ => ⟨by rw [h2, ej], ?_, up2_s⟩, fun q hq => absurd hq (by intro w; cases w)⟩
      exact weq_cg h8 (by omega) (fun _ _ => rfl) (fun p hp => by rw [wvX_k (by omega) (by omega)]; exact q p (by omega))
    · have hc := ti_nle c
      have hjm2 : j < m := by
        rcases Nat.lt_or_ge j m with q | q
        · exact q
        · exfalso
          have : j = m := by omega
          subst this; have := hm.2; omega
      have hd := hm.1 j hjm2
      have hdσ : wdok (σ 84) n (wpl S j) := by rw [e84]; exact hd
      obtain ⟨r0, er⟩ : ∃ r0, m - j = r0 + 1 := ⟨m - j - 1, by omega⟩
      have er2 : m - (j + 1) = r0 := by omega
      refine pc_bnd (pc_and (ax_tell (by omega) h5 hnσ hn96 h1 hdσ (wvV_weq h7 h8)) (pc_and (pc_pf (fr_X1_tell (by omega) wt_h24)) (sf_pc (s_X1_tell hF wt_h24 h5 (ti_lo _) (by omega))))) (fun r s6 q => ?_)
      obtain ⟨q1, q2, q3⟩ := q
      have o6 : outM σ0 s6 := fun k hk => by
        rw [← h6 k hk]
        exact fr_reg q2 (by unfold wf_11; omega) (fun c hc => by unfold wf_11; omega)
      have e0 : wvX 24 σ 0 = V 0 := weq_lo h8 (by omega) (by decide)
      have e1 : wvX 24 σ 1 = V 1 := weq_lo h8 (by omega) (by decide)
      have e3 : wvX 24 σ 3 = V 3 := weq_lo h8 (by omega) (by decide)
      have hcs : cSt (σ 84) (wpl S j) (wvX 24 σ) ↔ cSt S (wpl S j) V := by rw [e84]; exact cSt_cg e0 e1 e3
      by_cases hc2 : cSt S (wpl S j) V
      · obtain ⟨r1, r2⟩ := q1.1 (hcs.mpr hc2)
        rw [r1, if_neg (by decide)]
        have e84' : s6 84 = S := (o6 84 (by omega)).trans hS
        have hn6 : (s6 83 1).toInt = (n : Int) := by rw [o6 83 (by omega)]; exact hn
        refine pc_bnd (ax_behind hn6 hn96 h1 hd.1 (by rw [e84']; exact hd.2.1)) (fun r7 s8 w => ?_)
        obtain ⟨rfl, w⟩ := w
        rw [e84'] at w
        have hw : weq 188 (aSt S (wpl S j) V) (wvX 24 s8) := by
          rw [e84] at r2
          exact weq_cg (weq_aSt (by omega) h7 h8 hd hc2) (by omega) (fun _ _ => rfl) (fun p hp => r2 p hp)
        have hcount : j < 1000 := by omega
        refine pc_mono (ih (j + 1) (aSt S (wpl S j) V) _ _ _ s8 w (ti_nx h2 (by omega)) (ti_nx h3 (by omega)) hjm2 q3.1 o6 (wvV_aSt h7 hd hc2) hw) (fun a s z => ?_)
        unfold cTer at z ⊢
        rw [er, wrf_t hc2]
        rw [er2] at z
        exact z
      · have r0' := q1.2 (fun w => hc2 (hcs.mp w))
        rw [r0', if_pos rfl]
        refine pc_ret ?_
        unfold cTer
        rw [er, wrf_f hc2]
        refine ⟨fun w => (by cases w), fun q hq => ?_⟩
        cases hq
        refine ⟨?_, o6⟩
        have e20 : (-2000 : Int32).toInt = -2000 := rfl
        rw [ti_sub (by rw [e20, h1]; omega) (by rw [e20, h1]; omega), e20, h1]
theorem cx_terrace {F : Nat} (hF : 100000 ≤ F) {σ : Mem} {n : Nat} (hX : wiX σ) (hn : (σ 83 1).toInt = (n : Int)) (hn96 : n ≤ 96) {V : Nat → Int32} (hv : wvV V) (hw : weq 188 V (wvX 1 σ)) : pc (f_X3_terrace F σ) (fun r s => ((wpar (σ 84) n (n + 1) 0).2 = false → r.toInt = -1000 - ((wpar (σ 84) n (n + 1) 0).1 : Int) ∧ ∀ k, (k < 24 ∨ 46 < k) → k ≠ 83 → s k = σ k) ∧ ((wpar (σ 84) n (n + 1) 0).2 = true → ∀ m, wokm (σ 84) n m → (wrf (σ 84) m 0 V = none → r.toInt = (m : Int) ∧ weq 188 (wrv (σ 84) m 0 V) (wvX 1 s) ∧ s 70 5 = 0) ∧ (∀ q, wrf (σ 84) m 0 V = some q → r.toInt = -2000 - (q : Int) ∧ ∀ k, (k < 24 ∨ 46 < k) → k ≠ 83 → s k = σ k))) := by
  rw [f_X3_terrace_e, f_X3_tellTerrace_e]
  refine pc_bnd (P := fun r s => ((wpar (σ 84) n (n + 1) 0).2 = false → r.toInt = -1000 - ((wpar (σ 84) n (n + 1) 0).1 : Int) ∧ s = σ) ∧ ((wpar (σ 84) n (n + 1) 0).2 = true → ∀ m, wokm (σ 84) n m → cTer (σ 84) m 0 V σ r s)) ?_ (fun r s2 q => pc_lt (fun s3 h3 => pc_ret ⟨fun hb => ?_, fun hb m hm => ?_⟩))
  · refine pc_bnd (pc_and (ax_faultOfForm hn hn96) (sf_pc (s_X1_faultOfForm hF hX))) (fun r9 s10 q => ?_)
    obtain ⟨⟨rfl, q1, q2⟩, -, q3, q4⟩ := q
    cases hb : (wpar (s10 84) n (n + 1) 0).2 with
    | false =>
      have hr := q2 hb
      refine pc_ite (fun c => by have := ti_lt c; rw [tz_0] at this; omega) (fun _ => pc_ret ⟨fun _ => ⟨?_, rfl⟩, fun w => absurd w bft⟩)
      have e10 : (-1000 : Int32).toInt = -1000 := rfl
      rw [ti_sub (by rw [e10, hr]; omega) (by rw [e10, hr]; omega), e10, hr]
    | true =>
      have hr := q1 hb
      refine pc_ite (fun _ => ?_) (fun c => absurd (by rw [hr]; decide) c)
      refine pc_bnd (pc_and (ax_takeFrom (by omega)) (pc_and (pc_pf (fr_X0_takeFrom (by omega) wt_h24 wt_h1)) (sf_pc (s_X0_takeFrom hF wt_h24 wt_h1 hX)))) (fun _ s12 w => ?_)
      obtain ⟨w1, w2, w3⟩ := w
      have o : outM s10 s12 := fun k hk => fr_reg w2 (by unfold wf_0; omega) (fun c hc => by unfold wf_0; omega)
      intro a s e
      refine ⟨fun w => absurd w btf, fun _ m hm => ?_⟩
      exact ax_tellTerrace_35 hF rfl hn hn96 hm F 0 V 0 0 0 s12 rfl rfl rfl (by omega) w3.1 o hv (weq_cg hw (by omega) (fun _ _ => rfl) (fun p hp => w1 p (by omega))) a s e
  · obtain ⟨e1, e2⟩ := q.1 hb
    exact ⟨e1, fun k hk n83 => by rw [h3, up2_k n83, e2]⟩
  · obtain ⟨e1, e2⟩ := q.2 hb m hm
    rw [show m - 0 = m from rfl] at e1 e2
    refine ⟨fun h => ?_, fun q hq => ?_⟩
    · obtain ⟨g1, g2, g3⟩ := e1 h
      exact ⟨g1, weq_cg g2 (by omega) (fun _ _ => rfl) (fun p hp => by rw [h3, wvX_k (by omega) (by omega)]), by rw [h3, up2_k (by decide)]; exact g3⟩
    · obtain ⟨g1, g2⟩ := e2 q hq
      exact ⟨g1, fun k hk n83 => by rw [h3, up2_k n83, g2 k hk]⟩
