section
theorem aSt_lo {S : Nat → Int32} {n p : Nat} {A B : Nat → Int32} (hv : wvV B) (h : lo148 A B) (hd : wdok S n p) : lo148 (aSt S p A) (aSt S p B) := by
  have h0 := h 0 (by decide)
  have h1 := h 1 (by decide)
  have h3 := h 3 (by decide)
  intro q hq
  have hh := h q hq
  rcases wD_cs (S p) with ⟨-, g0, -⟩ | ⟨-, -, -, -, e⟩
  · exact absurd g0 hd.2.1
  have bd : ∀ (i d : Nat), d ≤ 3 → i + d ≤ wD (S p) → 0 ≤ (wnum S (p + 1 + i) d).toInt ∧ (wnum S (p + 1 + i) d).toInt < (10 : Int) ^ d := fun i d h1 h2 => (wdok_b hd i d h1 h2).2.2
  rcases e with e | e | e | e | e | e | e
  · rw [(cSt_100 e).2, (cSt_100 e).2]; exact aDay_cg hv h hq
  · rw [(cSt_108 e).2, (cSt_108 e).2]; unfold aLooker; rw [h1, hh]
  · rw [(cSt_112 e).2, (cSt_112 e).2]; unfold aPane; rw [h0]; exact upd_cg (upd_cg hh rfl) rfl
  · rw [(cSt_115 e).2, (cSt_115 e).2]; unfold aStand; rw [hh]
  · rw [(cSt_117 e).2, (cSt_117 e).2]; unfold aLaw; exact upd_cg hh rfl
  · rw [(cSt_118 e).2, (cSt_118 e).2]; unfold aWorth; exact upd_cg hh rfl
  · rw [(cSt_119 e).2, (cSt_119 e).2]; unfold aWall
    have hb := bd 0 1 (by decide) (by rw [e]; decide)
    rw [show p + 1 + 0 = p + 1 from rfl] at hb
    have ht := ti_nat (wnum S (p + 1) 1)
    exact upd_cg hh (by rw [h _ (by omega)])
theorem wpl_3 {S : Nat → Int32} {n : Nat} : ∀ {k : Nat} {σ : Mem}, mInfo S n k σ → 3 * k ≤ wpl S k := by
  intro k
  induction k with
  | zero => intro σ _; exact Nat.zero_le _
  | succ k ih =>
    intro σ h
    have h1 := ih (fun j hj => h j (by omega))
    have h2 := (h k (by omega)).2.2.2.2.1
    show 3 * (k + 1) ≤ wpl S k + wD (S (wpl S k)) + 2
    omega
/-- the reference's statements come, one after the other -/
def mTer (S : Nat → Int32) (m j : Nat) (V A0 : Nat → Int32) (y : Int32) (r : Int32) (s : Mem) : Prop :=
  (wrf S (m - j) j V = none → r.toInt = (m : Int) ∧ lo148 (wvM s) (wrv S (m - j) j V) ∧ s 101 30 = 0) ∧
  (∀ q, wrf S (m - j) j V = some q → r.toInt = -2000 - (q : Int) ∧ (∀ p, p < 188 → wvM s p = A0 p) ∧ s 101 30 = y)
theorem mx_terrace_79 {F : Nat} (hF : 73786976294838206464 ≤ F) {S : Nat → Int32} {n m : Nat} (hn96 : n ≤ 96) (hm : wokm S n m) (hm47 : m ≤ 48) {A0 : Nat → Int32} {y : Int32} : ∀ (N j : Nat) (V : Nat → Int32) (x1 : Int32) (σ : Mem), x1.toInt = (j : Int) → j ≤ m → wiM σ → (σ 101 18).toInt = (m : Int) → mInfo S n m σ → lo148 (wvM σ) V → (∀ p, p < 188 → σ 115 p = A0 p) → σ 101 30 = y → wvV V → pc (lp_X4_terrace_79 F N x1 σ) (fun r s => mTer S m j V A0 y r s) := by
  intro N
  induction N with
  | zero => intro j V x1 σ h1 h2 h3 h4 h5 h6 h7 h8 h9; exact pc_none rfl
  | succ N ih =>
    intro j V x1 σ h1 h2 h3 h4 h5 h6 h7 h8 h9
    rw [lp_X4_terrace_79_s]
    refine pc_ite (fun c => ?_) (fun c => ?_)
    · have hc := ti_le c
      have ej : j = m := by omega
      have em : m - j = 0 := by omega
      refine pc_lt (fun s3 h => pc_ret ?_)
      unfold mTer
      rw [em]
      refine ⟨fun _ => ⟨by rw [h, up2_i (by decide)]; exact h4, fun q hq => by rw [h, wvM_no (by omega) (by omega) (by omega)]; exact h6 q hq, by rw [h, up2_s]⟩, fun q hq => absurd hq (by intro w; cases w)⟩
    · have hc := ti_nle c
      have hjm2 : j < m := by omega
      obtain ⟨i1, i2, i3, hd⟩ := h5 j hjm2
      obtain ⟨r0, er⟩ : ∃ r0, m - j = r0 + 1 := ⟨m - j - 1, by omega⟩
      have er2 : m - (j + 1) = r0 := by omega
      refine pc_bnd (pc_and (mx_comesTold (by omega) h3 h1 (by omega) i2 i3 hd (wvV_cg h9 h6)) (pc_and (pc_pf (fr_X4_comesTold (by omega))) (sf_pc (s_X4_comesTold hF h3 (by omega) (by omega))))) (fun r s5 q => ?_)
      obtain ⟨q1, q2, q3⟩ := q
      have o : ∀ j i, j = 112 ∨ j = 113 ∨ j = 114 ∨ j = 115 → s5 j i = σ j i := fun j i h => q2 j i (by
        rw [wcid_M (by omega)]; show ¬ _; unfold wf_56; omega)
      have e18 : s5 101 18 = σ 101 18 := q3.2.2.2.2.2.1
      have e30 : s5 101 30 = σ 101 30 := q3.2.2.2.2.1
      have e0 : wvM σ 0 = V 0 := h6 0 (by decide)
      have e1 : wvM σ 1 = V 1 := h6 1 (by decide)
      have e3 : wvM σ 3 = V 3 := h6 3 (by decide)
      have hcs : cSt S (wpl S j) (wvM σ) ↔ cSt S (wpl S j) V := cSt_cg e0 e1 e3
      by_cases hc2 : cSt S (wpl S j) V
      · obtain ⟨r1, r2⟩ := q1.1 (hcs.mpr hc2)
        rw [r1, if_neg (by decide)]
        refine pc_mono (ih (j + 1) (aSt S (wpl S j) V) _ s5 (ti_nx h1 (by omega)) hjm2 q3.1 (by rw [e18]; exact h4) (mInfo_k h5 (fun j _ => ⟨o 112 j (by omega), o 113 j (by omega)⟩) (fun i _ => o 114 i (by omega))) (fun q hq => ?_) (fun p hp => by rw [o 115 p (by omega)]; exact h7 p hp) (by rw [e30]; exact h8) (wvV_aSt h9 hd hc2)) (fun a s z => ?_)
        · rw [r2 q hq]
          exact aSt_lo h9 h6 hd q hq
        · unfold mTer at z ⊢
          rw [er, wrf_t hc2]
          rw [er2] at z
          exact z
      · have r0' := q1.2 (fun w => hc2 (hcs.mp w))
        rw [r0', if_pos rfl, f_X4_again_e]
        refine pc_bnd (P := fun _ s => (∀ p, p < 188 → wvM s p = A0 p) ∧ s 101 30 = y ∧ s 112 = s5 112) ?_ (fun _ s7 z => pc_chk (fun _ => pc_ret ?_))
        · refine pc_bnd (sf_pc (wt_carryAll (by omega) (Or.inl rfl) (by unfold wiK; omega))) (fun _ s4 w => pc_ret ⟨fun p hp => ?_, ?_, ?_⟩)
          · exact ((w.2.2.2.2 rfl).1 p hp).trans ((o 115 p (by omega)).trans (h7 p hp))
          · rw [wt_Car_fld (by unfold wiK; omega) w (by omega) (by omega), e30]; exact h8
          · exact wt_Car_reg w (by decide) (by omega)
        · unfold mTer
          rw [er, wrf_f hc2]
          refine ⟨fun w => (by cases w), fun q hq => ?_⟩
          cases hq
          refine ⟨?_, z.1, z.2.1⟩
          have e20 : (-2000 : Int32).toInt = -2000 := rfl
          have ep : (s7 112 x1.toNatClampNeg).toInt = (wpl S j : Int) := by rw [z.2.2, tn_int h1, o 112 j (by omega)]; exact i1
          have hle : wpl S j < n := hd.1
          rw [ti_sub (by rw [e20, ep]; omega) (by rw [e20, ep]; omega), e20, ep]
/-- the whole terrace on the reference's side, from the fault of form's place or the statements -/
def mTer0 (S : Nat → Int32) (n K p : Nat) (V A0 : Nat → Int32) (y : Int32) (r : Int32) (s : Mem) : Prop :=
  ((wpar S n K p).2 = false → r.toInt = -1000 - ((wpar S n K p).1 : Int) ∧ (∀ p, p < 188 → wvM s p = A0 p) ∧ s 101 30 = y) ∧
  ((wpar S n K p).2 = true → ∀ m, wokm S n m → (wrf S m 0 V = none → r.toInt = (m : Int) ∧ lo148 (wvM s) (wrv S m 0 V) ∧ s 101 30 = 0) ∧ (∀ q, wrf S m 0 V = some q → r.toInt = -2000 - (q : Int) ∧ (∀ p, p < 188 → wvM s p = A0 p) ∧ s 101 30 = y))
theorem mx_terrace_52 {F : Nat} (hF : 73786976294838206464 ≤ F) {σ : Mem} {S : Nat → Int32} {n m : Nat} (hn96 : n ≤ 96) (hm : wokm S n m) (h17 : σ 101 17 = 0) (hM : wiM σ) (h18 : (σ 101 18).toInt = (m : Int)) (hI : mInfo S n m σ) {A0 : Nat → Int32} {y : Int32} (hA : ∀ p, p < 188 → wvM σ p = A0 p) (hy : σ 101 30 = y) (hv : wvV A0) : pc (j_X4_terrace_52 F σ) (fun r s => mTer S m 0 A0 A0 y r s) := by
  rw [j_X4_terrace_52_e]
  have hm48 : m ≤ 48 := by
    rcases Nat.eq_zero_or_pos m with q | q
    · omega
    · have := wpl_lt (S := S) q; have := hm.2; omega
  refine pc_lt (fun s9 g9 => ?_)
  have e17 : s9 101 17 = 0 := by rw [g9, up2_i (by decide)]; exact h17
  rw [e17, if_pos rfl, f_X4_think_e]
  have I9 : wiM s9 := by rw [g9]; exact wx_put_X4_15 hM (by decide) (by decide)
  have V9 : ∀ p, p < 188 → wvM s9 p = A0 p := fun p hp => by rw [g9, wvM_no (by omega) (by omega) hp]; exact hA p hp
  refine pc_bnd (P := fun _ s => wiM s ∧ (∀ p, p < 188 → s 115 p = A0 p) ∧ (∀ p, p < 188 → wvM s p = A0 p) ∧ s 101 30 = s9 101 30 ∧ s 101 18 = s9 101 18 ∧ (∀ j, 112 ≤ j → j ≤ 114 → s j = s9 j)) ?_ (fun _ s11 z => ?_)
  · refine pc_bnd (sf_pc (wt_carryAll (by omega) (Or.inr rfl) (by unfold wiK; omega))) (fun _ s4 w => pc_ret ⟨wt_Car_wiM (by unfold wiK; omega) I9 w, fun p hp => ?_, fun p hp => ?_, wt_Car_fld (by unfold wiK; omega) w (by omega) (by omega), wt_Car_fld (by unfold wiK; omega) w (by omega) (by omega), fun j a b => wt_Car_reg w (by omega) (by omega)⟩)
    · exact ((w.2.2.2.1 (by decide)).1 p hp).trans (V9 p hp)
    · exact (wt_Car_took (by unfold wiK; omega) (by decide) w (wtHd_no hp) (by have := wtJ_101 p hp; omega)).trans (V9 p hp)
  · obtain ⟨z1, z2, z3, z4, z5, z6⟩ := z
    have o9 : ∀ j i, j ≠ 101 → s9 j i = σ j i := fun j i h => by rw [g9, up2_k h]
    refine mx_terrace_79 hF hn96 hm hm48 F 0 A0 0 s11 rfl (by omega) z1 (by rw [z5, g9, up2_i (by decide)]; exact h18) (mInfo_k hI (fun j _ => ⟨by rw [z6 112 (by decide) (by decide), o9 112 j (by decide)], by rw [z6 113 (by decide) (by decide), o9 113 j (by decide)]⟩) (fun i _ => by rw [z6 114 (by decide) (by decide), o9 114 i (by decide)])) (fun q hq => z3 q (by omega)) z2 (by rw [z4, g9, up2_i (by decide)]; exact hy) hv
theorem mx_terrace_20 {F : Nat} (hF : 73786976294838206464 ≤ F) {S : Nat → Int32} {n : Nat} (hn96 : n ≤ 96) {A0 : Nat → Int32} (hv : wvV A0) {y : Int32} : ∀ (N K k : Nat) (σ : Mem), wiM σ → σ 111 = S → (σ 101 15).toInt = (n : Int) → (σ 101 16).toInt = (wpl S k : Int) → wpl S k ≤ n → σ 101 17 = 0 → (σ 101 18).toInt = (k : Int) → mInfo S n k σ → (k = 0 ∨ wpl S k < n) → n < wpl S k + K → (∀ p, p < 188 → wvM σ p = A0 p) → σ 101 30 = y → pc (lp_X4_terrace_20 F N σ) (fun r s => mTer0 S n K (wpl S k) A0 A0 y r s) := by
  intro N
  induction N with
  | zero => intro K k σ h1 h2 h3 h4 h4' h5 h6 h7 h8 h9 h10 h11; exact pc_none rfl
  | succ N ih =>
    intro K k σ h1 h2 h3 h4 h4' h5 h6 h7 h8 h9 h10 h11
    have hk48 : k ≤ 48 := by
      rcases Nat.eq_zero_or_pos k with q | q
      · omega
      · have := wpl_lt (S := S) q; omega
    have hk47 : k ≤ 47 ∨ k = 48 := by omega
    rw [lp_X4_terrace_20_s]
    simp only [j_X4_terrace_45_e]
    have hk31 : k ≤ 31 := by
      have h3k : 3 * k ≤ wpl S k := wpl_3 h7
      rcases h8 with h8 | h8 <;> omega
    have hIs : pc (f_X4_readStatement F σ) (fun _ s => wiM s) := pc_mono (sf_pc (s_X4_readStatement hF h1 (by omega))) (fun _ s q => q.1)
    have read : pc (wt_bnd (f_X4_readStatement F σ) fun r1 s2 => lp_X4_terrace_20 F N s2) (fun r s => mTer0 S n K (wpl S k) A0 A0 y r s) := by
      refine pc_bnd (pc_and (mx_readStatement hn96 h4' hk48 h4 h5 h6 h2 h3) (pc_and (pc_pf (fr_X4_readStatement (by omega))) (hIs))) (fun _ s2 q => ?_)
      obtain ⟨⟨q1, q2, q3, q4, q5⟩, f, hI2⟩ := q
      have o : ∀ j i, j ≠ 101 → ¬ (112 ≤ j ∧ j ≤ 114) → s2 j i = σ j i := fun j i a b => q5 j i (by omega) (by omega) (by omega)
      have hV2 : ∀ p, p < 188 → wvM s2 p = A0 p := fun p hp => by
        rw [← h10 p hp]
        exact wvM_fr f (fun c hc => by show ¬ _; unfold wf_53; omega) hp
      have e30 : s2 101 30 = y := by rw [q5 101 30 (by omega) (by omega) (by omega)]; exact h11
      have e15 : (s2 101 15).toInt = (n : Int) := by rw [q5 101 15 (by omega) (by omega) (by omega)]; exact h3
      obtain ⟨K, rfl⟩ : ∃ K', K = K' + 1 := ⟨K - 1, by omega⟩
      have hw : wpar S n (K + 1) (wpl S k) = if (wst S n (wpl S k)).2 then (if (wst S n (wpl S k)).1 < n then wpar S n K (wst S n (wpl S k)).1 else ((wst S n (wpl S k)).1, true)) else ((wst S n (wpl S k)).1, false) := rfl
      cases hb : (wst S n (wpl S k)).2 with
      | false =>
        rw [hb, if_neg bft] at hw q2
        cases N with
        | zero => exact pc_none rfl
        | succ N =>
          rw [lp_X4_terrace_20_s, q2, if_neg (by decide), j_X4_terrace_52_e]
          refine pc_lt (fun s9 g9 => ?_)
          have e17 : s9 101 17 = 1 := by rw [g9, up2_i (by decide)]; exact q2
          have e16 : s9 101 16 = s2 101 16 := by rw [g9, up2_i (by decide)]
          rw [e17, if_neg (by decide)]
          refine pc_ret ?_
          unfold mTer0
          rw [hw]
          refine ⟨fun _ => ⟨?_, fun p hp => by rw [g9, wvM_no (by omega) (by omega) hp]; exact hV2 p hp, by rw [g9, up2_i (by decide)]; exact e30⟩, fun w => absurd w bft⟩
          have e10 : (-1000 : Int32).toInt = -1000 := rfl
          have hle := wx_X4_16 hI2
          have h0 : (0 : Int) ≤ ((wst S n (wpl S k)).1 : Int) := by omega
          rw [e16, ti_sub (by rw [e10, q1]; omega) (by rw [e10, q1]; omega), e10, q1]
      | true =>
        rw [hb, if_pos rfl] at hw q2
        obtain ⟨e1, e2, -, -, e5⟩ := wst_t hb
        have ep : (wst S n (wpl S k)).1 = wpl S (k + 1) := e1
        rw [ep] at hw q1
        have hstep : wpl S (k + 1) = wpl S k + wD (S (wpl S k)) + 2 := rfl
        have hI : mInfo S n (k + 1) s2 := fun j hj => by
          by_cases e : j = k
          · subst e
            obtain ⟨a1, a2, a3⟩ := q4 hb
            exact ⟨a1, a2, a3, wst_ok hb⟩
          · exact mInfo_k h7 (fun j hj => ⟨q5 112 j (by omega) (by omega) (by omega), q5 113 j (by omega) (by omega) (by omega)⟩) (fun i hi => q5 114 i (by omega) (by omega) (by omega)) j (by omega)
        by_cases c : wpl S (k + 1) < n
        · rw [if_pos c] at hw
          refine pc_mono (ih K (k + 1) s2 hI2 ((funext fun i => o 111 i (by omega) (by omega)).trans h2) e15 q1 (by omega) q2 q3 hI (Or.inr c) (by omega) hV2 e30) (fun r s z => ?_)
          unfold mTer0 at z ⊢
          rw [hw]
          exact z
        · rw [if_neg c] at hw
          have hm : wokm S n (k + 1) := ⟨fun j hj => (hI j hj).2.2.2, by omega⟩
          cases N with
          | zero => exact pc_none rfl
          | succ N =>
            rw [lp_X4_terrace_20_s, q2, if_pos rfl]
            refine pc_ite (fun c0 => ?_) (fun _ => pc_ite (fun _ => ?_) (fun c3 => ?_))
            · exfalso
              have := ti_eq c0
              rw [q3, tz_0] at this
              omega
            · refine pc_mono (mx_terrace_52 hF hn96 hm q2 hI2 q3 hI hV2 e30 hv) (fun r s z => ?_)
              unfold mTer0
              rw [hw]
              refine ⟨fun w => absurd w btf, fun _ m' hm' => ?_⟩
              have em := wokm_u hm' hm
              subst em
              exact z
            · exfalso
              have := ti_nle c3
              rw [e15, q1] at this
              omega
    rw [h5, if_pos rfl]
    refine pc_ite (fun _ => read) (fun c0 => pc_ite (fun c => ?_) (fun _ => read))
    exfalso
    have h01 := ti_ne c0
    have h02 := ti_le c
    rw [h6, tz_0] at h01
    rw [h3, h4] at h02
    omega
theorem cm_terrace {F : Nat} (hF : 73786976294838206464 ≤ F) {σ : Mem} {n : Nat} (hM : wiM σ) (hn : (σ 101 15).toInt = (n : Int)) (hn96 : n ≤ 96) (hv : wvV (wvM σ)) : pc (f_X4_terrace F σ) (fun r s => mTer0 (σ 111) n (n + 1) 0 (wvM σ) (wvM σ) (σ 101 30) r s) := by
  rw [f_X4_terrace_e]
  refine pc_lt (fun s1 g1 => pc_lt (fun s2 g2 => pc_lt (fun s3 g3 => pc_lt (fun s4 g4 => ?_))))
  have o : ∀ j i, ¬ (j = 101 ∧ (i = 10 ∨ i = 16 ∨ i = 17 ∨ i = 18)) → s4 j i = σ j i := fun j i h => by rw [g4, wm_key, if_neg (by omega), g3, wm_key, if_neg (by omega), g2, wm_key, if_neg (by omega), g1, wm_key, if_neg (by omega)]
  have I4 : wiM s4 := by
    rw [g4]
    refine wx_put_X4_18 ?_ (by decide) (by decide)
    rw [g3]
    refine wm_fld ?_ (by decide) (by decide) (by decide) (by decide) (by decide) (by decide) (by decide)
    rw [g2]
    refine wx_put_X4_16 ?_ (by decide) (by decide)
    rw [g1]
    exact wm_fld hM (by decide) (by decide) (by decide) (by decide) (by decide) (by decide) (by decide)
  have hV : ∀ p, p < 188 → wvM s4 p = wvM σ p := fun p hp => by
    rw [g4, wvM_no (by omega) (by omega) hp, g3, wvM_no (by omega) (by omega) hp, g2, wvM_no (by omega) (by omega) hp, g1, wvM_no (by omega) (by omega) hp]
  have r16 : s4 101 16 = 0 := by rw [g4, up2_i (by decide), g3, up2_i (by decide), g2, up2_s]
  have r17 : s4 101 17 = 0 := by rw [g4, up2_i (by decide), g3, up2_s]
  have r18 : s4 101 18 = 0 := by rw [g4, up2_s]
  exact mx_terrace_20 hF hn96 hv F (n + 1) 0 s4 I4 (funext fun i => o 111 i (by omega)) (by rw [o 101 15 (by omega)]; exact hn) (by rw [r16]; rfl) (Nat.zero_le _) r17 (by rw [r18]; rfl) (fun j hj => absurd hj (Nat.not_lt_zero j)) (Or.inl rfl) (by show n < 0 + (n + 1); omega) hV (o 101 30 (by omega))
end
section
theorem S_eq {σ : Mem} {n : Nat} (h : ∀ i, i < n → σ 84 i = σ 111 i) : ∀ (d i : Nat), i + d ≤ n → wnum (σ 84) i d = wnum (σ 111) i d := by
  intro d
  induction d with
  | zero => intro i _; rfl
  | succ d ih =>
    intro i hi
    show wnum (σ 84) i d * 10 + (σ 84 (i + d) - 48) = wnum (σ 111) i d * 10 + (σ 111 (i + d) - 48)
    rw [ih i (by omega), h (i + d) (by omega)]
/-- letters alike below n: the same form, the same statements -/
def seq (n : Nat) (S T : Nat → Int32) : Prop := ∀ i, i < n → S i = T i
theorem wfd_cg {n : Nat} {S T : Nat → Int32} (h : seq n S T) : ∀ (d i : Nat), wfd S n d i = wfd T n d i := by
  intro d
  induction d with
  | zero =>
    intro i
    rw [wfd, wfd]
    by_cases c : i < n
    · rw [h i c]
    · rw [if_neg (fun q => c q.1), if_neg (fun q => c q.1)]
  | succ d ih =>
    intro i
    rw [wfd_s, wfd_s]
    by_cases c : i < n
    · have e := h i c
      by_cases c2 : wdg S n i
      · rw [if_pos c2, if_pos ⟨c2.1, by rw [← e]; exact c2.2⟩]; exact ih (i + 1)
      · rw [if_neg c2, if_neg (fun q => c2 ⟨q.1, by rw [e]; exact q.2⟩)]
    · rw [if_neg (fun q => c q.1), if_neg (fun q => c q.1)]
theorem wst_cg {n : Nat} {S T : Nat → Int32} (h : seq n S T) (p : Nat) : wst S n p = wst T n p := by
  unfold wst
  by_cases c : p < n
  · rw [h p c, wfd_cg h]
  · rw [if_neg (fun q => c q.1), if_neg (fun q => c q.1)]
theorem wpar_cg {n : Nat} {S T : Nat → Int32} (h : seq n S T) : ∀ (K p : Nat), wpar S n K p = wpar T n K p := by
  intro K
  induction K with
  | zero => intro p; rfl
  | succ K ih =>
    intro p
    rw [wpar, wpar, wst_cg h, ih]
theorem wdok_cg {n p : Nat} {S T : Nat → Int32} (h : seq n S T) (hd : wdok S n p) : wdok T n p := by
  obtain ⟨h1, h2, h3, h4⟩ := hd
  rw [h p h1] at h2 h3 h4
  exact ⟨h1, h2, fun k hk => by have := h3 k hk; exact ⟨this.1, by rw [← h _ this.1]; exact this.2⟩, h4⟩
theorem wpl_cg {n m : Nat} {S T : Nat → Int32} (h : seq n S T) (hm : wokm S n m) : ∀ j, j ≤ m → wpl S j = wpl T j := by
  intro j
  induction j with
  | zero => intro _; rfl
  | succ j ih =>
    intro hj
    have e := ih (by omega)
    have hd := hm.1 j (by omega)
    show wpl S j + wD (S (wpl S j)) + 2 = wpl T j + wD (T (wpl T j)) + 2
    rw [← e, h _ hd.1]
theorem wokm_cg {n m : Nat} {S T : Nat → Int32} (h : seq n S T) (hm : wokm S n m) : wokm T n m :=
  ⟨fun j hj => by rw [← wpl_cg h hm j (by omega)]; exact wdok_cg h (hm.1 j hj), by rw [← wpl_cg h hm m (Nat.le_refl _)]; exact hm.2⟩
theorem wnum_cg {n : Nat} {S T : Nat → Int32} (h : seq n S T) : ∀ (d i : Nat), i + d ≤ n → wnum S i d = wnum T i d := by
  intro d
  induction d with
  | zero => intro i _; rfl
  | succ d ih =>
    intro i hi
    show wnum S i d * 10 + (S (i + d) - 48) = wnum T i d * 10 + (T (i + d) - 48)
    rw [ih i (by omega), h (i + d) (by omega)]
theorem aSt_cg {n p : Nat} {S T : Nat → Int32} (h : seq n S T) (hd : wdok S n p) (V : Nat → Int32) : aSt S p V = aSt T p V ∧ (cSt S p V ↔ cSt T p V) := by
  have e := h p hd.1
  have w : ∀ i d, i + d ≤ wD (S p) → wnum S (p + 1 + i) d = wnum T (p + 1 + i) d := fun i d hi => wnum_cg h d _ (by have := hd.2.2.2; omega)
  rcases wD_cs (S p) with ⟨-, g0, -⟩ | ⟨-, -, -, -, c⟩
  · exact absurd g0 hd.2.1
  rcases c with c | c | c | c | c | c | c
  · have c' := e.symm.trans c
    have a1 := w 0 2 (by rw [c]; decide)
    rw [show p + 1 + 0 = p + 1 from rfl] at a1
    rw [(cSt_100 c).2, (cSt_100 c').2, (cSt_100 c).1, (cSt_100 c').1, a1]; exact ⟨rfl, Iff.rfl⟩
  · have c' := e.symm.trans c
    have a1 := w 0 1 (by rw [c]; decide)
    have a2 := w 1 1 (by rw [c]; decide)
    rw [show p + 1 + 0 = p + 1 from rfl] at a1
    rw [show p + 1 + 1 = p + 2 from rfl] at a2
    rw [(cSt_108 c).2, (cSt_108 c').2, (cSt_108 c).1, (cSt_108 c').1, a1, a2]; exact ⟨rfl, Iff.rfl⟩
  · have c' := e.symm.trans c
    have a1 := w 0 3 (by rw [c]; decide)
    rw [show p + 1 + 0 = p + 1 from rfl] at a1
    rw [(cSt_112 c).2, (cSt_112 c').2, (cSt_112 c).1, (cSt_112 c').1, a1]; exact ⟨rfl, Iff.rfl⟩
  · have c' := e.symm.trans c
    have a1 := w 0 1 (by rw [c]; decide)
    have a2 := w 1 2 (by rw [c]; decide)
    have a3 := w 3 2 (by rw [c]; decide)
    have a4 := w 5 1 (by rw [c]; decide)
    rw [show p + 1 + 0 = p + 1 from rfl] at a1
    rw [show p + 1 + 1 = p + 2 from rfl] at a2
    rw [show p + 1 + 3 = p + 4 from rfl] at a3
    rw [show p + 1 + 5 = p + 6 from rfl] at a4
    rw [(cSt_115 c).2, (cSt_115 c').2, (cSt_115 c).1, (cSt_115 c').1, a1, a2, a3, a4]; exact ⟨rfl, Iff.rfl⟩
  · have c' := e.symm.trans c
    have a1 := w 0 1 (by rw [c]; decide)
    rw [show p + 1 + 0 = p + 1 from rfl] at a1
    rw [(cSt_117 c).2, (cSt_117 c').2, (cSt_117 c).1, (cSt_117 c').1, a1]; exact ⟨rfl, Iff.rfl⟩
  · have c' := e.symm.trans c
    have a1 := w 0 1 (by rw [c]; decide)
    have a2 := w 1 1 (by rw [c]; decide)
    rw [show p + 1 + 0 = p + 1 from rfl] at a1
    rw [show p + 1 + 1 = p + 2 from rfl] at a2
    rw [(cSt_118 c).2, (cSt_118 c').2, (cSt_118 c).1, (cSt_118 c').1, a1, a2]; exact ⟨rfl, Iff.rfl⟩
  · have c' := e.symm.trans c
    have a1 := w 0 1 (by rw [c]; decide)
    have a2 := w 1 1 (by rw [c]; decide)
    rw [show p + 1 + 0 = p + 1 from rfl] at a1
    rw [show p + 1 + 1 = p + 2 from rfl] at a2
    rw [(cSt_119 c).2, (cSt_119 c').2, (cSt_119 c).1, (cSt_119 c').1, a1, a2]; exact ⟨rfl, Iff.rfl⟩
theorem wr_cg {n m : Nat} {S T : Nat → Int32} (h : seq n S T) (hm : wokm S n m) : ∀ (r j : Nat) (V : Nat → Int32), j + r = m → wrf S r j V = wrf T r j V ∧ wrv S r j V = wrv T r j V := by
  intro r
  induction r with
  | zero => intro j V _; exact ⟨rfl, rfl⟩
  | succ r ih =>
    intro j V hj
    have hd := hm.1 j (by omega)
    have e := wpl_cg h hm j (by omega)
    obtain ⟨a1, a2⟩ := aSt_cg h hd V
    obtain ⟨i1, i2⟩ := ih (j + 1) (aSt S (wpl S j) V) (by omega)
    rw [e] at a1 a2
    refine ⟨?_, ?_⟩
    · by_cases c : cSt S (wpl S j) V
      · have c' : cSt T (wpl T j) V := a2.mp (by rw [← e]; exact c)
        rw [wrf_t c, wrf_t c', i1, e, a1]
      · have c' : ¬ cSt T (wpl T j) V := fun q => c (by rw [e]; exact a2.mpr q)
        rw [wrf_f c, wrf_f c', e]
    · show wrv S r (j + 1) (aSt S (wpl S j) V) = wrv T r (j + 1) (aSt T (wpl T j) V)
      rw [i2, e, a1]
theorem wvV_wrv {n m : Nat} {S : Nat → Int32} (hm : wokm S n m) : ∀ (r j : Nat) (V : Nat → Int32), j + r = m → wvV V → wrf S r j V = none → wvV (wrv S r j V) := by
  intro r
  induction r with
  | zero => intro j V _ hv _; exact hv
  | succ r ih =>
    intro j V hj hv hn
    have hd := hm.1 j (by omega)
    by_cases c : cSt S (wpl S j) V
    · rw [wrf_t c] at hn
      exact ih (j + 1) _ (by omega) (wvV_aSt hv hd c) hn
    · rw [wrf_f c] at hn; cases hn
/-- the same run on houses alike below the counts -/
theorem wrs_lo {n m : Nat} {S : Nat → Int32} (hm : wokm S n m) : ∀ (r j : Nat) (A B : Nat → Int32), j + r = m → wvV A → lo148 A B → wrf S r j A = wrf S r j B ∧ (wrf S r j A = none → lo148 (wrv S r j A) (wrv S r j B)) := by
  intro r
  induction r with
  | zero => intro j A B _ _ h; exact ⟨rfl, fun _ => h⟩
  | succ r ih =>
    intro j A B hj hv h
    have hd := hm.1 j (by omega)
    have hc : cSt S (wpl S j) A ↔ cSt S (wpl S j) B := cSt_cg (h 0 (by decide)) (h 1 (by decide)) (h 3 (by decide))
    by_cases c : cSt S (wpl S j) A
    · rw [wrf_t c, wrf_t (hc.mp c)]
      exact ih (j + 1) _ _ (by omega) (wvV_aSt hv hd c) (aSt_lo (wvV_cg hv (fun q hq => (h q hq).symm)) h hd)
    · rw [wrf_f c, wrf_f (fun q => c (hc.mpr q))]
      exact ⟨rfl, fun q => by cases q⟩
theorem mu_terrace {F : Nat} {σ : Mem} (hF : 73786976294838206464 ≤ F) (h : wR 188 σ) : ∃ r1 s1 r2 s2, f_X3_terrace F σ = some (r1, s1) ∧ f_X4_terrace F s1 = some (r2, s2) ∧ wR 188 s2 ∧ r1 = r2 := by
  obtain ⟨hX, hM, hV, hI, hS, hL, hW⟩ := id h
  have hl : 28 ≤ 188 ∧ 188 ≤ 188 := by omega
  have b1 := wx_X1_1 hX
  have hn : (σ 83 1).toInt = ((σ 83 1).toNatClampNeg : Int) := by rw [ti_nat]; omega
  generalize hN : (σ 83 1).toNatClampNeg = n at hn
  have hnM : (σ 101 15).toInt = (n : Int) := by rw [← hL.1]; exact hn
  have hseq : seq n (σ 84) (σ 111) := fun i hi => hL.2 i (by rw [← hL.1, hN]; exact hi)
  refine two (pc_sf (s_X3_terrace (by omega) hX) (pc_and (cx_terrace (by omega) hX hn (by omega) hV.1 hV.2) (pc_pf (fr_X3_terrace (by omega))))) (fun a s q => pc_sf (s_X4_terrace hF (wm_congr hM q.1.2.1)) (pc_and (cm_terrace hF (wm_congr hM q.1.2.1) (n := n) (by rw [q.1.2.1 101 (by decide)]; exact hnM) (by omega) (wvV_cg hV.1 (eMV q.1.2.1))) (pc_pf (fr_X4_terrace (by omega))))) (fun a s b z q1 q2 => ?_)
  obtain ⟨⟨x1, x2, -, -, -, x83⟩, c1, f1⟩ := q1
  obtain ⟨⟨m1, m2, -, -, -, m15⟩, c2, f2⟩ := q2
  rw [x2 111 (by decide), x2 101 (by decide)] at c2
  have eV : ∀ p, p < 188 → wvM s p = wvM σ p := eMV x2
  -- what neither touches
  have agC : ∀ C : Nat → Prop, (∀ c, C c → ¬ ((1 ≤ c ∧ c ≤ 46) ∨ c = 3005 ∨ c = 4001 ∨ (102 ≤ c ∧ c ≤ 107) ∨ c = 109 ∨ (112 ≤ c ∧ c ≤ 115) ∨ (1001 ≤ c ∧ c ≤ 1018) ∨ (1025 ≤ c ∧ c ≤ 1030))) → ag C σ z := fun C hC => ag_tr (ag_fr f1 (fun c hc => by have := hC c hc; show ¬ _; unfold wf_20; omega)) (ag_fr f2 (fun c hc => by have := hC c hc; show ¬ _; unfold wf_59; omega))
  have rLz : rL z := by
    have e : z 83 1 = z 101 15 := Int32.toInt_inj.mp (by rw [m2 83 (by decide), x83, m15])
    refine ⟨e, fun i hi => ?_⟩
    rw [ti_nat, m15] at hi
    exact absurd hi (Nat.not_lt_zero i)
  have rIz : rI 188 z := rI_ag hl hI (agC _ (fun c hc => by unfold cI at hc; omega))
  have rWz : rW z := rW_ag hW (agC _ (fun c hc => by unfold cW at hc; omega))
  have xz : wiX z := wx_congr x1 m2
  -- nothing has come
  have none_came : (∀ k, (k < 24 ∨ 46 < k) → k ≠ 83 → s k = σ k) → (∀ p, p < 188 → wvM z p = wvM s p) → z 101 30 = s 101 30 → wR 188 z := fun hs hz h30 => by
    have eX : ∀ p, p < 188 → wvX 1 z p = wvX 1 σ p := fun p hp => wvX_eq (fun p hp => by have := wvJ_le p hp; rw [m2 _ (by omega), hs _ (by omega) (by omega)]) hp
    have eM : ∀ p, p < 188 → wvM z p = wvM σ p := fun p hp => by rw [hz p hp, eV p hp]
    have hVz : rV 188 z := ⟨wvV_cg hV.1 eM, weq_cg hV.2 hl.1 (fun p hp => eM p (by omega)) (fun p hp => eX p (by omega))⟩
    have hSz : rS z := by
      have e30 : z 101 30 = σ 101 30 := by rw [h30, x2 101 (by decide)]
      have e70 : ∀ k, 70 ≤ k → k ≤ 82 → z k = σ k := fun k a b => by rw [m2 k (by omega), hs k (by omega) (by omega)]
      have e117 : z 117 = σ 117 := by
        rw [← x2 117 (by decide)]
        exact funext fun i => f2 117 i (by rw [show wcid 117 i = 117 from rfl]; show ¬ _; unfold wf_59; omega)
      have eT : ∀ j p, p < 188 → wsT z (σ 101 30).toNatClampNeg j p = wsT σ (σ 101 30).toNatClampNeg j p := fun j p hp => by
        unfold wsT
        rw [eM p hp, e117]
      refine ⟨by rw [e70 70 (by omega) (by omega), e30]; exact hS.1, fun j hj => ?_⟩
      rw [e30] at hj ⊢
      rw [e70 70 (by omega) (by omega)]
      have bb := wvV_b (rS_V hV.1 hS (j := j + 1) (by omega))
      have hm8 : ((σ 70 4).toNatClampNeg + j) % 8 < 8 := Nat.mod_lt _ (by decide)
      exact ⟨wvV_cg (hS.2 j hj).1 (fun p hp => eT j p hp), wsU_cg (hS.2 j hj).2 bb.1 bb.2 (by rw [e70 71 (by omega) (by omega)]) (by rw [e70 72 (by omega) (by omega)]) (by rw [e70 73 (by omega) (by omega)]) (e70 _ (by omega) (by omega)) (fun p hp => eT j p hp) (fun p hp => eT _ p hp)⟩
    exact ⟨xz, m1, hVz, rIz, hSz, rLz, rWz⟩
  obtain ⟨c1a, c1b⟩ := c1
  obtain ⟨c2a, c2b⟩ := c2
  have hwp : wpar (σ 84) n (n + 1) 0 = wpar (σ 111) n (n + 1) 0 := wpar_cg hseq _ _
  rw [hwp] at c1a c1b
  cases hb : (wpar (σ 111) n (n + 1) 0).2 with
  | false =>
    obtain ⟨g1, g2⟩ := c1a hb
    obtain ⟨n1, n2, n3⟩ := c2a hb
    exact ⟨none_came g2 n2 (by rw [n3, x2 101 (by decide)]), Int32.toInt_inj.mp (by rw [g1, n1])⟩
  | true =>
    obtain ⟨m, -, hm⟩ := wpar_m (S := σ 84) (n + 1) 0 (by show n < 0 + (n + 1); omega) (fun i hi => absurd hi (Nat.not_lt_zero i)) (by show (wpar (σ 84) n (n + 1) 0).2 = true; rw [hwp]; exact hb) (Or.inl rfl)
    have hm2 := wokm_cg hseq hm
    obtain ⟨g1, g2⟩ := c1b hb m hm
    obtain ⟨n1, n2⟩ := c2b hb m hm2
    obtain ⟨w1, w2⟩ := wr_cg hseq hm m 0 (wvM σ) (by omega)
    -- the reference's house before is s's
    have w3 := wrs_lo hm2 m 0 (wvM s) (wvM σ) (by omega) (wvV_cg hV.1 eV) (fun q hq => eV q (by omega))
    rw [w1, ← w3.1] at g1 g2
    rw [w2] at g1
    cases hf : wrf (σ 111) m 0 (wvM s) with
    | none =>
      obtain ⟨a1, a2, a3⟩ := g1 hf
      obtain ⟨d1, d2, d3⟩ := n1 hf
      have hvv : wvV (wrv (σ 111) m 0 (wvM σ)) := wvV_wrv hm2 m 0 _ (by omega) hV.1 (by rw [← w3.1]; exact hf)
      have dd : ∀ q, q < 188 → wvM z q = wrv (σ 111) m 0 (wvM σ) q := fun q hq => by rw [d2 q hq, w3.2 hf q hq]
      refine ⟨⟨xz, m1, rV_mk hl m2 (fun p _ => rfl) dd dd hvv a2, rIz, rS_0 (by rw [m2 70 (by decide)]; exact a3) d3, rLz, rWz⟩, Int32.toInt_inj.mp (by rw [a1, d1])⟩
    | some q =>
      obtain ⟨a1, a2⟩ := g2 q hf
      obtain ⟨d1, d2, d3⟩ := n2 q hf
      exact ⟨none_came a2 d2 (by rw [d3, x2 101 (by decide)]), Int32.toInt_inj.mp (by rw [a1, d1])⟩
end
section
def eFeed (N x : Int32) : Int32 := cF (cN x 0 255) (if N.toInt < 96 then 0 else -6)
def eRow (N x : Int32) : Int32 := cF (cN x 0 99) (if N.toInt < 12 then 0 else -6)
theorem cx_feed {F : Nat} {x : Int32} {σ : Mem} (b : 0 ≤ (σ 83 1).toInt ∧ (σ 83 1).toInt ≤ 96) : pc (f_X3_feed F x σ) (cR (eFeed (σ 83 1) x) (fun r s => s 84 = upd (σ 84) (σ 83 1).toNatClampNeg x ∧ s 83 1 = σ 83 1 + 1 ∧ r = s 83 1) σ) := by
  rw [f_X3_feed_e]
  refine pc_be ax_outside ?_
  simp only [j_X3_feed_28_e]
  have key : ∀ e, e = eFeed (σ 83 1) x → pc (if e = 0 then (wt_bnd (f_X1_add F x σ) fun r1 s2 => some ((s2 83 1), s2)) else wt_bnd (f_X3_refuse F e σ) fun r5 s6 => some (r5, s6)) (cR (eFeed (σ 83 1) x) (fun r s => s 84 = upd (σ 84) (σ 83 1).toNatClampNeg x ∧ s 83 1 = σ 83 1 + 1 ∧ r = s 83 1) σ) := fun e he => by
    subst he
    refine cR_end (fun e => ?_)
    have h96 : (σ 83 1).toInt < 96 := by
      have := (cF_0 e).2
      by_cases d : (σ 83 1).toInt < 96
      · exact d
      · rw [if_neg d] at this; exact absurd this (by decide)
    rw [f_X1_add_e, if_neg (fun q => by have := ti_lt q; rw [tz_0] at this; omega), if_neg (fun q => by have := ti_le q; rw [tz_96] at this; omega)]
    refine pc_bnd (P := fun _ s => s 84 = upd (σ 84) (σ 83 1).toNatClampNeg x ∧ s 83 1 = σ 83 1 + 1) ?_ (fun _ s q => pc_ret ⟨q.1, q.2, rfl⟩)
    refine pc_chk (fun _ => pc_lt (fun s2 h2 => pc_lt (fun s3 h3 => pc_ret ⟨?_, ?_⟩)))
    · rw [h3, up2_k (by decide), h2]; unfold up2; rw [if_pos rfl]
    · rw [h3, up2_s, h2, up2_k (by decide)]
  by_cases c1 : cN x 0 255 = 0
  · rw [if_pos c1]
    by_cases c2 : σ 83 1 < 96
    · rw [if_pos c2]
      refine key _ ?_
      unfold eFeed cF
      have := ti_lt c2
      rw [tz_96] at this
      rw [if_pos c1, if_pos this, c1]
    · rw [if_neg c2]
      refine key _ ?_
      unfold eFeed cF
      have := ti_nlt c2
      rw [tz_96] at this
      rw [if_pos c1, if_neg (by omega)]
  · rw [if_neg c1]
    refine key _ ?_
    unfold eFeed cF
    rw [if_neg c1]
theorem cN_3 {x a b : Int32} : (x.toInt < a.toInt → cN x a b = -4) ∧ (a.toInt ≤ x.toInt → b.toInt < x.toInt → cN x a b = -6) := by
  unfold cN
  exact ⟨fun h => by rw [if_neg (by omega)], fun h1 h2 => by rw [if_pos h1, if_neg (by omega)]⟩
theorem cm_feed {F : Nat} {x : Int32} {σ : Mem} (b : 0 ≤ (σ 101 15).toInt ∧ (σ 101 15).toInt ≤ 96) : pc (f_X4_feed F x σ) (mR (eFeed (σ 101 15) x) (fun r s => s 111 = upd (σ 111) (σ 101 15).toNatClampNeg x ∧ s 101 15 = σ 101 15 + 1 ∧ r = s 101 15) σ) := by
  rw [f_X4_feed_e]
  simp only [j_X4_feed_32_e]
  refine pc_lt (fun s3 h3 => ?_)
  have k7 : ∀ k i, ¬ (k = 101 ∧ i = 10) → s3 k i = σ k i := by rw [h3]; exact th_k
  have e15 : s3 101 15 = σ 101 15 := k7 _ _ (by omega)
  rw [e15]
  refine pc_ite (fun c => ?_) (fun c => ?_)
  · have d := ti_le c
    rw [tz_0] at d
    refine pc_ite (fun c2 => ?_) (fun c2 => ?_)
    · have d2 := ti_lt c2
      rw [tz_255] at d2
      have e : eFeed (σ 101 15) x = -6 := by unfold eFeed; rw [(cN_3 (a := 0) (b := 255)).2 (by rw [tz_0]; exact d) (by rw [tz_255]; exact d2)]; rfl
      rw [e]; exact mR_ref (by decide) k7
    · have d2 := ti_nlt c2
      rw [tz_255] at d2
      have e0 : cN x 0 255 = 0 := cN_t (by rw [tz_0]; exact d) (by rw [tz_255]; exact d2)
      refine pc_ite (fun c3 => ?_) (fun c3 => ?_)
      · have d3 := ti_eq c3
        rw [tz_96] at d3
        have e : eFeed (σ 101 15) x = -6 := by unfold eFeed cF; rw [if_pos e0, if_neg (by omega)]
        rw [e]; exact mR_ref (by decide) k7
      · have d3 := ti_ne c3
        rw [tz_96] at d3
        have e : eFeed (σ 101 15) x = 0 := by unfold eFeed cF; rw [if_pos e0, if_pos (by omega)]
        rw [e]
        refine pc_chk (fun _ => pc_lt (fun s5 h5 => pc_lt (fun s6 h6 => pc_ret ⟨fun _ => ⟨?_, ?_, rfl⟩, fun n => absurd rfl n⟩)))
        · rw [h6, up2_k (by decide), h5]; unfold up2; rw [if_pos rfl, show s3 111 = σ 111 from funext fun i => k7 111 i (by omega)]
        · rw [h6, up2_s, h5, up2_k (by decide), e15]
  · have d := ti_nle c
    rw [tz_0] at d
    have e : eFeed (σ 101 15) x = -4 := by unfold eFeed; rw [(cN_3 (a := 0) (b := 255)).1 (by rw [tz_0]; exact d)]; rfl
    rw [e]; exact mR_ref (by decide) k7
theorem cx_row {F : Nat} {x : Int32} {σ : Mem} : pc (f_X3_row F x σ) (cR (eRow (σ 0 7) x) (fun r s => s 85 = upd (σ 85) (σ 0 7).toNatClampNeg x ∧ s 0 7 = σ 0 7 + 1 ∧ r = s 0 7) σ) := by
  rw [f_X3_row_e]
  refine pc_be ax_outside ?_
  simp only [j_X3_row_24_e]
  have key : ∀ e, e = eRow (σ 0 7) x → pc (if e = 0 then (wt_chk (σ 0 7) 12 (wt_lt (up2 σ 85 (Int32.toNatClampNeg (σ 0 7)) x) fun s2 => wt_lt (up2 s2 0 7 ((s2 0 7) + (1 : Int32))) fun s3 => some ((s3 0 7), s3))) else wt_bnd (f_X3_refuse F e σ) fun r5 s6 => some (r5, s6)) (cR (eRow (σ 0 7) x) (fun r s => s 85 = upd (σ 85) (σ 0 7).toNatClampNeg x ∧ s 0 7 = σ 0 7 + 1 ∧ r = s 0 7) σ) := fun e he => by
    subst he
    refine cR_end (fun e => pc_chk (fun _ => pc_lt (fun s2 h2 => pc_lt (fun s3 h3 => pc_ret ⟨?_, ?_, rfl⟩))))
    · rw [h3, up2_k (by decide), h2]; unfold up2; rw [if_pos rfl]
    · rw [h3, up2_s, h2, up2_k (by decide)]
  by_cases c1 : cN x 0 99 = 0
  · rw [if_pos c1]
    by_cases c2 : σ 0 7 < 12
    · rw [if_pos c2]
      refine key _ ?_
      unfold eRow cF
      have := ti_lt c2
      rw [tz_12] at this
      rw [if_pos c1, if_pos this, c1]
    · rw [if_neg c2]
      refine key _ ?_
      unfold eRow cF
      have := ti_nlt c2
      rw [tz_12] at this
      rw [if_pos c1, if_neg (by omega)]
  · rw [if_neg c1]
    refine key _ ?_
    unfold eRow cF
    rw [if_neg c1]
theorem cm_row {F : Nat} {x : Int32} {σ : Mem} (b : 0 ≤ (σ 101 34).toInt ∧ (σ 101 34).toInt ≤ 12) : pc (f_X4_row F x σ) (mR (eRow (σ 101 34) x) (fun r s => s 121 = upd (σ 121) (σ 101 34).toNatClampNeg x ∧ s 101 34 = σ 101 34 + 1 ∧ r = s 101 34) σ) := by
  rw [f_X4_row_e]
  simp only [j_X4_row_31_e]
  refine pc_lt (fun s3 h3 => ?_)
  have k7 : ∀ k i, ¬ (k = 101 ∧ i = 10) → s3 k i = σ k i := by rw [h3]; exact th_k
  have e15 : s3 101 34 = σ 101 34 := k7 _ _ (by omega)
  rw [e15]
  refine pc_ite (fun c => ?_) (fun c => ?_)
  · have d := ti_le c
    rw [tz_0] at d
    refine pc_ite (fun c2 => ?_) (fun c2 => ?_)
    · have d2 := ti_lt c2
      rw [tz_99] at d2
      have e : eRow (σ 101 34) x = -6 := by unfold eRow; rw [(cN_3 (a := 0) (b := 99)).2 (by rw [tz_0]; exact d) (by rw [tz_99]; exact d2)]; rfl
      rw [e]; exact mR_ref (by decide) k7
    · have d2 := ti_nlt c2
      rw [tz_99] at d2
      have e0 : cN x 0 99 = 0 := cN_t (by rw [tz_0]; exact d) (by rw [tz_99]; exact d2)
      refine pc_ite (fun c3 => ?_) (fun c3 => ?_)
      · have d3 := ti_eq c3
        rw [tz_12] at d3
        have e : eRow (σ 101 34) x = -6 := by unfold eRow cF; rw [if_pos e0, if_neg (by omega)]
        rw [e]; exact mR_ref (by decide) k7
      · have d3 := ti_ne c3
        rw [tz_12] at d3
        have e : eRow (σ 101 34) x = 0 := by unfold eRow cF; rw [if_pos e0, if_pos (by omega)]
        rw [e]
        refine pc_chk (fun _ => pc_lt (fun s5 h5 => pc_lt (fun s6 h6 => pc_ret ⟨fun _ => ⟨?_, ?_, rfl⟩, fun n => absurd rfl n⟩)))
        · rw [h6, up2_k (by decide), h5]; unfold up2; rw [if_pos rfl, show s3 121 = σ 121 from funext fun i => k7 121 i (by omega)]
        · rw [h6, up2_s, h5, up2_k (by decide), e15]
  · have d := ti_nle c
    rw [tz_0] at d
    have e : eRow (σ 101 34) x = -4 := by unfold eRow; rw [(cN_3 (a := 0) (b := 99)).1 (by rw [tz_0]; exact d)]; rfl
    rw [e]; exact mR_ref (by decide) k7
theorem list_more {n : Nat} {y : Int32} {f g f' g' : Nat → Int32} {x : Int32} (h : ∀ i, i < n → f i = g i) (hy : y.toNatClampNeg = n) (hf : f' = upd f y.toNatClampNeg x) (hg : g' = upd g y.toNatClampNeg x) : ∀ i, i < n + 1 → f' i = g' i := fun i hi => by
  rw [hf, hg, hy]
  by_cases e : i = n
  · subst e; rw [wv_us, wv_us]
  · rw [wv_un e, wv_un e]; exact h i (by omega)
theorem mu_feed {F lim : Nat} {σ : Mem} {x : Int32} (hF : 73786976294838206464 ≤ F) (hl : 28 ≤ lim ∧ lim ≤ 188) (h : wR lim σ) : ∃ r1 s1 r2 s2, f_X3_feed F x σ = some (r1, s1) ∧ f_X4_feed F x s1 = some (r2, s2) ∧ wR lim s2 ∧ r1 = r2 := by
  obtain ⟨hX, hM, hV, hI, hS, hL, hW⟩ := id h
  refine two (pc_sf (s_X3_feed (x1 := x) (by omega) hX) (pc_and (cx_feed (wx_X1_1 hX)) (pc_pf (fr_X3_feed (by omega))))) (fun a s q => pc_sf (s_X4_feed (x1 := x) hF (wm_congr hM q.1.2.1)) (pc_and (cm_feed (wx_X4_15 (wm_congr hM q.1.2.1))) (pc_pf (fr_X4_feed (by omega))))) (fun a s b z q1 q2 => ?_)
  obtain ⟨⟨x1, x2, -⟩, c1, f1⟩ := q1
  obtain ⟨⟨m1, m2, -⟩, c2, f2⟩ := q2
  rw [x2 101 (by decide), ← hL.1, x2 111 (by decide)] at c2
  by_cases c : eFeed (σ 83 1) x = 0
  · obtain ⟨g1, g2, g3⟩ := c1.1 c
    obtain ⟨n1, n2, n3⟩ := c2.1 c
    have agC : ∀ C : Nat → Prop, (∀ c, C c → ¬ (c = 84 ∨ c = 86 ∨ c = 4001 ∨ c = 108 ∨ c = 111 ∨ c = 1010 ∨ c = 1015)) → ag C σ z := fun C hC => ag_tr (ag_fr f1 (fun c hc => by have := hC c hc; show ¬ _; unfold wf_18; omega)) (ag_fr f2 (fun c hc => by have := hC c hc; show ¬ _; unfold wf_50; omega))
    have e1 : z 83 1 = z 101 15 := by rw [m2 83 (by decide), g2, n2]
    refine ⟨⟨wx_congr x1 m2, m1, rV_ag hl hV (agC _ (fun c hc => by unfold cV cX cM at hc; omega)), rI_ag hl hI (agC _ (fun c hc => by unfold cI at hc; omega)), rS_ag hV.1 hS (agC _ (fun c hc => by unfold cS cM at hc; omega)), ⟨e1, fun i hi => ?_⟩, rW_ag hW (agC _ (fun c hc => by unfold cW at hc; omega))⟩, by rw [g3, n3, g2, n2]⟩
    have b1 := wx_X1_1 hX
    have hle : (σ 83 1).toInt < 96 := by
      have := (cF_0 c).2
      by_cases d : (σ 83 1).toInt < 96
      · exact d
      · rw [if_neg d] at this; exact absurd this (by decide)
    have hn : (z 101 15).toNatClampNeg = (σ 83 1).toNatClampNeg + 1 := by
      rw [n2, ti_nat, ti_nat, ti_add (by rw [tz_1]; omega) (by rw [tz_1]; omega), tz_1]; omega
    rw [hn] at hi
    rw [m2 84 (by decide)]
    exact list_more (fun i hi => hL.2 i (by rw [← hL.1]; exact hi)) rfl g1 n1 i hi
  · obtain ⟨g1, g2⟩ := c1.2 c
    obtain ⟨n1, n2⟩ := c2.2 c
    exact ⟨fin_bad hl h x1 m1 m2 g2 n2, by rw [g1, n1]⟩
theorem mu_row {F lim : Nat} {σ : Mem} {x : Int32} (hF : 73786976294838206464 ≤ F) (hl : 28 ≤ lim ∧ lim ≤ 188) (h : wR lim σ) : ∃ r1 s1 r2 s2, f_X3_row F x σ = some (r1, s1) ∧ f_X4_row F x s1 = some (r2, s2) ∧ wR lim s2 ∧ r1 = r2 := by
  obtain ⟨hX, hM, hV, hI, hS, hL, hW⟩ := id h
  refine two (pc_sf (s_X3_row (x1 := x) (by omega) hX) (pc_and cx_row (pc_pf (fr_X3_row (by omega))))) (fun a s q => pc_sf (s_X4_row (x1 := x) hF (wm_congr hM q.1.2.1)) (pc_and (cm_row (wx_X4_34 (wm_congr hM q.1.2.1))) (pc_pf (fr_X4_row (by omega))))) (fun a s b z q1 q2 => ?_)
  obtain ⟨⟨x1, x2, -⟩, c1, f1⟩ := q1
  obtain ⟨⟨m1, m2, -⟩, c2, f2⟩ := q2
  rw [x2 101 (by decide), ← hW.1, x2 121 (by decide)] at c2
  by_cases c : eRow (σ 0 7) x = 0
  · obtain ⟨g1, g2, g3⟩ := c1.1 c
    obtain ⟨n1, n2, n3⟩ := c2.1 c
    have agC : ∀ C : Nat → Prop, (∀ c, C c → ¬ (c = 85 ∨ c = 86 ∨ c = 2007 ∨ c = 108 ∨ c = 121 ∨ c = 1010 ∨ c = 1034)) → ag C σ z := fun C hC => ag_tr (ag_fr f1 (fun c hc => by have := hC c hc; show ¬ _; unfold wf_39; omega)) (ag_fr f2 (fun c hc => by have := hC c hc; show ¬ _; unfold wf_73; omega))
    have e1 : z 0 7 = z 101 34 := by rw [m2 0 (by decide), g2, n2]
    refine ⟨⟨wx_congr x1 m2, m1, rV_ag hl hV (agC _ (fun c hc => by unfold cV cX cM at hc; omega)), rI_ag hl hI (agC _ (fun c hc => by unfold cI at hc; omega)), rS_ag hV.1 hS (agC _ (fun c hc => by unfold cS cM at hc; omega)), rL_ag hL (agC _ (fun c hc => by unfold cL at hc; omega)), ⟨e1, fun i hi => ?_⟩⟩, by rw [g3, n3, g2, n2]⟩
    have b1 := wx_X3_7 hX
    have hn : (z 101 34).toNatClampNeg = (σ 0 7).toNatClampNeg + 1 := by
      rw [n2, ti_nat, ti_nat, ti_add (by rw [tz_1]; omega) (by rw [tz_1]; omega), tz_1]; omega
    rw [hn] at hi
    rw [m2 85 (by decide)]
    exact list_more (fun i hi => hW.2 i (by rw [← hW.1]; exact hi)) rfl g1 n1 i hi
  · obtain ⟨g1, g2⟩ := c1.2 c
    obtain ⟨n1, n2⟩ := c2.2 c
    exact ⟨fin_bad hl h x1 m1 m2 g2 n2, by rw [g1, n1]⟩
/-- the row: as it was, or none -/
theorem row_z {σ z : Mem} (hW : rW σ) (a : ag cW σ z ∨ (ag (fun c => c = 85 ∨ c = 121) σ z ∧ (z 0 7).toInt = 0 ∧ (z 101 34).toInt = 0)) : rW z := by
  rcases a with a | ⟨-, a, b⟩
  · exact rW_ag hW a
  · refine ⟨Int32.toInt_inj.mp (by rw [a, b]), fun i hi => ?_⟩
    rw [ti_nat, b] at hi
    exact absurd hi (Nat.not_lt_zero i)
theorem mu_clear {F lim : Nat} {σ : Mem} (hF : 73786976294838206464 ≤ F) (hl : 28 ≤ lim ∧ lim ≤ 188) (h : wR lim σ) : ∃ r1 s1 r2 s2, f_X3_clear F σ = some (r1, s1) ∧ f_X4_clear F s1 = some (r2, s2) ∧ wR lim s2 ∧ r1 = r2 := by
  obtain ⟨hX, hM, hV, hI, hS, hL, hW⟩ := id h
  refine two (pc_sf (s_X3_clear (by omega) hX) (pc_pf (fr_X3_clear (by omega)))) (fun a s q => pc_sf (s_X4_clear hF (wm_congr hM q.1.2.1)) (pc_pf (fr_X4_clear (by omega)))) (fun a s b z q1 q2 => ?_)
  obtain ⟨⟨x1, x2, -, -, -, y1, y2⟩, f1⟩ := q1
  obtain ⟨⟨m1, m2, -, -, -, -, -, -, w1, w2⟩, f2⟩ := q2
  have agC : ∀ C : Nat → Prop, (∀ c, C c → ¬ (c = 2007 ∨ c = 1010 ∨ c = 1034)) → ag C σ z := fun C hC => ag_tr (ag_fr f1 (fun c hc => by have := hC c hc; show ¬ _; unfold wf_41; omega)) (ag_fr f2 (fun c hc => by have := hC c hc; show ¬ _; unfold wf_75; omega))
  have e7 : (σ 0 7).toInt = (σ 101 34).toInt := congrArg Int32.toInt hW.1
  have es : (s 101 34).toInt = (σ 101 34).toInt := by rw [x2 101 (by decide)]
  refine ⟨⟨wx_congr x1 m2, m1, rV_ag hl hV (agC _ (fun c hc => by unfold cV cX cM at hc; omega)), rI_ag hl hI (agC _ (fun c hc => by unfold cI at hc; omega)), rS_ag hV.1 hS (agC _ (fun c hc => by unfold cS cM at hc; omega)), rL_ag hL (agC _ (fun c hc => by unfold cL at hc; omega)), row_z hW (Or.inr ⟨agC _ (fun c hc => by omega), by rw [m2 0 (by decide)]; exact y2, w2⟩)⟩, Int32.toInt_inj.mp (by omega)⟩
theorem mu_judge {F lim : Nat} {σ : Mem} {x : Int32} (hF : 73786976294838206464 ≤ F) (hl : 28 ≤ lim ∧ lim ≤ 188) (h : wR lim σ) : ∃ r1 s1 r2 s2, f_X3_judge F x σ = some (r1, s1) ∧ f_X4_judge F x s1 = some (r2, s2) ∧ wR lim s2 := by
  obtain ⟨hX, hM, hV, hI, hS, hL, hW⟩ := id h
  refine two (pc_sf (s_X3_judge (x1 := x) (by omega) hX) (pc_pf (fr_X3_judge (by omega)))) (fun a s q => pc_sf (s_X4_judge (x1 := x) hF (wm_congr hM q.1.2.1)) (pc_pf (fr_X4_judge (by omega)))) (fun a s b z q1 q2 => ?_)
  obtain ⟨⟨x1, x2, -, -, -, y2⟩, f1⟩ := q1
  obtain ⟨⟨m1, m2, -, -, -, -, -, -, w2⟩, f2⟩ := q2
  have agC : ∀ C : Nat → Prop, (∀ c, C c → ¬ (c = 2007 ∨ c = 1010 ∨ c = 1034 ∨ (19 ≤ c ∧ c ≤ 23) ∨ c = 86 ∨ (108 ≤ c ∧ c ≤ 110))) → ag C σ z := fun C hC => ag_tr (ag_fr f1 (fun c hc => by have := hC c hc; show ¬ _; unfold wf_40; omega)) (ag_fr f2 (fun c hc => by have := hC c hc; show ¬ _; unfold wf_74; omega))
  have e7 : (σ 0 7).toInt = (σ 101 34).toInt := congrArg Int32.toInt hW.1
  have es : (s 101 34).toInt = (σ 101 34).toInt := by rw [x2 101 (by decide)]
  have ez : (z 0 7).toInt = (s 0 7).toInt := by rw [m2 0 (by decide)]
  have hr : rW z := by
    refine ⟨Int32.toInt_inj.mp (by omega), fun i hi => ?_⟩
    have a85 := agC (fun c => c = 85 ∨ c = 121) (fun c hc => by omega)
    rw [a85 85 i (Or.inl rfl), a85 121 i (Or.inr rfl)]
    refine hW.2 i ?_
    have t1 := ti_nat (z 101 34)
    have t2 := ti_nat (σ 101 34)
    omega
  exact ⟨wx_congr x1 m2, m1, rV_ag hl hV (agC _ (fun c hc => by unfold cV cX cM at hc; omega)), rI_ag hl hI (agC _ (fun c hc => by unfold cI at hc; omega)), rS_ag hV.1 hS (agC _ (fun c hc => by unfold cS cM at hc; omega)), rL_ag hL (agC _ (fun c hc => by unfold cL at hc; omega)), hr⟩
end
section
/-! the reference's questions leave its house as it was -/
def VE (A : Nat → Int32) (m : Mem) : Prop := ∀ p, p < 188 → wvM m p = A p
def VN (q : Nat) (A : Nat → Int32) (m : Mem) : Prop := ∀ p, p < 188 → ¬ p = q → wvM m p = A p
def VN2 (q r : Nat) (A : Nat → Int32) (m : Mem) : Prop := ∀ p, p < 188 → ¬ p = q → ¬ p = r → wvM m p = A p
def VK (A : Nat → Int32) (m : Mem) : Prop := ∀ p, p < 188 → m 115 p = A p
def cM2 (c : Nat) : Prop := (102 ≤ c ∧ c ≤ 107) ∨ c = 1001 ∨ c = 1003 ∨ c = 1008 ∨ c = 1009
theorem VE_fr {A : Nat → Int32} {W : Nat → Prop} {s z : Mem} (h : VE A s) (f : fr W s z) (hW : ∀ c, cM2 c → ¬ W c) : VE A z := fun p hp => by rw [wvM_fr f hW hp]; exact h p hp
theorem VN_fr {q : Nat} {A : Nat → Int32} {W : Nat → Prop} {s z : Mem} (h : VN q A s) (f : fr W s z) (hW : ∀ c, cM2 c → ¬ W c) : VN q A z := fun p hp n => by rw [wvM_fr f hW hp]; exact h p hp n
theorem VN2_fr {q r : Nat} {A : Nat → Int32} {W : Nat → Prop} {s z : Mem} (h : VN2 q r A s) (f : fr W s z) (hW : ∀ c, cM2 c → ¬ W c) : VN2 q r A z := fun p hp n n2 => by rw [wvM_fr f hW hp]; exact h p hp n n2
theorem VK_fr {A : Nat → Int32} {W : Nat → Prop} {s z : Mem} (h : VK A s) (f : fr W s z) (hW : ¬ W 115) : VK A z := fun p hp => by rw [f 115 p (by rw [show wcid 115 p = 115 from rfl]; exact hW)]; exact h p hp
theorem VK_up {A : Nat → Int32} {s : Mem} (h : VK A s) {k i : Nat} {x : Int32} (hk : ¬ k = 115) : VK A (up2 s k i x) := fun p hp => by rw [up2_k (fun e => hk e.symm)]; exact h p hp
theorem VE_up {A : Nat → Int32} {s : Mem} (h : VE A s) {k i : Nat} {x : Int32} (hk : ¬ (102 ≤ k ∧ k ≤ 107)) (hi : ¬ (k = 101 ∧ (i = 1 ∨ i = 3 ∨ i = 8 ∨ i = 9))) : VE A (up2 s k i x) := fun p hp => by rw [wvM_no hk hi hp]; exact h p hp
theorem VN2_up {q r : Nat} {A : Nat → Int32} {s : Mem} (h : VN2 q r A s) {k i : Nat} {x : Int32} (hk : ¬ (102 ≤ k ∧ k ≤ 107)) (hi : ¬ (k = 101 ∧ (i = 1 ∨ i = 3 ∨ i = 8 ∨ i = 9))) : VN2 q r A (up2 s k i x) := fun p hp n n2 => by rw [wvM_no hk hi hp]; exact h p hp n n2
theorem VE_N {q : Nat} {A : Nat → Int32} {s : Mem} (h : VE A s) : VN q A s := fun p hp _ => h p hp
theorem VN_put {q k i : Nat} {A : Nat → Int32} {s : Mem} {x : Int32} (h : VN q A s) (hq : q < 188) (hk : k = wtJ q) (hi : i = wtI q) : VN q A (up2 s k i x) := fun p hp n => by rw [wvM_at hq hk hi hp, wv_un n]; exact h p hp n
theorem VN_back {q k i : Nat} {A : Nat → Int32} {s : Mem} {x : Int32} (h : VN q A s) (hq : q < 188) (hk : k = wtJ q) (hi : i = wtI q) (hx : x = A q) : VE A (up2 s k i x) := fun p hp => by
  rw [wvM_at hq hk hi hp]
  by_cases e : p = q
  · subst e; rw [wv_us]; exact hx
  · rw [wv_un e]; exact h p hp e
theorem VN2_1 {q r k i : Nat} {A : Nat → Int32} {s : Mem} {x : Int32} (h : VN2 q r A s) (hq : q < 188) (hk : k = wtJ q) (hi : i = wtI q) : VN2 q r A (up2 s k i x) := fun p hp n n2 => by rw [wvM_at hq hk hi hp, wv_un n]; exact h p hp n n2
theorem VN2_2 {q r k i : Nat} {A : Nat → Int32} {s : Mem} {x : Int32} (h : VN2 q r A s) (hq : r < 188) (hk : k = wtJ r) (hi : i = wtI r) : VN2 q r A (up2 s k i x) := fun p hp n n2 => by rw [wvM_at hq hk hi hp, wv_un n2]; exact h p hp n n2
theorem VN2_b1 {q r k i : Nat} {A : Nat → Int32} {s : Mem} {x : Int32} (h : VN2 q r A s) (hq : q < 188) (hk : k = wtJ q) (hi : i = wtI q) (hx : x = A q) : VN r A (up2 s k i x) := fun p hp n => by
  rw [wvM_at hq hk hi hp]
  by_cases e : p = q
  · subst e; rw [wv_us]; exact hx
  · rw [wv_un e]; exact h p hp e n
theorem q106 {x : Int32} (v : 0 ≤ x.toInt ∧ x.toInt < (120 : Nat) ∧ x.toNatClampNeg < 120) : 28 + x.toNatClampNeg < 188 ∧ 106 = wtJ (28 + x.toNatClampNeg) ∧ x.toNatClampNeg = wtI (28 + x.toNatClampNeg) := by
  have hj := wtJI_106 _ v.2.2
  exact ⟨by have := v.2.2; omega, hj.1.symm, hj.2.symm⟩
theorem th_think {F : Nat} (hF : 1000 ≤ F) {σ : Mem} : pc (f_X4_think F σ) (fun _ z => VK (wvM σ) z) := by
  rw [f_X4_think_e]
  refine pc_bnd (sf_pc (wt_carryAll hF (Or.inr rfl) (by unfold wiK; omega))) (fun _ s4 w => pc_ret (fun p hp => (w.2.2.2.1 (by decide)).1 p hp))
theorem th_again {F : Nat} (hF : 1000 ≤ F) {A : Nat → Int32} {σ : Mem} (h : VK A σ) : pc (f_X4_again F σ) (fun _ z => VE A z) := by
  rw [f_X4_again_e]
  refine pc_bnd (sf_pc (wt_carryAll hF (Or.inl rfl) (by unfold wiK; omega))) (fun _ s4 w => pc_ret (fun p hp => ((w.2.2.2.2 rfl).1 p hp).trans (h p hp)))
theorem VE_ref {F : Nat} {x : Int32} {A : Nat → Int32} {σ : Mem} (h : VE A σ) : pc (wt_bnd (f_X4_refuse F x σ) fun r s => some (r, s)) (fun _ z => VE A z) := pc_bnd mx_refuse (fun r s q => pc_ret (fun p hp => by
  rw [← h p hp]
  unfold wvM
  rw [q.2 _ (by have := wtJ_101 p hp; omega)]))
theorem VE_th {A : Nat → Int32} {σ : Mem} (h : VE A σ) : VE A (up2 σ 101 10 0) := VE_up h (by omega) (by omega)
theorem rst_whichLaw {F : Nat} (hF : 1000 ≤ F) {σ : Mem} : pc (f_X4_whichLaw F σ) (fun _ z => VE (wvM σ) z) := by
  have loop : ∀ (N : Nat) (x1 x2 x3 : Int32) (m : Mem), VN 2 (wvM σ) m → x1 = wvM σ 2 → pc (lp_X4_whichLaw_30 F x1 N x2 x3 m) (fun _ z => VE (wvM σ) z) := by
    intro N
    induction N with
    | zero => intro x1 x2 x3 m _ _; exact pc_none rfl
    | succ N ih =>
      intro x1 x2 x3 m hm h1
      rw [lp_X4_whichLaw_30_s]
      simp only [j_X4_whichLaw_56_e]
      refine pc_ite (fun _ => pc_lt (fun s1 g => pc_ret ?_)) (fun _ => pc_lt (fun s2 g => pc_bnd (pc_pf (fr_X4_isRow hF)) (fun r s4 f => ?_)))
      · rw [g]; exact VN_back hm (by decide) rfl rfl h1
      · have h4 : VN 2 (wvM σ) s4 := VN_fr (by rw [g]; exact VN_put hm (by decide) rfl rfl) f (by intro c hc; unfold cM2 at hc; show ¬ _; unfold wf_48; first | exact id | omega)
        exact pc_ite (fun _ => ih _ _ _ _ h4 h1) (fun _ => ih _ _ _ _ h4 h1)
  have h0 : VE (wvM σ) σ := fun _ _ => rfl
  rw [f_X4_whichLaw_e]
  refine pc_lt (fun s5 g => ?_)
  have h5 : VE (wvM σ) s5 := by rw [g]; exact VE_th h0
  exact pc_ite (fun _ => loop F _ _ _ _ (VE_N h5) (h5 2 (by decide))) (fun _ => VE_ref h5)
theorem rst_bestLaw {F : Nat} (hF : 1000 ≤ F) {a b : Int32} {σ : Mem} : pc (f_X4_bestLaw F a b σ) (fun _ z => VE (wvM σ) z) := by
  have loop : ∀ (N : Nat) (x4 x5 x6 x7 : Int32) (m : Mem), VN 2 (wvM σ) m → x4 = wvM σ 2 → pc (lp_X4_bestLaw_55 F a b x4 N x5 x6 x7 m) (fun _ z => VE (wvM σ) z) := by
    intro N
    induction N with
    | zero => intro x4 x5 x6 x7 m _ _; exact pc_none rfl
    | succ N ih =>
      intro x4 x5 x6 x7 m hm h1
      rw [lp_X4_bestLaw_55_s]
      simp only [j_X4_bestLaw_89_e, j_X4_bestLaw_105_e]
      refine pc_ite (fun _ => pc_lt (fun s1 g => pc_ret ?_)) (fun _ => pc_lt (fun s2 g => pc_bnd (pc_pf (fr_X4_worthIn hF)) (fun r s4 f => ?_)))
      · rw [g]; exact VN_back hm (by decide) rfl rfl h1
      · have h4 : VN 2 (wvM σ) s4 := VN_fr (by rw [g]; exact VN_put hm (by decide) rfl rfl) f (by intro c hc; unfold cM2 at hc; show ¬ _; unfold wf_47; first | exact id | omega)
        exact pc_ite (fun _ => pc_ite (fun _ => ih _ _ _ _ _ h4 h1) (fun _ => ih _ _ _ _ _ h4 h1)) (fun _ => pc_ite (fun _ => ih _ _ _ _ _ h4 h1) (fun _ => ih _ _ _ _ _ h4 h1))
  have h0 : VE (wvM σ) σ := fun _ _ => rfl
  have J : ∀ (t : Int32) (m : Mem), VE (wvM σ) m → pc (j_X4_bestLaw_25 F a b t m) (fun _ z => VE (wvM σ) z) := fun t m hm => by
    rw [j_X4_bestLaw_25_e]
    refine pc_ite (fun _ => pc_bnd (pc_pf (fr_X4_layBrings hF)) (fun _ s6 f => ?_)) (fun _ => VE_ref hm)
    have h6 := VE_fr hm f (by intro c hc; unfold cM2 at hc; show ¬ _; unfold wf_46; first | exact id | omega)
    exact loop F _ _ _ _ _ (VE_N h6) (h6 2 (by decide))
  rw [f_X4_bestLaw_e]
  refine pc_lt (fun s5 g => ?_)
  have h5 : VE (wvM σ) s5 := by rw [g]; exact VE_th h0
  refine pc_bnd (pc_pf (fr_X4_isLooker hF)) (fun r s f => ?_)
  have h6 := VE_fr h5 f (by intro c hc; unfold cM2 at hc; show ¬ _; unfold wf_1; first | exact id | omega)
  refine pc_ite (fun _ => J _ _ h6) (fun _ => pc_bnd (pc_pf (fr_X4_wrongNumber hF)) (fun r s f => J _ _ (VE_fr h6 f (by intro c hc; unfold cM2 at hc; show ¬ _; unfold wf_1; first | exact id | omega))))
theorem rst_bestPane {F : Nat} (hF : 1000 ≤ F) {x1 x2 x3 x4 : Int32} {σ : Mem} : pc (f_X4_bestPane F x1 x2 x3 x4 σ) (fun _ z => VE (wvM σ) z) := by
  have loop : ∀ (N : Nat) (x6 x7 x8 x9 : Int32) (m : Mem), VN (28 + ((24 : Int32) * x1 + x2).toNatClampNeg) (wvM σ) m → x6 = wvM σ (28 + ((24 : Int32) * x1 + x2).toNatClampNeg) → pc (lp_X4_bestPane_74 F x1 x2 x3 x4 x6 N x7 x8 x9 m) (fun _ z => VE (wvM σ) z) := by
    intro N
    induction N with
    | zero => intro x6 x7 x8 x9 m _ _; exact pc_none rfl
    | succ N ih =>
      intro x6 x7 x8 x9 m hm h1
      rw [lp_X4_bestPane_74_s]
      simp only [j_X4_bestPane_109_e, j_X4_bestPane_146_e, j_X4_bestPane_162_e]
      have body : ∀ v : Int32, pc (wt_chk ((24 : Int32) * x1 + x2) 120 (wt_lt (up2 m 106 (Int32.toNatClampNeg ((24 : Int32) * x1 + x2)) v) fun s2 => wt_bnd (f_X4_worthAnew F x1 x3 s2) fun r3 s4 => if r3 ≤ x8 then (if r3 ≤ x8 then lp_X4_bestPane_74 F x1 x2 x3 x4 x6 N x7 x8 (x9 + 1) s4 else lp_X4_bestPane_74 F x1 x2 x3 x4 x6 N x7 r3 (x9 + 1) s4) else if x9 = s4 101 1 then (if r3 ≤ x8 then lp_X4_bestPane_74 F x1 x2 x3 x4 x6 N 9 x8 (x9 + 1) s4 else lp_X4_bestPane_74 F x1 x2 x3 x4 x6 N 9 r3 (x9 + 1) s4) else (if r3 ≤ x8 then lp_X4_bestPane_74 F x1 x2 x3 x4 x6 N x9 x8 (x9 + 1) s4 else lp_X4_bestPane_74 F x1 x2 x3 x4 x6 N x9 r3 (x9 + 1) s4))) (fun _ z => VE (wvM σ) z) := fun v => by
        refine pc_chk (fun w => pc_lt (fun s2 g => pc_bnd (pc_pf (fr_X4_worthAnew hF)) (fun r s4 f => ?_)))
        obtain ⟨q1, q2, q3⟩ := q106 w
        have h4 : VN (28 + ((24 : Int32) * x1 + x2).toNatClampNeg) (wvM σ) s4 := VN_fr (by rw [g]; exact VN_put hm q1 q2 q3) f (by intro c hc; unfold cM2 at hc; show ¬ _; unfold wf_48; first | exact id | omega)
        exact pc_ite (fun _ => pc_ite (fun _ => ih _ _ _ _ _ h4 h1) (fun _ => ih _ _ _ _ _ h4 h1)) (fun _ => pc_ite (fun _ => pc_ite (fun _ => ih _ _ _ _ _ h4 h1) (fun _ => ih _ _ _ _ _ h4 h1)) (fun _ => pc_ite (fun _ => ih _ _ _ _ _ h4 h1) (fun _ => ih _ _ _ _ _ h4 h1)))
      refine pc_ite (fun _ => pc_chk (fun w => pc_lt (fun s6 g => ?_))) (fun _ => pc_ite (fun _ => body _) (fun _ => body _))
      obtain ⟨q1, q2, q3⟩ := q106 w
      have h6 : VE (wvM σ) s6 := by rw [g]; exact VN_back hm q1 q2 q3 h1
      exact pc_ite (fun _ => pc_ret h6) (fun _ => pc_ret h6)
  have h0 : VE (wvM σ) σ := fun _ _ => rfl
  have J : ∀ (t : Int32) (m : Mem), VE (wvM σ) m → pc (j_X4_bestPane_32 F x1 x2 x3 x4 t m) (fun _ z => VE (wvM σ) z) := fun t m hm => by
    rw [j_X4_bestPane_32_e]
    refine pc_bnd (pc_pf (fr_X4_wrongBit hF)) (fun _ s8 f => ?_)
    have h8 := VE_fr hm f (by intro c hc; unfold cM2 at hc; show ¬ _; unfold wf_1; first | exact id | omega)
    refine pc_ite (fun _ => pc_chk (fun w => pc_lt (fun z10 g => ?_))) (fun _ => VE_ref h8)
    obtain ⟨q1, q2, q3⟩ := q106 w
    refine loop F _ _ _ _ _ (VE_N h8) ?_
    rw [g, ← h8 _ q1]
    unfold wvM
    rw [← q2, ← q3]
  rw [f_X4_bestPane_e]
  simp only [j_X4_bestPane_31_e]
  refine pc_lt (fun s5 g => ?_)
  have h5 : VE (wvM σ) s5 := by rw [g]; exact VE_th h0
  refine pc_bnd (pc_pf (fr_X4_isLooker hF)) (fun r s f => ?_)
  have h6 := VE_fr h5 f (by intro c hc; unfold cM2 at hc; show ¬ _; unfold wf_1; first | exact id | omega)
  refine pc_ite (fun _ => J _ _ h6) (fun _ => pc_bnd (pc_pf (fr_X4_isHour hF)) (fun r s f => ?_))
  have h7 := VE_fr h6 f (by intro c hc; unfold cM2 at hc; show ¬ _; unfold wf_1; first | exact id | omega)
  refine pc_ite (fun _ => J _ _ h7) (fun _ => pc_bnd (pc_pf (fr_X4_wrongNumber hF)) (fun r s f => J _ _ (VE_fr h7 f (by intro c hc; unfold cM2 at hc; show ¬ _; unfold wf_1; first | exact id | omega))))
theorem rst_freeHours {F : Nat} (hF : 1000 ≤ F) {x1 x2 : Int32} {σ : Mem} : pc (f_X4_freeHours F x1 x2 σ) (fun _ z => VE (wvM σ) z) := by
  have loop : ∀ (N : Nat) (x4 x5 x6 : Int32) (m : Mem), VE (wvM σ) m → pc (lp_X4_freeHours_54 F x1 x2 x4 N x5 x6 m) (fun _ z => VE (wvM σ) z) := by
    intro N
    induction N with
    | zero => intro x4 x5 x6 m _; exact pc_none rfl
    | succ N ih =>
      intro x4 x5 x6 m hm
      rw [lp_X4_freeHours_54_s]
      simp only [j_X4_freeHours_118_e, j_X4_freeHours_119_e]
      refine pc_ite (fun _ => pc_ret hm) (fun _ => pc_chk (fun w => pc_lt (fun z4 g4 => pc_lt (fun s5 g5 => pc_bnd (pc_pf (fr_X4_layBrings hF)) (fun _ s7 f => ?_)))))
      obtain ⟨q1, q2, q3⟩ := q106 w
      have hz : z4 = wvM σ (28 + ((24 : Int32) * x1 + x6).toNatClampNeg) := by
        rw [g4, ← hm _ q1]
        unfold wvM
        rw [← q2, ← q3]
      have h7 : VN (28 + ((24 : Int32) * x1 + x6).toNatClampNeg) (wvM σ) s7 := VN_fr (by rw [g5]; exact VN_put (VE_N hm) q1 q2 q3) f (by intro c hc; unfold cM2 at hc; show ¬ _; unfold wf_46; first | exact id | omega)
      have back : ∀ (s : Mem) (v : Int32), VN (28 + ((24 : Int32) * x1 + x6).toNatClampNeg) (wvM σ) s → pc (wt_chk ((24 : Int32) * x1 + x6) 120 (wt_lt (up2 s 106 (Int32.toNatClampNeg ((24 : Int32) * x1 + x6)) z4) fun s2 => lp_X4_freeHours_54 F x1 x2 x4 N v (x6 + 1) s2)) (fun _ z => VE (wvM σ) z) := fun s v hs => pc_chk (fun _ => pc_lt (fun s2 g => ih _ _ _ _ (by rw [g]; exact VN_back hs q1 q2 q3 hz)))
      refine pc_ite (fun _ => back _ _ h7) (fun _ => pc_bnd (pc_pf (fr_X4_viewsIn hF)) (fun r s9 f9 => ?_))
      have h9 := VN_fr h7 f9 (by intro c hc; unfold cM2 at hc; show ¬ _; unfold wf_47; first | exact id | omega)
      exact pc_ite (fun _ => back _ _ h9) (fun _ => back _ _ h9)
  have h0 : VE (wvM σ) σ := fun _ _ => rfl
  have J : ∀ (t : Int32) (m : Mem), VE (wvM σ) m → pc (j_X4_freeHours_25 F x1 x2 t m) (fun _ z => VE (wvM σ) z) := fun t m hm => by
    rw [j_X4_freeHours_25_e]
    refine pc_ite (fun _ => pc_bnd (pc_pf (fr_X4_layBrings hF)) (fun _ s6 f => pc_bnd (pc_pf (fr_X4_viewsIn hF)) (fun r s7 f7 => ?_))) (fun _ => VE_ref hm)
    exact loop F _ _ _ _ (VE_fr (VE_fr hm f (by intro c hc; unfold cM2 at hc; show ¬ _; unfold wf_46; first | exact id | omega)) f7 (by intro c hc; unfold cM2 at hc; show ¬ _; unfold wf_47; first | exact id | omega))
  rw [f_X4_freeHours_e]
  refine pc_lt (fun s5 g => ?_)
  have h5 : VE (wvM σ) s5 := by rw [g]; exact VE_th h0
  refine pc_bnd (pc_pf (fr_X4_isLooker hF)) (fun r s f => ?_)
  have h6 := VE_fr h5 f (by intro c hc; unfold cM2 at hc; show ¬ _; unfold wf_1; first | exact id | omega)
  refine pc_ite (fun _ => J _ _ h6) (fun _ => pc_bnd (pc_pf (fr_X4_wrongNumber hF)) (fun r s f => J _ _ (VE_fr h6 f (by intro c hc; unfold cM2 at hc; show ¬ _; unfold wf_1; first | exact id | omega))))
theorem rst_walls {F : Nat} (hF : 1000 ≤ F) {x1 x2 x3 : Int32} {σ : Mem} : pc (f_X4_walls F x1 x2 x3 σ) (fun _ z => VE (wvM σ) z) := by
  have inner : ∀ (k62 : Int32 → Int32 → Int32 → Mem → Option (Int32 × Mem)), (∀ a b c m, VE (wvM σ) m → pc (k62 a b c m) (fun _ z => VE (wvM σ) z)) → ∀ (N : Nat) (x5 x8 x6 x7 x9 : Int32) (m : Mem), VE (wvM σ) m → pc (lp_X4_walls_74 F k62 x1 x2 x3 x5 x8 N x6 x7 x9 m) (fun _ z => VE (wvM σ) z) := by
    intro k62 hk N
    induction N with
    | zero => intro x5 x8 x6 x7 x9 m _; exact pc_none rfl
    | succ N ih =>
      intro x5 x8 x6 x7 x9 m hm
      rw [lp_X4_walls_74_s]
      simp only [j_X4_walls_173_e, j_X4_walls_171_e, j_X4_walls_155_e]
      refine pc_ite (fun _ => hk _ _ _ _ hm) (fun _ => pc_chk (fun w => pc_bnd (pc_pf (fr_X4_hasBit hF)) (fun r s3 f => ?_)))
      have h3 := VE_fr hm f (by intro c hc; unfold cM2 at hc; show ¬ _; unfold wf_1; first | exact id | omega)
      have hj := wtJI_103 _ w.2.2
      have hq : 12 + x8.toNatClampNeg < 188 := by have := w.2.2; omega
      refine pc_ite (fun _ => ih _ _ _ _ _ _ h3) (fun _ => pc_lt (fun s4 g4 => pc_bnd (pc_pf (fr_X4_worthAnew hF)) (fun r5 s6 f6 => pc_lt (fun s7 g7 => ?_))))
      have h6 : VN (12 + x8.toNatClampNeg) (wvM σ) s6 := VN_fr (by rw [g4]; exact VN_put (VE_N h3) hq hj.1.symm hj.2.symm) f6 (by intro c hc; unfold cM2 at hc; show ¬ _; unfold wf_48; first | exact id | omega)
      have e6 : s6 103 x8.toNatClampNeg = s4 103 x8.toNatClampNeg := f6 103 _ (by rw [show wcid 103 x8.toNatClampNeg = 103 from rfl]; show ¬ _; unfold wf_48; omega)
      have e3 : s3 103 x8.toNatClampNeg = wvM σ (12 + x8.toNatClampNeg) := by
        rw [← h3 _ hq]
        unfold wvM
        rw [hj.1, hj.2]
      have h7 : VE (wvM σ) s7 := by
        rw [g7]
        refine VN_back h6 hq hj.1.symm hj.2.symm ?_
        rw [e6, g4, up2_s, Int32.xor_assoc, Int32.xor_self, Int32.xor_zero, e3]
      exact pc_ite (fun _ => pc_ite (fun _ => ih _ _ _ _ _ _ h7) (fun _ => ih _ _ _ _ _ _ h7)) (fun _ => pc_ite (fun _ => ih _ _ _ _ _ _ h7) (fun _ => ih _ _ _ _ _ _ h7))
  have outer : ∀ (N : Nat) (x5 x6 x7 x8 : Int32) (m : Mem), VE (wvM σ) m → pc (lp_X4_walls_62 F x1 x2 x3 x5 N x6 x7 x8 m) (fun _ z => VE (wvM σ) z) := by
    intro N
    induction N with
    | zero => intro x5 x6 x7 x8 m _; exact pc_none rfl
    | succ N ih =>
      intro x5 x6 x7 x8 m hm
      rw [lp_X4_walls_62_s]
      simp only [j_X4_walls_194_e]
      refine pc_ite (fun _ => pc_ite (fun _ => pc_ret hm) (fun _ => pc_ite (fun _ => pc_ret hm) (fun _ => pc_ret hm))) (fun _ => inner _ (fun a b c m h => ih _ _ _ _ _ h) F _ _ _ _ _ _ hm)
  have h0 : VE (wvM σ) σ := fun _ _ => rfl
  have J : ∀ (t : Int32) (m : Mem), VE (wvM σ) m → pc (j_X4_walls_25 F x1 x2 x3 t m) (fun _ z => VE (wvM σ) z) := fun t m hm => by
    rw [j_X4_walls_25_e]
    refine pc_bnd (pc_pf (fr_X4_wrongBit hF)) (fun _ s8 f => ?_)
    have h8 := VE_fr hm f (by intro c hc; unfold cM2 at hc; show ¬ _; unfold wf_1; first | exact id | omega)
    exact pc_ite (fun _ => pc_bnd (pc_pf (fr_X4_worthAnew hF)) (fun _ s6 f => outer F _ _ _ _ _ (VE_fr h8 f (by intro c hc; unfold cM2 at hc; show ¬ _; unfold wf_48; first | exact id | omega)))) (fun _ => VE_ref h8)
  rw [f_X4_walls_e]
  refine pc_lt (fun s5 g => ?_)
  have h5 : VE (wvM σ) s5 := by rw [g]; exact VE_th h0
  refine pc_bnd (pc_pf (fr_X4_isLooker hF)) (fun r s f => ?_)
  have h6 := VE_fr h5 f (by intro c hc; unfold cM2 at hc; show ¬ _; unfold wf_1; first | exact id | omega)
  refine pc_ite (fun _ => J _ _ h6) (fun _ => pc_bnd (pc_pf (fr_X4_wrongNumber hF)) (fun r s f => J _ _ (VE_fr h6 f (by intro c hc; unfold cM2 at hc; show ¬ _; unfold wf_1; first | exact id | omega))))
end
section
theorem wtI_106 : ∀ p, p < 188 → wtJ p = 106 → wtI p < 120 := by decide +kernel
theorem rst_two {F : Nat} (hF : 1000 ≤ F) {x1 x2 x3 x4 : Int32} {σ : Mem} : pc (f_X4_two F x1 x2 x3 x4 σ) (fun _ z => VE (wvM σ) z) := by
  have rest : ∀ (N : Nat) (x8 : Int32) (m : Mem), VE (wvM σ) m → pc (lp_X4_two_205 F N x8 m) (fun _ z => VE (wvM σ) z) := by
    intro N
    induction N with
    | zero => intro x8 m _; exact pc_none rfl
    | succ N ih =>
      intro x8 m hm
      rw [lp_X4_two_205_s]
      refine pc_ite (fun _ => pc_ret hm) (fun _ => pc_bnd (pc_pf (fr_X4_areResting hF)) (fun r s f => ?_))
      have h := VE_fr hm f (by intro c hc; unfold cM2 at hc; show ¬ _; unfold wf_1; first | exact id | omega)
      exact pc_ite (fun _ => ih _ _ h) (fun _ => pc_ret h)
  have inner : ∀ (k77 : Int32 → Mem → Option (Int32 × Mem)), (∀ a m, VN2 (28 + ((24 : Int32) * x1 + x3).toNatClampNeg) (28 + ((24 : Int32) * x2 + x3).toNatClampNeg) (wvM σ) m → pc (k77 a m) (fun _ z => VE (wvM σ) z)) → ∀ (N : Nat) (x6 x7 x8 x9 : Int32) (m : Mem), VN2 (28 + ((24 : Int32) * x1 + x3).toNatClampNeg) (28 + ((24 : Int32) * x2 + x3).toNatClampNeg) (wvM σ) m → pc (lp_X4_two_89 F k77 x1 x2 x3 x4 x6 x7 x8 N x9 m) (fun _ z => VE (wvM σ) z) := by
    intro k77 hk N
    induction N with
    | zero => intro x6 x7 x8 x9 m _; exact pc_none rfl
    | succ N ih =>
      intro x6 x7 x8 x9 m hm
      rw [lp_X4_two_89_s]
      refine pc_ite (fun _ => hk _ _ hm) (fun _ => pc_chk (fun w1 => pc_lt (fun s2 g2 => pc_chk (fun w2 => pc_lt (fun s4 g4 => pc_bnd (pc_pf (fr_X4_worthAnew hF)) (fun r5 s6 f6 => pc_chk (fun _ => pc_lt (fun s8 g8 => pc_bnd (pc_pf (fr_X4_worthIn hF)) (fun r9 s10 f10 => pc_lt (fun s11 g11 => ih _ _ _ _ _ ?_))))))))))
      obtain ⟨q1, q2, q3⟩ := q106 w1
      obtain ⟨p1, p2, p3⟩ := q106 w2
      have h4 : VN2 (28 + ((24 : Int32) * x1 + x3).toNatClampNeg) (28 + ((24 : Int32) * x2 + x3).toNatClampNeg) (wvM σ) s4 := by rw [g4]; refine VN2_2 ?_ p1 p2 p3; rw [g2]; exact VN2_1 hm q1 q2 q3
      have h6 := VN2_fr h4 f6 (by intro c hc; unfold cM2 at hc; show ¬ _; unfold wf_48; first | exact id | omega)
      have h8 : VN2 (28 + ((24 : Int32) * x1 + x3).toNatClampNeg) (28 + ((24 : Int32) * x2 + x3).toNatClampNeg) (wvM σ) s8 := by rw [g8]; exact VN2_up h6 (by omega) (by omega)
      have h10 := VN2_fr h8 f10 (by intro c hc; unfold cM2 at hc; show ¬ _; unfold wf_47; first | exact id | omega)
      rw [g11]
      exact VN2_up h10 (by omega) (by omega)
  have outer : ∀ (N : Nat) (x6 x7 x8 : Int32) (m : Mem), VN2 (28 + ((24 : Int32) * x1 + x3).toNatClampNeg) (28 + ((24 : Int32) * x2 + x3).toNatClampNeg) (wvM σ) m → x6 = wvM σ (28 + ((24 : Int32) * x1 + x3).toNatClampNeg) → x7 = wvM σ (28 + ((24 : Int32) * x2 + x3).toNatClampNeg) → pc (lp_X4_two_77 F x1 x2 x3 x4 x6 x7 N x8 m) (fun _ z => VE (wvM σ) z) := by
    intro N
    induction N with
    | zero => intro x6 x7 x8 m _ _ _; exact pc_none rfl
    | succ N ih =>
      intro x6 x7 x8 m hm e6 e7
      rw [lp_X4_two_77_s]
      refine pc_ite (fun _ => pc_chk (fun w1 => pc_lt (fun s15 g15 => pc_chk (fun w2 => pc_lt (fun s17 g17 => rest F _ _ ?_))))) (fun _ => inner _ (fun a m h => ih _ _ _ _ h e6 e7) F _ _ _ _ _ hm)
      obtain ⟨q1, q2, q3⟩ := q106 w1
      obtain ⟨p1, p2, p3⟩ := q106 w2
      rw [g17]
      refine VN_back ?_ p1 p2 p3 e7
      rw [g15]
      exact VN2_b1 hm q1 q2 q3 e6
  have h0 : VE (wvM σ) σ := fun _ _ => rfl
  have J : ∀ (t : Int32) (m : Mem), VE (wvM σ) m → pc (j_X4_two_34 F x1 x2 x3 x4 t m) (fun _ z => VE (wvM σ) z) := fun t m hm => by
    rw [j_X4_two_34_e]
    refine pc_ite (fun _ => pc_chk (fun w1 => pc_lt (fun z19 g19 => pc_chk (fun w2 => pc_lt (fun z21 g21 => ?_))))) (fun _ => VE_ref hm)
    obtain ⟨q1, q2, q3⟩ := q106 w1
    obtain ⟨p1, p2, p3⟩ := q106 w2
    refine outer F _ _ _ _ (fun p hp _ _ => hm p hp) ?_ ?_
    · rw [g19, ← hm _ q1]; unfold wvM; rw [← q2, ← q3]
    · rw [g21, ← hm _ p1]; unfold wvM; rw [← p2, ← p3]
  rw [f_X4_two_e]
  simp only [j_X4_two_33_e]
  refine pc_lt (fun s5 g => ?_)
  have h5 : VE (wvM σ) s5 := by rw [g]; exact VE_th h0
  refine pc_bnd (pc_pf (fr_X4_areTwo hF)) (fun r s f => ?_)
  have h6 := VE_fr h5 f (by intro c hc; unfold cM2 at hc; show ¬ _; unfold wf_1; first | exact id | omega)
  refine pc_ite (fun _ => J _ _ h6) (fun _ => pc_bnd (pc_pf (fr_X4_isHour hF)) (fun r s f => ?_))
  have h7 := VE_fr h6 f (by intro c hc; unfold cM2 at hc; show ¬ _; unfold wf_1; first | exact id | omega)
  refine pc_ite (fun _ => J _ _ h7) (fun _ => pc_bnd (pc_pf (fr_X4_wrongNumber hF)) (fun r s f => J _ _ (VE_fr h7 f (by intro c hc; unfold cM2 at hc; show ¬ _; unfold wf_1; first | exact id | omega))))
/-- two rows changed for each other, k hours of them -/
def swp (a b k : Nat) (f g : Nat → Int32) : Prop := ∀ i, i < 120 → g i = if 24 * a ≤ i ∧ i < 24 * a + k then f (24 * b + (i - 24 * a)) else if 24 * b ≤ i ∧ i < 24 * b + k then f (24 * a + (i - 24 * b)) else f i
theorem mx_swapRosters {F : Nat} {x1 x2 : Int32} {a b : Nat} (ha : x1.toInt = (a : Int)) (hb : x2.toInt = (b : Int)) (ha5 : a < 5) (hb5 : b < 5) (hab : a ≠ b) {σ : Mem} : pc (f_X4_swapRosters F x1 x2 σ) (fun _ s => swp a b 24 (σ 106) (s 106) ∧ ∀ k, k ≠ 106 → s k = σ k) := by
  have loop : ∀ (N k : Nat) (x3 : Int32) (m : Mem), x3.toInt = (k : Int) → k ≤ 24 → swp a b k (σ 106) (m 106) → (∀ k, k ≠ 106 → m k = σ k) → pc (lp_X4_swapRosters_2 F x1 x2 N x3 m) (fun _ s => swp a b 24 (σ 106) (s 106) ∧ ∀ k, k ≠ 106 → s k = σ k) := by
    intro N
    induction N with
    | zero => intro k x3 m h1 h2 h3 h4; exact pc_none rfl
    | succ N ih =>
      intro k x3 m h1 h2 h3 h4
      rw [lp_X4_swapRosters_2_s]
      refine pc_ite (fun c => ?_) (fun c => ?_)
      · have := ti_le c
        rw [tz_24] at this
        have e : k = 24 := by omega
        subst e
        exact pc_ret ⟨h3, h4⟩
      have hc := ti_nle c
      rw [tz_24] at hc
      have i1 := tn_24 ha h1 ha5 (by omega)
      have i2 := tn_24 hb h1 hb5 (by omega)
      refine pc_chk (fun _ => pc_lt (fun z2 g2 => pc_chk (fun _ => pc_lt (fun s4 g4 => pc_lt (fun s5 g5 => ih (k + 1) _ s5 (ti_nx h1 (by omega)) (by omega) (fun i hi => ?_) (fun j hj => by rw [g5, up2_k hj, g4, up2_k hj]; exact h4 j hj))))))
      rw [i1] at g2
      rw [i1, i2] at g4
      rw [i2] at g5
      have ea : m 106 (24 * a + k) = σ 106 (24 * a + k) := by rw [h3 _ (by omega), if_neg (by omega), if_neg (by omega)]
      have eb : m 106 (24 * b + k) = σ 106 (24 * b + k) := by rw [h3 _ (by omega), if_neg (by omega), if_neg (by omega)]
      rw [g5]
      by_cases c1 : i = 24 * b + k
      · subst c1
        rw [up2_s, g2, ea, if_neg (by omega), if_pos (by omega), show 24 * b + k - 24 * b = k by omega]
      · rw [up2_i c1, g4]
        by_cases c2 : i = 24 * a + k
        · subst c2
          rw [up2_s, eb, if_pos (by omega), show 24 * a + k - 24 * a = k by omega]
        · rw [up2_i c2, h3 i hi]
          by_cases d1 : 24 * a ≤ i ∧ i < 24 * a + k
          · rw [if_pos d1, if_pos (by omega)]
          · rw [if_neg d1, if_neg (show ¬ (24 * a ≤ i ∧ i < 24 * a + (k + 1)) by omega)]
            by_cases d2 : 24 * b ≤ i ∧ i < 24 * b + k
            · rw [if_pos d2, if_pos (by omega)]
            · rw [if_neg d2, if_neg (by omega)]
  rw [f_X4_swapRosters_e]
  exact loop F 0 0 σ rfl (by omega) (fun i hi => by rw [if_neg (by omega), if_neg (by omega)]) (fun _ _ => rfl)
theorem swp_swp {a b : Nat} (ha5 : a < 5) (hb5 : b < 5) (hab : a ≠ b) {f g h : Nat → Int32} (h1 : swp a b 24 f g) (h2 : swp a b 24 g h) : ∀ i, i < 120 → h i = f i := fun i hi => by
  rw [h2 i hi]
  by_cases d1 : 24 * a ≤ i ∧ i < 24 * a + 24
  · rw [if_pos d1, h1 _ (by omega), if_neg (by omega), if_pos (by omega)]; congr 1; omega
  · rw [if_neg d1]
    by_cases d2 : 24 * b ≤ i ∧ i < 24 * b + 24
    · rw [if_pos d2, h1 _ (by omega), if_pos (by omega)]; congr 1; omega
    · rw [if_neg d2, h1 i hi, if_neg d1, if_neg d2]
theorem rst_swap {F : Nat} (hF : 1000 ≤ F) {x1 : Int32} {σ : Mem} (b3 : 0 ≤ (σ 101 3).toInt ∧ (σ 101 3).toInt ≤ 5) : pc (f_X4_swap F x1 σ) (fun _ z => VE (wvM σ) z) := by
  have hb : ∀ m, VE (wvM σ) m → (m 101 3).toInt = (σ 101 3).toInt := fun m hm => by have : wvM m 1 = wvM σ 1 := hm 1 (by decide); exact congrArg Int32.toInt this
  have inner : ∀ (k37 : Int32 → Int32 → Int32 → Mem → Option (Int32 × Mem)) (x4 : Int32) (a : Nat), x4.toInt = (a : Int) → a < 5 → (∀ c d m, VE (wvM σ) m → pc (k37 c d (x4 + 1) m) (fun _ z => VE (wvM σ) z)) → ∀ (N b : Nat) (x2 x3 x5 : Int32) (m : Mem), x5.toInt = (b : Int) → a < b → VE (wvM σ) m → pc (lp_X4_swap_52 F k37 x1 x4 N x2 x3 x5 m) (fun _ z => VE (wvM σ) z) := by
    intro k37 x4 a ha ha5 hk N
    induction N with
    | zero => intro b x2 x3 x5 m _ _ _; exact pc_none rfl
    | succ N ih =>
      intro b x2 x3 x5 m hbx hab hm
      rw [lp_X4_swap_52_s]
      simp only [j_X4_swap_128_e, j_X4_swap_129_e, j_X4_swap_148_e, j_X4_swap_160_e]
      refine pc_ite (fun _ => hk _ _ _ hm) (fun c => ?_)
      have hc := ti_nle c
      rw [hb m hm] at hc
      have hb5 : b < 5 := by omega
      refine pc_bnd (pc_pf (fr_X4_worthAnew hF)) (fun r1 s2 f2 => pc_bnd (pc_pf (fr_X4_worthIn hF)) (fun r3 s4 f4 => pc_bnd (mx_swapRosters ha hbx ha5 hb5 (by omega)) (fun _ s6 g6 => pc_bnd (pc_pf (fr_X4_worthAnew hF)) (fun r7 s8 f8 => pc_bnd (pc_pf (fr_X4_worthIn hF)) (fun r9 s10 f10 => pc_bnd (mx_swapRosters ha hbx ha5 hb5 (by omega)) (fun _ s12 g12 => ?_))))))
      have h4 := VE_fr (VE_fr hm f2 (by intro c hc; unfold cM2 at hc; show ¬ _; unfold wf_48; first | exact id | omega)) f4 (by intro c hc; unfold cM2 at hc; show ¬ _; unfold wf_47; first | exact id | omega)
      have f610 : ∀ k i, ¬ (k = 109 ∨ k = 110) → s10 k i = s6 k i := fun k i h => by
        have hw : ¬ (109 ≤ wcid k i ∧ wcid k i ≤ 110) := by rcases wcid_or k i with e | e <;> omega
        rw [f10 k i (by show ¬ _; unfold wf_47; omega), f8 k i (by show ¬ _; unfold wf_48; omega)]
      have h12 : VE (wvM σ) s12 := fun p hp => by
        rw [← h4 p hp]
        unfold wvM
        have hj := wtJ_101 p hp
        by_cases e : wtJ p = 106
        · have hi : wtI p < 120 := wtI_106 p hp e
          have e610 : s10 106 = s6 106 := funext fun i => f610 106 i (by omega)
          rw [e]
          have g6' := g6.1
          have g12' := g12.1
          rw [e610] at g12'
          exact swp_swp ha5 hb5 (by omega) g6' g12' _ hi
        · rw [g12.2 _ e, f610 _ _ (by omega), g6.2 _ e]
      have nx : (x5 + 1).toInt = ((b + 1 : Nat) : Int) := ti_nx hbx (by omega)
      have go : ∀ u v, pc (lp_X4_swap_52 F k37 x1 x4 N u v (x5 + 1) s12) (fun _ z => VE (wvM σ) z) := fun u v => ih (b + 1) u v _ s12 nx (by omega) h12
      exact pc_ite (fun _ => pc_ite (fun _ => pc_ite (fun _ => go _ _) (fun _ => go _ _)) (fun _ => pc_ite (fun _ => go _ _) (fun _ => go _ _))) (fun _ => pc_ite (fun _ => pc_ite (fun _ => pc_ite (fun _ => go _ _) (fun _ => go _ _)) (fun _ => pc_ite (fun _ => go _ _) (fun _ => go _ _))) (fun _ => pc_ite (fun _ => pc_ite (fun _ => go _ _) (fun _ => go _ _)) (fun _ => pc_ite (fun _ => go _ _) (fun _ => go _ _))))
  have outer : ∀ (N a : Nat) (x2 x3 x4 : Int32) (m : Mem), x4.toInt = (a : Int) → VE (wvM σ) m → pc (lp_X4_swap_37 F x1 N x2 x3 x4 m) (fun _ z => VE (wvM σ) z) := by
    intro N
    induction N with
    | zero => intro a x2 x3 x4 m _ _; exact pc_none rfl
    | succ N ih =>
      intro a x2 x3 x4 m ha hm
      rw [lp_X4_swap_37_s]
      refine pc_ite (fun _ => pc_ret hm) (fun c => ?_)
      have hc := ti_nle c
      rw [hb m hm] at hc
      exact inner _ x4 a ha (by omega) (fun c d m h => ih (a + 1) _ _ _ _ (ti_nx ha (by omega)) h) F (a + 1) _ _ _ _ (ti_nx ha (by omega)) (by omega) hm
  have h0 : VE (wvM σ) σ := fun _ _ => rfl
  rw [f_X4_swap_e]
  refine pc_lt (fun s5 g => ?_)
  have h5 : VE (wvM σ) s5 := by rw [g]; exact VE_th h0
  refine pc_bnd (pc_pf (fr_X4_wrongNumber hF)) (fun r s f => ?_)
  have h6 := VE_fr h5 f (by intro c hc; unfold cM2 at hc; show ¬ _; unfold wf_1; first | exact id | omega)
  refine pc_ite (fun _ => outer F 0 _ _ _ _ rfl h6) (fun _ => pc_bnd (pc_pf (fr_X4_wrongNumber hF)) (fun r s f => VE_ref (VE_fr h6 f (by intro c hc; unfold cM2 at hc; show ¬ _; unfold wf_1; first | exact id | omega))))
theorem rst_whichKind {F : Nat} (hF : 1000 ≤ F) {x1 x2 x3 : Int32} {σ : Mem} : pc (f_X4_whichKind F x1 x2 x3 σ) (fun _ z => VE (wvM σ) z) := by
  have loop : ∀ (N : Nat) (x5 x6 : Int32) (m : Mem), VK (wvM σ) m → pc (lp_X4_whichKind_77 F x1 x2 x3 N x5 x6 m) (fun _ z => VE (wvM σ) z) := by
    intro N
    induction N with
    | zero => intro x5 x6 m _; exact pc_none rfl
    | succ N ih =>
      intro x5 x6 m hm
      rw [lp_X4_whichKind_77_s]
      have b135 : ∀ (t1 t2 : Int32) (m : Mem), VK (wvM σ) m → pc (j_X4_whichKind_135 F (lp_X4_whichKind_77 F x1 x2 x3 N) x1 x2 x3 x5 x6 t1 t2 m) (fun _ z => VE (wvM σ) z) := fun t1 t2 m hm => by
        rw [j_X4_whichKind_135_e]
        simp only [j_X4_whichKind_154_e]
        refine pc_chk (fun _ => pc_lt (fun s2 g => pc_bnd (pc_pf (fr_X4_isRow hF)) (fun r s4 f => ?_)))
        have h4 : VK (wvM σ) s4 := VK_fr (by rw [g]; exact VK_up hm (by decide)) f (by show ¬ _; unfold wf_48; omega)
        exact pc_ite (fun _ => ih _ _ _ h4) (fun _ => ih _ _ _ h4)
      have b113 : ∀ (t1 t2 : Int32) (m : Mem), VK (wvM σ) m → pc (j_X4_whichKind_113 F (lp_X4_whichKind_77 F x1 x2 x3 N) x1 x2 x3 x5 x6 t1 t2 m) (fun _ z => VE (wvM σ) z) := fun t1 t2 m hm => by
        rw [j_X4_whichKind_113_e]
        refine pc_chk (fun _ => pc_lt (fun s6 g => ?_))
        have h6 : VK (wvM σ) s6 := by rw [g]; exact VK_up hm (by decide)
        exact pc_ite (fun _ => b135 _ _ _ h6) (fun _ => pc_chk (fun _ => b135 _ _ _ h6))
      have b90 : ∀ (t0 t1 : Int32) (m : Mem), VK (wvM σ) m → pc (j_X4_whichKind_90 F (lp_X4_whichKind_77 F x1 x2 x3 N) x1 x2 x3 x5 x6 t0 t1 m) (fun _ z => VE (wvM σ) z) := fun t0 t1 m hm => by
        rw [j_X4_whichKind_90_e]
        exact pc_ite (fun _ => pc_bnd (th_again hF hm) (fun _ s h => pc_ret h)) (fun _ => pc_ite (fun _ => b113 _ _ _ hm) (fun _ => pc_chk (fun _ => b113 _ _ _ hm)))
      exact pc_ite (fun _ => b90 _ _ _ hm) (fun _ => b90 _ _ _ hm)
  have h0 : VE (wvM σ) σ := fun _ _ => rfl
  have J53 : ∀ (t : Int32) (m : Mem), VE (wvM σ) m → pc (j_X4_whichKind_53 F x1 x2 x3 t m) (fun _ z => VE (wvM σ) z) := fun t m hm => by
    rw [j_X4_whichKind_53_e]
    exact pc_ite (fun _ => pc_bnd (th_think hF) (fun _ s h => loop F _ _ _ (fun p hp => (h p hp).trans (hm p hp)))) (fun _ => VE_ref hm)
  have J : ∀ (t : Int32) (m : Mem), VE (wvM σ) m → pc (j_X4_whichKind_25 F x1 x2 x3 t m) (fun _ z => VE (wvM σ) z) := fun t m hm => by
    rw [j_X4_whichKind_25_e]
    simp only [j_X4_whichKind_51_e]
    refine pc_bnd (pc_pf (fr_X4_wrongBit hF)) (fun _ s8 f => ?_)
    have h8 := VE_fr hm f (by intro c hc; unfold cM2 at hc; show ¬ _; unfold wf_1; first | exact id | omega)
    exact pc_ite (fun _ => pc_ite (fun _ => J53 _ _ h8) (fun _ => J53 _ _ h8)) (fun _ => J53 _ _ h8)
  rw [f_X4_whichKind_e]
  refine pc_lt (fun s5 g => ?_)
  have h5 : VE (wvM σ) s5 := by rw [g]; exact VE_th h0
  refine pc_bnd (pc_pf (fr_X4_isLooker hF)) (fun r s f => ?_)
  have h6 := VE_fr h5 f (by intro c hc; unfold cM2 at hc; show ¬ _; unfold wf_1; first | exact id | omega)
  refine pc_ite (fun _ => J _ _ h6) (fun _ => pc_bnd (pc_pf (fr_X4_wrongNumber hF)) (fun r s f => J _ _ (VE_fr h6 f (by intro c hc; unfold cM2 at hc; show ¬ _; unfold wf_1; first | exact id | omega))))
theorem rst_heir {F : Nat} (hF : 1000 ≤ F) {x1 x2 x3 : Int32} {σ : Mem} : pc (f_X4_heir F x1 x2 x3 σ) (fun _ z => VE (wvM σ) z) := by
  have loop : ∀ (N : Nat) (x5 : Int32) (m : Mem), VK (wvM σ) m → pc (lp_X4_heir_63 F x1 x2 x3 N x5 m) (fun _ z => VE (wvM σ) z) := by
    intro N
    induction N with
    | zero => intro x5 m _; exact pc_none rfl
    | succ N ih =>
      intro x5 m hm
      rw [lp_X4_heir_63_s]
      refine pc_ite (fun _ => pc_bnd (pc_pf (fr_X4_layBrings hF)) (fun _ s2 f2 => pc_bnd (pc_pf (fr_X4_ownerIn hF)) (fun _ s4 f4 => ?_))) (fun _ => pc_chk (fun _ => pc_lt (fun s8 g => ih _ _ (by rw [g]; exact VK_up hm (by decide)))))
      have h4 := VK_fr (VK_fr hm f2 (by show ¬ _; unfold wf_46; omega)) f4 (by show ¬ _; unfold wf_47; omega)
      exact pc_bnd (th_again hF h4) (fun _ s h => pc_ret h)
  have h0 : VE (wvM σ) σ := fun _ _ => rfl
  have J : ∀ (t : Int32) (m : Mem), VE (wvM σ) m → pc (j_X4_heir_32 F x1 x2 x3 t m) (fun _ z => VE (wvM σ) z) := fun t m hm => by
    rw [j_X4_heir_32_e]
    refine pc_ite (fun _ => pc_bnd (th_think hF) (fun _ s h => pc_bnd (pc_pf (fr_X4_stand hF)) (fun _ s2 f2 => loop F _ _ (VK_fr (fun p hp => (h p hp).trans (hm p hp)) f2 (by show ¬ _; unfold wf_55; omega))))) (fun _ => VE_ref hm)
  rw [f_X4_heir_e]
  simp only [j_X4_heir_31_e]
  refine pc_lt (fun s5 g => ?_)
  have h5 : VE (wvM σ) s5 := by rw [g]; exact VE_th h0
  refine pc_bnd (pc_pf (fr_X4_isLooker hF)) (fun r s f => ?_)
  have h6 := VE_fr h5 f (by intro c hc; unfold cM2 at hc; show ¬ _; unfold wf_1; first | exact id | omega)
  refine pc_ite (fun _ => J _ _ h6) (fun _ => pc_bnd (pc_pf (fr_X4_isView hF)) (fun r s f => ?_))
  have h7 := VE_fr h6 f (by intro c hc; unfold cM2 at hc; show ¬ _; unfold wf_1; first | exact id | omega)
  refine pc_ite (fun _ => J _ _ h7) (fun _ => pc_bnd (pc_pf (fr_X4_wrongNumber hF)) (fun r s f => J _ _ (VE_fr h7 f (by intro c hc; unfold cM2 at hc; show ¬ _; unfold wf_1; first | exact id | omega))))
theorem rst_newcomer {F : Nat} (hF : 1000 ≤ F) {x1 x2 x3 : Int32} {σ : Mem} : pc (f_X4_newcomer F x1 x2 x3 σ) (fun _ z => VE (wvM σ) z) := by
  have e195 : ∀ (x5 x6 x7 : Int32) (m : Mem), VK (wvM σ) m → pc (j_X4_newcomer_195 F x3 x5 x6 x7 m) (fun _ z => VE (wvM σ) z) := fun x5 x6 x7 m hm => by
    rw [j_X4_newcomer_195_e]
    refine pc_bnd (pc_pf (fr_X4_stand hF)) (fun _ s2 f2 => pc_bnd (th_again hF (VK_fr hm f2 (by show ¬ _; unfold wf_55; omega))) (fun _ s h => pc_ite (fun _ => pc_ret h) (fun _ => pc_ret h)))
  have inner : ∀ (k113 : Int32 → Int32 → Int32 → Mem → Option (Int32 × Mem)), (∀ a b c m, VK (wvM σ) m → pc (k113 a b c m) (fun _ z => VE (wvM σ) z)) → ∀ (N : Nat) (x5 x8 x6 x7 x9 : Int32) (m : Mem), VK (wvM σ) m → pc (lp_X4_newcomer_130 F k113 x3 x5 x8 N x6 x7 x9 m) (fun _ z => VE (wvM σ) z) := by
    intro k113 hk N
    induction N with
    | zero => intro x5 x8 x6 x7 x9 m _; exact pc_none rfl
    | succ N ih =>
      intro x5 x8 x6 x7 x9 m hm
      rw [lp_X4_newcomer_130_s]
      simp only [j_X4_newcomer_153_e, j_X4_newcomer_167_e, j_X4_newcomer_181_e]
      refine pc_ite (fun _ => hk _ _ _ _ hm) (fun _ => pc_bnd (pc_pf (fr_X4_ownerIn hF)) (fun r s2 f => ?_))
      have h2 := VK_fr hm f (by show ¬ _; unfold wf_47; omega)
      exact pc_ite (fun _ => pc_ite (fun _ => pc_ite (fun _ => ih _ _ _ _ _ _ h2) (fun _ => ih _ _ _ _ _ _ h2)) (fun _ => pc_ite (fun _ => ih _ _ _ _ _ _ h2) (fun _ => ih _ _ _ _ _ _ h2))) (fun _ => pc_ite (fun _ => pc_ite (fun _ => ih _ _ _ _ _ _ h2) (fun _ => ih _ _ _ _ _ _ h2)) (fun _ => pc_ite (fun _ => ih _ _ _ _ _ _ h2) (fun _ => ih _ _ _ _ _ _ h2)))
  have outer : ∀ (N : Nat) (x5 x6 x7 x8 : Int32) (m : Mem), VK (wvM σ) m → pc (lp_X4_newcomer_113 F x3 x5 N x6 x7 x8 m) (fun _ z => VE (wvM σ) z) := by
    intro N
    induction N with
    | zero => intro x5 x6 x7 x8 m _; exact pc_none rfl
    | succ N ih =>
      intro x5 x6 x7 x8 m hm
      rw [lp_X4_newcomer_113_s]
      exact pc_ite (fun _ => e195 _ _ _ _ hm) (fun _ => pc_ite (fun _ => e195 _ _ _ _ hm) (fun _ => inner _ (fun a b c m h => ih _ _ _ _ _ h) F _ _ _ _ _ _ hm))
  have h0 : VE (wvM σ) σ := fun _ _ => rfl
  have J : ∀ (t : Int32) (m : Mem), VE (wvM σ) m → pc (j_X4_newcomer_58 F x1 x2 x3 t m) (fun _ z => VE (wvM σ) z) := fun t m hm => by
    rw [j_X4_newcomer_58_e]
    refine pc_ite (fun _ => pc_bnd (th_think hF) (fun _ s h => pc_bnd (pc_pf (fr_X4_lookerComes hF)) (fun _ s1 f1 => pc_bnd (pc_pf (fr_X4_stand hF)) (fun _ s2 f2 => pc_bnd (pc_pf (fr_X4_layBrings hF)) (fun _ s3 f3 => outer F _ _ _ _ _ (VK_fr (VK_fr (VK_fr (fun p hp => (h p hp).trans (hm p hp)) f1 (by show ¬ _; unfold wf_54; omega)) f2 (by show ¬ _; unfold wf_55; omega)) f3 (by show ¬ _; unfold wf_46; omega))))))) (fun _ => VE_ref hm)
  rw [f_X4_newcomer_e]
  simp only [j_X4_newcomer_39_e]
  refine pc_lt (fun s5 g => ?_)
  have h5 : VE (wvM σ) s5 := by rw [g]; exact VE_th h0
  refine pc_bnd (pc_pf (fr_X4_isPane hF)) (fun r s f => ?_)
  have h6 := VE_fr h5 f (by intro c hc; unfold cM2 at hc; show ¬ _; unfold wf_1; first | exact id | omega)
  refine pc_ite (fun _ => J _ _ h6) (fun _ => pc_bnd (pc_pf (fr_X4_in hF)) (fun r s f => ?_))
  have h7 := VE_fr h6 f (by intro c hc; unfold cM2 at hc; show ¬ _; unfold wf_1; first | exact id | omega)
  refine pc_ite (fun _ => J _ _ h7) (fun _ => pc_bnd (pc_pf (fr_X4_in hF)) (fun r s f => ?_))
  have h8 := VE_fr h7 f (by intro c hc; unfold cM2 at hc; show ¬ _; unfold wf_1; first | exact id | omega)
  exact pc_ite (fun _ => J _ _ h8) (fun _ => pc_ite (fun _ => J _ _ h8) (fun _ => J _ _ h8))
theorem rst_lots {F : Nat} (hF : 1000 ≤ F) {x1 x2 x3 : Int32} {σ : Mem} : pc (f_X4_lots F x1 x2 x3 σ) (fun _ z => VE (wvM σ) z) := by
  have l85 : ∀ (k46 : Int32 → Int32 → Mem → Option (Int32 × Mem)) (k62 : Int32 → Mem → Option (Int32 × Mem)), (∀ a m, VK (wvM σ) m → pc (k62 a m) (fun _ z => VE (wvM σ) z)) → ∀ (N : Nat) (x5 x6 x7 x8 : Int32) (m : Mem), VK (wvM σ) m → pc (lp_X4_lots_85 F k46 k62 x1 x3 x5 x6 x7 N x8 m) (fun _ z => VE (wvM σ) z) := by
    intro k46 k62 hk N
    induction N with
    | zero => intro x5 x6 x7 x8 m _; exact pc_none rfl
    | succ N ih =>
      intro x5 x6 x7 x8 m hm
      rw [lp_X4_lots_85_s]
      have j120 : ∀ (t1 t2 t3 : Int32) (m : Mem), VK (wvM σ) m → pc (j_X4_lots_120 F k46 k62 (lp_X4_lots_85 F k46 k62 x1 x3 x5 x6 x7 N) x1 x3 x5 x6 x7 x8 t1 t2 t3 m) (fun _ z => VE (wvM σ) z) := fun t1 t2 t3 m hm => by
        rw [j_X4_lots_120_e]
        refine pc_bnd (pc_pf (fr_X4_drawBelow hF)) (fun _ s2 f2 => pc_bnd (pc_pf (fr_X4_stand hF)) (fun _ s4 f4 => ih _ _ _ _ _ (VK_fr (VK_fr hm f2 (by show ¬ _; unfold wf_76; omega)) f4 (by show ¬ _; unfold wf_55; omega))))
      refine pc_ite (fun _ => hk _ _ hm) (fun _ => pc_bnd (pc_pf (fr_X4_drawBelow hF)) (fun r s6 f => ?_))
      have h6 := VK_fr hm f (by show ¬ _; unfold wf_76; omega)
      exact pc_ite (fun _ => j120 _ _ _ _ h6) (fun _ => j120 _ _ _ _ h6)
  have l62 : ∀ (k46 : Int32 → Int32 → Mem → Option (Int32 × Mem)), (∀ a b m, VK (wvM σ) m → pc (k46 a b m) (fun _ z => VE (wvM σ) z)) → ∀ (N : Nat) (x5 x6 x7 : Int32) (m : Mem), VK (wvM σ) m → pc (lp_X4_lots_62 F k46 x1 x3 x5 x6 N x7 m) (fun _ z => VE (wvM σ) z) := by
    intro k46 hk N
    induction N with
    | zero => intro x5 x6 x7 m _; exact pc_none rfl
    | succ N ih =>
      intro x5 x6 x7 m hm
      rw [lp_X4_lots_62_s]
      simp only [j_X4_lots_195_e]
      refine pc_ite (fun _ => pc_bnd (pc_pf (fr_X4_layBrings hF)) (fun _ s8 f8 => pc_bnd (pc_pf (fr_X4_richestIn hF)) (fun r9 s10 f10 => ?_))) (fun _ => pc_bnd (pc_pf (fr_X4_stand hF)) (fun _ s18 f => l85 _ _ (fun a m h => ih _ _ _ _ h) F _ _ _ _ _ (VK_fr hm f (by show ¬ _; unfold wf_55; omega))))
      have h10 := VK_fr (VK_fr hm f8 (by show ¬ _; unfold wf_46; omega)) f10 (by show ¬ _; unfold wf_47; omega)
      refine pc_ite (fun _ => pc_bnd (pc_pf (fr_X4_viewsIn hF)) (fun r13 s14 f14 => pc_bnd (pc_pf (fr_X4_onesOf hF)) (fun r15 s16 f16 => hk _ _ _ ?_))) (fun _ => pc_ite (fun _ => pc_bnd (pc_pf (fr_X4_worthIn hF)) (fun r11 s12 f12 => hk _ _ _ (VK_fr h10 f12 (by show ¬ _; unfold wf_47; omega)))) (fun _ => hk _ _ _ h10))
      exact VK_fr (VK_fr h10 f14 (by show ¬ _; unfold wf_47; omega)) f16 (by show ¬ _; unfold wf_1; exact id)
  have e204 : ∀ (x5 : Int32) (m : Mem), VK (wvM σ) m → pc (j_X4_lots_204 F x5 m) (fun _ z => VE (wvM σ) z) := fun x5 m hm => by
    rw [j_X4_lots_204_e]
    exact pc_bnd (th_again hF hm) (fun _ s h => pc_ret h)
  have l46 : ∀ (N : Nat) (x5 x6 : Int32) (m : Mem), VK (wvM σ) m → pc (lp_X4_lots_46 F x1 x3 N x5 x6 m) (fun _ z => VE (wvM σ) z) := by
    intro N
    induction N with
    | zero => intro x5 x6 m _; exact pc_none rfl
    | succ N ih =>
      intro x5 x6 m hm
      rw [lp_X4_lots_46_s]
      exact pc_ite (fun _ => e204 _ _ hm) (fun _ => pc_ite (fun _ => e204 _ _ hm) (fun _ => l62 _ (fun a b m h => ih _ _ _ h) F _ _ _ _ hm))
  have h0 : VE (wvM σ) σ := fun _ _ => rfl
  rw [f_X4_lots_e]
  refine pc_lt (fun s5 g => ?_)
  have h5 : VE (wvM σ) s5 := by rw [g]; exact VE_th h0
  refine pc_bnd (pc_pf (fr_X4_wrongNumber hF)) (fun r s f => ?_)
  have h6 := VE_fr h5 f (by intro c hc; unfold cM2 at hc; show ¬ _; unfold wf_1; first | exact id | omega)
  refine pc_bnd (pc_pf (fr_X4_wrongBit hF)) (fun r s f => ?_)
  have h7 := VE_fr h6 f (by intro c hc; unfold cM2 at hc; show ¬ _; unfold wf_1; first | exact id | omega)
  refine pc_ite (fun _ => pc_lt (fun s26 g26 => pc_bnd (th_think hF) (fun _ s28 h => l46 F _ _ _ (fun p hp => (h p hp).trans ?_)))) (fun _ => VE_ref h7)
  rw [g26]
  exact VE_up h7 (by omega) (by omega) p hp
end
