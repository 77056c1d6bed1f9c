theorem aSt_lo {S : Nat → Int32} {n p : Nat} {A B : Nat → Int32} (hv : wvV B) (h : lo148 A B) (hd : wdok S n p) : lo148 (aSt S p A) (aSt S p B) := by
  have h0 := h 0 (by decide)
  have h1 := h 1 (by decide)
  have h3 := h 3 (by decide)
  intro q hq
  have hh := h q hq
  rcases wD_cs (S p) with ⟨-, g0, -⟩ | ⟨-, -, -, -, e⟩
  · exact absurd g0 hd.2.1
  have bd : ∀ (i d : Nat), d ≤ 3 → i + d ≤ wD (S p) → 0 ≤ (wnum S (p + 1 + i) d).toInt ∧ (wnum S (p + 1 + i) d).toInt < (10 : Int) ^ d := fun i d h1 h2 => (wdok_b hd i d h1 h2).2.2
  rcases e with e | e | e | e | e | e | e
  · rw [(cSt_100 e).2, (cSt_100 e).2]; exact aDay_cg hv h hq
  · rw [(cSt_108 e).2, (cSt_108 e).2]; unfold aLooker; rw [h1, hh]
  · rw [(cSt_112 e).2, (cSt_112 e).2]; unfold aPane; rw [h0]; exact upd_cg (upd_cg hh rfl) rfl
  · rw [(cSt_115 e).2, (cSt_115 e).2]; unfold aStand; rw [hh]
  · rw [(cSt_117 e).2, (cSt_117 e).2]; unfold aLaw; exact upd_cg hh rfl
  · rw [(cSt_118 e).2, (cSt_118 e).2]; unfold aWorth; exact upd_cg hh rfl
  · rw [(cSt_119 e).2, (cSt_119 e).2]; unfold aWall
    have hb := bd 0 1 (by decide) (by rw [e]; decide)
    rw [show p + 1 + 0 = p + 1 from rfl] at hb
    have ht := ti_nat (wnum S (p + 1) 1)
    exact upd_cg hh (by rw [h _ (by omega)])
theorem wpl_3 {S : Nat → Int32} {n : Nat} : ∀ {k : Nat} {σ : Mem}, mInfo S n k σ → 3 * k ≤ wpl S k := by
  intro k
  induction k with
  | zero => intro σ _; exact Nat.zero_le _
  | succ k ih =>
    intro σ h
    have h1 := ih (fun j hj => h j (by omega))
    have h2 := (h k (by omega)).2.2.2.2.1
    show 3 * (k + 1) ≤ wpl S k + wD (S (wpl S k)) + 2
    omega
/-- the reference's statements come, one after the other -/
def mTer (S : Nat → Int32) (m j : Nat) (V A0 : Nat → Int32) (y : Int32) (r : Int32) (s : Mem) : Prop :=
  (wrf S (m - j) j V = none → r.toInt = (m : Int) ∧ lo148 (wvM s) (wrv S (m - j) j V) ∧ s 101 30 = 0) ∧
  (∀ q, wrf S (m - j) j V = some q → r.toInt = -2000 - (q : Int) ∧ (∀ p, p < 188 → wvM s p = A0 p) ∧ s 101 30 = y)
theorem mx_terrace_79 {F : Nat} (hF : 73786976294838206464 ≤ F) {S : Nat → Int32} {n m : Nat} (hn96 : n ≤ 96) (hm : wokm S n m) (hm47 : m ≤ 48) {A0 : Nat → Int32} {y : Int32} : ∀ (N j : Nat) (V : Nat → Int32) (x1 : Int32) (σ : Mem), x1.toInt = (j : Int) → j ≤ m → wiM σ → (σ 101 18).toInt = (m : Int) → mInfo S n m σ → lo148 (wvM σ) V → (∀ p, p < 188 → σ 115 p = A0 p) → σ 101 30 = y → wvV V → pc (lp_X4_terrace_79 F N x1 σ) (fun r s => mTer S m j V A0 y r s) := by
  intro N
  induction N with
  | zero => intro j V x1 σ h1 h2 h3 h4 h5 h6 h7 h8 h9; exact pc_none rfl
  | succ N ih =>
    intro j V x1 σ h1 h2 h3 h4 h5 h6 h7 h8 h9
    rw [lp_X4_terrace_79_s]
    refine pc_ite (fun c => ?_) (fun c => ?_)
    · have hc := ti_le c
      have ej : j = m := by omega
      have em : m - j = 0 := by omega
      refine pc_lt (fun s3 h => pc_ret ?_)
      unfold mTer
      rw [em]
      refine ⟨fun _ => ⟨by rw [h, up2_i (by decide)]; exact h4, fun q hq => by rw [h, wvM_no (by omega) (by omega) (by omega)]; exact h6 q hq, by rw [h, up2_s]⟩, fun q hq => absurd hq (by intro w; cases w)⟩
    · have hc := ti_nle c
      have hjm2 : j < m := by omega
      obtain ⟨i1, i2, i3, hd⟩ := h5 j hjm2
      obtain ⟨r0, er⟩ : ∃ r0, m - j = r0 + 1 := ⟨m - j - 1, by omega⟩
      have er2 : m - (j + 1) = r0 := by omega
      refine pc_bnd (pc_and (mx_comesTold (by omega) h3 h1 (by omega) i2 i3 hd (wvV_cg h9 h6)) (pc_and (pc_pf (fr_X4_comesTold (by omega))) (sf_pc (s_X4_comesTold hF h3 (by omega) (by omega))))) (fun r s5 q => ?_)
      obtain ⟨q1, q2, q3⟩ := q
      have o : ∀ j i, j = 112 ∨ j = 113 ∨ j = 114 ∨ j = 115 → s5 j i = σ j i := fun j i h => q2 j i (by
        rw [wcid_M (by omega)]; show ¬ _; unfold wf_56; omega)
      have e18 : s5 101 18 = σ 101 18 := q3.2.2.2.2.2.1
      have e30 : s5 101 30 = σ 101 30 := q3.2.2.2.2.1
      have e0 : wvM σ 0 = V 0 := h6 0 (by decide)
      have e1 : wvM σ 1 = V 1 := h6 1 (by decide)
      have e3 : wvM σ 3 = V 3 := h6 3 (by decide)
      have hcs : cSt S (wpl S j) (wvM σ) ↔ cSt S (wpl S j) V := cSt_cg e0 e1 e3
      by_cases hc2 : cSt S (wpl S j) V
      · obtain ⟨r1, r2⟩ := q1.1 (hcs.mpr hc2)
        rw [r1, if_neg (by decide)]
        refine pc_mono (ih (j + 1) (aSt S (wpl S j) V) _ s5 (ti_nx h1 (by omega)) hjm2 q3.1 (by rw [e18]; exact h4) (mInfo_k h5 (fun j _ => ⟨o 112 j (by omega), o 113 j (by omega)⟩) (fun i _ => o 114 i (by omega))) (fun q hq => ?_) (fun p hp => by rw [o 115 p (by omega)]; exact h7 p hp) (by rw [e30]; exact h8) (wvV_aSt h9 hd hc2)) (fun a s z => ?_)
        · rw [r2 q hq]
          exact aSt_lo h9 h6 hd q hq
        · unfold mTer at z ⊢
          rw [er, wrf_t hc2]
          rw [er2] at z
          exact z
      · have r0' := q1.2 (fun w => hc2 (hcs.mp w))
        rw [r0', if_pos rfl, f_X4_again_e]
        refine pc_bnd (P := fun _ s => (∀ p, p < 188 → wvM s p = A0 p) ∧ s 101 30 = y ∧ s 112 = s5 112) ?_ (fun _ s7 z => pc_chk (fun _ => pc_ret ?_))
        · refine pc_bnd (sf_pc (wt_carryAll (by omega) (Or.inl rfl) (by unfold wiK; omega))) (fun _ s4 w => pc_ret ⟨fun p hp => ?_, ?_, ?_⟩)
          · exact ((w.2.2.2.2 rfl).1 p hp).trans ((o 115 p (by omega)).trans (h7 p hp))
          · rw [wt_Car_fld (by unfold wiK; omega) w (by omega) (by omega), e30]; exact h8
          · exact wt_Car_reg w (by decide) (by omega)
        · unfold mTer
          rw [er, wrf_f hc2]
          refine ⟨fun w => (by cases w), fun q hq => ?_⟩
          cases hq
          refine ⟨?_, z.1, z.2.1⟩
          have e20 : (-2000 : Int32).toInt = -2000 := rfl
          have ep : (s7 112 x1.toNatClampNeg).toInt = (wpl S j : Int) := by rw [z.2.2, tn_int h1, o 112 j (by omega)]; exact i1
          have hle : wpl S j < n := hd.1
          rw [ti_sub (by rw [e20, ep]; omega) (by rw [e20, ep]; omega), e20, ep]
/-- the whole terrace on the reference's side, from the fault of form's place or the statements -/
def mTer0 (S : Nat → Int32) (n K p : Nat) (V A0 : Nat → Int32) (y : Int32) (r : Int32) (s : Mem) : Prop :=
  ((wpar S n K p).2 = false → r.toInt = -1000 - ((wpar S n K p).1 : Int) ∧ (∀ p, p < 188 → wvM s p = A0 p) ∧ s 101 30 = y) ∧
  ((wpar S n K p).2 = true → ∀ m, wokm S n m → (wrf S m 0 V = none → r.toInt = (m : Int) ∧ lo148 (wvM s) (wrv S m 0 V) ∧ s 101 30 = 0) ∧ (∀ q, wrf S m 0 V = some q → r.toInt = -2000 - (q : Int) ∧ (∀ p, p < 188 → wvM s p = A0 p) ∧ s 101 30 = y))
theorem mx_terrace_52 {F : Nat} (hF : 73786976294838206464 ≤ F) {σ : Mem} {S : Nat → Int32} {n m : Nat} (hn96 : n ≤ 96) (hm : wokm S n m) (h17 : σ 101 17 = 0) (hM : wiM σ) (h18 : (σ 101 18).toInt = (m : Int)) (hI : mInfo S n m σ) {A0 : Nat → Int32} {y : Int32} (hA : ∀ p, p < 188 → wvM σ p = A0 p) (hy : σ 101 30 = y) (hv : wvV A0) : pc (j_X4_terrace_52 F σ) (fun r s => mTer S m 0 A0 A0 y r s) := by
  rw [j_X4_terrace_52_e]
  have hm48 : m ≤ 48 := by
    rcases Nat.eq_zero_or_pos m with q | q
    · omega
    · have := wpl_lt (S := S) q; have := hm.2; omega
  refine pc_lt (fun s9 g9 => ?_)
  have e17 : s9 101 17 = 0 := by rw [g9, up2_i (by decide)]; exact h17
  rw [e17, if_pos rfl, f_X4_think_e]
  have I9 : wiM s9 := by rw [g9]; exact wx_put_X4_15 hM (by decide) (by decide)
  have V9 : ∀ p, p < 188 → wvM s9 p = A0 p := fun p hp => by rw [g9, wvM_no (by omega) (by omega) hp]; exact hA p hp
  refine pc_bnd (P := fun _ s => wiM s ∧ (∀ p, p < 188 → s 115 p = A0 p) ∧ (∀ p, p < 188 → wvM s p = A0 p) ∧ s 101 30 = s9 101 30 ∧ s 101 18 = s9 101 18 ∧ (∀ j, 112 ≤ j → j ≤ 114 → s j = s9 j)) ?_ (fun _ s11 z => ?_)
  · refine pc_bnd (sf_pc (wt_carryAll (by omega) (Or.inr rfl) (by unfold wiK; omega))) (fun _ s4 w => pc_ret ⟨wt_Car_wiM (by unfold wiK; omega) I9 w, fun p hp => ?_, fun p hp => ?_, wt_Car_fld (by unfold wiK; omega) w (by omega) (by omega), wt_Car_fld (by unfold wiK; omega) w (by omega) (by omega), fun j a b => wt_Car_reg w (by omega) (by omega)⟩)
    · exact ((w.2.2.2.1 (by decide)).1 p hp).trans (V9 p hp)
    · exact (wt_Car_took (by unfold wiK; omega) (by decide) w (wtHd_no hp) (by have := wtJ_101 p hp; omega)).trans (V9 p hp)
  · obtain ⟨z1, z2, z3, z4, z5, z6⟩ := z
    have o9 : ∀ j i, j ≠ 101 → s9 j i = σ j i := fun j i h => by rw [g9, up2_k h]
    refine mx_terrace_79 hF hn96 hm hm48 F 0 A0 0 s11 rfl (by omega) z1 (by rw [z5, g9, up2_i (by decide)]; exact h18) (mInfo_k hI (fun j _ => ⟨by rw [z6 112 (by decide) (by decide), o9 112 j (by decide)], by rw [z6 113 (by decide) (by decide), o9 113 j (by decide)]⟩) (fun i _ => by rw [z6 114 (by decide) (by decide), o9 114 i (by decide)])) (fun q hq => z3 q (by omega)) z2 (by rw [z4, g9, up2_i (by decide)]; exact hy) hv
theorem mx_terrace_20 {F : Nat} (hF : 73786976294838206464 ≤ F) {S : Nat → Int32} {n : Nat} (hn96 : n ≤ 96) {A0 : Nat → Int32} (hv : wvV A0) {y : Int32} : ∀ (N K k : Nat) (σ : Mem), wiM σ → σ 111 = S → (σ 101 15).toInt = (n : Int) → (σ 101 16).toInt = (wpl S k : Int) → wpl S k ≤ n → σ 101 17 = 0 → (σ 101 18).toInt = (k : Int) → mInfo S n k σ → (k = 0 ∨ wpl S k < n) → n < wpl S k + K → (∀ p, p < 188 → wvM σ p = A0 p) → σ 101 30 = y → pc (lp_X4_terrace_20 F N σ) (fun r s => mTer0 S n K (wpl S k) A0 A0 y r s) := by
  intro N
  induction N with
  | zero => intro K k σ h1 h2 h3 h4 h4' h5 h6 h7 h8 h9 h10 h11; exact pc_none rfl
  | succ N ih =>
    intro K k σ h1 h2 h3 h4 h4' h5 h6 h7 h8 h9 h10 h11
    have hk48 : k ≤ 48 := by
      rcases Nat.eq_zero_or_pos k with q | q
      · omega
      · have := wpl_lt (S := S) q; omega
    have hk47 : k ≤ 47 ∨ k = 48 := by omega
    rw [lp_X4_terrace_20_s]
    simp only [j_X4_terrace_45_e]
    have hk31 : k ≤ 31 := by
      have h3k : 3 * k ≤ wpl S k := wpl_3 h7
      rcases h8 with h8 | h8 <;> omega
    have hIs : pc (f_X4_readStatement F σ) (fun _ s => wiM s) := pc_mono (sf_pc (s_X4_readStatement hF h1 (by omega))) (fun _ s q => q.1)
    have read : pc (wt_bnd (f_X4_readStatement F σ) fun r1 s2 => lp_X4_terrace_20 F N s2) (fun r s => mTer0 S n K (wpl S k) A0 A0 y r s) := by
      refine pc_bnd (pc_and (mx_readStatement hn96 h4' hk48 h4 h5 h6 h2 h3) (pc_and (pc_pf (fr_X4_readStatement (by omega))) (hIs))) (fun _ s2 q => ?_)
      obtain ⟨⟨q1, q2, q3, q4, q5⟩, f, hI2⟩ := q
      have o : ∀ j i, j ≠ 101 → ¬ (112 ≤ j ∧ j ≤ 114) → s2 j i = σ j i := fun j i a b => q5 j i (by omega) (by omega) (by omega)
      have hV2 : ∀ p, p < 188 → wvM s2 p = A0 p := fun p hp => by
        rw [← h10 p hp]
        exact wvM_fr f (fun c hc => by show ¬ _; unfold wf_53; omega) hp
      have e30 : s2 101 30 = y := by rw [q5 101 30 (by omega) (by omega) (by omega)]; exact h11
      have e15 : (s2 101 15).toInt = (n : Int) := by rw [q5 101 15 (by omega) (by omega) (by omega)]; exact h3
      obtain ⟨K, rfl⟩ : ∃ K', K = K' + 1 := ⟨K - 1, by omega⟩
      have hw : wpar S n (K + 1) (wpl S k) = if (wst S n (wpl S k)).2 then (if (wst S n (wpl S k)).1 < n then wpar S n K (wst S n (wpl S k)).1 else ((wst S n (wpl S k)).1, true)) else ((wst S n (wpl S k)).1, false) := rfl
      cases hb : (wst S n (wpl S k)).2 with
      | false =>
        rw [hb, if_neg bft] at hw q2
        cases N with
        | zero => exact pc_none rfl
        | succ N =>
          rw [lp_X4_terrace_20_s, q2, if_neg (by decide), j_X4_terrace_52_e]
          refine pc_lt (fun s9 g9 => ?_)
          have e17 : s9 101 17 = 1 := by rw [g9, up2_i (by decide)]; exact q2
          have e16 : s9 101 16 = s2 101 16 := by rw [g9, up2_i (by decide)]
          rw [e17, if_neg (by decide)]
          refine pc_ret ?_
          unfold mTer0
          rw [hw]
          refine ⟨fun _ => ⟨?_, fun p hp => by rw [g9, wvM_no (by omega) (by omega) hp]; exact hV2 p hp, by rw [g9, up2_i (by decide)]; exact e30⟩, fun w => absurd w bft⟩
          have e10 : (-1000 : Int32).toInt = -1000 := rfl
          have hle := wx_X4_16 hI2
          have h0 : (0 : Int) ≤ ((wst S n (wpl S k)).1 : Int) := by omega
          rw [e16, ti_sub (by rw [e10, q1]; omega) (by rw [e10, q1]; omega), e10, q1]
      | true =>
        rw [hb, if_pos rfl] at hw q2
        obtain ⟨e1, e2, -, -, e5⟩ := wst_t hb
        have ep : (wst S n (wpl S k)).1 = wpl S (k + 1) := e1
        rw [ep] at hw q1
        have hstep : wpl S (k + 1) = wpl S k + wD (S (wpl S k)) + 2 := rfl
        have hI : mInfo S n (k + 1) s2 := fun j hj => by
          by_cases e : j = k
          · subst e
            obtain ⟨a1, a2, a3⟩ := q4 hb
            exact ⟨a1, a2, a3, wst_ok hb⟩
          · exact mInfo_k h7 (fun j hj => ⟨q5 112 j (by omega) (by omega) (by omega), q5 113 j (by omega) (by omega) (by omega)⟩) (fun i hi => q5 114 i (by omega) (by omega) (by omega)) j (by omega)
        by_cases c : wpl S (k + 1) < n
        · rw [if_pos c] at hw
          refine pc_mono (ih K (k + 1) s2 hI2 ((funext fun i => o 111 i (by omega) (by omega)).trans h2) e15 q1 (by omega) q2 q3 hI (Or.inr c) (by omega) hV2 e30) (fun r s z => ?_)
          unfold mTer0 at z ⊢
          rw [hw]
          exact z
        · rw [if_neg c] at hw
          have hm : wokm S n (k + 1) := ⟨fun j hj => (hI j hj).2.2.2, by omega⟩
          cases N with
          | zero => exact pc_none rfl
          | succ N =>
            rw [lp_X4_terrace_20_s, q2, if_pos rfl]
            refine pc_ite (fun c0 => ?_) (fun _ => pc_ite (fun _ => ?_) (fun c3 => ?_))
            · exfalso
              have := ti_eq c0
              rw [q3, tz_0] at this
              omega
            · refine pc_mono (mx_terrace_52 hF hn96 hm q2 hI2 q3 hI hV2 e30 hv) (fun r s z => ?_)
              unfold mTer0
              rw [hw]
              refine ⟨fun w => absurd w btf, fun _ m' hm' => ?_⟩
              have em := wokm_u hm' hm
              subst em
              exact z
            · exfalso
              have := ti_nle c3
              rw [e15, q1] at this
              omega
    rw [h5, if_pos rfl]
    refine pc_ite (fun _ => read) (fun c0 => pc_ite (fun c => ?_) (fun _ => read))
    exfalso
    have h01 := ti_ne c0
    have h02 := ti_le c
    rw [h6, tz_0] at h01
    rw [h3, h4] at h02
    omega
theorem cm_terrace {F : Nat} (hF : 73786976294838206464 ≤ F) {σ : Mem} {n : Nat} (hM : wiM σ) (hn : (σ 101 15).toInt = (n : Int)) (hn96 : n ≤ 96) (hv : wvV (wvM σ)) : pc (f_X4_terrace F σ) (fun r s => mTer0 (σ 111) n (n + 1) 0 (wvM σ) (wvM σ) (σ 101 30) r s) := by
  rw [f_X4_terrace_e]
  refine pc_lt (fun s1 g1 => pc_lt (fun s2 g2 => pc_lt (fun s3 g3 => pc_lt (fun s4 g4 => ?_))))
  have o : ∀ j i, ¬ (j = 101 ∧ (i = 10 ∨ i = 16 ∨ i = 17 ∨ i = 18)) → s4 j i = σ j i := fun j i h => by rw [g4, wm_key, if_neg (by omega), g3, wm_key, if_neg (by omega), g2, wm_key, if_neg (by omega), g1, wm_key, if_neg (by omega)]
  have I4 : wiM s4 := by
    rw [g4]
    refine wx_put_X4_18 ?_ (by decide) (by decide)
    rw [g3]
    refine wm_fld ?_ (by decide) (by decide) (by decide) (by decide) (by decide) (by decide) (by decide)
    rw [g2]
    refine wx_put_X4_16 ?_ (by decide) (by decide)
    rw [g1]
    exact wm_fld hM (by decide) (by decide) (by decide) (by decide) (by decide) (by decide) (by decide)
  have hV : ∀ p, p < 188 → wvM s4 p = wvM σ p := fun p hp => by
    rw [g4, wvM_no (by omega) (by omega) hp, g3, wvM_no (by omega) (by omega) hp, g2, wvM_no (by omega) (by omega) hp, g1, wvM_no (by omega) (by omega) hp]
  have r16 : s4 101 16 = 0 := by rw [g4, up2_i (by decide), g3, up2_i (by decide), g2, up2_s]
  have r17 : s4 101 17 = 0 := by rw [g4, up2_i (by decide), g3, up2_s]
  have r18 : s4 101 18 = 0 := by rw [g4, up2_s]
  exact mx_terrace_20 hF hn96 hv F (n + 1) 0 s4 I4 (funext fun i => o 111 i (by omega)) (by rw [o 101 15 (by omega)]; exact hn) (by rw [r16]; rfl) (Nat.zero_le _) r17 (by rw [r18]; rfl) (fun j hj => absurd hj (Nat.not_lt_zero j)) (Or.inl rfl) (by show n < 0 + (n + 1); omega) hV (o 101 30 (by omega))
