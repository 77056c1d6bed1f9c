/-! last -/
def aMx (a b : Int32) : Int32 := if b ≤ a then a else b
def aLs1 (V : Nat → Int32) (v : Nat) (e : Int32) : Nat → Int32 → Int32
  | 0, x => x
  | k + 1, x => if aHold V (x - 1) v = e then aLs1 V v e k (x + (-1)) else x
theorem aLs1_t {V : Nat → Int32} {v k : Nat} {e x : Int32} (c : aHold V (x - 1) v = e) : aLs1 V v e (k + 1) x = aLs1 V v e k (x + (-1)) := by
  show (if aHold V (x - 1) v = e then aLs1 V v e k (x + (-1)) else x) = _
  rw [if_pos c]
theorem aLs1_f {V : Nat → Int32} {v k : Nat} {e x : Int32} (c : ¬ aHold V (x - 1) v = e) : aLs1 V v e (k + 1) x = x := by
  show (if aHold V (x - 1) v = e then aLs1 V v e k (x + (-1)) else x) = _
  rw [if_neg c]
theorem ti_m1' {x : Int32} {k : Nat} (h : x.toInt = ((k + 1 : Nat) : Int)) : (x + (-1 : Int32)).toInt = (k : Int) := by
  rw [ti_m1 (by omega)]
  omega
theorem aLs1_b {V : Nat → Int32} {v : Nat} {e : Int32} : ∀ (k : Nat) (x : Int32), x.toInt = (k : Int) → 0 ≤ (aLs1 V v e k x).toInt ∧ (aLs1 V v e k x).toInt ≤ (k : Int) := fun k => by
  induction k with
  | zero => intro x h; show 0 ≤ x.toInt ∧ x.toInt ≤ _; omega
  | succ k ih =>
    intro x h
    by_cases c : aHold V (x - 1) v = e
    · rw [aLs1_t c]
      have := ih _ (ti_m1' h)
      omega
    · rw [aLs1_f c]; omega
def aLs (V : Nat → Int32) : Nat → Int32
  | 0 => 0
  | v + 1 => aMx (aLs V v) (aLs1 V v (aHold V 999 v) 999 999)
def anLast (V : Nat → Int32) : Int32 := aLs V 8
theorem aMx_b {a b : Int32} (ha : 0 ≤ a.toInt ∧ a.toInt ≤ 999) (hb : 0 ≤ b.toInt ∧ b.toInt ≤ 999) : 0 ≤ (aMx a b).toInt ∧ (aMx a b).toInt ≤ 999 := by
  unfold aMx
  by_cases c : b ≤ a
  · rw [if_pos c]; exact ha
  · rw [if_neg c]; exact hb
theorem aLs_b {V : Nat → Int32} : ∀ v, 0 ≤ (aLs V v).toInt ∧ (aLs V v).toInt ≤ 999 := fun v => by
  induction v with
  | zero => exact ⟨Int.le_refl 0, (by decide : (0 : Int) ≤ 999)⟩
  | succ v ih => exact aMx_b ih (by have := aLs1_b (V := V) (v := v) (e := aHold V 999 v) 999 999 rfl; omega)
theorem qx_last_34 {F : Nat} {x1 x2 x3 : Int32} {v : Nat} {σ : Mem} {V : Nat → Int32} (a : cRdy V σ) (hv : x2.toInt = (v : Int)) (hv8 : v < 8) (h0 : 0 ≤ x1.toInt) {k11 : Int32 → Int32 → Mem → Option (Int32 × Mem)} {Q : Int32 → Mem → Prop} : ∀ (N k : Nat) (x4 : Int32), x4.toInt = (k : Int) → x1.toInt ≤ x4.toInt → pc (k11 (aMx x1 (aLs1 V v x3 k x4)) (x2 + 1) σ) Q → pc (lp_X3_last_34 F k11 x1 x2 x3 N x4 σ) Q := by
  intro N
  induction N with
  | zero => intro k x4 h1 h2 hk; exact pc_none rfl
  | succ N ih =>
    intro k x4 h1 h2 hk
    rw [lp_X3_last_34_s]
    simp only [j_X3_last_62_e]
    refine pc_ite (fun c => ?_) (fun c => ?_)
    · have d := ti_le c
      have e : x4 = x1 := Int32.toInt_inj.mp (by omega)
      have b := aLs1_b (V := V) (v := v) (e := x3) k x4 h1
      rw [show aMx x1 (aLs1 V v x3 k x4) = x1 from if_pos (Int32.le_iff_toInt_le.mpr (by omega))] at hk
      rw [e]; exact hk
    · have d := ti_nle c
      obtain ⟨k', rfl⟩ : ∃ k', k = k' + 1 := ⟨k - 1, by omega⟩
      refine pc_bnd (qx_hold a hv hv8) (fun r s q => ?_)
      rw [q.2, q.1]
      refine pc_ite (fun w => ?_) (fun w => ?_)
      · rw [aLs1_t w] at hk
        exact ih k' _ (ti_m1' h1) (by rw [ti_m1' h1]; omega) hk
      · rw [aLs1_f w, show aMx x1 x4 = x4 from if_neg c] at hk
        exact hk
theorem qx_last {F : Nat} {σ : Mem} {V : Nat → Int32} (h : vH 1 V σ) : pc (f_X3_last F σ) (fun r _ => r = anLast V) := by
  rw [f_X3_last_e]
  refine pc_bnd (qx_reckon h) (fun _ s a => ?_)
  have key : ∀ (N v : Nat) (x1 x2 : Int32), x2.toInt = (v : Int) → v ≤ 8 → x1 = aLs V v → pc (lp_X3_last_11 F N x1 x2 s) (fun r _ => r = anLast V) := by
    intro N
    induction N with
    | zero => intro v x1 x2 h1 h2 h3; exact pc_none rfl
    | succ N ih =>
      intro v x1 x2 h1 h2 h3
      rw [lp_X3_last_11_s]
      refine pc_ite (fun c => ?_) (fun c => ?_)
      · have d := ti_le c
        rw [tz_8] at d
        exact pc_ret (by rw [h3, show v = 8 by omega]; rfl)
      have d := ti_nle c
      rw [tz_8] at d
      refine pc_bnd (qx_hold a h1 (by omega)) (fun r z q => ?_)
      have b := aLs_b (V := V) v
      rw [q.2, q.1]
      exact qx_last_34 a h1 (by omega) (by rw [h3]; exact b.1) F 999 999 rfl (by rw [h3, tz_999']; exact b.2) (ih (v + 1) _ _ (ti_nx h1 (by omega)) (by omega) (by rw [h3]; rfl))
  exact key F 0 0 0 rfl (by omega) rfl
theorem qm_last_33 {F : Nat} {x1 x2 x3 : Int32} {v : Nat} {V : Nat → Int32} (hv : x2.toInt = (v : Int)) (hv8 : v < 8) {k13 : Int32 → Int32 → Mem → Option (Int32 × Mem)} {Q : Int32 → Mem → Prop} : ∀ (N k : Nat) (x4 : Int32) (s : Mem), mRdy V s → x4.toInt = (k : Int) → k ≤ 999 → (∀ z, mRdy V z → pc (k13 (aMx x1 (aLs1 V v x3 k x4)) (x2 + 1) z) Q) → pc (lp_X4_last_33 F k13 x1 x2 x3 N x4 s) Q := by
  intro N
  induction N with
  | zero => intro k x4 s a h1 h2 hk; exact pc_none rfl
  | succ N ih =>
    intro k x4 s a h1 h2 hk
    rw [lp_X4_last_33_s]
    simp only [j_X4_last_57_e, j_X4_last_69_e]
    have fin : ∀ z, mRdy V z → aLs1 V v x3 k x4 = x4 → pc (if x4 ≤ x1 then k13 x1 (x2 + 1) z else k13 x4 (x2 + 1) z) Q := fun z hz e => by
      have w := hk z hz
      rw [e] at w
      refine pc_ite (fun c => ?_) (fun c => ?_)
      · rw [show aMx x1 x4 = x1 from if_pos c] at w; exact w
      · rw [show aMx x1 x4 = x4 from if_neg c] at w; exact w
    refine pc_ite (fun c => ?_) (fun c => ?_)
    · have d := ti_le c
      rw [tz_0] at d
      have k0 : k = 0 := by omega
      subst k0
      exact fin s a rfl
    · have d := ti_nle c
      rw [tz_0] at d
      obtain ⟨k', rfl⟩ : ∃ k', k = k' + 1 := ⟨k - 1, by omega⟩
      have em : (x4 - 1).toInt = (k' : Int) := by rw [ti_pred (by omega)]; omega
      refine pc_bnd (qm_own ⟨by omega, by omega⟩ hv hv8 a) (fun r z q => ?_)
      rw [q.1]
      refine pc_ite (fun w => ?_) (fun w => fin z q.2 (aLs1_f w))
      exact ih k' _ z q.2 (ti_m1' h1) (by omega) (fun y hy => by
        have u := hk y hy
        rw [aLs1_t w] at u
        exact u)
theorem qm_last {F : Nat} {s : Mem} {V : Nat → Int32} (h : vM V s) : pc (f_X4_last F s) (fun r _ => r = anLast V) := by
  rw [f_X4_last_e]
  refine pc_lt (fun s5 h5 => ?_)
  have h' : vM V s5 := vM_up h h5
  clear h5
  refine pc_bnd (qm_lay h') (fun _ s a => ?_)
  have key : ∀ (N v : Nat) (x1 x2 : Int32) (s : Mem), mRdy V s → x2.toInt = (v : Int) → v ≤ 8 → x1 = aLs V v → pc (lp_X4_last_13 F N x1 x2 s) (fun r _ => r = anLast V) := by
    intro N
    induction N with
    | zero => intro v x1 x2 s a h1 h2 h3; exact pc_none rfl
    | succ N ih =>
      intro v x1 x2 s a h1 h2 h3
      rw [lp_X4_last_13_s]
      refine pc_ite (fun c => ?_) (fun c => ?_)
      · have d := ti_le c
        rw [tz_8] at d
        exact pc_ret (by rw [h3, show v = 8 by omega]; rfl)
      have d := ti_nle c
      rw [tz_8] at d
      refine pc_bnd (qm_own (x2 := 999) (by decide) h1 (by omega) a) (fun r z q => ?_)
      rw [q.1]
      exact qm_last_33 h1 (by omega) F 999 999 z q.2 rfl (by omega) (fun y hy => ih (v + 1) _ _ y hy (ti_nx h1 (by omega)) (by omega) (by rw [h3]; rfl))
  exact key F 0 0 0 s a rfl (by omega) rfl
/-! judge -/
def aJ (V row : Nat → Int32) (v : Nat) : Nat → Nat → Int32
  | 0, _ => -9
  | k + 1, i => if row i = aIn (aHold V (Int32.ofNat i) v) then aJ V row v k (i + 1) else Int32.ofNat i
theorem aJ_t {V row : Nat → Int32} {v k i : Nat} (e : row i = aIn (aHold V (Int32.ofNat i) v)) : aJ V row v (k + 1) i = aJ V row v k (i + 1) := by
  show (if row i = aIn (aHold V (Int32.ofNat i) v) then aJ V row v k (i + 1) else Int32.ofNat i) = _
  rw [if_pos e]
theorem aJ_f {V row : Nat → Int32} {v k i : Nat} (e : ¬ row i = aIn (aHold V (Int32.ofNat i) v)) : aJ V row v (k + 1) i = Int32.ofNat i := by
  show (if row i = aIn (aHold V (Int32.ofNat i) v) then aJ V row v k (i + 1) else Int32.ofNat i) = _
  rw [if_neg e]
def anJudge (V : Nat → Int32) (x1 n : Int32) (row : Nat → Int32) : Int32 := cF (cB (0 ≤ x1.toInt ∧ x1.toInt ≤ 7)) (aJ V row x1.toNatClampNeg n.toNatClampNeg 0)
theorem qx_judge_25 {F : Nat} {x1 : Int32} {v n : Nat} {σ : Mem} {V : Nat → Int32} (a : cRdy V σ) (hv : x1.toInt = (v : Int)) (hv8 : v < 8) (hn : (σ 0 7).toInt = (n : Int)) (hn12 : n ≤ 12) : ∀ (N k i : Nat) (x2 x3 : Int32), x3.toInt = (i : Int) → i + k = n → x2 = -9 → pc (lp_X3_judge_25 F x1 N x2 x3 σ) (fun r _ => r = aJ V (σ 85) v k i) := by
  intro N
  induction N with
  | zero => intro k i x2 x3 h1 h2 h3; exact pc_none rfl
  | succ N ih =>
    intro k i x2 x3 h1 h2 h3
    rw [lp_X3_judge_25_s]
    simp only [j_X3_judge_62_e, j_X3_judge_68_e]
    refine pc_ite (fun c => ?_) (fun c => pc_ite (fun c9 => pc_chk (fun _ => ?_)) (fun c9 => absurd h3 c9))
    · have d := ti_le c
      have k0 : k = 0 := by omega
      subst k0
      exact pc_lt (fun s1 _ => pc_ret h3)
    · have d := ti_nle c
      obtain ⟨k', rfl⟩ : ∃ k', k = k' + 1 := ⟨k - 1, by omega⟩
      have e3 := io_eq h1 (by omega)
      refine pc_bnd (qx_hold a hv hv8) (fun r s q => ?_)
      rw [q.2, q.1]
      refine pc_be ax_inRow ?_
      rw [tn_int h1]
      refine pc_ite (fun w => ?_) (fun w => ?_)
      · rw [aJ_t (by rw [← e3]; exact w)]
        exact ih k' (i + 1) _ _ (ti_nx h1 (by omega)) (by omega) h3
      · rw [aJ_f (by rw [← e3]; exact w), ← e3]
        have n9 : ¬ x3 = -9 := fun e => by
          rw [e] at h1
          have : (-9 : Int32).toInt = -9 := rfl
          omega
        cases N with
        | zero => exact pc_none rfl
        | succ N =>
          rw [lp_X3_judge_25_s]
          simp only [j_X3_judge_62_e, j_X3_judge_68_e]
          exact pc_ite (fun _ => pc_lt (fun s1 _ => pc_ret rfl)) (fun _ => pc_ite (fun e => absurd e n9) (fun _ => pc_lt (fun s1 _ => pc_ret rfl)))
theorem qxr_judge {F : Nat} {x1 : Int32} {σ : Mem} {V : Nat → Int32} (h : vH 1 V σ) (hn : 0 ≤ (σ 0 7).toInt ∧ (σ 0 7).toInt ≤ 12) : pc (f_X3_judge F x1 σ) (fun r _ => r = anJudge V x1 (σ 0 7) (σ 85)) := by
  rw [f_X3_judge_e]
  refine pc_be ax_isView ?_
  unfold anJudge
  have m1 := ti_nat (σ 0 7)
  by_cases c : 0 ≤ x1.toInt ∧ x1.toInt ≤ 7
  · rw [if_pos c, if_neg (by decide), cB_t c, cF_z]
    have n1 := ti_nat x1
    refine pc_bnd (ax_reckon h) (fun _ s q => ?_)
    have a : cRdy V s := ⟨vH_k h q.1, q.2⟩
    have w := qx_judge_25 (F := F) (x1 := x1) (v := x1.toNatClampNeg) (n := (σ 0 7).toNatClampNeg) a (by omega) (by omega) (by rw [q.1 0 (by decide)]; omega) (by omega) F (σ 0 7).toNatClampNeg 0 (-9) 0 rfl (by omega) rfl
    rw [q.1 85 (by decide)] at w
    exact w
  · rw [if_neg c, if_pos rfl, cB_f c]
    exact pc_bnd ax_refuse (fun r y u => pc_ret (by rw [u.1, cF_n (by decide)]))
theorem qmr_judge {F : Nat} {x1 : Int32} {n : Int32} {row : Nat → Int32} {s : Mem} {V : Nat → Int32} (h : vM V s) (hn : 0 ≤ n.toInt ∧ n.toInt ≤ 12) (h34 : s 101 34 = n) (hr : ∀ i, i < n.toNatClampNeg → s 121 i = row i) : pc (f_X4_judge F x1 s) (fun r _ => r = anJudge V x1 n row) := by
  rw [f_X4_judge_e]
  refine pc_lt (fun s5 g5 => ?_)
  have h' : vM V s5 := vM_up h g5
  have e34 : s5 101 34 = n := by rw [g5, up2_i (by decide)]; exact h34
  have er : ∀ i, i < n.toNatClampNeg → s5 121 i = row i := fun i hi => by rw [g5, up2_k (by decide)]; exact hr i hi
  clear g5
  refine pc_be mx_isView ?_
  unfold anJudge
  have m1 := ti_nat n
  by_cases c : 0 ≤ x1.toInt ∧ x1.toInt ≤ 7
  · rw [if_pos c, if_neg (by decide), cB_t c, cF_z]
    have n1 := ti_nat x1
    refine pc_lt (fun s7 g7 => ?_)
    have h7 : vM V s7 := ⟨h'.1, fun p hp => by rw [g7, wvM_no (by omega) (by omega) hp]; exact h'.2 p hp⟩
    have r7 : s7 121 = s5 121 := by rw [g7, up2_k (by decide)]
    clear g7
    rw [e34]
    refine pc_bnd (mx_layBrings h7) (fun _ s9 q => ?_)
    have a9 : mRdy V s9 := ⟨vM_109 h7 (fun k b _ => q.1 k b), q.2⟩
    have r9 : s9 121 = s5 121 := by rw [q.1 121 (by decide)]; exact r7
    have key : ∀ (N k i : Nat) (x3 : Int32) (z : Mem), mRdy V z → z 121 = s5 121 → x3.toInt = (i : Int) → i + k = n.toNatClampNeg → pc (lp_X4_judge_34 F x1 n N x3 z) (fun r _ => r = aJ V row x1.toNatClampNeg k i) := by
      intro N
      induction N with
      | zero => intro k i x3 z a r h1 h2; exact pc_none rfl
      | succ N ih =>
        intro k i x3 z a r h1 h2
        rw [lp_X4_judge_34_s]
        simp only [j_X4_judge_65_e]
        refine pc_ite (fun c => ?_) (fun c => ?_)
        · have d := ti_le c
          have k0 : k = 0 := by omega
          subst k0
          exact pc_ret rfl
        · have d := ti_nle c
          obtain ⟨k', rfl⟩ : ∃ k', k = k' + 1 := ⟨k - 1, by omega⟩
          have e3 := io_eq h1 (by omega)
          have hx3 : 0 ≤ x3.toInt ∧ x3.toInt ≤ 9999 := ⟨by omega, by omega⟩
          refine pc_bnd (qm_ownerIn hx3 (v := x1.toNatClampNeg) (by omega) (by omega) a.1 a.2) (fun r1 y u => ?_)
          have ay : mRdy V y := ⟨vM_109 a.1 (fun k _ b => u.2 k b), fun m hm w hw => by rw [u.2 109 (by decide)]; exact a.2 m hm w hw⟩
          have ry : y 121 = s5 121 := by rw [u.2 121 (by decide)]; exact r
          have h0 := aHold_0 h.1 hx3 (v := x1.toNatClampNeg) (by omega)
          rw [u.1, tn_int h1, ry, er i (by omega)]
          refine pc_chk (fun _ => ?_)
          have yes : row i = aIn (aHold V x3 x1.toNatClampNeg) → pc (lp_X4_judge_34 F x1 n N (x3 + 1) y) (fun r _ => r = aJ V row x1.toNatClampNeg (k' + 1) i) := fun w => by
            rw [aJ_t (by rw [← e3]; exact w)]
            exact ih k' (i + 1) _ y ay ry (ti_nx h1 (by omega)) (by omega)
          have no : ¬ row i = aIn (aHold V x3 x1.toNatClampNeg) → x3 = aJ V row x1.toNatClampNeg (k' + 1) i := fun w => by
            rw [aJ_f (by rw [← e3]; exact w)]
            exact e3
          refine pc_ite (fun c1 => ?_) (fun c1 => ?_)
          · have ea : aIn (aHold V x3 x1.toNatClampNeg) = aHold V x3 x1.toNatClampNeg := if_neg (h0.mp c1)
            exact pc_ite (fun w => yes (w.trans ea.symm)) (fun w => pc_ret (no (fun w' => w (w'.trans ea))))
          · have ea : aIn (aHold V x3 x1.toNatClampNeg) = 99 := if_pos (Classical.byContradiction (fun n => c1 (h0.mpr n)))
            exact pc_ite (fun w => yes (w.trans ea.symm)) (fun w => pc_ret (no (fun w' => w (w'.trans ea))))
    exact key F _ 0 0 s9 a9 r9 rfl (by omega)
  · rw [if_neg c, if_pos rfl, cB_f c]
    exact mq_ref (cF_n (by decide))
theorem eqd_judge {F : Nat} {σ : Mem} {x : Int32} (hF : 73786976294838206464 ≤ F) (h : wR 188 σ) : ∃ r1 s1 r2 s2, f_X3_judge F x σ = some (r1, s1) ∧ f_X4_judge F x s1 = some (r2, s2) ∧ wR 188 s2 ∧ r1 = r2 := eqr (A := fun V n row => anJudge V x n row) (mu_judge hF (by omega) h) h (pc_mono (sf_pc (s_X3_judge (F := F) (by omega) h.1)) (fun _ _ q => q.2.1)) (fun V hv hn => qxr_judge hv hn) (fun V s n row hv hn a b => qmr_judge hv hn a b)
