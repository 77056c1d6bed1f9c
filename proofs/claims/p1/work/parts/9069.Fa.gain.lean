/-! the same on the reference's side -/
def vM (V : Nat → Int32) (s : Mem) : Prop := wvV V ∧ ∀ p, p < 188 → wvM s p = V p
theorem vM_106 {V : Nat → Int32} {s : Mem} (h : vM V s) {i : Nat} (hi : i < 120) : s 106 i = V (28 + i) := by
  have e := h.2 (28 + i) (by omega)
  have hj := wtJI_106 i hi
  unfold wvM at e
  rw [hj.1, hj.2] at e
  exact e
theorem vM_103 {V : Nat → Int32} {s : Mem} (h : vM V s) {i : Nat} (hi : i < 6) : s 103 i = V (12 + i) := by
  have e := h.2 (12 + i) (by omega)
  have hj := wtJI_103 i hi
  unfold wvM at e
  rw [hj.1, hj.2] at e
  exact e
theorem vM_102 {V : Nat → Int32} {s : Mem} (h : vM V s) {i : Nat} (hi : i < 8) : s 102 i = V (4 + i) := by
  have e := h.2 (4 + i) (by omega)
  have hj := wtJI_102 i hi
  unfold wvM at e
  rw [hj.1, hj.2] at e
  exact e
theorem vM_104 {V : Nat → Int32} {s : Mem} (h : vM V s) {i : Nat} (hi : i < 5) : s 104 i = V (18 + 2 * i) := by
  have e := h.2 (18 + 2 * i) (by omega)
  have hj := wtJI_104 i hi
  unfold wvM at e
  rw [hj.1, hj.2] at e
  exact e
theorem vM_105 {V : Nat → Int32} {s : Mem} (h : vM V s) {i : Nat} (hi : i < 5) : s 105 i = V (19 + 2 * i) := by
  have e := h.2 (18 + 2 * i + 1) (by omega)
  have hj := wtJI_105 i hi
  unfold wvM at e
  rw [hj.1, hj.2, show 18 + 2 * i + 1 = 19 + 2 * i by omega] at e
  exact e
theorem vM_107 {V : Nat → Int32} {s : Mem} (h : vM V s) {i : Nat} (hi : i < 40) : s 107 i = V (148 + i) := by
  have e := h.2 (148 + i) (by omega)
  have hj := wtJI_107 i hi
  unfold wvM at e
  rw [hj.1, hj.2] at e
  exact e
theorem vM_P {V : Nat → Int32} {s : Mem} (h : vM V s) : s 101 1 = V 0 := h.2 0 (by decide)
theorem vM_L {V : Nat → Int32} {s : Mem} (h : vM V s) : s 101 3 = V 1 := h.2 1 (by decide)
theorem vM_W {V : Nat → Int32} {s : Mem} (h : vM V s) : s 101 8 = V 2 := h.2 2 (by decide)
theorem vM_D {V : Nat → Int32} {s : Mem} (h : vM V s) : s 101 9 = V 3 := h.2 3 (by decide)
theorem vM_109 {V : Nat → Int32} {s z : Mem} (h : vM V s) (e : ∀ k, ¬ k = 109 → ¬ k = 110 → z k = s k) : vM V z := ⟨h.1, fun p hp => by
  rw [← h.2 p hp]
  unfold wvM
  have := wtJ_101 p hp
  have h9 : wtJ p ≤ 107 := by unfold wtJ; (repeat' split) <;> omega
  rw [e _ (by omega) (by omega)]⟩
theorem mx_allShown {F : Nat} {s : Mem} {V : Nat → Int32} (h : vM V s) : pc (f_X4_allShown F s) (fun r z => r = aAll V (V 0).toNatClampNeg ∧ z = s) := by
  have n0 := ti_nat (V 0)
  have h6 := h.1.1
  have key : ∀ (N i : Nat) (x1 x2 : Int32), x2.toInt = (i : Int) → (i : Int) ≤ (V 0).toInt → x1 = aAll V i → pc (lp_X4_allShown_4 F N x1 x2 s) (fun r z => r = aAll V (V 0).toNatClampNeg ∧ z = s) := by
    intro N
    induction N with
    | zero => intro i x1 x2 h1 h2 h3; exact pc_none rfl
    | succ N ih =>
      intro i x1 x2 h1 h2 h3
      rw [lp_X4_allShown_4_s, vM_P h]
      refine pc_ite (fun c => ?_) (fun c => pc_chk (fun _ => pc_lt (fun z2 hz => ih (i + 1) _ _ (ti_nx h1 (by omega)) ?_ ?_)))
      · have d := ti_le c
        exact pc_ret ⟨by rw [h3, show i = (V 0).toNatClampNeg by omega], rfl⟩
      · have d := ti_nle c
        omega
      · have d := ti_nle c
        rw [tn_int h1, vM_103 h (by omega)] at hz
        rw [hz, h3]
        rfl
  rw [f_X4_allShown_e]
  exact key F 0 0 0 rfl h6.1 rfl
theorem mx_seesIn {F : Nat} {x1 x2 : Int32} {l t : Nat} {s : Mem} {V : Nat → Int32} (h : vM V s) (hl : x1.toInt = (l : Int)) (ht : x2.toInt = (t : Int)) (hl5 : (l : Int) < (V 1).toInt) (ht24 : t < 24) : pc (f_X4_seesIn F x1 x2 s) (fun r z => r = aSees V l t ∧ z = s) := by
  have h5 := h.1.2.1.2
  rw [f_X4_seesIn_e, tn_int hl, tn_24 hl ht (by omega) ht24, vM_106 h (by omega), vM_104 h (by omega), show 28 + (24 * l + t) = 28 + 24 * l + t by omega]
  unfold aSees
  refine pc_chk (fun _ => pc_lt (fun z2 hz => pc_chk (fun _ => pc_ite (fun c => pc_bnd (mx_allShown h) (fun r z q => pc_ret ?_)) (fun c => ?_))))
  · rw [if_pos c]; exact q
  · rw [if_neg c]
    rw [hz]
    refine pc_ite (fun c0 => pc_chk (fun w => pc_ret ⟨?_, rfl⟩)) (fun c0 => pc_ret ⟨?_, rfl⟩)
    · have d := ti_le c0
      rw [tz_0] at d
      have hn : ¬ (V (28 + 24 * l + t)).toInt < 0 := by omega
      rw [if_neg hn]
      exact vM_103 h w.2.2
    · have d := ti_nle c0
      rw [tz_0] at d
      rw [if_pos d]
theorem mx_pullOf {F : Nat} {x1 x2 : Int32} {l : Nat} {s : Mem} {V : Nat → Int32} (h : vM V s) (hl : x1.toInt = (l : Int)) (hl5 : (l : Int) < (V 1).toInt) : pc (f_X4_pullOf F x1 x2 s) (fun r z => r = aPull V l x2 ∧ z = s) := by
  have h5 := h.1.2.1.2
  have hk := (h.1.2.2.2.2.2.1 l hl5).1
  have key : ∀ t0, t0 = aInv x2 → pc (j_X4_pullOf_19 F x1 x2 t0 s) (fun r z => r = aPull V l x2 ∧ z = s) := fun t0 h0 => by
    rw [j_X4_pullOf_19_e, tn_int hl, vM_104 h (by omega), vM_105 h (by omega)]
    unfold aPull
    refine pc_chk (fun _ => pc_lt (fun z2 hz => ?_))
    have hz' : z2 = V (19 + 2 * l) / 3 + aInv x2 := by rw [hz, h0, Int32.add_comm]
    refine pc_ite (fun c => pc_ret ⟨?_, rfl⟩) (fun c1 => ?_)
    · rw [c, if_neg (by decide), if_pos rfl]; exact h0
    refine pc_ite (fun c => ?_) (fun c2 => ?_)
    · rw [if_neg (show ¬ V (18 + 2 * l) = 0 by rw [c]; decide), if_neg c1, if_pos c]
      exact pc_ite (fun d => pc_ret ⟨by rw [if_pos d], rfl⟩) (fun d => pc_ret ⟨by rw [if_neg d], rfl⟩)
    refine pc_ite (fun c => ?_) (fun c3 => ?_)
    · rw [if_neg (show ¬ V (18 + 2 * l) = 0 by rw [c]; decide), if_neg c1, if_neg c2, if_pos c]
      exact pc_ite (fun d => pc_ret ⟨by rw [if_pos d], rfl⟩) (fun d => pc_ret ⟨by rw [if_neg d], rfl⟩)
    refine pc_ite (fun c => pc_ret ⟨?_, rfl⟩) (fun c4 => ?_)
    · rw [if_neg (show ¬ V (18 + 2 * l) = 0 by rw [c]; decide), if_neg c1, if_neg c2, if_neg c3, if_pos c]; exact hz'
    refine pc_ite (fun c => ?_) (fun c5 => pc_ret ⟨?_, rfl⟩)
    · rw [if_neg (show ¬ V (18 + 2 * l) = 0 by rw [c]; decide), if_neg c1, if_neg c2, if_neg c3, if_neg c4, if_pos c]
      refine pc_ite (fun d => pc_ret ⟨by rw [if_pos d, Int32.mul_one]; exact hz', rfl⟩) (fun d => pc_ret ⟨by rw [if_neg d, hz', Int32.mul_comm], rfl⟩)
    · have e : V (18 + 2 * l) = 0 := by
        have k1 := ti_ne c1
        have k2 := ti_ne c2
        have k3 := ti_ne c3
        have k4 := ti_ne c4
        have k5 := ti_ne c5
        rw [tz_1] at k1
        rw [tz_2] at k2
        rw [tz_3] at k3
        rw [tz_4] at k4
        rw [tz_5] at k5
        exact Int32.toInt_inj.mp (by rw [tz_0]; omega)
      rw [if_pos e]
  rw [f_X4_pullOf_e]
  refine pc_be (mx_in32 (lo := 6) (hi := 17) rfl rfl) ?_
  by_cases c : 6 ≤ x2.toInt ∧ x2.toInt ≤ 17
  · rw [if_pos c, if_neg (by decide)]
    refine key 2 ?_
    unfold aInv
    rw [if_neg (fun q => by have := ti_lt q; rw [tz_6] at this; omega), if_neg (fun q => by have := ti_lt q; have e : (17 : Int32).toInt = 17 := rfl; rw [e] at this; omega)]
  · rw [if_neg c, if_pos rfl]
    refine key 1 ?_
    unfold aInv
    by_cases d : x2 < 6
    · rw [if_pos d]
    · have d' := ti_nlt d
      rw [tz_6] at d'
      rw [if_neg d, if_pos (Int32.lt_iff_toInt_lt.mpr (by have e : (17 : Int32).toInt = 17 := rfl; rw [e]; omega))]
theorem mx_bringsOf {F : Nat} {x1 x2 : Int32} {l v : Nat} {s : Mem} {V : Nat → Int32} (h : vM V s) (hl : x1.toInt = (l : Int)) (hv : x2.toInt = (v : Int)) (hl5 : (l : Int) < (V 1).toInt) (hv8 : v < 8) : pc (f_X4_bringsOf F x1 x2 s) (fun r z => r = aGain V l v 24 ∧ z = s) := by
  have ev := io_eq hv (by omega)
  have key : ∀ (N t : Nat) (x3 x4 : Int32), x4.toInt = (t : Int) → t ≤ 24 → x3 = aGain V l v t → pc (lp_X4_bringsOf_5 F x1 x2 N x3 x4 s) (fun r z => r = aGain V l v 24 ∧ z = s) := by
    intro N
    induction N with
    | zero => intro t x3 x4 h1 h2 h3; exact pc_none rfl
    | succ N ih =>
      intro t x3 x4 h1 h2 h3
      rw [lp_X4_bringsOf_5_s]
      simp only [j_X4_bringsOf_38_e]
      refine pc_ite (fun c => ?_) (fun c => pc_bnd (mx_seesIn h hl h1 hl5 ?_) (fun r1 s2 q => ?_))
      · have d := ti_le c
        rw [tz_24] at d
        exact pc_ret ⟨by rw [h3, show t = 24 by omega], rfl⟩
      · have d := ti_nle c
        rw [tz_24] at d
        omega
      have d := ti_nle c
      rw [tz_24] at d
      obtain ⟨q1, q2⟩ := q
      rw [q2, q1, f_X4_hasBit_e, ev]
      have hs : aGain V l v (t + 1) = x3 + (if (aSees V l t >>> (Int32.ofNat v &&& 31)) &&& (1 : Int32) = 1 then aPull V l x4 else 0) := by rw [h3, io_eq h1 (by omega)]; rfl
      by_cases cb : (aSees V l t >>> (Int32.ofNat v &&& 31)) &&& (1 : Int32) = 1
      · rw [if_pos cb] at hs ⊢
        refine pc_be rfl ?_
        rw [if_neg (by decide)]
        refine pc_bnd (mx_pullOf h hl hl5) (fun r5 s6 q5 => ?_)
        rw [q5.2, ← ev]
        exact ih (t + 1) _ _ (ti_nx h1 (by omega)) (by omega) (by rw [hs, q5.1])
      · rw [if_neg cb] at hs ⊢
        refine pc_be rfl ?_
        rw [if_pos rfl, ← ev]
        exact ih (t + 1) _ _ (ti_nx h1 (by omega)) (by omega) (by rw [hs])
  rw [f_X4_bringsOf_e]
  exact key F 0 0 0 rfl (by omega) rfl
/-- what a day brings, laid out -/
def vB (V : Nat → Int32) (s : Mem) : Prop := ∀ m : Nat, (m : Int) < (V 1).toInt → ∀ v, v < 8 → s 109 (8 * m + v) = aGain V m v 24
theorem mx_layBrings {F : Nat} {s : Mem} {V : Nat → Int32} (h : vM V s) : pc (f_X4_layBrings F s) (fun _ z => (∀ k, ¬ k = 109 → z k = s k) ∧ vB V z) := by
  have h5 := h.1.2.1
  have key : ∀ (N l : Nat) (x1 : Int32) (σ : Mem), x1.toInt = (l : Int) → (l : Int) ≤ (V 1).toInt → (∀ k, ¬ k = 109 → σ k = s k) → (∀ m, m < l → ∀ v, v < 8 → σ 109 (8 * m + v) = aGain V m v 24) → pc (lp_X4_layBrings_2 F N x1 σ) (fun _ z => (∀ k, ¬ k = 109 → z k = s k) ∧ vB V z) := by
    intro N
    induction N with
    | zero => intro l x1 σ h1 h2 h3 h4; exact pc_none rfl
    | succ N ih =>
      intro l x1 σ h1 h2 h3 h4
      rw [lp_X4_layBrings_2_s, h3 101 (by decide), vM_L h]
      refine pc_ite (fun c => pc_ret ⟨h3, fun m hm => h4 m ?_⟩) (fun c => ?_)
      · have d := ti_le c
        omega
      have d := ti_nle c
      have inner : ∀ (M j : Nat) (x2 : Int32) (σ : Mem), x2.toInt = (j : Int) → j ≤ 8 → (∀ k, ¬ k = 109 → σ k = s k) → (∀ m v, v < 8 → 8 * m + v < 8 * l + j → σ 109 (8 * m + v) = aGain V m v 24) → pc (lp_X4_layBrings_12 F (lp_X4_layBrings_2 F N) x1 M x2 σ) (fun _ z => (∀ k, ¬ k = 109 → z k = s k) ∧ vB V z) := by
        intro M
        induction M with
        | zero => intro j x2 σ g1 g2 g3 g4; exact pc_none rfl
        | succ M ih2 =>
          intro j x2 σ g1 g2 g3 g4
          rw [lp_X4_layBrings_12_s]
          refine pc_ite (fun c => ih (l + 1) _ σ (ti_nx h1 (by omega)) (by omega) g3 (fun m hm v hv => g4 m v hv ?_)) (fun c => ?_)
          · have e := ti_le c
            rw [tz_8] at e
            omega
          have e := ti_nle c
          rw [tz_8] at e
          refine pc_bnd (mx_bringsOf (vM_109 h (fun k a _ => g3 k a)) h1 g1 (by omega) (by omega)) (fun r1 s2 q => pc_chk (fun _ => pc_lt (fun s4 h4' => ih2 (j + 1) _ _ (ti_nx g1 (by omega)) (by omega) (fun k hk => ?_) (fun m v hv hmv => ?_))))
          · rw [h4', up2_k hk, q.2, g3 k hk]
          · rw [h4', q.2, q.1, tn_8 h1 g1 (by omega) (by omega), wm_key]
            by_cases e3 : 8 * m + v = 8 * l + j
            · have em : m = l := by omega
              have evj : v = j := by omega
              subst em evj
              rw [if_pos ⟨rfl, rfl⟩]
            · rw [if_neg (by rintro ⟨w1, w2⟩; exact e3 w2)]
              exact g4 m v hv (by omega)
      exact inner F 0 0 σ rfl (by omega) h3 (fun m v hv hmv => h4 m (by omega) v hv)
  rw [f_X4_layBrings_e]
  exact key F 0 0 s rfl h5.1 (fun _ _ => rfl) (fun m hm => absurd hm (Nat.not_lt_zero m))
theorem mx_held {F : Nat} {x : Int32} {σ : Mem} : f_X4_held F x σ = some (wt_min 99999 x, σ) := by
  rw [f_X4_held_e]
  unfold wt_min
  by_cases c : x < 99999
  · rw [if_pos c, if_pos (Int32.le_iff_toInt_le.mpr (by have := ti_lt c; omega))]
  · rw [if_neg c]
    by_cases d : x ≤ 99999
    · have e : x = 99999 := Int32.toInt_inj.mp (by have := ti_le d; have := ti_nlt c; omega)
      rw [if_pos d, e]
    · rw [if_neg d]
theorem wtJ_hi : ∀ p, p < 188 → ¬ p < 148 → wtJ p = 107 ∧ wtI p = p - 148 := by decide +kernel
theorem mx_goDays {F : Nat} (hF : 1000 ≤ F) {x : Int32} {s : Mem} (hv : wvV (wvM s)) : pc (f_X4_goDays F x s) (fun _ z => ∀ p, p < 188 → wvM z p = aDay (wvM s) x p) := by
  have h : vM (wvM s) s := ⟨hv, fun _ _ => rfl⟩
  have h5 := hv.2.1
  generalize hV : wvM s = V at *
  have n1 := ti_nat (V 1)
  have e8 : ((8 : Int32) * V 1).toInt = 8 * (V 1).toInt := by rw [ti_mul (by rw [tz_8]; omega) (by rw [tz_8]; omega), tz_8]
  rw [f_X4_goDays_e]
  refine pc_bnd (mx_layBrings h) (fun _ s0 q0 => ?_)
  obtain ⟨q1, q2⟩ := q0
  have h0 : vM V s0 := vM_109 h (fun k a _ => q1 k a)
  have key : ∀ (N i : Nat) (x2 : Int32) (σ : Mem), x2.toInt = (i : Int) → (i : Int) ≤ 8 * (V 1).toInt → (∀ k, ¬ k = 107 → σ k = s0 k) → (∀ j, j < 40 → σ 107 j = if j < i then aBehind V x (j / 8) (j % 8) else s0 107 j) → pc (lp_X4_goDays_6 F x N x2 σ) (fun _ z => ∀ p, p < 188 → wvM z p = aDay V x p) := by
    intro N
    induction N with
    | zero => intro i x2 σ g1 g2 g3 g4; exact pc_none rfl
    | succ N ih =>
      intro i x2 σ g1 g2 g3 g4
      rw [lp_X4_goDays_6_s, g3 101 (by decide), vM_L h0]
      refine pc_ite (fun c => pc_lt (fun s6 h6 => pc_ret (fun p hp => ?_))) (fun c => pc_chk (fun w => pc_be mx_held (pc_lt (fun s5 h5' => ?_))))
      · have d := ti_le c
        rw [e8] at d
        rw [h6, vM_D h0, wvM_at (k := 101) (i := 9) (q := 3) (by decide) rfl rfl hp]
        unfold aDay
        by_cases e3 : p = 3
        · subst e3; rw [wv_us, if_pos rfl]
        rw [wv_un e3, if_neg e3]
        by_cases c1 : p < 148
        · rw [if_neg (by omega), ← h0.2 p hp]
          unfold wvM
          rw [g3 _ (wtJ_no107 p c1)]
        · obtain ⟨j1, j2⟩ := wtJ_hi p hp c1
          unfold wvM
          rw [j1, j2, g4 (p - 148) (by omega)]
          by_cases e4 : (p - 148) / 8 < (V 1).toNatClampNeg
          · rw [if_pos (by omega), if_pos ⟨by omega, hp, e4⟩]
          · rw [if_neg (by omega), if_neg (by rintro ⟨w1, w2, w3⟩; exact e4 w3), vM_107 h0 (by omega), show 148 + (p - 148) = p by omega]
      · have d := ti_nle c
        rw [e8] at d
        rw [tn_int g1, g4 i (by omega), if_neg (Nat.lt_irrefl i), g3 109 (by decide), vM_107 h0 (by omega)] at h5'
        have hb := q2 (i / 8) (by omega) (i % 8) (Nat.mod_lt _ (by decide))
        rw [show 8 * (i / 8) + i % 8 = i by omega] at hb
        rw [hb] at h5'
        have hA : aBehind V x (i / 8) (i % 8) = wt_min 99999 (V (148 + i) + x * aGain V (i / 8) (i % 8) 24) := by
          unfold aBehind
          rw [show 148 + 8 * (i / 8) + i % 8 = 148 + i by omega]
        rw [← hA] at h5'
        refine ih (i + 1) _ _ (ti_nx g1 (by omega)) (by omega) (fun k hk => by rw [h5', up2_k hk, g3 k hk]) (fun j hj => ?_)
        rw [h5']
        by_cases e : j = i
        · subst e; rw [up2_s, if_pos (by omega)]
        · rw [up2_i e, g4 j hj]
          by_cases e3 : j < i
          · rw [if_pos e3, if_pos (by omega)]
          · rw [if_neg e3, if_neg (by omega)]
  exact key F 0 0 s0 rfl (by omega) (fun _ _ => rfl) (fun j hj => by rw [if_neg (Nat.not_lt_zero j)])
