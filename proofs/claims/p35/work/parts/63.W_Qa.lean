section
/-- one statement read -/
def rsO (k : Nat) (σ s : Mem) : Prop := ∀ j i, ¬ (j = 101 ∧ (i = 16 ∨ i = 17 ∨ i = 18)) → ¬ ((j = 112 ∨ j = 113) ∧ i = k) → ¬ (j = 114 ∧ 4 * k ≤ i ∧ i < 4 * k + 4) → s j i = σ j i
def RS (S : Nat → Int32) (n p k : Nat) (σ s : Mem) : Prop :=
  (s 101 16).toInt = ((wst S n p).1 : Int) ∧ s 101 17 = (if (wst S n p).2 then 0 else 1) ∧ (s 101 18).toInt = ((k + 1 : Nat) : Int) ∧ ((wst S n p).2 = true → (s 112 k).toInt = (p : Int) ∧ s 113 k = S p ∧ wtold S p (s 114) (4 * k)) ∧ rsO k σ s
theorem mx_rs108 {F : Nat} {S : Nat → Int32} {n p k : Nat} {t1 : Int32} {σ0 σ : Mem} (hn96 : n ≤ 96) (hk : (σ 101 18).toInt = (k : Int)) (hk48 : k ≤ 48) {e : Nat} {bb : Bool} (hw : wst S n p = (if bb then (e + 1, true) else (e, false))) (he : e < 1000) (h16 : (σ 101 16).toInt = (e : Int)) (ht : t1 = if bb then 0 else 1) (hT : bb = true → (σ 112 k).toInt = (p : Int) ∧ σ 113 k = S p ∧ wtold S p (σ 114) (4 * k)) (ho : rsO k σ0 σ) : pc (j_X4_readStatement_108 F t1 σ) (fun _ s => RS S n p k σ0 s) := by
  rw [j_X4_readStatement_108_e]
  simp only [j_X4_readStatement_128_e]
  refine pc_bz (fun _ => pc_lt (fun s3 g3 => ?_))
  have e17 : s3 101 17 = t1 := by rw [g3, up2_s]
  have e16 : s3 101 16 = σ 101 16 := by rw [g3, up2_i (by decide)]
  have e18 : s3 101 18 = σ 101 18 := by rw [g3, up2_i (by decide)]
  rw [e17]
  have go : ∀ a : Int32, (s3 101 16 + a).toInt = ((wst S n p).1 : Int) → pc (wt_lt (up2 s3 101 16 (s3 101 16 + a)) fun s1 => wt_lt (up2 s1 101 18 ((s1 101 18) + (1 : Int32))) fun s2 => some ((), s2)) (fun _ s => RS S n p k σ0 s) := fun a ha => by
    refine pc_lt (fun s1 g1 => pc_lt (fun s2 g2 => pc_ret ?_))
    have o : ∀ j i, ¬ (j = 101 ∧ (i = 16 ∨ i = 17 ∨ i = 18)) → s2 j i = σ j i := fun j i h => by rw [g2, wm_key, if_neg (by omega), g1, wm_key, if_neg (by omega), g3, wm_key, if_neg (by omega)]
    refine ⟨by rw [g2, up2_i (by decide), g1, up2_s]; exact ha, ?_, ?_, fun hb => ?_, fun j i h1 h2 h3 => by rw [o j i h1]; exact ho j i h1 h2 h3⟩
    · rw [g2, up2_i (by decide), g1, up2_i (by decide), e17, ht, hw]
      cases bb <;> rfl
    · rw [g2, up2_s, g1, up2_i (by decide), e18]
      exact ti_nx hk (by omega)
    · have hbb : bb = true := by
        cases bb with
        | false => rw [hw] at hb; exact absurd hb bft
        | true => rfl
      obtain ⟨t1, t2, t3⟩ := hT hbb
      rw [o 112 k (by omega), o 113 k (by omega), show s2 114 = σ 114 from funext fun i => o 114 i (by omega)]
      exact ⟨t1, t2, t3⟩
  cases bb with
  | true =>
    have ht0 : t1 = 0 := ht
    rw [ht0, if_pos rfl]
    refine go 1 ?_
    rw [e16, hw]
    exact ti_pl (k := 1) h16 he rfl (by decide)
  | false =>
    have ht0 : t1 = 1 := ht
    rw [ht0, if_neg (by decide)]
    refine go 0 ?_
    rw [e16, hw, Int32.add_zero]
    exact h16
theorem mx_readStatement {F : Nat} {σ : Mem} {S : Nat → Int32} {n p k : Nat} (hn96 : n ≤ 96) (hp : p ≤ n) (hk48 : k ≤ 48) (h16 : (σ 101 16).toInt = (p : Int)) (h17 : σ 101 17 = 0) (h18 : (σ 101 18).toInt = (k : Int)) (h7 : σ 111 = S) (h8 : (σ 101 15).toInt = (n : Int)) : pc (f_X4_readStatement F σ) (fun _ s => RS S n p k σ s) := by
  rw [f_X4_readStatement_e]
  refine pc_bnd (mx_here h8 h16) (fun r s13 w => ?_)
  obtain ⟨rfl, w1, w2⟩ := w
  rw [h7] at w1
  refine pc_chk (fun _ => pc_lt (fun s15 g15 => pc_lt (fun s16 g16 => ?_)))
  rw [tn_int h18] at g15 g16
  have o16 : ∀ j i, ¬ ((j = 112 ∨ j = 113) ∧ i = k) → s16 j i = s13 j i := fun j i h => by rw [g16, wm_key, if_neg (by omega), g15, wm_key, if_neg (by omega)]
  have f112 : (s16 112 k).toInt = (p : Int) := by rw [g16, up2_k (by decide), g15, up2_s]; exact h16
  have f113 : s16 113 k = r := by rw [g16, up2_s]
  have e17 : s16 101 17 = 0 := by rw [o16 101 17 (by omega)]; exact h17
  have e16 : s16 101 16 = s13 101 16 := o16 101 16 (by omega)
  have e18 : s16 101 18 = s13 101 18 := o16 101 18 (by omega)
  have e18k : s13 101 18 = s16 101 18 := e18.symm
  rw [e17, if_pos rfl]
  refine pc_be mx_isLetter ?_
  simp only [j_X4_readStatement_42_e, j_X4_readStatement_47_e, j_X4_readStatement_67_e, j_X4_readStatement_86_e, j_X4_readStatement_103_e]
  have rs0 : ∀ z : Mem, (∀ j i, ¬ (j = 101 ∧ (i = 16 ∨ i = 17 ∨ i = 18)) → z j i = s16 j i) → rsO k s13 z := fun z hz j i h1 h2 h3 => by rw [hz j i h1]; exact o16 j i h2
  by_cases hD : wD r = 0
  · rw [if_pos hD, if_pos rfl]
    have hw : wst S n p = (p, false) := by
      unfold wst
      refine if_neg (fun q => ?_)
      rw [w1 q.1] at hD
      exact q.2 hD
    refine pc_bz (fun _ => pc_lt (fun s10 g10 => ?_))
    have f17 : s10 101 17 = 1 := by rw [g10, up2_s]
    have f16 : s10 101 16 = s13 101 16 := by rw [g10, up2_i (by decide), e16]
    have f18 : s10 101 18 = s13 101 18 := by rw [g10, up2_i (by decide), e18]
    rw [f17, if_neg (by decide)]
    refine pc_lt (fun s7 g7 => ?_)
    have q17 : s7 101 17 = 1 := by rw [g7, up2_i (by decide), f17]
    rw [q17, if_neg (by decide), if_neg (by decide)]
    refine mx_rs108 (bb := false) (e := p) hn96 (by rw [g7, up2_i (by decide), f18]; exact h18) hk48 (by rw [hw]; rfl) (by omega) (by rw [g7, up2_s, f16, Int32.add_zero]; exact h16) rfl (fun q => absurd q bft) (rs0 s7 (fun j i h => by rw [g7, wm_key, if_neg (by omega), g10, wm_key, if_neg (by omega)]))
  · rw [if_neg hD, if_neg (by decide)]
    have hpn : p < n := by
      by_cases c : p < n
      · exact c
      · exfalso; apply hD; rw [w2 c]; rfl
    have hr := w1 hpn
    have hw : wst S n p = wfd S n (wD (S p)) (p + 1) := by unfold wst; rw [if_pos ⟨hpn, by rw [← hr]; exact hD⟩]
    refine pc_bz (fun _ => pc_lt (fun s10 g10 => ?_))
    have f17 : s10 101 17 = 0 := by rw [g10, up2_s]
    have f16 : s10 101 16 = s13 101 16 := by rw [g10, up2_i (by decide), e16]
    have f18 : s10 101 18 = s13 101 18 := by rw [g10, up2_i (by decide), e18]
    rw [f17, if_pos rfl]
    refine pc_lt (fun s7 g7 => ?_)
    have q17 : s7 101 17 = 0 := by rw [g7, up2_i (by decide), f17]
    have q18 : s7 101 18 = s13 101 18 := by rw [g7, up2_i (by decide), f18]
    have q16 : (s7 101 16).toInt = ((p + 1 : Nat) : Int) := by rw [g7, up2_s, f16]; exact ti_pl (k := 1) h16 (by omega) rfl (by decide)
    have o7 : ∀ j i, ¬ (j = 101 ∧ (i = 16 ∨ i = 17 ∨ i = 18)) → s7 j i = s16 j i := fun j i h => by rw [g7, wm_key, if_neg (by omega), g10, wm_key, if_neg (by omega)]
    rw [q17, if_pos rfl]
    have hb4 : ((4 : Int32) * s13 101 18).toInt = ((4 * k : Nat) : Int) := by
      have e4 : (4 : Int32).toInt = 4 := rfl
      rw [ti_mul (by rw [e4, h18]; omega) (by rw [e4, h18]; omega), e4, h18]; omega
    refine pc_bnd (mx_readNumbers (S := S) (n := n) (p := p) (b := 4 * k) hr.symm hb4 (by omega) hpn hn96 hD q16 q17 ((funext fun i => (o7 111 i (by omega)).trans (o16 111 i (by omega))).trans h7) (by rw [o7 101 15 (by omega), o16 101 15 (by omega)]; exact h8)) (fun _ s9 v => ?_)
    obtain ⟨v1, v2, v3⟩ := v
    have r18 : (s9 101 18).toInt = (k : Int) := by rw [v3 101 18 (by omega) (by omega), q18]; exact h18
    have rs9 : rsO k s13 s9 := fun j i h1 h2 h3 => by rw [v3 j i (by omega) (by omega), o7 j i h1]; exact o16 j i h2
    have t112 : (s9 112 k).toInt = (p : Int) := by rw [v3 112 k (by omega) (by omega), o7 112 k (by omega)]; exact f112
    have t113 : s9 113 k = S p := by rw [v3 113 k (by omega) (by omega), o7 113 k (by omega), f113, hr]
    rw [hr] at v1 v2
    by_cases call : ∀ k, k < wD (S p) → wdg S n (p + 1 + k)
    · obtain ⟨a1, a2⟩ := v1.1 call
      rw [a2, if_pos rfl]
      have hw2 := hw.trans (wfd_ok _ _ call)
      have h15' : (s9 101 15).toInt = (n : Int) := by rw [v3 101 15 (by omega) (by omega), o7 101 15 (by omega), o16 101 15 (by omega)]; exact h8
      have h111' : s9 111 = S := (funext fun i => ((v3 111 i (by omega) (by omega)).trans (o7 111 i (by omega))).trans (o16 111 i (by omega))).trans h7
      have hle : p + 1 + wD (S p) ≤ n := by
        by_cases c0 : wD (S p) = 0
        · omega
        · have := (call (wD (S p) - 1) (by omega)).1; omega
      refine pc_bnd (mx_here h15' a1) (fun r5 s6 u => ?_)
      obtain ⟨rfl, u1, u2⟩ := u
      rw [h111'] at u1
      by_cases c59 : p + 1 + wD (S p) < n ∧ S (p + 1 + wD (S p)) = 59
      · rw [if_pos ((u1 c59.1).trans c59.2)]
        refine mx_rs108 (bb := true) (e := p + 1 + wD (S p)) hn96 r18 hk48 (by rw [hw2, wfd, if_pos c59]; rfl) (by omega) a1 rfl (fun _ => ⟨t112, t113, v2 call⟩) rs9
      · have hne : ¬ r5 = 59 := fun q => by
          by_cases c : p + 1 + wD (S p) < n
          · exact c59 ⟨c, (u1 c).symm.trans q⟩
          · rw [u2 c] at q; exact absurd q (by decide)
        rw [if_neg hne]
        exact mx_rs108 (bb := false) (e := p + 1 + wD (S p)) hn96 r18 hk48 (by rw [hw2, wfd, if_neg c59]; rfl) (by omega) a1 rfl (fun q => absurd q bft) rs9
    · obtain ⟨k0, a1, a2, a3, a4, a5⟩ := v1.2 call
      rw [a5, if_neg (by decide)]
      exact mx_rs108 (bb := false) (e := p + 1 + k0) hn96 r18 hk48 (by rw [hw, wfd_no _ _ k0 a1 a2 a3]; rfl) (by
        rcases wD_cs (S p) with ⟨-, h0, -⟩ | ⟨-, -, -, h6, -⟩ <;> omega) a4 rfl (fun q => absurd q bft) rs9
/-- what the reference holds of the statements that it has read -/
def mInfo (S : Nat → Int32) (n k : Nat) (σ : Mem) : Prop := ∀ j, j < k → (σ 112 j).toInt = (wpl S j : Int) ∧ σ 113 j = S (wpl S j) ∧ wtold S (wpl S j) (σ 114) (4 * j) ∧ wdok S n (wpl S j)
theorem mInfo_k {S : Nat → Int32} {n k : Nat} {σ s : Mem} (h : mInfo S n k σ) (e1 : ∀ j, j < k → s 112 j = σ 112 j ∧ s 113 j = σ 113 j) (e2 : ∀ i, i < 4 * k → s 114 i = σ 114 i) : mInfo S n k s := fun j hj => by
  obtain ⟨h1, h2, h3, h4⟩ := h j hj
  obtain ⟨a1, a2⟩ := e1 j hj
  refine ⟨by rw [a1]; exact h1, by rw [a2]; exact h2, ?_, h4⟩
  unfold wtold at h3 ⊢
  rw [e2 (4 * j) (by omega), e2 (4 * j + 1) (by omega), e2 (4 * j + 2) (by omega), e2 (4 * j + 3) (by omega)]
  exact h3
/-- one statement comes -/
theorem mx_comesTold {F : Nat} (hF : 1000 ≤ F) {σ : Mem} {S : Nat → Int32} {n k p : Nat} {x1 : Int32} (hM : wiM σ) (hx : x1.toInt = (k : Int)) (hk : k ≤ 47) (h113 : σ 113 k = S p) (hT : wtold S p (σ 114) (4 * k)) (hd : wdok S n p) : pc (f_X4_comesTold F x1 σ) (fun r s => (cSt S p (wvM σ) → r = 1 ∧ lo148 (wvM s) (aSt S p (wvM σ))) ∧ (¬ cSt S p (wvM σ) → r = 0)) := by
  have bp := wx_X4_1 hM
  have bl := wx_X4_3 hM
  have bd : ∀ (i d : Nat), d ≤ 3 → i + d ≤ wD (S p) → 0 ≤ (wnum S (p + 1 + i) d).toInt ∧ (wnum S (p + 1 + i) d).toInt < (10 : Int) ^ d := fun i d h1 h2 => (wdok_b hd i d h1 h2).2.2
  have e4 : ((4 : Int32) * x1).toInt = ((4 * k : Nat) : Int) := by
    have e4 : (4 : Int32).toInt = 4 := rfl
    rw [ti_mul (by rw [e4, hx]; omega) (by rw [e4, hx]; omega), e4, hx]; omega
  have i0 : ((4 : Int32) * x1).toNatClampNeg = 4 * k := tn_int e4
  have i1 : (((4 : Int32) * x1) + (1 : Int32)).toNatClampNeg = 4 * k + 1 := ti_ix e4 (by omega) rfl (by decide)
  have i2 : (((4 : Int32) * x1) + (2 : Int32)).toNatClampNeg = 4 * k + 2 := ti_ix e4 (by omega) rfl (by decide)
  have i3 : (((4 : Int32) * x1) + (3 : Int32)).toNatClampNeg = 4 * k + 3 := ti_ix e4 (by omega) rfl (by decide)
  have V0 : wvM σ 0 = σ 101 1 := rfl
  have V1 : wvM σ 1 = σ 101 3 := rfl
  have V3 : wvM σ 3 = σ 101 9 := rfl
  rw [f_X4_comesTold_e]
  refine pc_chk (fun _ => pc_lt (fun z15 g15 => pc_chk (fun _ => pc_lt (fun z17 g17 => pc_chk (fun _ => pc_lt (fun z19 g19 => pc_chk (fun _ => pc_lt (fun z21 g21 => pc_chk (fun _ => ?_)))))))))
  rw [i0] at g15
  rw [i1] at g17
  rw [i2] at g19
  rw [i3] at g21
  rw [tn_int hx, h113]
  obtain ⟨T1, T2, T3, T4, T5⟩ := hT
  simp only [j_X4_comesTold_185_e, j_X4_comesTold_186_e, j_X4_comesTold_199_e, j_X4_comesTold_136_e, j_X4_comesTold_137_e, j_X4_comesTold_164_e, j_X4_comesTold_243_e, j_X4_comesTold_239_e, j_X4_comesTold_244_e, j_X4_comesTold_261_e, j_X4_comesTold_275_e, j_X4_comesTold_289_e, j_X4_comesTold_310_e, j_X4_comesTold_311_e, j_X4_comesTold_330_e, j_X4_comesTold_377_e, j_X4_comesTold_378_e, j_X4_comesTold_390_e]
  refine pc_ite (fun e => ?_) (fun e1 => ?_)
  · have hD : wD (S p) = 2 := by rw [e]; rfl
    obtain ⟨t1, t2⟩ := T5 (Or.inl e)
    rw [t1] at g15
    rw [t2] at g17
    obtain ⟨a1, a2⟩ := cSt_108 (V := wvM σ) e
    rw [a1, a2, V1]
    subst g15 g17
    have no : ∀ (P : Prop), ¬ P → pc (if (0 : Int32) = 0 then wt_bz (0 : Int32) (some ((0 : Int32), σ)) else wt_bnd (f_X4_lookerComes F (wnum S (p + 1) 1) (wnum S (p + 2) 1) σ) fun r4 s5 => wt_bz (0 : Int32) (some ((0 : Int32), s5))) (fun r s => (P → r = 1 ∧ lo148 (wvM s) (aLooker (wvM σ) (wnum S (p + 1) 1) (wnum S (p + 2) 1))) ∧ (¬ P → r = 0)) := fun P hP => by
      rw [if_pos rfl]; exact pc_bz (fun _ => pc_ret ⟨fun h => absurd h hP, fun _ => rfl⟩)
    refine pc_ite (fun c => ?_) (fun c => pc_ite (fun c2 => ?_) (fun c2 => ?_))
    · exact no _ (fun h => by have := ti_le c; rw [tz_6] at this; omega)
    · exact no _ (fun h => by have := ti_le c2; rw [tz_5] at this; omega)
    · have d1 := ti_nle c
      have d2 := ti_nle c2
      rw [tz_6] at d1
      rw [tz_5] at d2
      rw [if_neg (by decide)]
      exact pc_bnd (mx_lookerComes ⟨bl.1, d2⟩) (fun _ s5 q => pc_bz (fun _ => pc_ret ⟨fun _ => ⟨rfl, fun q' hq => q q' (by omega)⟩, fun n => absurd ⟨by omega, d2⟩ n⟩))
  refine pc_ite (fun e => ?_) (fun e2 => ?_)
  · have hD : wD (S p) = 3 := by rw [e]; rfl
    have t1 := T2 e
    rw [t1] at g15
    obtain ⟨a1, a2⟩ := cSt_112 (V := wvM σ) e
    rw [a1, a2, V0]
    subst g15
    have no : ∀ (P : Prop), ¬ P → pc (if (0 : Int32) = 0 then wt_bz (0 : Int32) (some ((0 : Int32), σ)) else wt_chk (σ 101 1) 6 (wt_lt (up2 σ 103 (Int32.toNatClampNeg (σ 101 1)) (wnum S (p + 1) 3)) fun s2 => wt_lt (up2 s2 101 1 ((s2 101 1) + (1 : Int32))) fun s3 => wt_bz (0 : Int32) (some ((0 : Int32), s3)))) (fun r s => (P → r = 1 ∧ lo148 (wvM s) (aPane (wvM σ) (wnum S (p + 1) 3))) ∧ (¬ P → r = 0)) := fun P hP => by
      rw [if_pos rfl]; exact pc_bz (fun _ => pc_ret ⟨fun h => absurd h hP, fun _ => rfl⟩)
    refine pc_ite (fun c => ?_) (fun c => pc_ite (fun c2 => ?_) (fun c2 => ?_))
    · exact no _ (fun h => by have := ti_lt c; rw [tz_255] at this; omega)
    · exact no _ (fun h => by have := ti_le c2; rw [tz_6] at this; omega)
    · have d1 := ti_nlt c
      have d2 := ti_nle c2
      rw [tz_255] at d1
      rw [tz_6] at d2
      rw [if_neg (by decide)]
      refine pc_chk (fun v => pc_lt (fun s2 h2 => pc_lt (fun s3 h3 => pc_bz (fun _ => pc_ret ⟨fun _ => ⟨rfl, fun q' hq => ?_⟩, fun n => absurd ⟨d1, d2⟩ n⟩))))
      have hj := wtJI_103 _ v.2.2
      rw [h3, wvM_at (k := 101) (i := 1) (q := 0) (by decide) rfl rfl (by omega)]
      unfold aPane
      refine upd_cg ?_ ?_
      · rw [h2, wvM_at (q := 12 + (σ 101 1).toNatClampNeg) (by have := v.2.2; omega) hj.1.symm hj.2.symm (by omega)]
        rfl
      · rw [h2, up2_k (by decide)]; rfl
  refine pc_ite (fun e => ?_) (fun e3 => ?_)
  · have hD : wD (S p) = 6 := by rw [e]; rfl
    obtain ⟨t1, t2, t3, t4⟩ := T3 e
    rw [t1] at g15
    rw [t2] at g17
    rw [t3] at g19
    rw [t4] at g21
    obtain ⟨a1, a2⟩ := cSt_115 (V := wvM σ) e
    rw [a1, a2, V0, V1]
    have b1 := bd 0 1 (by decide) (by omega)
    have b2 := bd 1 2 (by decide) (by omega)
    have b3 := bd 3 2 (by decide) (by omega)
    have b4 := bd 5 1 (by decide) (by omega)
    rw [show p + 1 + 0 = p + 1 from rfl, ← g15] at b1
    rw [show p + 1 + 1 = p + 2 from rfl, ← g17] at b2
    rw [show p + 1 + 3 = p + 4 from rfl, ← g19] at b3
    rw [show p + 1 + 5 = p + 6 from rfl, ← g21] at b4
    rw [← g15, ← g17, ← g19, ← g21]
    have no : ∀ (P : Prop), ¬ P → pc (if (0 : Int32) = 0 then wt_bz (0 : Int32) (some ((0 : Int32), σ)) else wt_bnd (f_X4_stand F z15 z17 z19 z21 σ) fun r6 s7 => wt_bz (0 : Int32) (some ((0 : Int32), s7))) (fun r s => (P → r = 1 ∧ lo148 (wvM s) (aStand (wvM σ) z15.toNatClampNeg z17.toNatClampNeg z19.toNatClampNeg z21)) ∧ (¬ P → r = 0)) := fun P hP => by
      rw [if_pos rfl]; exact pc_bz (fun _ => pc_ret ⟨fun h => absurd h hP, fun _ => rfl⟩)
    have yes : cPost (σ 101 1).toInt (σ 101 3).toInt z15 z17 z19 z21 → pc (if (1 : Int32) = 0 then wt_bz (1 : Int32) (some ((1 : Int32), σ)) else wt_bnd (f_X4_stand F z15 z17 z19 z21 σ) fun r6 s7 => wt_bz (1 : Int32) (some ((1 : Int32), s7))) (fun r s => (cPost (σ 101 1).toInt (σ 101 3).toInt z15 z17 z19 z21 → r = 1 ∧ lo148 (wvM s) (aStand (wvM σ) z15.toNatClampNeg z17.toNatClampNeg z19.toNatClampNeg z21)) ∧ (¬ cPost (σ 101 1).toInt (σ 101 3).toInt z15 z17 z19 z21 → r = 0)) := fun hc => by
      rw [if_neg (by decide)]
      have l1 : z15.toInt = (z15.toNatClampNeg : Int) := by rw [ti_nat]; omega
      have l2 : z17.toInt = (z17.toNatClampNeg : Int) := by rw [ti_nat]; omega
      have l3 : z19.toInt = (z19.toNatClampNeg : Int) := by rw [ti_nat]; omega
      have hc1 := hc.1.2
      have hc2 := hc.2.2.1.2
      have hc3 := hc.2.2.2.1
      exact pc_bnd (mx_stand (Or.inr b4.1) l1 (by omega) l2 l3 (by omega) (by omega)) (fun _ s7 q => pc_bz (fun _ => pc_ret ⟨fun _ => ⟨rfl, fun q' hq => q.1 q' (by omega)⟩, fun n => absurd hc n⟩))
    refine pc_be (mx_isLooker bl.1) ?_
    by_cases c1 : 0 ≤ z15.toInt ∧ z15.toInt < (σ 101 3).toInt
    rotate_left
    · rw [if_neg c1, if_pos rfl]; exact no _ (fun h => c1 h.1)
    rw [if_pos c1, if_neg (by decide)]
    refine pc_ite (fun c => no _ (fun h => by have := ti_lt c; have := h.2.2.2.1; omega)) (fun c2 => ?_)
    have d2 := ti_nlt c2
    refine pc_ite (fun c => no _ (fun h => by have := ti_le c; rw [tz_24] at this; have := h.2.2.1; omega)) (fun c3 => ?_)
    have d3 := ti_nle c3
    rw [tz_24] at d3
    refine pc_ite (fun c9 => yes ⟨c1, ⟨b2.1, by omega⟩, ⟨b3.1, by omega⟩, d2, Or.inl (by rw [c9]; rfl)⟩) (fun c9 => ?_)
    refine pc_be (mx_isPane bp.1) ?_
    by_cases c4 : 0 ≤ z21.toInt ∧ z21.toInt < (σ 101 1).toInt
    · rw [if_pos c4, if_neg (by decide)]
      exact yes ⟨c1, ⟨b2.1, by omega⟩, ⟨b3.1, by omega⟩, d2, Or.inr c4⟩
    · rw [if_neg c4, if_pos rfl]
      refine no _ (fun h => ?_)
      rcases h.2.2.2.2 with q | q
      · exact c9 (Int32.toInt_inj.mp (by rw [q]; rfl))
      · exact c4 q
  refine pc_ite (fun e => ?_) (fun e4 => ?_)
  · have hD : wD (S p) = 1 := by rw [e]; rfl
    have t1 := T4 e
    rw [t1] at g15
    obtain ⟨a1, a2⟩ := cSt_117 (V := wvM σ) e
    rw [a1, a2]
    subst g15
    refine pc_lt (fun s28 h28 => pc_ite (fun c => pc_ret ⟨fun h => ?_, fun _ => rfl⟩) (fun c => pc_ret ⟨fun _ => ⟨rfl, fun q' hq => ?_⟩, fun n => ?_⟩))
    · have := ti_le c; rw [tz_3] at this; omega
    · rw [h28, wvM_at (k := 101) (i := 8) (q := 2) (by decide) rfl rfl (by omega)]; rfl
    · have := ti_nle c; rw [tz_3] at this; omega
  refine pc_ite (fun e => ?_) (fun e5 => ?_)
  · have hD : wD (S p) = 2 := by rw [e]; rfl
    obtain ⟨t1, t2⟩ := T5 (Or.inr (Or.inl e))
    rw [t1] at g15
    rw [t2] at g17
    obtain ⟨a1, a2⟩ := cSt_118 (V := wvM σ) e
    rw [a1, a2]
    subst g15 g17
    refine pc_ite (fun c => ?_) (fun c => ?_)
    · rw [if_pos True.intro]
      exact pc_bz (fun _ => pc_ret ⟨fun h => by have := ti_le c; rw [tz_8] at this; omega, fun _ => rfl⟩)
    · have d1 := ti_nle c
      rw [tz_8] at d1
      rw [if_neg (by decide)]
      refine pc_chk (fun v => pc_lt (fun s9 h9 => pc_bz (fun _ => pc_ret ⟨fun _ => ⟨rfl, fun q' hq => ?_⟩, fun n => absurd (by omega) n⟩)))
      have hj := wtJI_102 _ v.2.2
      rw [h9, wvM_at (q := 4 + (wnum S (p + 1) 1).toNatClampNeg) (by have := v.2.2; omega) hj.1.symm hj.2.symm (by omega)]
      rfl
  refine pc_ite (fun e => ?_) (fun e6 => ?_)
  · have hD : wD (S p) = 2 := by rw [e]; rfl
    obtain ⟨t1, t2⟩ := T5 (Or.inr (Or.inr e))
    rw [t1] at g15
    rw [t2] at g17
    obtain ⟨a1, a2⟩ := cSt_119 (V := wvM σ) e
    rw [a1, a2, V0]
    have b1 := bd 0 1 (by decide) (by omega)
    rw [show p + 1 + 0 = p + 1 from rfl] at b1
    subst g15 g17
    refine pc_be (mx_isPane bp.1) ?_
    by_cases c1 : 0 ≤ (wnum S (p + 1) 1).toInt ∧ (wnum S (p + 1) 1).toInt < (σ 101 1).toInt
    rotate_left
    · rw [if_neg c1, if_pos rfl, if_pos True.intro]
      exact pc_bz (fun _ => pc_ret ⟨fun h => absurd ⟨b1.1, h.1⟩ c1, fun _ => rfl⟩)
    rw [if_pos c1, if_neg (by decide)]
    refine pc_ite (fun c => ?_) (fun c => ?_)
    · rw [if_pos True.intro]
      exact pc_bz (fun _ => pc_ret ⟨fun h => by have := ti_le c; rw [tz_8] at this; omega, fun _ => rfl⟩)
    · have d1 := ti_nle c
      rw [tz_8] at d1
      rw [if_neg (by decide)]
      refine pc_chk (fun v => pc_lt (fun s9 h9 => pc_bz (fun _ => pc_ret ⟨fun _ => ⟨rfl, fun q' hq => ?_⟩, fun n => absurd ⟨c1.2, by omega⟩ n⟩)))
      have hj := wtJI_103 _ v.2.2
      rw [h9, wvM_at (q := 12 + (wnum S (p + 1) 1).toNatClampNeg) (by have := v.2.2; omega) hj.1.symm hj.2.symm (by omega)]
      unfold aWall
      refine upd_cg rfl ?_
      unfold wvM
      rw [hj.1, hj.2]
  · have e : S p = 100 := by
      rcases wD_cs (S p) with ⟨-, h0, -⟩ | ⟨-, -, -, -, h⟩
      · exact absurd h0 hd.2.1
      · rcases h with h | h | h | h | h | h | h
        · exact h
        · exact absurd h e1
        · exact absurd h e2
        · exact absurd h e3
        · exact absurd h e4
        · exact absurd h e5
        · exact absurd h e6
    have t1 := T1 e
    rw [t1] at g15
    obtain ⟨a1, a2⟩ := cSt_100 (V := wvM σ) e
    rw [a1, a2, V3]
    subst g15
    refine pc_be (mx_in32 (lo := 1) (hi := 60) rfl rfl) ?_
    by_cases c1 : 1 ≤ (wnum S (p + 1) 2).toInt ∧ (wnum S (p + 1) 2).toInt ≤ 60
    rotate_left
    · rw [if_neg c1, if_pos rfl, if_pos True.intro]
      exact pc_bz (fun _ => pc_ret ⟨fun h => absurd ⟨h.1, h.2.1⟩ c1, fun _ => rfl⟩)
    rw [if_pos c1, if_neg (by decide)]
    refine pc_ite (fun c => ?_) (fun c => ?_)
    · rw [if_pos True.intro]
      exact pc_bz (fun _ => pc_ret ⟨fun h => by have := ti_lt c; rw [tz_9999] at this; omega, fun _ => rfl⟩)
    · have d1 := ti_nlt c
      rw [tz_9999] at d1
      rw [if_neg (by decide)]
      exact pc_bnd (mx_goDays hF) (fun _ s9 q => pc_bz (fun _ => pc_ret ⟨fun _ => ⟨rfl, q⟩, fun n => absurd ⟨c1.1, c1.2, d1⟩ n⟩))
end
section
theorem aSt_lo {S : Nat → Int32} {n p : Nat} {A B : Nat → Int32} (h : lo148 A B) (hd : wdok S n p) : lo148 (aSt S p A) (aSt S p B) := by
  have h0 := h 0 (by decide)
  have h1 := h 1 (by decide)
  have h3 := h 3 (by decide)
  intro q hq
  have hh := h q hq
  rcases wD_cs (S p) with ⟨-, g0, -⟩ | ⟨-, -, -, -, e⟩
  · exact absurd g0 hd.2.1
  have bd : ∀ (i d : Nat), d ≤ 3 → i + d ≤ wD (S p) → 0 ≤ (wnum S (p + 1 + i) d).toInt ∧ (wnum S (p + 1 + i) d).toInt < (10 : Int) ^ d := fun i d h1 h2 => (wdok_b hd i d h1 h2).2.2
  rcases e with e | e | e | e | e | e | e
  · rw [(cSt_100 e).2, (cSt_100 e).2]; unfold aDay; exact upd_cg hh (by rw [h3])
  · rw [(cSt_108 e).2, (cSt_108 e).2]; unfold aLooker; rw [h1, hh]
  · rw [(cSt_112 e).2, (cSt_112 e).2]; unfold aPane; rw [h0]; exact upd_cg (upd_cg hh rfl) rfl
  · rw [(cSt_115 e).2, (cSt_115 e).2]; unfold aStand; rw [hh]
  · rw [(cSt_117 e).2, (cSt_117 e).2]; unfold aLaw; exact upd_cg hh rfl
  · rw [(cSt_118 e).2, (cSt_118 e).2]; unfold aWorth; exact upd_cg hh rfl
  · rw [(cSt_119 e).2, (cSt_119 e).2]; unfold aWall
    have hb := bd 0 1 (by decide) (by rw [e]; decide)
    rw [show p + 1 + 0 = p + 1 from rfl] at hb
    have ht := ti_nat (wnum S (p + 1) 1)
    exact upd_cg hh (by rw [h _ (by omega)])
theorem wpl_3 {S : Nat → Int32} {n : Nat} : ∀ {k : Nat} {σ : Mem}, mInfo S n k σ → 3 * k ≤ wpl S k := by
  intro k
  induction k with
  | zero => intro σ _; exact Nat.zero_le _
  | succ k ih =>
    intro σ h
    have h1 := ih (fun j hj => h j (by omega))
    have h2 := (h k (by omega)).2.2.2.2.1
    show 3 * (k + 1) ≤ wpl S k + wD (S (wpl S k)) + 2
    omega
/-- the reference's statements come, one after the other -/
def mTer (S : Nat → Int32) (m j : Nat) (V A0 : Nat → Int32) (y : Int32) (r : Int32) (s : Mem) : Prop :=
  (wrf S (m - j) j V = none → r.toInt = (m : Int) ∧ lo148 (wvM s) (wrv S (m - j) j V) ∧ s 101 30 = 0) ∧
  (∀ q, wrf S (m - j) j V = some q → r.toInt = -2000 - (q : Int) ∧ (∀ p, p < 188 → wvM s p = A0 p) ∧ s 101 30 = y)
theorem mx_terrace_79 {F : Nat} (hF : 73786976294838206464 ≤ F) {S : Nat → Int32} {n m : Nat} (hn96 : n ≤ 96) (hm : wokm S n m) (hm47 : m ≤ 48) {A0 : Nat → Int32} {y : Int32} : ∀ (N j : Nat) (V : Nat → Int32) (x1 : Int32) (σ : Mem), x1.toInt = (j : Int) → j ≤ m → wiM σ → (σ 101 18).toInt = (m : Int) → mInfo S n m σ → lo148 (wvM σ) V → (∀ p, p < 188 → σ 115 p = A0 p) → σ 101 30 = y → pc (lp_X4_terrace_79 F N x1 σ) (fun r s => mTer S m j V A0 y r s) := by
  intro N
  induction N with
  | zero => intro j V x1 σ h1 h2 h3 h4 h5 h6 h7 h8; exact pc_none rfl
  | succ N ih =>
    intro j V x1 σ h1 h2 h3 h4 h5 h6 h7 h8
    rw [lp_X4_terrace_79_s]
    refine pc_ite (fun c => ?_) (fun c => ?_)
    · have hc := ti_le c
      have ej : j = m := by omega
      have em : m - j = 0 := by omega
      refine pc_lt (fun s3 h => pc_ret ?_)
      unfold mTer
      rw [em]
      refine ⟨fun _ => ⟨by rw [h, up2_i (by decide)]; exact h4, fun q hq => by rw [h, wvM_no (by omega) (by omega) (by omega)]; exact h6 q hq, by rw [h, up2_s]⟩, fun q hq => absurd hq (by intro w; cases w)⟩
    · have hc := ti_nle c
      have hjm2 : j < m := by omega
      obtain ⟨i1, i2, i3, hd⟩ := h5 j hjm2
      obtain ⟨r0, er⟩ : ∃ r0, m - j = r0 + 1 := ⟨m - j - 1, by omega⟩
      have er2 : m - (j + 1) = r0 := by omega
      refine pc_bnd (pc_and (mx_comesTold (by omega) h3 h1 (by omega) i2 i3 hd) (pc_and (pc_pf (fr_X4_comesTold (by omega))) (sf_pc (s_X4_comesTold hF h3 (by omega) (by omega))))) (fun r s5 q => ?_)
      obtain ⟨q1, q2, q3⟩ := q
      have o : ∀ j i, j = 112 ∨ j = 113 ∨ j = 114 ∨ j = 115 → s5 j i = σ j i := fun j i h => q2 j i (by
        rw [wcid_M (by omega)]; show ¬ _; unfold wf_56; omega)
      have e18 : s5 101 18 = σ 101 18 := q3.2.2.2.2.2.1
      have e30 : s5 101 30 = σ 101 30 := q3.2.2.2.2.1
      have e0 : wvM σ 0 = V 0 := h6 0 (by decide)
      have e1 : wvM σ 1 = V 1 := h6 1 (by decide)
      have e3 : wvM σ 3 = V 3 := h6 3 (by decide)
      have hcs : cSt S (wpl S j) (wvM σ) ↔ cSt S (wpl S j) V := cSt_cg e0 e1 e3
      by_cases hc2 : cSt S (wpl S j) V
      · obtain ⟨r1, r2⟩ := q1.1 (hcs.mpr hc2)
        rw [r1, if_neg (by decide)]
        refine pc_mono (ih (j + 1) (aSt S (wpl S j) V) _ s5 (ti_nx h1 (by omega)) hjm2 q3.1 (by rw [e18]; exact h4) (mInfo_k h5 (fun j _ => ⟨o 112 j (by omega), o 113 j (by omega)⟩) (fun i _ => o 114 i (by omega))) (fun q hq => ?_) (fun p hp => by rw [o 115 p (by omega)]; exact h7 p hp) (by rw [e30]; exact h8)) (fun a s z => ?_)
        · rw [r2 q hq]
          exact aSt_lo h6 hd q hq
        · unfold mTer at z ⊢
          rw [er, wrf_t hc2]
          rw [er2] at z
          exact z
      · have r0' := q1.2 (fun w => hc2 (hcs.mp w))
        rw [r0', if_pos rfl, f_X4_again_e]
        refine pc_bnd (P := fun _ s => (∀ p, p < 188 → wvM s p = A0 p) ∧ s 101 30 = y ∧ s 112 = s5 112) ?_ (fun _ s7 z => pc_chk (fun _ => pc_ret ?_))
        · refine pc_bnd (sf_pc (wt_carryAll (by omega) (Or.inl rfl) (by unfold wiK; omega))) (fun _ s4 w => pc_ret ⟨fun p hp => ?_, ?_, ?_⟩)
          · exact ((w.2.2.2.2 rfl).1 p hp).trans ((o 115 p (by omega)).trans (h7 p hp))
          · rw [wt_Car_fld (by unfold wiK; omega) w (by omega) (by omega), e30]; exact h8
          · exact wt_Car_reg w (by decide) (by omega)
        · unfold mTer
          rw [er, wrf_f hc2]
          refine ⟨fun w => (by cases w), fun q hq => ?_⟩
          cases hq
          refine ⟨?_, z.1, z.2.1⟩
          have e20 : (-2000 : Int32).toInt = -2000 := rfl
          have ep : (s7 112 x1.toNatClampNeg).toInt = (wpl S j : Int) := by rw [z.2.2, tn_int h1, o 112 j (by omega)]; exact i1
          have hle : wpl S j < n := hd.1
          rw [ti_sub (by rw [e20, ep]; omega) (by rw [e20, ep]; omega), e20, ep]
/-- the whole terrace on the reference's side, from the fault of form's place or the statements -/
def mTer0 (S : Nat → Int32) (n K p : Nat) (V A0 : Nat → Int32) (y : Int32) (r : Int32) (s : Mem) : Prop :=
  ((wpar S n K p).2 = false → r.toInt = -1000 - ((wpar S n K p).1 : Int) ∧ (∀ p, p < 188 → wvM s p = A0 p) ∧ s 101 30 = y) ∧
  ((wpar S n K p).2 = true → ∀ m, wokm S n m → (wrf S m 0 V = none → r.toInt = (m : Int) ∧ lo148 (wvM s) (wrv S m 0 V) ∧ s 101 30 = 0) ∧ (∀ q, wrf S m 0 V = some q → r.toInt = -2000 - (q : Int) ∧ (∀ p, p < 188 → wvM s p = A0 p) ∧ s 101 30 = y))
theorem mx_terrace_52 {F : Nat} (hF : 73786976294838206464 ≤ F) {σ : Mem} {S : Nat → Int32} {n m : Nat} (hn96 : n ≤ 96) (hm : wokm S n m) (h17 : σ 101 17 = 0) (hM : wiM σ) (h18 : (σ 101 18).toInt = (m : Int)) (hI : mInfo S n m σ) {A0 : Nat → Int32} {y : Int32} (hA : ∀ p, p < 188 → wvM σ p = A0 p) (hy : σ 101 30 = y) : pc (j_X4_terrace_52 F σ) (fun r s => mTer S m 0 A0 A0 y r s) := by
  rw [j_X4_terrace_52_e]
  have hm48 : m ≤ 48 := by
    rcases Nat.eq_zero_or_pos m with q | q
    · omega
    · have := wpl_lt (S := S) q; have := hm.2; omega
  refine pc_lt (fun s9 g9 => ?_)
  have e17 : s9 101 17 = 0 := by rw [g9, up2_i (by decide)]; exact h17
  rw [e17, if_pos rfl, f_X4_think_e]
  have I9 : wiM s9 := by rw [g9]; exact wx_put_X4_15 hM (by decide) (by decide)
  have V9 : ∀ p, p < 188 → wvM s9 p = A0 p := fun p hp => by rw [g9, wvM_no (by omega) (by omega) hp]; exact hA p hp
  refine pc_bnd (P := fun _ s => wiM s ∧ (∀ p, p < 188 → s 115 p = A0 p) ∧ (∀ p, p < 188 → wvM s p = A0 p) ∧ s 101 30 = s9 101 30 ∧ s 101 18 = s9 101 18 ∧ (∀ j, 112 ≤ j → j ≤ 114 → s j = s9 j)) ?_ (fun _ s11 z => ?_)
  · refine pc_bnd (sf_pc (wt_carryAll (by omega) (Or.inr rfl) (by unfold wiK; omega))) (fun _ s4 w => pc_ret ⟨wt_Car_wiM (by unfold wiK; omega) I9 w, fun p hp => ?_, fun p hp => ?_, wt_Car_fld (by unfold wiK; omega) w (by omega) (by omega), wt_Car_fld (by unfold wiK; omega) w (by omega) (by omega), fun j a b => wt_Car_reg w (by omega) (by omega)⟩)
    · exact ((w.2.2.2.1 (by decide)).1 p hp).trans (V9 p hp)
    · exact (wt_Car_took (by unfold wiK; omega) (by decide) w (wtHd_no hp) (by have := wtJ_101 p hp; omega)).trans (V9 p hp)
  · obtain ⟨z1, z2, z3, z4, z5, z6⟩ := z
    have o9 : ∀ j i, j ≠ 101 → s9 j i = σ j i := fun j i h => by rw [g9, up2_k h]
    refine mx_terrace_79 hF hn96 hm hm48 F 0 A0 0 s11 rfl (by omega) z1 (by rw [z5, g9, up2_i (by decide)]; exact h18) (mInfo_k hI (fun j _ => ⟨by rw [z6 112 (by decide) (by decide), o9 112 j (by decide)], by rw [z6 113 (by decide) (by decide), o9 113 j (by decide)]⟩) (fun i _ => by rw [z6 114 (by decide) (by decide), o9 114 i (by decide)])) (fun q hq => z3 q (by omega)) z2 (by rw [z4, g9, up2_i (by decide)]; exact hy)
theorem mx_terrace_20 {F : Nat} (hF : 73786976294838206464 ≤ F) {S : Nat → Int32} {n : Nat} (hn96 : n ≤ 96) {A0 : Nat → Int32} {y : Int32} : ∀ (N K k : Nat) (σ : Mem), wiM σ → σ 111 = S → (σ 101 15).toInt = (n : Int) → (σ 101 16).toInt = (wpl S k : Int) → wpl S k ≤ n → σ 101 17 = 0 → (σ 101 18).toInt = (k : Int) → mInfo S n k σ → (k = 0 ∨ wpl S k < n) → n < wpl S k + K → (∀ p, p < 188 → wvM σ p = A0 p) → σ 101 30 = y → pc (lp_X4_terrace_20 F N σ) (fun r s => mTer0 S n K (wpl S k) A0 A0 y r s) := by
  intro N
  induction N with
  | zero => intro K k σ h1 h2 h3 h4 h4' h5 h6 h7 h8 h9 h10 h11; exact pc_none rfl
  | succ N ih =>
    intro K k σ h1 h2 h3 h4 h4' h5 h6 h7 h8 h9 h10 h11
    have hk48 : k ≤ 48 := by
      rcases Nat.eq_zero_or_pos k with q | q
      · omega
      · have := wpl_lt (S := S) q; omega
    have hk47 : k ≤ 47 ∨ k = 48 := by omega
    rw [lp_X4_terrace_20_s]
    simp only [j_X4_terrace_45_e]
    have hk31 : k ≤ 31 := by
      have h3k : 3 * k ≤ wpl S k := wpl_3 h7
      rcases h8 with h8 | h8 <;> omega
    have hIs : pc (f_X4_readStatement F σ) (fun _ s => wiM s) := pc_mono (sf_pc (s_X4_readStatement hF h1 (by omega))) (fun _ s q => q.1)
    have read : pc (wt_bnd (f_X4_readStatement F σ) fun r1 s2 => lp_X4_terrace_20 F N s2) (fun r s => mTer0 S n K (wpl S k) A0 A0 y r s) := by
      refine pc_bnd (pc_and (mx_readStatement hn96 h4' hk48 h4 h5 h6 h2 h3) (pc_and (pc_pf (fr_X4_readStatement (by omega))) (hIs))) (fun _ s2 q => ?_)
      obtain ⟨⟨q1, q2, q3, q4, q5⟩, f, hI2⟩ := q
      have o : ∀ j i, j ≠ 101 → ¬ (112 ≤ j ∧ j ≤ 114) → s2 j i = σ j i := fun j i a b => q5 j i (by omega) (by omega) (by omega)
      have hV2 : ∀ p, p < 188 → wvM s2 p = A0 p := fun p hp => by
        rw [← h10 p hp]
        exact wvM_fr f (fun c hc => by show ¬ _; unfold wf_53; omega) hp
      have e30 : s2 101 30 = y := by rw [q5 101 30 (by omega) (by omega) (by omega)]; exact h11
      have e15 : (s2 101 15).toInt = (n : Int) := by rw [q5 101 15 (by omega) (by omega) (by omega)]; exact h3
      obtain ⟨K, rfl⟩ : ∃ K', K = K' + 1 := ⟨K - 1, by omega⟩
      have hw : wpar S n (K + 1) (wpl S k) = if (wst S n (wpl S k)).2 then (if (wst S n (wpl S k)).1 < n then wpar S n K (wst S n (wpl S k)).1 else ((wst S n (wpl S k)).1, true)) else ((wst S n (wpl S k)).1, false) := rfl
      cases hb : (wst S n (wpl S k)).2 with
      | false =>
        rw [hb, if_neg bft] at hw q2
        cases N with
        | zero => exact pc_none rfl
        | succ N =>
          rw [lp_X4_terrace_20_s, q2, if_neg (by decide), j_X4_terrace_52_e]
          refine pc_lt (fun s9 g9 => ?_)
          have e17 : s9 101 17 = 1 := by rw [g9, up2_i (by decide)]; exact q2
          have e16 : s9 101 16 = s2 101 16 := by rw [g9, up2_i (by decide)]
          rw [e17, if_neg (by decide)]
          refine pc_ret ?_
          unfold mTer0
          rw [hw]
          refine ⟨fun _ => ⟨?_, fun p hp => by rw [g9, wvM_no (by omega) (by omega) hp]; exact hV2 p hp, by rw [g9, up2_i (by decide)]; exact e30⟩, fun w => absurd w bft⟩
          have e10 : (-1000 : Int32).toInt = -1000 := rfl
          have hle := wx_X4_16 hI2
          have h0 : (0 : Int) ≤ ((wst S n (wpl S k)).1 : Int) := by omega
          rw [e16, ti_sub (by rw [e10, q1]; omega) (by rw [e10, q1]; omega), e10, q1]
      | true =>
        rw [hb, if_pos rfl] at hw q2
        obtain ⟨e1, e2, -, -, e5⟩ := wst_t hb
        have ep : (wst S n (wpl S k)).1 = wpl S (k + 1) := e1
        rw [ep] at hw q1
        have hstep : wpl S (k + 1) = wpl S k + wD (S (wpl S k)) + 2 := rfl
        have hI : mInfo S n (k + 1) s2 := fun j hj => by
          by_cases e : j = k
          · subst e
            obtain ⟨a1, a2, a3⟩ := q4 hb
            exact ⟨a1, a2, a3, wst_ok hb⟩
          · exact mInfo_k h7 (fun j hj => ⟨q5 112 j (by omega) (by omega) (by omega), q5 113 j (by omega) (by omega) (by omega)⟩) (fun i hi => q5 114 i (by omega) (by omega) (by omega)) j (by omega)
        by_cases c : wpl S (k + 1) < n
        · rw [if_pos c] at hw
          refine pc_mono (ih K (k + 1) s2 hI2 ((funext fun i => o 111 i (by omega) (by omega)).trans h2) e15 q1 (by omega) q2 q3 hI (Or.inr c) (by omega) hV2 e30) (fun r s z => ?_)
          unfold mTer0 at z ⊢
          rw [hw]
          exact z
        · rw [if_neg c] at hw
          have hm : wokm S n (k + 1) := ⟨fun j hj => (hI j hj).2.2.2, by omega⟩
          cases N with
          | zero => exact pc_none rfl
          | succ N =>
            rw [lp_X4_terrace_20_s, q2, if_pos rfl]
            refine pc_ite (fun c0 => ?_) (fun _ => pc_ite (fun _ => ?_) (fun c3 => ?_))
            · exfalso
              have := ti_eq c0
              rw [q3, tz_0] at this
              omega
            · refine pc_mono (mx_terrace_52 hF hn96 hm q2 hI2 q3 hI hV2 e30) (fun r s z => ?_)
              unfold mTer0
              rw [hw]
              refine ⟨fun w => absurd w btf, fun _ m' hm' => ?_⟩
              have em := wokm_u hm' hm
              subst em
              exact z
            · exfalso
              have := ti_nle c3
              rw [e15, q1] at this
              omega
    rw [h5, if_pos rfl]
    refine pc_ite (fun _ => read) (fun c0 => pc_ite (fun c => ?_) (fun _ => read))
    exfalso
    have h01 := ti_ne c0
    have h02 := ti_le c
    rw [h6, tz_0] at h01
    rw [h3, h4] at h02
    omega
theorem cm_terrace {F : Nat} (hF : 73786976294838206464 ≤ F) {σ : Mem} {n : Nat} (hM : wiM σ) (hn : (σ 101 15).toInt = (n : Int)) (hn96 : n ≤ 96) : pc (f_X4_terrace F σ) (fun r s => mTer0 (σ 111) n (n + 1) 0 (wvM σ) (wvM σ) (σ 101 30) r s) := by
  rw [f_X4_terrace_e]
  refine pc_lt (fun s1 g1 => pc_lt (fun s2 g2 => pc_lt (fun s3 g3 => pc_lt (fun s4 g4 => ?_))))
  have o : ∀ j i, ¬ (j = 101 ∧ (i = 10 ∨ i = 16 ∨ i = 17 ∨ i = 18)) → s4 j i = σ j i := fun j i h => by rw [g4, wm_key, if_neg (by omega), g3, wm_key, if_neg (by omega), g2, wm_key, if_neg (by omega), g1, wm_key, if_neg (by omega)]
  have I4 : wiM s4 := by
    rw [g4]
    refine wx_put_X4_18 ?_ (by decide) (by decide)
    rw [g3]
    refine wm_fld ?_ (by decide) (by decide) (by decide) (by decide) (by decide) (by decide) (by decide)
    rw [g2]
    refine wx_put_X4_16 ?_ (by decide) (by decide)
    rw [g1]
    exact wm_fld hM (by decide) (by decide) (by decide) (by decide) (by decide) (by decide) (by decide)
  have hV : ∀ p, p < 188 → wvM s4 p = wvM σ p := fun p hp => by
    rw [g4, wvM_no (by omega) (by omega) hp, g3, wvM_no (by omega) (by omega) hp, g2, wvM_no (by omega) (by omega) hp, g1, wvM_no (by omega) (by omega) hp]
  have r16 : s4 101 16 = 0 := by rw [g4, up2_i (by decide), g3, up2_i (by decide), g2, up2_s]
  have r17 : s4 101 17 = 0 := by rw [g4, up2_i (by decide), g3, up2_s]
  have r18 : s4 101 18 = 0 := by rw [g4, up2_s]
  exact mx_terrace_20 hF hn96 F (n + 1) 0 s4 I4 (funext fun i => o 111 i (by omega)) (by rw [o 101 15 (by omega)]; exact hn) (by rw [r16]; rfl) (Nat.zero_le _) r17 (by rw [r18]; rfl) (fun j hj => absurd hj (Nat.not_lt_zero j)) (Or.inl rfl) (by show n < 0 + (n + 1); omega) hV (o 101 30 (by omega))
end
section
theorem S_eq {σ : Mem} {n : Nat} (h : ∀ i, i < n → σ 84 i = σ 111 i) : ∀ (d i : Nat), i + d ≤ n → wnum (σ 84) i d = wnum (σ 111) i d := by
  intro d
  induction d with
  | zero => intro i _; rfl
  | succ d ih =>
    intro i hi
    show wnum (σ 84) i d * 10 + (σ 84 (i + d) - 48) = wnum (σ 111) i d * 10 + (σ 111 (i + d) - 48)
    rw [ih i (by omega), h (i + d) (by omega)]
/-- letters alike below n: the same form, the same statements -/
def seq (n : Nat) (S T : Nat → Int32) : Prop := ∀ i, i < n → S i = T i
theorem wfd_cg {n : Nat} {S T : Nat → Int32} (h : seq n S T) : ∀ (d i : Nat), wfd S n d i = wfd T n d i := by
  intro d
  induction d with
  | zero =>
    intro i
    rw [wfd, wfd]
    by_cases c : i < n
    · rw [h i c]
    · rw [if_neg (fun q => c q.1), if_neg (fun q => c q.1)]
  | succ d ih =>
    intro i
    rw [wfd_s, wfd_s]
    by_cases c : i < n
    · have e := h i c
      by_cases c2 : wdg S n i
      · rw [if_pos c2, if_pos ⟨c2.1, by rw [← e]; exact c2.2⟩]; exact ih (i + 1)
      · rw [if_neg c2, if_neg (fun q => c2 ⟨q.1, by rw [e]; exact q.2⟩)]
    · rw [if_neg (fun q => c q.1), if_neg (fun q => c q.1)]
theorem wst_cg {n : Nat} {S T : Nat → Int32} (h : seq n S T) (p : Nat) : wst S n p = wst T n p := by
  unfold wst
  by_cases c : p < n
  · rw [h p c, wfd_cg h]
  · rw [if_neg (fun q => c q.1), if_neg (fun q => c q.1)]
theorem wpar_cg {n : Nat} {S T : Nat → Int32} (h : seq n S T) : ∀ (K p : Nat), wpar S n K p = wpar T n K p := by
  intro K
  induction K with
  | zero => intro p; rfl
  | succ K ih =>
    intro p
    rw [wpar, wpar, wst_cg h, ih]
theorem wdok_cg {n p : Nat} {S T : Nat → Int32} (h : seq n S T) (hd : wdok S n p) : wdok T n p := by
  obtain ⟨h1, h2, h3, h4⟩ := hd
  rw [h p h1] at h2 h3 h4
  exact ⟨h1, h2, fun k hk => by have := h3 k hk; exact ⟨this.1, by rw [← h _ this.1]; exact this.2⟩, h4⟩
theorem wpl_cg {n m : Nat} {S T : Nat → Int32} (h : seq n S T) (hm : wokm S n m) : ∀ j, j ≤ m → wpl S j = wpl T j := by
  intro j
  induction j with
  | zero => intro _; rfl
  | succ j ih =>
    intro hj
    have e := ih (by omega)
    have hd := hm.1 j (by omega)
    show wpl S j + wD (S (wpl S j)) + 2 = wpl T j + wD (T (wpl T j)) + 2
    rw [← e, h _ hd.1]
theorem wokm_cg {n m : Nat} {S T : Nat → Int32} (h : seq n S T) (hm : wokm S n m) : wokm T n m :=
  ⟨fun j hj => by rw [← wpl_cg h hm j (by omega)]; exact wdok_cg h (hm.1 j hj), by rw [← wpl_cg h hm m (Nat.le_refl _)]; exact hm.2⟩
theorem wnum_cg {n : Nat} {S T : Nat → Int32} (h : seq n S T) : ∀ (d i : Nat), i + d ≤ n → wnum S i d = wnum T i d := by
  intro d
  induction d with
  | zero => intro i _; rfl
  | succ d ih =>
    intro i hi
    show wnum S i d * 10 + (S (i + d) - 48) = wnum T i d * 10 + (T (i + d) - 48)
    rw [ih i (by omega), h (i + d) (by omega)]
theorem aSt_cg {n p : Nat} {S T : Nat → Int32} (h : seq n S T) (hd : wdok S n p) (V : Nat → Int32) : aSt S p V = aSt T p V ∧ (cSt S p V ↔ cSt T p V) := by
  have e := h p hd.1
  have w : ∀ i d, i + d ≤ wD (S p) → wnum S (p + 1 + i) d = wnum T (p + 1 + i) d := fun i d hi => wnum_cg h d _ (by have := hd.2.2.2; omega)
  rcases wD_cs (S p) with ⟨-, g0, -⟩ | ⟨-, -, -, -, c⟩
  · exact absurd g0 hd.2.1
  rcases c with c | c | c | c | c | c | c
  · have c' := e.symm.trans c
    have a1 := w 0 2 (by rw [c]; decide)
    rw [show p + 1 + 0 = p + 1 from rfl] at a1
    rw [(cSt_100 c).2, (cSt_100 c').2, (cSt_100 c).1, (cSt_100 c').1, a1]; exact ⟨rfl, Iff.rfl⟩
  · have c' := e.symm.trans c
    have a1 := w 0 1 (by rw [c]; decide)
    have a2 := w 1 1 (by rw [c]; decide)
    rw [show p + 1 + 0 = p + 1 from rfl] at a1
    rw [show p + 1 + 1 = p + 2 from rfl] at a2
    rw [(cSt_108 c).2, (cSt_108 c').2, (cSt_108 c).1, (cSt_108 c').1, a1, a2]; exact ⟨rfl, Iff.rfl⟩
  · have c' := e.symm.trans c
    have a1 := w 0 3 (by rw [c]; decide)
    rw [show p + 1 + 0 = p + 1 from rfl] at a1
    rw [(cSt_112 c).2, (cSt_112 c').2, (cSt_112 c).1, (cSt_112 c').1, a1]; exact ⟨rfl, Iff.rfl⟩
  · have c' := e.symm.trans c
    have a1 := w 0 1 (by rw [c]; decide)
    have a2 := w 1 2 (by rw [c]; decide)
    have a3 := w 3 2 (by rw [c]; decide)
    have a4 := w 5 1 (by rw [c]; decide)
    rw [show p + 1 + 0 = p + 1 from rfl] at a1
    rw [show p + 1 + 1 = p + 2 from rfl] at a2
    rw [show p + 1 + 3 = p + 4 from rfl] at a3
    rw [show p + 1 + 5 = p + 6 from rfl] at a4
    rw [(cSt_115 c).2, (cSt_115 c').2, (cSt_115 c).1, (cSt_115 c').1, a1, a2, a3, a4]; exact ⟨rfl, Iff.rfl⟩
  · have c' := e.symm.trans c
    have a1 := w 0 1 (by rw [c]; decide)
    rw [show p + 1 + 0 = p + 1 from rfl] at a1
    rw [(cSt_117 c).2, (cSt_117 c').2, (cSt_117 c).1, (cSt_117 c').1, a1]; exact ⟨rfl, Iff.rfl⟩
  · have c' := e.symm.trans c
    have a1 := w 0 1 (by rw [c]; decide)
    have a2 := w 1 1 (by rw [c]; decide)
    rw [show p + 1 + 0 = p + 1 from rfl] at a1
    rw [show p + 1 + 1 = p + 2 from rfl] at a2
    rw [(cSt_118 c).2, (cSt_118 c').2, (cSt_118 c).1, (cSt_118 c').1, a1, a2]; exact ⟨rfl, Iff.rfl⟩
  · have c' := e.symm.trans c
    have a1 := w 0 1 (by rw [c]; decide)
    have a2 := w 1 1 (by rw [c]; decide)
    rw [show p + 1 + 0 = p + 1 from rfl] at a1
    rw [show p + 1 + 1 = p + 2 from rfl] at a2
    rw [(cSt_119 c).2, (cSt_119 c').2, (cSt_119 c).1, (cSt_119 c').1, a1, a2]; exact ⟨rfl, Iff.rfl⟩
theorem wr_cg {n m : Nat} {S T : Nat → Int32} (h : seq n S T) (hm : wokm S n m) : ∀ (r j : Nat) (V : Nat → Int32), j + r = m → wrf S r j V = wrf T r j V ∧ wrv S r j V = wrv T r j V := by
  intro r
  induction r with
  | zero => intro j V _; exact ⟨rfl, rfl⟩
  | succ r ih =>
    intro j V hj
    have hd := hm.1 j (by omega)
    have e := wpl_cg h hm j (by omega)
    obtain ⟨a1, a2⟩ := aSt_cg h hd V
    obtain ⟨i1, i2⟩ := ih (j + 1) (aSt S (wpl S j) V) (by omega)
    rw [e] at a1 a2
    refine ⟨?_, ?_⟩
    · by_cases c : cSt S (wpl S j) V
      · have c' : cSt T (wpl T j) V := a2.mp (by rw [← e]; exact c)
        rw [wrf_t c, wrf_t c', i1, e, a1]
      · have c' : ¬ cSt T (wpl T j) V := fun q => c (by rw [e]; exact a2.mpr q)
        rw [wrf_f c, wrf_f c', e]
    · show wrv S r (j + 1) (aSt S (wpl S j) V) = wrv T r (j + 1) (aSt T (wpl T j) V)
      rw [i2, e, a1]
theorem wvV_wrv {n m : Nat} {S : Nat → Int32} (hm : wokm S n m) : ∀ (r j : Nat) (V : Nat → Int32), j + r = m → wvV V → wrf S r j V = none → wvV (wrv S r j V) := by
  intro r
  induction r with
  | zero => intro j V _ hv _; exact hv
  | succ r ih =>
    intro j V hj hv hn
    have hd := hm.1 j (by omega)
    by_cases c : cSt S (wpl S j) V
    · rw [wrf_t c] at hn
      exact ih (j + 1) _ (by omega) (wvV_aSt hv hd c) hn
    · rw [wrf_f c] at hn; cases hn
/-- the same run on houses alike below the counts -/
theorem wrs_lo {n m : Nat} {S : Nat → Int32} (hm : wokm S n m) : ∀ (r j : Nat) (A B : Nat → Int32), j + r = m → lo148 A B → wrf S r j A = wrf S r j B ∧ (wrf S r j A = none → lo148 (wrv S r j A) (wrv S r j B)) := by
  intro r
  induction r with
  | zero => intro j A B _ h; exact ⟨rfl, fun _ => h⟩
  | succ r ih =>
    intro j A B hj h
    have hd := hm.1 j (by omega)
    have hc : cSt S (wpl S j) A ↔ cSt S (wpl S j) B := cSt_cg (h 0 (by decide)) (h 1 (by decide)) (h 3 (by decide))
    by_cases c : cSt S (wpl S j) A
    · rw [wrf_t c, wrf_t (hc.mp c)]
      exact ih (j + 1) _ _ (by omega) (aSt_lo h hd)
    · rw [wrf_f c, wrf_f (fun q => c (hc.mpr q))]
      exact ⟨rfl, fun q => by cases q⟩
theorem mu_terrace {F : Nat} {σ : Mem} (hF : 73786976294838206464 ≤ F) (h : wR 148 σ) : ∃ r1 s1 r2 s2, f_X3_terrace F σ = some (r1, s1) ∧ f_X4_terrace F s1 = some (r2, s2) ∧ wR 148 s2 ∧ r1 = r2 := by
  obtain ⟨hX, hM, hV, hI, hS, hL, hW⟩ := id h
  have hl : 28 ≤ 148 ∧ 148 ≤ 188 := by omega
  have b1 := wx_X1_1 hX
  have hn : (σ 83 1).toInt = ((σ 83 1).toNatClampNeg : Int) := by rw [ti_nat]; omega
  generalize hN : (σ 83 1).toNatClampNeg = n at hn
  have hnM : (σ 101 15).toInt = (n : Int) := by rw [← hL.1]; exact hn
  have hseq : seq n (σ 84) (σ 111) := fun i hi => hL.2 i (by rw [← hL.1, hN]; exact hi)
  refine two (pc_sf (s_X3_terrace (by omega) hX) (pc_and (cx_terrace (by omega) hX hn (by omega) hV.1 hV.2) (pc_pf (fr_X3_terrace (by omega))))) (fun a s q => pc_sf (s_X4_terrace hF (wm_congr hM q.1.2.1)) (pc_and (cm_terrace hF (wm_congr hM q.1.2.1) (n := n) (by rw [q.1.2.1 101 (by decide)]; exact hnM) (by omega)) (pc_pf (fr_X4_terrace (by omega))))) (fun a s b z q1 q2 => ?_)
  obtain ⟨⟨x1, x2, -, -, -, x83⟩, c1, f1⟩ := q1
  obtain ⟨⟨m1, m2, -, -, -, m15⟩, c2, f2⟩ := q2
  rw [x2 111 (by decide), x2 101 (by decide)] at c2
  have eV : ∀ p, p < 188 → wvM s p = wvM σ p := eMV x2
  -- what neither touches
  have agC : ∀ C : Nat → Prop, (∀ c, C c → ¬ ((1 ≤ c ∧ c ≤ 46) ∨ c = 3005 ∨ c = 4001 ∨ (102 ≤ c ∧ c ≤ 107) ∨ c = 109 ∨ (112 ≤ c ∧ c ≤ 115) ∨ (1001 ≤ c ∧ c ≤ 1018) ∨ (1025 ≤ c ∧ c ≤ 1030))) → ag C σ z := fun C hC => ag_tr (ag_fr f1 (fun c hc => by have := hC c hc; show ¬ _; unfold wf_20; omega)) (ag_fr f2 (fun c hc => by have := hC c hc; show ¬ _; unfold wf_59; omega))
  have rLz : rL z := by
    have e : z 83 1 = z 101 15 := Int32.toInt_inj.mp (by rw [m2 83 (by decide), x83, m15])
    refine ⟨e, fun i hi => ?_⟩
    rw [ti_nat, m15] at hi
    exact absurd hi (Nat.not_lt_zero i)
  have rIz : rI 148 z := rI_ag hl hI (agC _ (fun c hc => by unfold cI at hc; omega))
  have rWz : rW z := rW_ag hW (agC _ (fun c hc => by unfold cW at hc; omega))
  have xz : wiX z := wx_congr x1 m2
  -- nothing has come
  have none_came : (∀ k, (k < 24 ∨ 46 < k) → k ≠ 83 → s k = σ k) → (∀ p, p < 188 → wvM z p = wvM s p) → z 101 30 = s 101 30 → wR 148 z := fun hs hz h30 => by
    have eX : ∀ p, p < 188 → wvX 1 z p = wvX 1 σ p := fun p hp => wvX_eq (fun p hp => by have := wvJ_le p hp; rw [m2 _ (by omega), hs _ (by omega) (by omega)]) hp
    have eM : ∀ p, p < 188 → wvM z p = wvM σ p := fun p hp => by rw [hz p hp, eV p hp]
    have hVz : rV 148 z := ⟨wvV_cg hV.1 eM, weq_cg hV.2 hl.1 (fun p hp => eM p (by omega)) (fun p hp => eX p (by omega))⟩
    have hSz : rS z := by
      have e30 : z 101 30 = σ 101 30 := by rw [h30, x2 101 (by decide)]
      have e70 : ∀ k, 70 ≤ k → k ≤ 82 → z k = σ k := fun k a b => by rw [m2 k (by omega), hs k (by omega) (by omega)]
      have e117 : z 117 = σ 117 := by
        rw [← x2 117 (by decide)]
        exact funext fun i => f2 117 i (by rw [show wcid 117 i = 117 from rfl]; show ¬ _; unfold wf_59; omega)
      have eT : ∀ j p, p < 188 → wsT z (σ 101 30).toNatClampNeg j p = wsT σ (σ 101 30).toNatClampNeg j p := fun j p hp => by
        unfold wsT
        rw [eM p hp, e117]
      refine ⟨by rw [e70 70 (by omega) (by omega), e30]; exact hS.1, fun j hj => ?_⟩
      rw [e30] at hj ⊢
      rw [e70 70 (by omega) (by omega)]
      have bb := wvV_b (rS_V hV.1 hS (j := j + 1) (by omega))
      have hm8 : ((σ 70 4).toNatClampNeg + j) % 8 < 8 := Nat.mod_lt _ (by decide)
      exact ⟨wvV_cg (hS.2 j hj).1 (fun p hp => eT j p hp), wsU_cg (hS.2 j hj).2 bb.1 bb.2 (by rw [e70 71 (by omega) (by omega)]) (by rw [e70 72 (by omega) (by omega)]) (by rw [e70 73 (by omega) (by omega)]) (e70 _ (by omega) (by omega)) (fun p hp => eT j p hp) (fun p hp => eT _ p hp)⟩
    exact ⟨xz, m1, hVz, rIz, hSz, rLz, rWz⟩
  obtain ⟨c1a, c1b⟩ := c1
  obtain ⟨c2a, c2b⟩ := c2
  have hwp : wpar (σ 84) n (n + 1) 0 = wpar (σ 111) n (n + 1) 0 := wpar_cg hseq _ _
  rw [hwp] at c1a c1b
  cases hb : (wpar (σ 111) n (n + 1) 0).2 with
  | false =>
    obtain ⟨g1, g2⟩ := c1a hb
    obtain ⟨n1, n2, n3⟩ := c2a hb
    exact ⟨none_came g2 n2 (by rw [n3, x2 101 (by decide)]), Int32.toInt_inj.mp (by rw [g1, n1])⟩
  | true =>
    obtain ⟨m, -, hm⟩ := wpar_m (S := σ 84) (n + 1) 0 (by show n < 0 + (n + 1); omega) (fun i hi => absurd hi (Nat.not_lt_zero i)) (by show (wpar (σ 84) n (n + 1) 0).2 = true; rw [hwp]; exact hb) (Or.inl rfl)
    have hm2 := wokm_cg hseq hm
    obtain ⟨g1, g2⟩ := c1b hb m hm
    obtain ⟨n1, n2⟩ := c2b hb m hm2
    obtain ⟨w1, w2⟩ := wr_cg hseq hm m 0 (wvM σ) (by omega)
    -- the reference's house before is s's
    have w3 := wrs_lo hm2 m 0 (wvM s) (wvM σ) (by omega) (fun q hq => eV q (by omega))
    rw [w1, ← w3.1] at g1 g2
    rw [w2] at g1
    cases hf : wrf (σ 111) m 0 (wvM s) with
    | none =>
      obtain ⟨a1, a2, a3⟩ := g1 hf
      obtain ⟨d1, d2, d3⟩ := n1 hf
      have hvv : wvV (wrv (σ 111) m 0 (wvM σ)) := wvV_wrv hm2 m 0 _ (by omega) hV.1 (by rw [← w3.1]; exact hf)
      have dd : ∀ q, q < 148 → wvM z q = wrv (σ 111) m 0 (wvM σ) q := fun q hq => by rw [d2 q hq, w3.2 hf q hq]
      refine ⟨⟨xz, m1, rV_mk hl m2 (fun p _ => rfl) dd dd hvv a2, rIz, rS_0 (by rw [m2 70 (by decide)]; exact a3) d3, rLz, rWz⟩, Int32.toInt_inj.mp (by rw [a1, d1])⟩
    | some q =>
      obtain ⟨a1, a2⟩ := g2 q hf
      obtain ⟨d1, d2, d3⟩ := n2 q hf
      exact ⟨none_came a2 d2 (by rw [d3, x2 101 (by decide)]), Int32.toInt_inj.mp (by rw [a1, d1])⟩
end
section
def eFeed (N x : Int32) : Int32 := cF (cN x 0 255) (if N.toInt < 96 then 0 else -6)
def eRow (N x : Int32) : Int32 := cF (cN x 0 99) (if N.toInt < 12 then 0 else -6)
theorem cx_feed {F : Nat} {x : Int32} {σ : Mem} (b : 0 ≤ (σ 83 1).toInt ∧ (σ 83 1).toInt ≤ 96) : pc (f_X3_feed F x σ) (cR (eFeed (σ 83 1) x) (fun r s => s 84 = upd (σ 84) (σ 83 1).toNatClampNeg x ∧ s 83 1 = σ 83 1 + 1 ∧ r = s 83 1) σ) := by
  rw [f_X3_feed_e]
  refine pc_be ax_outside ?_
  simp only [j_X3_feed_28_e]
  have key : ∀ e, e = eFeed (σ 83 1) x → pc (if e = 0 then (wt_bnd (f_X1_add F x σ) fun r1 s2 => some ((s2 83 1), s2)) else wt_bnd (f_X3_refuse F e σ) fun r5 s6 => some (r5, s6)) (cR (eFeed (σ 83 1) x) (fun r s => s 84 = upd (σ 84) (σ 83 1).toNatClampNeg x ∧ s 83 1 = σ 83 1 + 1 ∧ r = s 83 1) σ) := fun e he => by
    subst he
    refine cR_end (fun e => ?_)
    have h96 : (σ 83 1).toInt < 96 := by
      have := (cF_0 e).2
      by_cases d : (σ 83 1).toInt < 96
      · exact d
      · rw [if_neg d] at this; exact absurd this (by decide)
    rw [f_X1_add_e, if_neg (fun q => by have := ti_lt q; rw [tz_0] at this; omega), if_neg (fun q => by have := ti_le q; rw [tz_96] at this; omega)]
    refine pc_bnd (P := fun _ s => s 84 = upd (σ 84) (σ 83 1).toNatClampNeg x ∧ s 83 1 = σ 83 1 + 1) ?_ (fun _ s q => pc_ret ⟨q.1, q.2, rfl⟩)
    refine pc_chk (fun _ => pc_lt (fun s2 h2 => pc_lt (fun s3 h3 => pc_ret ⟨?_, ?_⟩)))
    · rw [h3, up2_k (by decide), h2]; unfold up2; rw [if_pos rfl]
    · rw [h3, up2_s, h2, up2_k (by decide)]
  by_cases c1 : cN x 0 255 = 0
  · rw [if_pos c1]
    by_cases c2 : σ 83 1 < 96
    · rw [if_pos c2]
      refine key _ ?_
      unfold eFeed cF
      have := ti_lt c2
      rw [tz_96] at this
      rw [if_pos c1, if_pos this, c1]
    · rw [if_neg c2]
      refine key _ ?_
      unfold eFeed cF
      have := ti_nlt c2
      rw [tz_96] at this
      rw [if_pos c1, if_neg (by omega)]
  · rw [if_neg c1]
    refine key _ ?_
    unfold eFeed cF
    rw [if_neg c1]
theorem cN_3 {x a b : Int32} : (x.toInt < a.toInt → cN x a b = -4) ∧ (a.toInt ≤ x.toInt → b.toInt < x.toInt → cN x a b = -6) := by
  unfold cN
  exact ⟨fun h => by rw [if_neg (by omega)], fun h1 h2 => by rw [if_pos h1, if_neg (by omega)]⟩
theorem cm_feed {F : Nat} {x : Int32} {σ : Mem} (b : 0 ≤ (σ 101 15).toInt ∧ (σ 101 15).toInt ≤ 96) : pc (f_X4_feed F x σ) (mR (eFeed (σ 101 15) x) (fun r s => s 111 = upd (σ 111) (σ 101 15).toNatClampNeg x ∧ s 101 15 = σ 101 15 + 1 ∧ r = s 101 15) σ) := by
  rw [f_X4_feed_e]
  simp only [j_X4_feed_32_e]
  refine pc_lt (fun s3 h3 => ?_)
  have k7 : ∀ k i, ¬ (k = 101 ∧ i = 10) → s3 k i = σ k i := by rw [h3]; exact th_k
  have e15 : s3 101 15 = σ 101 15 := k7 _ _ (by omega)
  rw [e15]
  refine pc_ite (fun c => ?_) (fun c => ?_)
  · have d := ti_le c
    rw [tz_0] at d
    refine pc_ite (fun c2 => ?_) (fun c2 => ?_)
    · have d2 := ti_lt c2
      rw [tz_255] at d2
      have e : eFeed (σ 101 15) x = -6 := by unfold eFeed; rw [(cN_3 (a := 0) (b := 255)).2 (by rw [tz_0]; exact d) (by rw [tz_255]; exact d2)]; rfl
      rw [e]; exact mR_ref (by decide) k7
    · have d2 := ti_nlt c2
      rw [tz_255] at d2
      have e0 : cN x 0 255 = 0 := cN_t (by rw [tz_0]; exact d) (by rw [tz_255]; exact d2)
      refine pc_ite (fun c3 => ?_) (fun c3 => ?_)
      · have d3 := ti_eq c3
        rw [tz_96] at d3
        have e : eFeed (σ 101 15) x = -6 := by unfold eFeed cF; rw [if_pos e0, if_neg (by omega)]
        rw [e]; exact mR_ref (by decide) k7
      · have d3 := ti_ne c3
        rw [tz_96] at d3
        have e : eFeed (σ 101 15) x = 0 := by unfold eFeed cF; rw [if_pos e0, if_pos (by omega)]
        rw [e]
        refine pc_chk (fun _ => pc_lt (fun s5 h5 => pc_lt (fun s6 h6 => pc_ret ⟨fun _ => ⟨?_, ?_, rfl⟩, fun n => absurd rfl n⟩)))
        · rw [h6, up2_k (by decide), h5]; unfold up2; rw [if_pos rfl, show s3 111 = σ 111 from funext fun i => k7 111 i (by omega)]
        · rw [h6, up2_s, h5, up2_k (by decide), e15]
  · have d := ti_nle c
    rw [tz_0] at d
    have e : eFeed (σ 101 15) x = -4 := by unfold eFeed; rw [(cN_3 (a := 0) (b := 255)).1 (by rw [tz_0]; exact d)]; rfl
    rw [e]; exact mR_ref (by decide) k7
theorem cx_row {F : Nat} {x : Int32} {σ : Mem} : pc (f_X3_row F x σ) (cR (eRow (σ 0 7) x) (fun r s => s 85 = upd (σ 85) (σ 0 7).toNatClampNeg x ∧ s 0 7 = σ 0 7 + 1 ∧ r = s 0 7) σ) := by
  rw [f_X3_row_e]
  refine pc_be ax_outside ?_
  simp only [j_X3_row_24_e]
  have key : ∀ e, e = eRow (σ 0 7) x → pc (if e = 0 then (wt_chk (σ 0 7) 12 (wt_lt (up2 σ 85 (Int32.toNatClampNeg (σ 0 7)) x) fun s2 => wt_lt (up2 s2 0 7 ((s2 0 7) + (1 : Int32))) fun s3 => some ((s3 0 7), s3))) else wt_bnd (f_X3_refuse F e σ) fun r5 s6 => some (r5, s6)) (cR (eRow (σ 0 7) x) (fun r s => s 85 = upd (σ 85) (σ 0 7).toNatClampNeg x ∧ s 0 7 = σ 0 7 + 1 ∧ r = s 0 7) σ) := fun e he => by
    subst he
    refine cR_end (fun e => pc_chk (fun _ => pc_lt (fun s2 h2 => pc_lt (fun s3 h3 => pc_ret ⟨?_, ?_, rfl⟩))))
    · rw [h3, up2_k (by decide), h2]; unfold up2; rw [if_pos rfl]
    · rw [h3, up2_s, h2, up2_k (by decide)]
  by_cases c1 : cN x 0 99 = 0
  · rw [if_pos c1]
    by_cases c2 : σ 0 7 < 12
    · rw [if_pos c2]
      refine key _ ?_
      unfold eRow cF
      have := ti_lt c2
      rw [tz_12] at this
      rw [if_pos c1, if_pos this, c1]
    · rw [if_neg c2]
      refine key _ ?_
      unfold eRow cF
      have := ti_nlt c2
      rw [tz_12] at this
      rw [if_pos c1, if_neg (by omega)]
  · rw [if_neg c1]
    refine key _ ?_
    unfold eRow cF
    rw [if_neg c1]
theorem cm_row {F : Nat} {x : Int32} {σ : Mem} (b : 0 ≤ (σ 101 34).toInt ∧ (σ 101 34).toInt ≤ 12) : pc (f_X4_row F x σ) (mR (eRow (σ 101 34) x) (fun r s => s 121 = upd (σ 121) (σ 101 34).toNatClampNeg x ∧ s 101 34 = σ 101 34 + 1 ∧ r = s 101 34) σ) := by
  rw [f_X4_row_e]
  simp only [j_X4_row_31_e]
  refine pc_lt (fun s3 h3 => ?_)
  have k7 : ∀ k i, ¬ (k = 101 ∧ i = 10) → s3 k i = σ k i := by rw [h3]; exact th_k
  have e15 : s3 101 34 = σ 101 34 := k7 _ _ (by omega)
  rw [e15]
  refine pc_ite (fun c => ?_) (fun c => ?_)
  · have d := ti_le c
    rw [tz_0] at d
    refine pc_ite (fun c2 => ?_) (fun c2 => ?_)
    · have d2 := ti_lt c2
      rw [tz_99] at d2
      have e : eRow (σ 101 34) x = -6 := by unfold eRow; rw [(cN_3 (a := 0) (b := 99)).2 (by rw [tz_0]; exact d) (by rw [tz_99]; exact d2)]; rfl
      rw [e]; exact mR_ref (by decide) k7
    · have d2 := ti_nlt c2
      rw [tz_99] at d2
      have e0 : cN x 0 99 = 0 := cN_t (by rw [tz_0]; exact d) (by rw [tz_99]; exact d2)
      refine pc_ite (fun c3 => ?_) (fun c3 => ?_)
      · have d3 := ti_eq c3
        rw [tz_12] at d3
        have e : eRow (σ 101 34) x = -6 := by unfold eRow cF; rw [if_pos e0, if_neg (by omega)]
        rw [e]; exact mR_ref (by decide) k7
      · have d3 := ti_ne c3
        rw [tz_12] at d3
        have e : eRow (σ 101 34) x = 0 := by unfold eRow cF; rw [if_pos e0, if_pos (by omega)]
        rw [e]
        refine pc_chk (fun _ => pc_lt (fun s5 h5 => pc_lt (fun s6 h6 => pc_ret ⟨fun _ => ⟨?_, ?_, rfl⟩, fun n => absurd rfl n⟩)))
        · rw [h6, up2_k (by decide), h5]; unfold up2; rw [if_pos rfl, show s3 121 = σ 121 from funext fun i => k7 121 i (by omega)]
        · rw [h6, up2_s, h5, up2_k (by decide), e15]
  · have d := ti_nle c
    rw [tz_0] at d
    have e : eRow (σ 101 34) x = -4 := by unfold eRow; rw [(cN_3 (a := 0) (b := 99)).1 (by rw [tz_0]; exact d)]; rfl
    rw [e]; exact mR_ref (by decide) k7
theorem list_more {n : Nat} {y : Int32} {f g f' g' : Nat → Int32} {x : Int32} (h : ∀ i, i < n → f i = g i) (hy : y.toNatClampNeg = n) (hf : f' = upd f y.toNatClampNeg x) (hg : g' = upd g y.toNatClampNeg x) : ∀ i, i < n + 1 → f' i = g' i := fun i hi => by
  rw [hf, hg, hy]
  by_cases e : i = n
  · subst e; rw [wv_us, wv_us]
  · rw [wv_un e, wv_un e]; exact h i (by omega)
theorem mu_feed {F lim : Nat} {σ : Mem} {x : Int32} (hF : 73786976294838206464 ≤ F) (hl : 28 ≤ lim ∧ lim ≤ 188) (h : wR lim σ) : ∃ r1 s1 r2 s2, f_X3_feed F x σ = some (r1, s1) ∧ f_X4_feed F x s1 = some (r2, s2) ∧ wR lim s2 ∧ r1 = r2 := by
  obtain ⟨hX, hM, hV, hI, hS, hL, hW⟩ := id h
  refine two (pc_sf (s_X3_feed (x1 := x) (by omega) hX) (pc_and (cx_feed (wx_X1_1 hX)) (pc_pf (fr_X3_feed (by omega))))) (fun a s q => pc_sf (s_X4_feed (x1 := x) hF (wm_congr hM q.1.2.1)) (pc_and (cm_feed (wx_X4_15 (wm_congr hM q.1.2.1))) (pc_pf (fr_X4_feed (by omega))))) (fun a s b z q1 q2 => ?_)
  obtain ⟨⟨x1, x2, -⟩, c1, f1⟩ := q1
  obtain ⟨⟨m1, m2, -⟩, c2, f2⟩ := q2
  rw [x2 101 (by decide), ← hL.1, x2 111 (by decide)] at c2
  by_cases c : eFeed (σ 83 1) x = 0
  · obtain ⟨g1, g2, g3⟩ := c1.1 c
    obtain ⟨n1, n2, n3⟩ := c2.1 c
    have agC : ∀ C : Nat → Prop, (∀ c, C c → ¬ (c = 84 ∨ c = 86 ∨ c = 4001 ∨ c = 108 ∨ c = 111 ∨ c = 1010 ∨ c = 1015)) → ag C σ z := fun C hC => ag_tr (ag_fr f1 (fun c hc => by have := hC c hc; show ¬ _; unfold wf_18; omega)) (ag_fr f2 (fun c hc => by have := hC c hc; show ¬ _; unfold wf_50; omega))
    have e1 : z 83 1 = z 101 15 := by rw [m2 83 (by decide), g2, n2]
    refine ⟨⟨wx_congr x1 m2, m1, rV_ag hl hV (agC _ (fun c hc => by unfold cV cX cM at hc; omega)), rI_ag hl hI (agC _ (fun c hc => by unfold cI at hc; omega)), rS_ag hV.1 hS (agC _ (fun c hc => by unfold cS cM at hc; omega)), ⟨e1, fun i hi => ?_⟩, rW_ag hW (agC _ (fun c hc => by unfold cW at hc; omega))⟩, by rw [g3, n3, g2, n2]⟩
    have b1 := wx_X1_1 hX
    have hle : (σ 83 1).toInt < 96 := by
      have := (cF_0 c).2
      by_cases d : (σ 83 1).toInt < 96
      · exact d
      · rw [if_neg d] at this; exact absurd this (by decide)
    have hn : (z 101 15).toNatClampNeg = (σ 83 1).toNatClampNeg + 1 := by
      rw [n2, ti_nat, ti_nat, ti_add (by rw [tz_1]; omega) (by rw [tz_1]; omega), tz_1]; omega
    rw [hn] at hi
    rw [m2 84 (by decide)]
    exact list_more (fun i hi => hL.2 i (by rw [← hL.1]; exact hi)) rfl g1 n1 i hi
  · obtain ⟨g1, g2⟩ := c1.2 c
    obtain ⟨n1, n2⟩ := c2.2 c
    exact ⟨fin_bad hl h x1 m1 m2 g2 n2, by rw [g1, n1]⟩
theorem mu_row {F lim : Nat} {σ : Mem} {x : Int32} (hF : 73786976294838206464 ≤ F) (hl : 28 ≤ lim ∧ lim ≤ 188) (h : wR lim σ) : ∃ r1 s1 r2 s2, f_X3_row F x σ = some (r1, s1) ∧ f_X4_row F x s1 = some (r2, s2) ∧ wR lim s2 ∧ r1 = r2 := by
  obtain ⟨hX, hM, hV, hI, hS, hL, hW⟩ := id h
  refine two (pc_sf (s_X3_row (x1 := x) (by omega) hX) (pc_and cx_row (pc_pf (fr_X3_row (by omega))))) (fun a s q => pc_sf (s_X4_row (x1 := x) hF (wm_congr hM q.1.2.1)) (pc_and (cm_row (wx_X4_34 (wm_congr hM q.1.2.1))) (pc_pf (fr_X4_row (by omega))))) (fun a s b z q1 q2 => ?_)
  obtain ⟨⟨x1, x2, -⟩, c1, f1⟩ := q1
  obtain ⟨⟨m1, m2, -⟩, c2, f2⟩ := q2
  rw [x2 101 (by decide), ← hW.1, x2 121 (by decide)] at c2
  by_cases c : eRow (σ 0 7) x = 0
  · obtain ⟨g1, g2, g3⟩ := c1.1 c
    obtain ⟨n1, n2, n3⟩ := c2.1 c
    have agC : ∀ C : Nat → Prop, (∀ c, C c → ¬ (c = 85 ∨ c = 86 ∨ c = 2007 ∨ c = 108 ∨ c = 121 ∨ c = 1010 ∨ c = 1034)) → ag C σ z := fun C hC => ag_tr (ag_fr f1 (fun c hc => by have := hC c hc; show ¬ _; unfold wf_39; omega)) (ag_fr f2 (fun c hc => by have := hC c hc; show ¬ _; unfold wf_73; omega))
    have e1 : z 0 7 = z 101 34 := by rw [m2 0 (by decide), g2, n2]
    refine ⟨⟨wx_congr x1 m2, m1, rV_ag hl hV (agC _ (fun c hc => by unfold cV cX cM at hc; omega)), rI_ag hl hI (agC _ (fun c hc => by unfold cI at hc; omega)), rS_ag hV.1 hS (agC _ (fun c hc => by unfold cS cM at hc; omega)), rL_ag hL (agC _ (fun c hc => by unfold cL at hc; omega)), ⟨e1, fun i hi => ?_⟩⟩, by rw [g3, n3, g2, n2]⟩
    have b1 := wx_X3_7 hX
    have hn : (z 101 34).toNatClampNeg = (σ 0 7).toNatClampNeg + 1 := by
      rw [n2, ti_nat, ti_nat, ti_add (by rw [tz_1]; omega) (by rw [tz_1]; omega), tz_1]; omega
    rw [hn] at hi
    rw [m2 85 (by decide)]
    exact list_more (fun i hi => hW.2 i (by rw [← hW.1]; exact hi)) rfl g1 n1 i hi
  · obtain ⟨g1, g2⟩ := c1.2 c
    obtain ⟨n1, n2⟩ := c2.2 c
    exact ⟨fin_bad hl h x1 m1 m2 g2 n2, by rw [g1, n1]⟩
/-- the row: as it was, or none -/
theorem row_z {σ z : Mem} (hW : rW σ) (a : ag cW σ z ∨ (ag (fun c => c = 85 ∨ c = 121) σ z ∧ (z 0 7).toInt = 0 ∧ (z 101 34).toInt = 0)) : rW z := by
  rcases a with a | ⟨-, a, b⟩
  · exact rW_ag hW a
  · refine ⟨Int32.toInt_inj.mp (by rw [a, b]), fun i hi => ?_⟩
    rw [ti_nat, b] at hi
    exact absurd hi (Nat.not_lt_zero i)
theorem mu_clear {F lim : Nat} {σ : Mem} (hF : 73786976294838206464 ≤ F) (hl : 28 ≤ lim ∧ lim ≤ 188) (h : wR lim σ) : ∃ r1 s1 r2 s2, f_X3_clear F σ = some (r1, s1) ∧ f_X4_clear F s1 = some (r2, s2) ∧ wR lim s2 ∧ r1 = r2 := by
  obtain ⟨hX, hM, hV, hI, hS, hL, hW⟩ := id h
  refine two (pc_sf (s_X3_clear (by omega) hX) (pc_pf (fr_X3_clear (by omega)))) (fun a s q => pc_sf (s_X4_clear hF (wm_congr hM q.1.2.1)) (pc_pf (fr_X4_clear (by omega)))) (fun a s b z q1 q2 => ?_)
  obtain ⟨⟨x1, x2, -, -, -, y1, y2⟩, f1⟩ := q1
  obtain ⟨⟨m1, m2, -, -, -, -, -, -, w1, w2⟩, f2⟩ := q2
  have agC : ∀ C : Nat → Prop, (∀ c, C c → ¬ (c = 2007 ∨ c = 1010 ∨ c = 1034)) → ag C σ z := fun C hC => ag_tr (ag_fr f1 (fun c hc => by have := hC c hc; show ¬ _; unfold wf_41; omega)) (ag_fr f2 (fun c hc => by have := hC c hc; show ¬ _; unfold wf_75; omega))
  have e7 : (σ 0 7).toInt = (σ 101 34).toInt := congrArg Int32.toInt hW.1
  have es : (s 101 34).toInt = (σ 101 34).toInt := by rw [x2 101 (by decide)]
  refine ⟨⟨wx_congr x1 m2, m1, rV_ag hl hV (agC _ (fun c hc => by unfold cV cX cM at hc; omega)), rI_ag hl hI (agC _ (fun c hc => by unfold cI at hc; omega)), rS_ag hV.1 hS (agC _ (fun c hc => by unfold cS cM at hc; omega)), rL_ag hL (agC _ (fun c hc => by unfold cL at hc; omega)), row_z hW (Or.inr ⟨agC _ (fun c hc => by omega), by rw [m2 0 (by decide)]; exact y2, w2⟩)⟩, Int32.toInt_inj.mp (by omega)⟩
theorem mu_judge {F lim : Nat} {σ : Mem} {x : Int32} (hF : 73786976294838206464 ≤ F) (hl : 28 ≤ lim ∧ lim ≤ 188) (h : wR lim σ) : ∃ r1 s1 r2 s2, f_X3_judge F x σ = some (r1, s1) ∧ f_X4_judge F x s1 = some (r2, s2) ∧ wR lim s2 := by
  obtain ⟨hX, hM, hV, hI, hS, hL, hW⟩ := id h
  refine two (pc_sf (s_X3_judge (x1 := x) (by omega) hX) (pc_pf (fr_X3_judge (by omega)))) (fun a s q => pc_sf (s_X4_judge (x1 := x) hF (wm_congr hM q.1.2.1)) (pc_pf (fr_X4_judge (by omega)))) (fun a s b z q1 q2 => ?_)
  obtain ⟨⟨x1, x2, -, -, -, y2⟩, f1⟩ := q1
  obtain ⟨⟨m1, m2, -, -, -, -, -, -, w2⟩, f2⟩ := q2
  have agC : ∀ C : Nat → Prop, (∀ c, C c → ¬ (c = 2007 ∨ c = 1010 ∨ c = 1034 ∨ (19 ≤ c ∧ c ≤ 23) ∨ c = 86 ∨ (108 ≤ c ∧ c ≤ 110))) → ag C σ z := fun C hC => ag_tr (ag_fr f1 (fun c hc => by have := hC c hc; show ¬ _; unfold wf_40; omega)) (ag_fr f2 (fun c hc => by have := hC c hc; show ¬ _; unfold wf_74; omega))
  have e7 : (σ 0 7).toInt = (σ 101 34).toInt := congrArg Int32.toInt hW.1
  have es : (s 101 34).toInt = (σ 101 34).toInt := by rw [x2 101 (by decide)]
  have ez : (z 0 7).toInt = (s 0 7).toInt := by rw [m2 0 (by decide)]
  have hr : rW z := by
    refine ⟨Int32.toInt_inj.mp (by omega), fun i hi => ?_⟩
    have a85 := agC (fun c => c = 85 ∨ c = 121) (fun c hc => by omega)
    rw [a85 85 i (Or.inl rfl), a85 121 i (Or.inr rfl)]
    refine hW.2 i ?_
    have t1 := ti_nat (z 101 34)
    have t2 := ti_nat (σ 101 34)
    omega
  exact ⟨wx_congr x1 m2, m1, rV_ag hl hV (agC _ (fun c hc => by unfold cV cX cM at hc; omega)), rI_ag hl hI (agC _ (fun c hc => by unfold cI at hc; omega)), rS_ag hV.1 hS (agC _ (fun c hc => by unfold cS cM at hc; omega)), rL_ag hL (agC _ (fun c hc => by unfold cL at hc; omega)), hr⟩
end
section
/-! the reference's questions leave its house as it was -/
def VE (A : Nat → Int32) (m : Mem) : Prop := ∀ p, p < 188 → wvM m p = A p
def VN (q : Nat) (A : Nat → Int32) (m : Mem) : Prop := ∀ p, p < 188 → ¬ p = q → wvM m p = A p
def VN2 (q r : Nat) (A : Nat → Int32) (m : Mem) : Prop := ∀ p, p < 188 → ¬ p = q → ¬ p = r → wvM m p = A p
def VK (A : Nat → Int32) (m : Mem) : Prop := ∀ p, p < 188 → m 115 p = A p
def cM2 (c : Nat) : Prop := (102 ≤ c ∧ c ≤ 107) ∨ c = 1001 ∨ c = 1003 ∨ c = 1008 ∨ c = 1009
theorem VE_fr {A : Nat → Int32} {W : Nat → Prop} {s z : Mem} (h : VE A s) (f : fr W s z) (hW : ∀ c, cM2 c → ¬ W c) : VE A z := fun p hp => by rw [wvM_fr f hW hp]; exact h p hp
theorem VN_fr {q : Nat} {A : Nat → Int32} {W : Nat → Prop} {s z : Mem} (h : VN q A s) (f : fr W s z) (hW : ∀ c, cM2 c → ¬ W c) : VN q A z := fun p hp n => by rw [wvM_fr f hW hp]; exact h p hp n
theorem VN2_fr {q r : Nat} {A : Nat → Int32} {W : Nat → Prop} {s z : Mem} (h : VN2 q r A s) (f : fr W s z) (hW : ∀ c, cM2 c → ¬ W c) : VN2 q r A z := fun p hp n n2 => by rw [wvM_fr f hW hp]; exact h p hp n n2
theorem VK_fr {A : Nat → Int32} {W : Nat → Prop} {s z : Mem} (h : VK A s) (f : fr W s z) (hW : ¬ W 115) : VK A z := fun p hp => by rw [f 115 p (by rw [show wcid 115 p = 115 from rfl]; exact hW)]; exact h p hp
theorem VK_up {A : Nat → Int32} {s : Mem} (h : VK A s) {k i : Nat} {x : Int32} (hk : ¬ k = 115) : VK A (up2 s k i x) := fun p hp => by rw [up2_k (fun e => hk e.symm)]; exact h p hp
theorem VE_up {A : Nat → Int32} {s : Mem} (h : VE A s) {k i : Nat} {x : Int32} (hk : ¬ (102 ≤ k ∧ k ≤ 107)) (hi : ¬ (k = 101 ∧ (i = 1 ∨ i = 3 ∨ i = 8 ∨ i = 9))) : VE A (up2 s k i x) := fun p hp => by rw [wvM_no hk hi hp]; exact h p hp
theorem VN2_up {q r : Nat} {A : Nat → Int32} {s : Mem} (h : VN2 q r A s) {k i : Nat} {x : Int32} (hk : ¬ (102 ≤ k ∧ k ≤ 107)) (hi : ¬ (k = 101 ∧ (i = 1 ∨ i = 3 ∨ i = 8 ∨ i = 9))) : VN2 q r A (up2 s k i x) := fun p hp n n2 => by rw [wvM_no hk hi hp]; exact h p hp n n2
theorem VE_N {q : Nat} {A : Nat → Int32} {s : Mem} (h : VE A s) : VN q A s := fun p hp _ => h p hp
theorem VN_put {q k i : Nat} {A : Nat → Int32} {s : Mem} {x : Int32} (h : VN q A s) (hq : q < 188) (hk : k = wtJ q) (hi : i = wtI q) : VN q A (up2 s k i x) := fun p hp n => by rw [wvM_at hq hk hi hp, wv_un n]; exact h p hp n
theorem VN_back {q k i : Nat} {A : Nat → Int32} {s : Mem} {x : Int32} (h : VN q A s) (hq : q < 188) (hk : k = wtJ q) (hi : i = wtI q) (hx : x = A q) : VE A (up2 s k i x) := fun p hp => by
  rw [wvM_at hq hk hi hp]
  by_cases e : p = q
  · subst e; rw [wv_us]; exact hx
  · rw [wv_un e]; exact h p hp e
theorem VN2_1 {q r k i : Nat} {A : Nat → Int32} {s : Mem} {x : Int32} (h : VN2 q r A s) (hq : q < 188) (hk : k = wtJ q) (hi : i = wtI q) : VN2 q r A (up2 s k i x) := fun p hp n n2 => by rw [wvM_at hq hk hi hp, wv_un n]; exact h p hp n n2
theorem VN2_2 {q r k i : Nat} {A : Nat → Int32} {s : Mem} {x : Int32} (h : VN2 q r A s) (hq : r < 188) (hk : k = wtJ r) (hi : i = wtI r) : VN2 q r A (up2 s k i x) := fun p hp n n2 => by rw [wvM_at hq hk hi hp, wv_un n2]; exact h p hp n n2
theorem VN2_b1 {q r k i : Nat} {A : Nat → Int32} {s : Mem} {x : Int32} (h : VN2 q r A s) (hq : q < 188) (hk : k = wtJ q) (hi : i = wtI q) (hx : x = A q) : VN r A (up2 s k i x) := fun p hp n => by
  rw [wvM_at hq hk hi hp]
  by_cases e : p = q
  · subst e; rw [wv_us]; exact hx
  · rw [wv_un e]; exact h p hp e n
theorem q106 {x : Int32} (v : 0 ≤ x.toInt ∧ x.toInt < (120 : Nat) ∧ x.toNatClampNeg < 120) : 28 + x.toNatClampNeg < 188 ∧ 106 = wtJ (28 + x.toNatClampNeg) ∧ x.toNatClampNeg = wtI (28 + x.toNatClampNeg) := by
  have hj := wtJI_106 _ v.2.2
  exact ⟨by have := v.2.2; omega, hj.1.symm, hj.2.symm⟩
theorem th_think {F : Nat} (hF : 1000 ≤ F) {σ : Mem} : pc (f_X4_think F σ) (fun _ z => VK (wvM σ) z) := by
  rw [f_X4_think_e]
  refine pc_bnd (sf_pc (wt_carryAll hF (Or.inr rfl) (by unfold wiK; omega))) (fun _ s4 w => pc_ret (fun p hp => (w.2.2.2.1 (by decide)).1 p hp))
theorem th_again {F : Nat} (hF : 1000 ≤ F) {A : Nat → Int32} {σ : Mem} (h : VK A σ) : pc (f_X4_again F σ) (fun _ z => VE A z) := by
  rw [f_X4_again_e]
  refine pc_bnd (sf_pc (wt_carryAll hF (Or.inl rfl) (by unfold wiK; omega))) (fun _ s4 w => pc_ret (fun p hp => ((w.2.2.2.2 rfl).1 p hp).trans (h p hp)))
theorem VE_ref {F : Nat} {x : Int32} {A : Nat → Int32} {σ : Mem} (h : VE A σ) : pc (wt_bnd (f_X4_refuse F x σ) fun r s => some (r, s)) (fun _ z => VE A z) := pc_bnd mx_refuse (fun r s q => pc_ret (fun p hp => by
  rw [← h p hp]
  unfold wvM
  rw [q.2 _ (by have := wtJ_101 p hp; omega)]))
theorem VE_th {A : Nat → Int32} {σ : Mem} (h : VE A σ) : VE A (up2 σ 101 10 0) := VE_up h (by omega) (by omega)
theorem rst_whichLaw {F : Nat} (hF : 1000 ≤ F) {σ : Mem} : pc (f_X4_whichLaw F σ) (fun _ z => VE (wvM σ) z) := by
  have loop : ∀ (N : Nat) (x1 x2 x3 : Int32) (m : Mem), VN 2 (wvM σ) m → x1 = wvM σ 2 → pc (lp_X4_whichLaw_30 F x1 N x2 x3 m) (fun _ z => VE (wvM σ) z) := by
    intro N
    induction N with
    | zero => intro x1 x2 x3 m _ _; exact pc_none rfl
    | succ N ih =>
      intro x1 x2 x3 m hm h1
      rw [lp_X4_whichLaw_30_s]
      simp only [j_X4_whichLaw_56_e]
      refine pc_ite (fun _ => pc_lt (fun s1 g => pc_ret ?_)) (fun _ => pc_lt (fun s2 g => pc_bnd (pc_pf (fr_X4_isRow hF)) (fun r s4 f => ?_)))
      · rw [g]; exact VN_back hm (by decide) rfl rfl h1
      · have h4 : VN 2 (wvM σ) s4 := VN_fr (by rw [g]; exact VN_put hm (by decide) rfl rfl) f (by intro c hc; unfold cM2 at hc; show ¬ _; unfold wf_48; first | exact id | omega)
        exact pc_ite (fun _ => ih _ _ _ _ h4 h1) (fun _ => ih _ _ _ _ h4 h1)
  have h0 : VE (wvM σ) σ := fun _ _ => rfl
  rw [f_X4_whichLaw_e]
  refine pc_lt (fun s5 g => ?_)
  have h5 : VE (wvM σ) s5 := by rw [g]; exact VE_th h0
  exact pc_ite (fun _ => loop F _ _ _ _ (VE_N h5) (h5 2 (by decide))) (fun _ => VE_ref h5)
theorem rst_bestLaw {F : Nat} (hF : 1000 ≤ F) {a b : Int32} {σ : Mem} : pc (f_X4_bestLaw F a b σ) (fun _ z => VE (wvM σ) z) := by
  have loop : ∀ (N : Nat) (x4 x5 x6 x7 : Int32) (m : Mem), VN 2 (wvM σ) m → x4 = wvM σ 2 → pc (lp_X4_bestLaw_55 F a b x4 N x5 x6 x7 m) (fun _ z => VE (wvM σ) z) := by
    intro N
    induction N with
    | zero => intro x4 x5 x6 x7 m _ _; exact pc_none rfl
    | succ N ih =>
      intro x4 x5 x6 x7 m hm h1
      rw [lp_X4_bestLaw_55_s]
      simp only [j_X4_bestLaw_89_e, j_X4_bestLaw_105_e]
      refine pc_ite (fun _ => pc_lt (fun s1 g => pc_ret ?_)) (fun _ => pc_lt (fun s2 g => pc_bnd (pc_pf (fr_X4_worthIn hF)) (fun r s4 f => ?_)))
      · rw [g]; exact VN_back hm (by decide) rfl rfl h1
      · have h4 : VN 2 (wvM σ) s4 := VN_fr (by rw [g]; exact VN_put hm (by decide) rfl rfl) f (by intro c hc; unfold cM2 at hc; show ¬ _; unfold wf_47; first | exact id | omega)
        exact pc_ite (fun _ => pc_ite (fun _ => ih _ _ _ _ _ h4 h1) (fun _ => ih _ _ _ _ _ h4 h1)) (fun _ => pc_ite (fun _ => ih _ _ _ _ _ h4 h1) (fun _ => ih _ _ _ _ _ h4 h1))
  have h0 : VE (wvM σ) σ := fun _ _ => rfl
  have J : ∀ (t : Int32) (m : Mem), VE (wvM σ) m → pc (j_X4_bestLaw_25 F a b t m) (fun _ z => VE (wvM σ) z) := fun t m hm => by
    rw [j_X4_bestLaw_25_e]
    refine pc_ite (fun _ => pc_bnd (pc_pf (fr_X4_layBrings hF)) (fun _ s6 f => ?_)) (fun _ => VE_ref hm)
    have h6 := VE_fr hm f (by intro c hc; unfold cM2 at hc; show ¬ _; unfold wf_46; first | exact id | omega)
    exact loop F _ _ _ _ _ (VE_N h6) (h6 2 (by decide))
  rw [f_X4_bestLaw_e]
  refine pc_lt (fun s5 g => ?_)
  have h5 : VE (wvM σ) s5 := by rw [g]; exact VE_th h0
  refine pc_bnd (pc_pf (fr_X4_isLooker hF)) (fun r s f => ?_)
  have h6 := VE_fr h5 f (by intro c hc; unfold cM2 at hc; show ¬ _; unfold wf_1; first | exact id | omega)
  refine pc_ite (fun _ => J _ _ h6) (fun _ => pc_bnd (pc_pf (fr_X4_wrongNumber hF)) (fun r s f => J _ _ (VE_fr h6 f (by intro c hc; unfold cM2 at hc; show ¬ _; unfold wf_1; first | exact id | omega))))
theorem rst_bestPane {F : Nat} (hF : 1000 ≤ F) {x1 x2 x3 x4 : Int32} {σ : Mem} : pc (f_X4_bestPane F x1 x2 x3 x4 σ) (fun _ z => VE (wvM σ) z) := by
  have loop : ∀ (N : Nat) (x6 x7 x8 x9 : Int32) (m : Mem), VN (28 + ((24 : Int32) * x1 + x2).toNatClampNeg) (wvM σ) m → x6 = wvM σ (28 + ((24 : Int32) * x1 + x2).toNatClampNeg) → pc (lp_X4_bestPane_74 F x1 x2 x3 x4 x6 N x7 x8 x9 m) (fun _ z => VE (wvM σ) z) := by
    intro N
    induction N with
    | zero => intro x6 x7 x8 x9 m _ _; exact pc_none rfl
    | succ N ih =>
      intro x6 x7 x8 x9 m hm h1
      rw [lp_X4_bestPane_74_s]
      simp only [j_X4_bestPane_109_e, j_X4_bestPane_146_e, j_X4_bestPane_162_e]
      have body : ∀ v : Int32, pc (wt_chk ((24 : Int32) * x1 + x2) 120 (wt_lt (up2 m 106 (Int32.toNatClampNeg ((24 : Int32) * x1 + x2)) v) fun s2 => wt_bnd (f_X4_worthAnew F x1 x3 s2) fun r3 s4 => if r3 ≤ x8 then (if r3 ≤ x8 then lp_X4_bestPane_74 F x1 x2 x3 x4 x6 N x7 x8 (x9 + 1) s4 else lp_X4_bestPane_74 F x1 x2 x3 x4 x6 N x7 r3 (x9 + 1) s4) else if x9 = s4 101 1 then (if r3 ≤ x8 then lp_X4_bestPane_74 F x1 x2 x3 x4 x6 N 9 x8 (x9 + 1) s4 else lp_X4_bestPane_74 F x1 x2 x3 x4 x6 N 9 r3 (x9 + 1) s4) else (if r3 ≤ x8 then lp_X4_bestPane_74 F x1 x2 x3 x4 x6 N x9 x8 (x9 + 1) s4 else lp_X4_bestPane_74 F x1 x2 x3 x4 x6 N x9 r3 (x9 + 1) s4))) (fun _ z => VE (wvM σ) z) := fun v => by
        refine pc_chk (fun w => pc_lt (fun s2 g => pc_bnd (pc_pf (fr_X4_worthAnew hF)) (fun r s4 f => ?_)))
        obtain ⟨q1, q2, q3⟩ := q106 w
        have h4 : VN (28 + ((24 : Int32) * x1 + x2).toNatClampNeg) (wvM σ) s4 := VN_fr (by rw [g]; exact VN_put hm q1 q2 q3) f (by intro c hc; unfold cM2 at hc; show ¬ _; unfold wf_48; first | exact id | omega)
        exact pc_ite (fun _ => pc_ite (fun _ => ih _ _ _ _ _ h4 h1) (fun _ => ih _ _ _ _ _ h4 h1)) (fun _ => pc_ite (fun _ => pc_ite (fun _ => ih _ _ _ _ _ h4 h1) (fun _ => ih _ _ _ _ _ h4 h1)) (fun _ => pc_ite (fun _ => ih _ _ _ _ _ h4 h1) (fun _ => ih _ _ _ _ _ h4 h1)))
      refine pc_ite (fun _ => pc_chk (fun w => pc_lt (fun s6 g => ?_))) (fun _ => pc_ite (fun _ => body _) (fun _ => body _))
      obtain ⟨q1, q2, q3⟩ := q106 w
      have h6 : VE (wvM σ) s6 := by rw [g]; exact VN_back hm q1 q2 q3 h1
      exact pc_ite (fun _ => pc_ret h6) (fun _ => pc_ret h6)
  have h0 : VE (wvM σ) σ := fun _ _ => rfl
  have J : ∀ (t : Int32) (m : Mem), VE (wvM σ) m → pc (j_X4_bestPane_32 F x1 x2 x3 x4 t m) (fun _ z => VE (wvM σ) z) := fun t m hm => by
    rw [j_X4_bestPane_32_e]
    refine pc_bnd (pc_pf (fr_X4_wrongBit hF)) (fun _ s8 f => ?_)
    have h8 := VE_fr hm f (by intro c hc; unfold cM2 at hc; show ¬ _; unfold wf_1; first | exact id | omega)
    refine pc_ite (fun _ => pc_chk (fun w => pc_lt (fun z10 g => ?_))) (fun _ => VE_ref h8)
    obtain ⟨q1, q2, q3⟩ := q106 w
    refine loop F _ _ _ _ _ (VE_N h8) ?_
    rw [g, ← h8 _ q1]
    unfold wvM
    rw [← q2, ← q3]
  rw [f_X4_bestPane_e]
  simp only [j_X4_bestPane_31_e]
  refine pc_lt (fun s5 g => ?_)
  have h5 : VE (wvM σ) s5 := by rw [g]; exact VE_th h0
  refine pc_bnd (pc_pf (fr_X4_isLooker hF)) (fun r s f => ?_)
  have h6 := VE_fr h5 f (by intro c hc; unfold cM2 at hc; show ¬ _; unfold wf_1; first | exact id | omega)
  refine pc_ite (fun _ => J _ _ h6) (fun _ => pc_bnd (pc_pf (fr_X4_isHour hF)) (fun r s f => ?_))
  have h7 := VE_fr h6 f (by intro c hc; unfold cM2 at hc; show ¬ _; unfold wf_1; first | exact id | omega)
  refine pc_ite (fun _ => J _ _ h7) (fun _ => pc_bnd (pc_pf (fr_X4_wrongNumber hF)) (fun r s f => J _ _ (VE_fr h7 f (by intro c hc; unfold cM2 at hc; show ¬ _; unfold wf_1; first | exact id | omega))))
theorem rst_freeHours {F : Nat} (hF : 1000 ≤ F) {x1 x2 : Int32} {σ : Mem} : pc (f_X4_freeHours F x1 x2 σ) (fun _ z => VE (wvM σ) z) := by
  have loop : ∀ (N : Nat) (x4 x5 x6 : Int32) (m : Mem), VE (wvM σ) m → pc (lp_X4_freeHours_54 F x1 x2 x4 N x5 x6 m) (fun _ z => VE (wvM σ) z) := by
    intro N
    induction N with
    | zero => intro x4 x5 x6 m _; exact pc_none rfl
    | succ N ih =>
      intro x4 x5 x6 m hm
      rw [lp_X4_freeHours_54_s]
      simp only [j_X4_freeHours_118_e, j_X4_freeHours_119_e]
      refine pc_ite (fun _ => pc_ret hm) (fun _ => pc_chk (fun w => pc_lt (fun z4 g4 => pc_lt (fun s5 g5 => pc_bnd (pc_pf (fr_X4_layBrings hF)) (fun _ s7 f => ?_)))))
      obtain ⟨q1, q2, q3⟩ := q106 w
      have hz : z4 = wvM σ (28 + ((24 : Int32) * x1 + x6).toNatClampNeg) := by
        rw [g4, ← hm _ q1]
        unfold wvM
        rw [← q2, ← q3]
      have h7 : VN (28 + ((24 : Int32) * x1 + x6).toNatClampNeg) (wvM σ) s7 := VN_fr (by rw [g5]; exact VN_put (VE_N hm) q1 q2 q3) f (by intro c hc; unfold cM2 at hc; show ¬ _; unfold wf_46; first | exact id | omega)
      have back : ∀ (s : Mem) (v : Int32), VN (28 + ((24 : Int32) * x1 + x6).toNatClampNeg) (wvM σ) s → pc (wt_chk ((24 : Int32) * x1 + x6) 120 (wt_lt (up2 s 106 (Int32.toNatClampNeg ((24 : Int32) * x1 + x6)) z4) fun s2 => lp_X4_freeHours_54 F x1 x2 x4 N v (x6 + 1) s2)) (fun _ z => VE (wvM σ) z) := fun s v hs => pc_chk (fun _ => pc_lt (fun s2 g => ih _ _ _ _ (by rw [g]; exact VN_back hs q1 q2 q3 hz)))
      refine pc_ite (fun _ => back _ _ h7) (fun _ => pc_bnd (pc_pf (fr_X4_viewsIn hF)) (fun r s9 f9 => ?_))
      have h9 := VN_fr h7 f9 (by intro c hc; unfold cM2 at hc; show ¬ _; unfold wf_47; first | exact id | omega)
      exact pc_ite (fun _ => back _ _ h9) (fun _ => back _ _ h9)
  have h0 : VE (wvM σ) σ := fun _ _ => rfl
  have J : ∀ (t : Int32) (m : Mem), VE (wvM σ) m → pc (j_X4_freeHours_25 F x1 x2 t m) (fun _ z => VE (wvM σ) z) := fun t m hm => by
    rw [j_X4_freeHours_25_e]
    refine pc_ite (fun _ => pc_bnd (pc_pf (fr_X4_layBrings hF)) (fun _ s6 f => pc_bnd (pc_pf (fr_X4_viewsIn hF)) (fun r s7 f7 => ?_))) (fun _ => VE_ref hm)
    exact loop F _ _ _ _ (VE_fr (VE_fr hm f (by intro c hc; unfold cM2 at hc; show ¬ _; unfold wf_46; first | exact id | omega)) f7 (by intro c hc; unfold cM2 at hc; show ¬ _; unfold wf_47; first | exact id | omega))
  rw [f_X4_freeHours_e]
  refine pc_lt (fun s5 g => ?_)
  have h5 : VE (wvM σ) s5 := by rw [g]; exact VE_th h0
  refine pc_bnd (pc_pf (fr_X4_isLooker hF)) (fun r s f => ?_)
  have h6 := VE_fr h5 f (by intro c hc; unfold cM2 at hc; show ¬ _; unfold wf_1; first | exact id | omega)
  refine pc_ite (fun _ => J _ _ h6) (fun _ => pc_bnd (pc_pf (fr_X4_wrongNumber hF)) (fun r s f => J _ _ (VE_fr h6 f (by intro c hc; unfold cM2 at hc; show ¬ _; unfold wf_1; first | exact id | omega))))
theorem rst_walls {F : Nat} (hF : 1000 ≤ F) {x1 x2 x3 : Int32} {σ : Mem} : pc (f_X4_walls F x1 x2 x3 σ) (fun _ z => VE (wvM σ) z) := by
  have inner : ∀ (k62 : Int32 → Int32 → Int32 → Mem → Option (Int32 × Mem)), (∀ a b c m, VE (wvM σ) m → pc (k62 a b c m) (fun _ z => VE (wvM σ) z)) → ∀ (N : Nat) (x5 x8 x6 x7 x9 : Int32) (m : Mem), VE (wvM σ) m → pc (lp_X4_walls_74 F k62 x1 x2 x3 x5 x8 N x6 x7 x9 m) (fun _ z => VE (wvM σ) z) := by
    intro k62 hk N
    induction N with
    | zero => intro x5 x8 x6 x7 x9 m _; exact pc_none rfl
    | succ N ih =>
      intro x5 x8 x6 x7 x9 m hm
      rw [lp_X4_walls_74_s]
      simp only [j_X4_walls_173_e, j_X4_walls_171_e, j_X4_walls_155_e]
      refine pc_ite (fun _ => hk _ _ _ _ hm) (fun _ => pc_chk (fun w => pc_bnd (pc_pf (fr_X4_hasBit hF)) (fun r s3 f => ?_)))
      have h3 := VE_fr hm f (by intro c hc; unfold cM2 at hc; show ¬ _; unfold wf_1; first | exact id | omega)
      have hj := wtJI_103 _ w.2.2
      have hq : 12 + x8.toNatClampNeg < 188 := by have := w.2.2; omega
      refine pc_ite (fun _ => ih _ _ _ _ _ _ h3) (fun _ => pc_lt (fun s4 g4 => pc_bnd (pc_pf (fr_X4_worthAnew hF)) (fun r5 s6 f6 => pc_lt (fun s7 g7 => ?_))))
      have h6 : VN (12 + x8.toNatClampNeg) (wvM σ) s6 := VN_fr (by rw [g4]; exact VN_put (VE_N h3) hq hj.1.symm hj.2.symm) f6 (by intro c hc; unfold cM2 at hc; show ¬ _; unfold wf_48; first | exact id | omega)
      have e6 : s6 103 x8.toNatClampNeg = s4 103 x8.toNatClampNeg := f6 103 _ (by rw [show wcid 103 x8.toNatClampNeg = 103 from rfl]; show ¬ _; unfold wf_48; omega)
      have e3 : s3 103 x8.toNatClampNeg = wvM σ (12 + x8.toNatClampNeg) := by
        rw [← h3 _ hq]
        unfold wvM
        rw [hj.1, hj.2]
      have h7 : VE (wvM σ) s7 := by
        rw [g7]
        refine VN_back h6 hq hj.1.symm hj.2.symm ?_
        rw [e6, g4, up2_s, Int32.xor_assoc, Int32.xor_self, Int32.xor_zero, e3]
      exact pc_ite (fun _ => pc_ite (fun _ => ih _ _ _ _ _ _ h7) (fun _ => ih _ _ _ _ _ _ h7)) (fun _ => pc_ite (fun _ => ih _ _ _ _ _ _ h7) (fun _ => ih _ _ _ _ _ _ h7))
  have outer : ∀ (N : Nat) (x5 x6 x7 x8 : Int32) (m : Mem), VE (wvM σ) m → pc (lp_X4_walls_62 F x1 x2 x3 x5 N x6 x7 x8 m) (fun _ z => VE (wvM σ) z) := by
    intro N
    induction N with
    | zero => intro x5 x6 x7 x8 m _; exact pc_none rfl
    | succ N ih =>
      intro x5 x6 x7 x8 m hm
      rw [lp_X4_walls_62_s]
      simp only [j_X4_walls_194_e]
      refine pc_ite (fun _ => pc_ite (fun _ => pc_ret hm) (fun _ => pc_ite (fun _ => pc_ret hm) (fun _ => pc_ret hm))) (fun _ => inner _ (fun a b c m h => ih _ _ _ _ _ h) F _ _ _ _ _ _ hm)
  have h0 : VE (wvM σ) σ := fun _ _ => rfl
  have J : ∀ (t : Int32) (m : Mem), VE (wvM σ) m → pc (j_X4_walls_25 F x1 x2 x3 t m) (fun _ z => VE (wvM σ) z) := fun t m hm => by
    rw [j_X4_walls_25_e]
    refine pc_bnd (pc_pf (fr_X4_wrongBit hF)) (fun _ s8 f => ?_)
    have h8 := VE_fr hm f (by intro c hc; unfold cM2 at hc; show ¬ _; unfold wf_1; first | exact id | omega)
    exact pc_ite (fun _ => pc_bnd (pc_pf (fr_X4_worthAnew hF)) (fun _ s6 f => outer F _ _ _ _ _ (VE_fr h8 f (by intro c hc; unfold cM2 at hc; show ¬ _; unfold wf_48; first | exact id | omega)))) (fun _ => VE_ref h8)
  rw [f_X4_walls_e]
  refine pc_lt (fun s5 g => ?_)
  have h5 : VE (wvM σ) s5 := by rw [g]; exact VE_th h0
  refine pc_bnd (pc_pf (fr_X4_isLooker hF)) (fun r s f => ?_)
  have h6 := VE_fr h5 f (by intro c hc; unfold cM2 at hc; show ¬ _; unfold wf_1; first | exact id | omega)
  refine pc_ite (fun _ => J _ _ h6) (fun _ => pc_bnd (pc_pf (fr_X4_wrongNumber hF)) (fun r s f => J _ _ (VE_fr h6 f (by intro c hc; unfold cM2 at hc; show ¬ _; unfold wf_1; first | exact id | omega))))
end
