/-- one statement read -/
def rsO (k : Nat) (σ s : Mem) : Prop := ∀ j i, ¬ (j = 101 ∧ (i = 16 ∨ i = 17 ∨ i = 18)) → ¬ ((j = 112 ∨ j = 113) ∧ i = k) → ¬ (j = 114 ∧ 4 * k ≤ i ∧ i < 4 * k + 4) → s j i = σ j i
def RS (S : Nat → Int32) (n p k : Nat) (σ s : Mem) : Prop :=
  (s 101 16).toInt = ((wst S n p).1 : Int) ∧ s 101 17 = (if (wst S n p).2 then 0 else 1) ∧ (s 101 18).toInt = ((k + 1 : Nat) : Int) ∧ ((wst S n p).2 = true → (s 112 k).toInt = (p : Int) ∧ s 113 k = S p ∧ wtold S p (s 114) (4 * k)) ∧ rsO k σ s
theorem mx_rs108 {F : Nat} {S : Nat → Int32} {n p k : Nat} {t1 : Int32} {σ0 σ : Mem} (hn96 : n ≤ 96) (hk : (σ 101 18).toInt = (k : Int)) (hk48 : k ≤ 48) {e : Nat} {bb : Bool} (hw : wst S n p = (if bb then (e + 1, true) else (e, false))) (he : e < 1000) (h16 : (σ 101 16).toInt = (e : Int)) (ht : t1 = if bb then 0 else 1) (hT : bb = true → (σ 112 k).toInt = (p : Int) ∧ σ 113 k = S p ∧ wtold S p (σ 114) (4 * k)) (ho : rsO k σ0 σ) : pc (j_X4_readStatement_108 F t1 σ) (fun _ s => RS S n p k σ0 s) := by
  rw [j_X4_readStatement_108_e]
  simp only [j_X4_readStatement_128_e]
  refine pc_bz (fun _ => pc_lt (fun s3 g3 => ?_))
  have e17 : s3 101 17 = t1 := by rw [g3, up2_s]
  have e16 : s3 101 16 = σ 101 16 := by rw [g3, up2_i (by decide)]
  have e18 : s3 101 18 = σ 101 18 := by rw [g3, up2_i (by decide)]
  rw [e17]
  have go : ∀ a : Int32, (s3 101 16 + a).toInt = ((wst S n p).1 : Int) → pc (wt_lt (up2 s3 101 16 (s3 101 16 + a)) fun s1 => wt_lt (up2 s1 101 18 ((s1 101 18) + (1 : Int32))) fun s2 => some ((), s2)) (fun _ s => RS S n p k σ0 s) := fun a ha => by
    refine pc_lt (fun s1 g1 => pc_lt (fun s2 g2 => pc_ret ?_))
    have o : ∀ j i, ¬ (j = 101 ∧ (i = 16 ∨ i = 17 ∨ i = 18)) → s2 j i = σ j i := fun j i h => by rw [g2, wm_key, if_neg (by omega), g1, wm_key, if_neg (by omega), g3, wm_key, if_neg (by omega)]
    refine ⟨by rw [g2, up2_i (by decide), g1, up2_s]; exact ha, ?_, ?_, fun hb => ?_, fun j i h1 h2 h3 => by rw [o j i h1]; exact ho j i h1 h2 h3⟩
    · rw [g2, up2_i (by decide), g1, up2_i (by decide), e17, ht, hw]
      cases bb <;> rfl
    · rw [g2, up2_s, g1, up2_i (by decide), e18]
      exact ti_nx hk (by omega)
    · have hbb : bb = true := by
        cases bb with
        | false => rw [hw] at hb; exact absurd hb bft
        | true => rfl
      obtain ⟨t1, t2, t3⟩ := hT hbb
      rw [o 112 k (by omega), o 113 k (by omega), show s2 114 = σ 114 from funext fun i => o 114 i (by omega)]
      exact ⟨t1, t2, t3⟩
  cases bb with
  | true =>
    have ht0 : t1 = 0 := ht
    rw [ht0, if_pos rfl]
    refine go 1 ?_
    rw [e16, hw]
    exact ti_pl (k := 1) h16 he rfl (by decide)
  | false =>
    have ht0 : t1 = 1 := ht
    rw [ht0, if_neg (by decide)]
    refine go 0 ?_
    rw [e16, hw, Int32.add_zero]
    exact h16
theorem mx_readStatement {F : Nat} {σ : Mem} {S : Nat → Int32} {n p k : Nat} (hn96 : n ≤ 96) (hp : p ≤ n) (hk48 : k ≤ 48) (h16 : (σ 101 16).toInt = (p : Int)) (h17 : σ 101 17 = 0) (h18 : (σ 101 18).toInt = (k : Int)) (h7 : σ 111 = S) (h8 : (σ 101 15).toInt = (n : Int)) : pc (f_X4_readStatement F σ) (fun _ s => RS S n p k σ s) := by
  rw [f_X4_readStatement_e]
  refine pc_bnd (mx_here h8 h16) (fun r s13 w => ?_)
  obtain ⟨rfl, w1, w2⟩ := w
  rw [h7] at w1
  refine pc_chk (fun _ => pc_lt (fun s15 g15 => pc_lt (fun s16 g16 => ?_)))
  rw [tn_int h18] at g15 g16
  have o16 : ∀ j i, ¬ ((j = 112 ∨ j = 113) ∧ i = k) → s16 j i = s13 j i := fun j i h => by rw [g16, wm_key, if_neg (by omega), g15, wm_key, if_neg (by omega)]
  have f112 : (s16 112 k).toInt = (p : Int) := by rw [g16, up2_k (by decide), g15, up2_s]; exact h16
  have f113 : s16 113 k = r := by rw [g16, up2_s]
  have e17 : s16 101 17 = 0 := by rw [o16 101 17 (by omega)]; exact h17
  have e16 : s16 101 16 = s13 101 16 := o16 101 16 (by omega)
  have e18 : s16 101 18 = s13 101 18 := o16 101 18 (by omega)
  have e18k : s13 101 18 = s16 101 18 := e18.symm
  rw [e17, if_pos rfl]
  refine pc_be mx_isLetter ?_
  simp only [j_X4_readStatement_42_e, j_X4_readStatement_47_e, j_X4_readStatement_67_e, j_X4_readStatement_86_e, j_X4_readStatement_103_e]
  have rs0 : ∀ z : Mem, (∀ j i, ¬ (j = 101 ∧ (i = 16 ∨ i = 17 ∨ i = 18)) → z j i = s16 j i) → rsO k s13 z := fun z hz j i h1 h2 h3 => by rw [hz j i h1]; exact o16 j i h2
  by_cases hD : wD r = 0
  · rw [if_pos hD, if_pos rfl]
    have hw : wst S n p = (p, false) := by
      unfold wst
      refine if_neg (fun q => ?_)
      rw [w1 q.1] at hD
      exact q.2 hD
    refine pc_bz (fun _ => pc_lt (fun s10 g10 => ?_))
    have f17 : s10 101 17 = 1 := by rw [g10, up2_s]
    have f16 : s10 101 16 = s13 101 16 := by rw [g10, up2_i (by decide), e16]
    have f18 : s10 101 18 = s13 101 18 := by rw [g10, up2_i (by decide), e18]
    rw [f17, if_neg (by decide)]
    refine pc_lt (fun s7 g7 => ?_)
    have q17 : s7 101 17 = 1 := by rw [g7, up2_i (by decide), f17]
    rw [q17, if_neg (by decide), if_neg (by decide)]
    refine mx_rs108 (bb := false) (e := p) hn96 (by rw [g7, up2_i (by decide), f18]; exact h18) hk48 (by rw [hw]; rfl) (by omega) (by rw [g7, up2_s, f16, Int32.add_zero]; exact h16) rfl (fun q => absurd q bft) (rs0 s7 (fun j i h => by rw [g7, wm_key, if_neg (by omega), g10, wm_key, if_neg (by omega)]))
  · rw [if_neg hD, if_neg (by decide)]
    have hpn : p < n := by
      by_cases c : p < n
      · exact c
      · exfalso; apply hD; rw [w2 c]; rfl
    have hr := w1 hpn
    have hw : wst S n p = wfd S n (wD (S p)) (p + 1) := by unfold wst; rw [if_pos ⟨hpn, by rw [← hr]; exact hD⟩]
    refine pc_bz (fun _ => pc_lt (fun s10 g10 => ?_))
    have f17 : s10 101 17 = 0 := by rw [g10, up2_s]
    have f16 : s10 101 16 = s13 101 16 := by rw [g10, up2_i (by decide), e16]
    have f18 : s10 101 18 = s13 101 18 := by rw [g10, up2_i (by decide), e18]
    rw [f17, if_pos rfl]
    refine pc_lt (fun s7 g7 => ?_)
    have q17 : s7 101 17 = 0 := by rw [g7, up2_i (by decide), f17]
    have q18 : s7 101 18 = s13 101 18 := by rw [g7, up2_i (by decide), f18]
    have q16 : (s7 101 16).toInt = ((p + 1 : Nat) : Int) := by rw [g7, up2_s, f16]; exact ti_pl (k := 1) h16 (by omega) rfl (by decide)
    have o7 : ∀ j i, ¬ (j = 101 ∧ (i = 16 ∨ i = 17 ∨ i = 18)) → s7 j i = s16 j i := fun j i h => by rw [g7, wm_key, if_neg (by omega), g10, wm_key, if_neg (by omega)]
    rw [q17, if_pos rfl]
    have hb4 : ((4 : Int32) * s13 101 18).toInt = ((4 * k : Nat) : Int) := by
      have e4 : (4 : Int32).toInt = 4 := rfl
      rw [ti_mul (by rw [e4, h18]; omega) (by rw [e4, h18]; omega), e4, h18]; omega
    refine pc_bnd (mx_readNumbers (S := S) (n := n) (p := p) (b := 4 * k) hr.symm hb4 (by omega) hpn hn96 hD q16 q17 ((funext fun i => (o7 111 i (by omega)).trans (o16 111 i (by omega))).trans h7) (by rw [o7 101 15 (by omega), o16 101 15 (by omega)]; exact h8)) (fun _ s9 v => ?_)
    obtain ⟨v1, v2, v3⟩ := v
    have r18 : (s9 101 18).toInt = (k : Int) := by rw [v3 101 18 (by omega) (by omega), q18]; exact h18
    have rs9 : rsO k s13 s9 := fun j i h1 h2 h3 => by rw [v3 j i (by omega) (by omega), o7 j i h1]; exact o16 j i h2
    have t112 : (s9 112 k).toInt = (p : Int) := by rw [v3 112 k (by omega) (by omega), o7 112 k (by omega)]; exact f112
    have t113 : s9 113 k = S p := by rw [v3 113 k (by omega) (by omega), o7 113 k (by omega), f113, hr]
    rw [hr] at v1 v2
    by_cases call : ∀ k, k < wD (S p) → wdg S n (p + 1 + k)
    · obtain ⟨a1, a2⟩ := v1.1 call
      rw [a2, if_pos rfl]
      have hw2 := hw.trans (wfd_ok _ _ call)
      have h15' : (s9 101 15).toInt = (n : Int) := by rw [v3 101 15 (by omega) (by omega), o7 101 15 (by omega), o16 101 15 (by omega)]; exact h8
      have h111' : s9 111 = S := (funext fun i => ((v3 111 i (by omega) (by omega)).trans (o7 111 i (by omega))).trans (o16 111 i (by omega))).trans h7
      have hle : p + 1 + wD (S p) ≤ n := by
        by_cases c0 : wD (S p) = 0
        · omega
        · have := (call (wD (S p) - 1) (by omega)).1; omega
      refine pc_bnd (mx_here h15' a1) (fun r5 s6 u => ?_)
      obtain ⟨rfl, u1, u2⟩ := u
      rw [h111'] at u1
      by_cases c59 : p + 1 + wD (S p) < n ∧ S (p + 1 + wD (S p)) = 59
      · rw [if_pos ((u1 c59.1).trans c59.2)]
        refine mx_rs108 (bb := true) (e := p + 1 + wD (S p)) hn96 r18 hk48 (by rw [hw2, wfd, if_pos c59]; rfl) (by omega) a1 rfl (fun _ => ⟨t112, t113, v2 call⟩) rs9
      · have hne : ¬ r5 = 59 := fun q => by
          by_cases c : p + 1 + wD (S p) < n
          · exact c59 ⟨c, (u1 c).symm.trans q⟩
          · rw [u2 c] at q; exact absurd q (by decide)
        rw [if_neg hne]
        exact mx_rs108 (bb := false) (e := p + 1 + wD (S p)) hn96 r18 hk48 (by rw [hw2, wfd, if_neg c59]; rfl) (by omega) a1 rfl (fun q => absurd q bft) rs9
    · obtain ⟨k0, a1, a2, a3, a4, a5⟩ := v1.2 call
      rw [a5, if_neg (by decide)]
      exact mx_rs108 (bb := false) (e := p + 1 + k0) hn96 r18 hk48 (by rw [hw, wfd_no _ _ k0 a1 a2 a3]; rfl) (by
        rcases wD_cs (S p) with ⟨-, h0, -⟩ | ⟨-, -, -, h6, -⟩ <;> omega) a4 rfl (fun q => absurd q bft) rs9
/-- what the reference holds of the statements that it has read -/
def mInfo (S : Nat → Int32) (n k : Nat) (σ : Mem) : Prop := ∀ j, j < k → (σ 112 j).toInt = (wpl S j : Int) ∧ σ 113 j = S (wpl S j) ∧ wtold S (wpl S j) (σ 114) (4 * j) ∧ wdok S n (wpl S j)
theorem mInfo_k {S : Nat → Int32} {n k : Nat} {σ s : Mem} (h : mInfo S n k σ) (e1 : ∀ j, j < k → s 112 j = σ 112 j ∧ s 113 j = σ 113 j) (e2 : ∀ i, i < 4 * k → s 114 i = σ 114 i) : mInfo S n k s := fun j hj => by
  obtain ⟨h1, h2, h3, h4⟩ := h j hj
  obtain ⟨a1, a2⟩ := e1 j hj
  refine ⟨by rw [a1]; exact h1, by rw [a2]; exact h2, ?_, h4⟩
  unfold wtold at h3 ⊢
  rw [e2 (4 * j) (by omega), e2 (4 * j + 1) (by omega), e2 (4 * j + 2) (by omega), e2 (4 * j + 3) (by omega)]
  exact h3
/-- one statement comes -/
theorem mx_comesTold {F : Nat} (hF : 1000 ≤ F) {σ : Mem} {S : Nat → Int32} {n k p : Nat} {x1 : Int32} (hM : wiM σ) (hx : x1.toInt = (k : Int)) (hk : k ≤ 47) (h113 : σ 113 k = S p) (hT : wtold S p (σ 114) (4 * k)) (hd : wdok S n p) (hv : wvV (wvM σ)) : pc (f_X4_comesTold F x1 σ) (fun r s => (cSt S p (wvM σ) → r = 1 ∧ lo148 (wvM s) (aSt S p (wvM σ))) ∧ (¬ cSt S p (wvM σ) → r = 0)) := by
  have bp := wx_X4_1 hM
  have bl := wx_X4_3 hM
  have bd : ∀ (i d : Nat), d ≤ 3 → i + d ≤ wD (S p) → 0 ≤ (wnum S (p + 1 + i) d).toInt ∧ (wnum S (p + 1 + i) d).toInt < (10 : Int) ^ d := fun i d h1 h2 => (wdok_b hd i d h1 h2).2.2
  have e4 : ((4 : Int32) * x1).toInt = ((4 * k : Nat) : Int) := by
    have e4 : (4 : Int32).toInt = 4 := rfl
    rw [ti_mul (by rw [e4, hx]; omega) (by rw [e4, hx]; omega), e4, hx]; omega
  have i0 : ((4 : Int32) * x1).toNatClampNeg = 4 * k := tn_int e4
  have i1 : (((4 : Int32) * x1) + (1 : Int32)).toNatClampNeg = 4 * k + 1 := ti_ix e4 (by omega) rfl (by decide)
  have i2 : (((4 : Int32) * x1) + (2 : Int32)).toNatClampNeg = 4 * k + 2 := ti_ix e4 (by omega) rfl (by decide)
  have i3 : (((4 : Int32) * x1) + (3 : Int32)).toNatClampNeg = 4 * k + 3 := ti_ix e4 (by omega) rfl (by decide)
  have V0 : wvM σ 0 = σ 101 1 := rfl
  have V1 : wvM σ 1 = σ 101 3 := rfl
  have V3 : wvM σ 3 = σ 101 9 := rfl
  rw [f_X4_comesTold_e]
  refine pc_chk (fun _ => pc_lt (fun z15 g15 => pc_chk (fun _ => pc_lt (fun z17 g17 => pc_chk (fun _ => pc_lt (fun z19 g19 => pc_chk (fun _ => pc_lt (fun z21 g21 => pc_chk (fun _ => ?_)))))))))
  rw [i0] at g15
  rw [i1] at g17
  rw [i2] at g19
  rw [i3] at g21
  rw [tn_int hx, h113]
  obtain ⟨T1, T2, T3, T4, T5⟩ := hT
  simp only [j_X4_comesTold_185_e, j_X4_comesTold_186_e, j_X4_comesTold_199_e, j_X4_comesTold_136_e, j_X4_comesTold_137_e, j_X4_comesTold_164_e, j_X4_comesTold_243_e, j_X4_comesTold_239_e, j_X4_comesTold_244_e, j_X4_comesTold_261_e, j_X4_comesTold_275_e, j_X4_comesTold_289_e, j_X4_comesTold_310_e, j_X4_comesTold_311_e, j_X4_comesTold_330_e, j_X4_comesTold_377_e, j_X4_comesTold_378_e, j_X4_comesTold_390_e]
  refine pc_ite (fun e => ?_) (fun e1 => ?_)
  · have hD : wD (S p) = 2 := by rw [e]; rfl
    obtain ⟨t1, t2⟩ := T5 (Or.inl e)
    rw [t1] at g15
    rw [t2] at g17
    obtain ⟨a1, a2⟩ := cSt_108 (V := wvM σ) e
    rw [a1, a2, V1]
    subst g15 g17
    have no : ∀ (P : Prop), ¬ P → pc (if (0 : Int32) = 0 then wt_bz (0 : Int32) (some ((0 : Int32), σ)) else wt_bnd (f_X4_lookerComes F (wnum S (p + 1) 1) (wnum S (p + 2) 1) σ) fun r4 s5 => wt_bz (0 : Int32) (some ((0 : Int32), s5))) (fun r s => (P → r = 1 ∧ lo148 (wvM s) (aLooker (wvM σ) (wnum S (p + 1) 1) (wnum S (p + 2) 1))) ∧ (¬ P → r = 0)) := fun P hP => by
      rw [if_pos rfl]; exact pc_bz (fun _ => pc_ret ⟨fun h => absurd h hP, fun _ => rfl⟩)
    refine pc_ite (fun c => ?_) (fun c => pc_ite (fun c2 => ?_) (fun c2 => ?_))
    · exact no _ (fun h => by have := ti_le c; rw [tz_6] at this; omega)
    · exact no _ (fun h => by have := ti_le c2; rw [tz_5] at this; omega)
    · have d1 := ti_nle c
      have d2 := ti_nle c2
      rw [tz_6] at d1
      rw [tz_5] at d2
      rw [if_neg (by decide)]
      exact pc_bnd (mx_lookerComes ⟨bl.1, d2⟩) (fun _ s5 q => pc_bz (fun _ => pc_ret ⟨fun _ => ⟨rfl, fun q' hq => q q' (by omega)⟩, fun n => absurd ⟨by omega, d2⟩ n⟩))
  refine pc_ite (fun e => ?_) (fun e2 => ?_)
  · have hD : wD (S p) = 3 := by rw [e]; rfl
    have t1 := T2 e
    rw [t1] at g15
    obtain ⟨a1, a2⟩ := cSt_112 (V := wvM σ) e
    rw [a1, a2, V0]
    subst g15
    have no : ∀ (P : Prop), ¬ P → pc (if (0 : Int32) = 0 then wt_bz (0 : Int32) (some ((0 : Int32), σ)) else wt_chk (σ 101 1) 6 (wt_lt (up2 σ 103 (Int32.toNatClampNeg (σ 101 1)) (wnum S (p + 1) 3)) fun s2 => wt_lt (up2 s2 101 1 ((s2 101 1) + (1 : Int32))) fun s3 => wt_bz (0 : Int32) (some ((0 : Int32), s3)))) (fun r s => (P → r = 1 ∧ lo148 (wvM s) (aPane (wvM σ) (wnum S (p + 1) 3))) ∧ (¬ P → r = 0)) := fun P hP => by
      rw [if_pos rfl]; exact pc_bz (fun _ => pc_ret ⟨fun h => absurd h hP, fun _ => rfl⟩)
    refine pc_ite (fun c => ?_) (fun c => pc_ite (fun c2 => ?_) (fun c2 => ?_))
    · exact no _ (fun h => by have := ti_lt c; rw [tz_255] at this; omega)
    · exact no _ (fun h => by have := ti_le c2; rw [tz_6] at this; omega)
    · have d1 := ti_nlt c
      have d2 := ti_nle c2
      rw [tz_255] at d1
      rw [tz_6] at d2
      rw [if_neg (by decide)]
      refine pc_chk (fun v => pc_lt (fun s2 h2 => pc_lt (fun s3 h3 => pc_bz (fun _ => pc_ret ⟨fun _ => ⟨rfl, fun q' hq => ?_⟩, fun n => absurd ⟨d1, d2⟩ n⟩))))
      have hj := wtJI_103 _ v.2.2
      rw [h3, wvM_at (k := 101) (i := 1) (q := 0) (by decide) rfl rfl (by omega)]
      unfold aPane
      refine upd_cg ?_ ?_
      · rw [h2, wvM_at (q := 12 + (σ 101 1).toNatClampNeg) (by have := v.2.2; omega) hj.1.symm hj.2.symm (by omega)]
        rfl
      · rw [h2, up2_k (by decide)]; rfl
  refine pc_ite (fun e => ?_) (fun e3 => ?_)
  · have hD : wD (S p) = 6 := by rw [e]; rfl
    obtain ⟨t1, t2, t3, t4⟩ := T3 e
    rw [t1] at g15
    rw [t2] at g17
    rw [t3] at g19
    rw [t4] at g21
    obtain ⟨a1, a2⟩ := cSt_115 (V := wvM σ) e
    rw [a1, a2, V0, V1]
    have b1 := bd 0 1 (by decide) (by omega)
    have b2 := bd 1 2 (by decide) (by omega)
    have b3 := bd 3 2 (by decide) (by omega)
    have b4 := bd 5 1 (by decide) (by omega)
    rw [show p + 1 + 0 = p + 1 from rfl, ← g15] at b1
    rw [show p + 1 + 1 = p + 2 from rfl, ← g17] at b2
    rw [show p + 1 + 3 = p + 4 from rfl, ← g19] at b3
    rw [show p + 1 + 5 = p + 6 from rfl, ← g21] at b4
    rw [← g15, ← g17, ← g19, ← g21]
    have no : ∀ (P : Prop), ¬ P → pc (if (0 : Int32) = 0 then wt_bz (0 : Int32) (some ((0 : Int32), σ)) else wt_bnd (f_X4_stand F z15 z17 z19 z21 σ) fun r6 s7 => wt_bz (0 : Int32) (some ((0 : Int32), s7))) (fun r s => (P → r = 1 ∧ lo148 (wvM s) (aStand (wvM σ) z15.toNatClampNeg z17.toNatClampNeg z19.toNatClampNeg z21)) ∧ (¬ P → r = 0)) := fun P hP => by
      rw [if_pos rfl]; exact pc_bz (fun _ => pc_ret ⟨fun h => absurd h hP, fun _ => rfl⟩)
    have yes : cPost (σ 101 1).toInt (σ 101 3).toInt z15 z17 z19 z21 → pc (if (1 : Int32) = 0 then wt_bz (1 : Int32) (some ((1 : Int32), σ)) else wt_bnd (f_X4_stand F z15 z17 z19 z21 σ) fun r6 s7 => wt_bz (1 : Int32) (some ((1 : Int32), s7))) (fun r s => (cPost (σ 101 1).toInt (σ 101 3).toInt z15 z17 z19 z21 → r = 1 ∧ lo148 (wvM s) (aStand (wvM σ) z15.toNatClampNeg z17.toNatClampNeg z19.toNatClampNeg z21)) ∧ (¬ cPost (σ 101 1).toInt (σ 101 3).toInt z15 z17 z19 z21 → r = 0)) := fun hc => by
      rw [if_neg (by decide)]
      have l1 : z15.toInt = (z15.toNatClampNeg : Int) := by rw [ti_nat]; omega
      have l2 : z17.toInt = (z17.toNatClampNeg : Int) := by rw [ti_nat]; omega
      have l3 : z19.toInt = (z19.toNatClampNeg : Int) := by rw [ti_nat]; omega
      have hc1 := hc.1.2
      have hc2 := hc.2.2.1.2
      have hc3 := hc.2.2.2.1
      exact pc_bnd (mx_stand (Or.inr b4.1) l1 (by omega) l2 l3 (by omega) (by omega)) (fun _ s7 q => pc_bz (fun _ => pc_ret ⟨fun _ => ⟨rfl, fun q' hq => q.1 q' (by omega)⟩, fun n => absurd hc n⟩))
    refine pc_be (mx_isLooker bl.1) ?_
    by_cases c1 : 0 ≤ z15.toInt ∧ z15.toInt < (σ 101 3).toInt
    rotate_left
    · rw [if_neg c1, if_pos rfl]; exact no _ (fun h => c1 h.1)
    rw [if_pos c1, if_neg (by decide)]
    refine pc_ite (fun c => no _ (fun h => by have := ti_lt c; have := h.2.2.2.1; omega)) (fun c2 => ?_)
    have d2 := ti_nlt c2
    refine pc_ite (fun c => no _ (fun h => by have := ti_le c; rw [tz_24] at this; have := h.2.2.1; omega)) (fun c3 => ?_)
    have d3 := ti_nle c3
    rw [tz_24] at d3
    refine pc_ite (fun c9 => yes ⟨c1, ⟨b2.1, by omega⟩, ⟨b3.1, by omega⟩, d2, Or.inl (by rw [c9]; rfl)⟩) (fun c9 => ?_)
    refine pc_be (mx_isPane bp.1) ?_
    by_cases c4 : 0 ≤ z21.toInt ∧ z21.toInt < (σ 101 1).toInt
    · rw [if_pos c4, if_neg (by decide)]
      exact yes ⟨c1, ⟨b2.1, by omega⟩, ⟨b3.1, by omega⟩, d2, Or.inr c4⟩
    · rw [if_neg c4, if_pos rfl]
      refine no _ (fun h => ?_)
      rcases h.2.2.2.2 with q | q
      · exact c9 (Int32.toInt_inj.mp (by rw [q]; rfl))
      · exact c4 q
  refine pc_ite (fun e => ?_) (fun e4 => ?_)
  · have hD : wD (S p) = 1 := by rw [e]; rfl
    have t1 := T4 e
    rw [t1] at g15
    obtain ⟨a1, a2⟩ := cSt_117 (V := wvM σ) e
    rw [a1, a2]
    subst g15
    refine pc_lt (fun s28 h28 => pc_ite (fun c => pc_ret ⟨fun h => ?_, fun _ => rfl⟩) (fun c => pc_ret ⟨fun _ => ⟨rfl, fun q' hq => ?_⟩, fun n => ?_⟩))
    · have := ti_le c; rw [tz_3] at this; omega
    · rw [h28, wvM_at (k := 101) (i := 8) (q := 2) (by decide) rfl rfl (by omega)]; rfl
    · have := ti_nle c; rw [tz_3] at this; omega
  refine pc_ite (fun e => ?_) (fun e5 => ?_)
  · have hD : wD (S p) = 2 := by rw [e]; rfl
    obtain ⟨t1, t2⟩ := T5 (Or.inr (Or.inl e))
    rw [t1] at g15
    rw [t2] at g17
    obtain ⟨a1, a2⟩ := cSt_118 (V := wvM σ) e
    rw [a1, a2]
    subst g15 g17
    refine pc_ite (fun c => ?_) (fun c => ?_)
    · rw [if_pos True.intro]
      exact pc_bz (fun _ => pc_ret ⟨fun h => by have := ti_le c; rw [tz_8] at this; omega, fun _ => rfl⟩)
    · have d1 := ti_nle c
      rw [tz_8] at d1
      rw [if_neg (by decide)]
      refine pc_chk (fun v => pc_lt (fun s9 h9 => pc_bz (fun _ => pc_ret ⟨fun _ => ⟨rfl, fun q' hq => ?_⟩, fun n => absurd (by omega) n⟩)))
      have hj := wtJI_102 _ v.2.2
      rw [h9, wvM_at (q := 4 + (wnum S (p + 1) 1).toNatClampNeg) (by have := v.2.2; omega) hj.1.symm hj.2.symm (by omega)]
      rfl
  refine pc_ite (fun e => ?_) (fun e6 => ?_)
  · have hD : wD (S p) = 2 := by rw [e]; rfl
    obtain ⟨t1, t2⟩ := T5 (Or.inr (Or.inr e))
    rw [t1] at g15
    rw [t2] at g17
    obtain ⟨a1, a2⟩ := cSt_119 (V := wvM σ) e
    rw [a1, a2, V0]
    have b1 := bd 0 1 (by decide) (by omega)
    rw [show p + 1 + 0 = p + 1 from rfl] at b1
    subst g15 g17
    refine pc_be (mx_isPane bp.1) ?_
    by_cases c1 : 0 ≤ (wnum S (p + 1) 1).toInt ∧ (wnum S (p + 1) 1).toInt < (σ 101 1).toInt
    rotate_left
    · rw [if_neg c1, if_pos rfl, if_pos True.intro]
      exact pc_bz (fun _ => pc_ret ⟨fun h => absurd ⟨b1.1, h.1⟩ c1, fun _ => rfl⟩)
    rw [if_pos c1, if_neg (by decide)]
    refine pc_ite (fun c => ?_) (fun c => ?_)
    · rw [if_pos True.intro]
      exact pc_bz (fun _ => pc_ret ⟨fun h => by have := ti_le c; rw [tz_8] at this; omega, fun _ => rfl⟩)
    · have d1 := ti_nle c
      rw [tz_8] at d1
      rw [if_neg (by decide)]
      refine pc_chk (fun v => pc_lt (fun s9 h9 => pc_bz (fun _ => pc_ret ⟨fun _ => ⟨rfl, fun q' hq => ?_⟩, fun n => absurd ⟨c1.2, by omega⟩ n⟩)))
      have hj := wtJI_103 _ v.2.2
      rw [h9, wvM_at (q := 12 + (wnum S (p + 1) 1).toNatClampNeg) (by have := v.2.2; omega) hj.1.symm hj.2.symm (by omega)]
      unfold aWall
      refine upd_cg rfl ?_
      unfold wvM
      rw [hj.1, hj.2]
  · have e : S p = 100 := by
      rcases wD_cs (S p) with ⟨-, h0, -⟩ | ⟨-, -, -, -, h⟩
      · exact absurd h0 hd.2.1
      · rcases h with h | h | h | h | h | h | h
        · exact h
        · exact absurd h e1
        · exact absurd h e2
        · exact absurd h e3
        · exact absurd h e4
        · exact absurd h e5
        · exact absurd h e6
    have t1 := T1 e
    rw [t1] at g15
    obtain ⟨a1, a2⟩ := cSt_100 (V := wvM σ) e
    rw [a1, a2, V3]
    subst g15
    refine pc_be (mx_in32 (lo := 1) (hi := 60) rfl rfl) ?_
    by_cases c1 : 1 ≤ (wnum S (p + 1) 2).toInt ∧ (wnum S (p + 1) 2).toInt ≤ 60
    rotate_left
    · rw [if_neg c1, if_pos rfl, if_pos True.intro]
      exact pc_bz (fun _ => pc_ret ⟨fun h => absurd ⟨h.1, h.2.1⟩ c1, fun _ => rfl⟩)
    rw [if_pos c1, if_neg (by decide)]
    refine pc_ite (fun c => ?_) (fun c => ?_)
    · rw [if_pos True.intro]
      exact pc_bz (fun _ => pc_ret ⟨fun h => by have := ti_lt c; rw [tz_9999] at this; omega, fun _ => rfl⟩)
    · have d1 := ti_nlt c
      rw [tz_9999] at d1
      rw [if_neg (by decide)]
      exact pc_bnd (mx_goDays hF hv) (fun _ s9 q => pc_bz (fun _ => pc_ret ⟨fun _ => ⟨rfl, q⟩, fun n => absurd ⟨c1.1, c1.2, d1⟩ n⟩))
