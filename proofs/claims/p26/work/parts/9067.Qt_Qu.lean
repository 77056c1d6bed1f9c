section
/-! lots -/
def aNx (z : Int32) : Int32 := z * 1103515245 + 12345
def aDr (z n : Int32) : Int32 := ((z &&& 2147483647) / 65536) - ((z &&& 2147483647) / 65536) / n * n
theorem aDr_b {z n : Int32} (hn : 0 < n.toInt) : 0 ≤ (aDr z n).toInt ∧ (aDr z n).toInt < n.toInt := by
  have a1 := wt_and31 z
  have a2 : ((z &&& 2147483647) / 65536).toInt = (z &&& 2147483647).toInt / 65536 := ti_div a1 (by decide)
  have a3 : 0 ≤ ((z &&& 2147483647) / 65536).toInt := by rw [a2]; exact Int.ediv_nonneg a1 (by decide)
  unfold aDr
  rw [ti_rem]
  exact ⟨Int.tmod_nonneg _ a3, Int.tmod_lt_of_pos _ hn⟩
def aTo (f : Int32) : Nat := if f.toInt ≤ 20 then f.toNatClampNeg + 3 else 23
/-- one lot of looker l: the house and the seed behind it -/
def aL1 (l : Nat) (q : (Nat → Int32) × Int32) : (Nat → Int32) × Int32 := (aStand q.1 l (aDr (aNx q.2) 24).toNatClampNeg (aTo (aDr (aNx q.2) 24)) (aDr (aNx (aNx q.2)) (q.1 0)), aNx (aNx q.2))
def itN {A : Type} (f : A → A) : Nat → A → A
  | 0, q => q
  | k + 1, q => itN f k (f q)
def itL {A : Type} (f : Nat → A → A) : Nat → Nat → A → A
  | 0, _, q => q
  | k + 1, l, q => itL f k (l + 1) (f l q)
theorem itN_0 {A : Type} {f : A → A} {q : A} : itN f 0 q = q := rfl
theorem itN_s {A : Type} {f : A → A} {k : Nat} {q : A} : itN f (k + 1) q = itN f k (f q) := rfl
theorem itL_0 {A : Type} {f : Nat → A → A} {l : Nat} {q : A} : itL f 0 l q = q := rfl
theorem itL_s {A : Type} {f : Nat → A → A} {k l : Nat} {q : A} : itL f (k + 1) l q = itL f k (l + 1) (f l q) := rfl
def aL4 (l k : Nat) (q : (Nat → Int32) × Int32) : (Nat → Int32) × Int32 := itN (aL1 l) k q
def aLf (l : Nat) (q : (Nat → Int32) × Int32) : (Nat → Int32) × Int32 := aL4 l 4 (aStand q.1 l 0 23 9, q.2)
def aLA (k l : Nat) (q : (Nat → Int32) × Int32) : (Nat → Int32) × Int32 := itL aLf k l q
def aYv (V : Nat → Int32) (x3 : Int32) : Int32 := if x3 = 0 then aOwned V 99 8 else if (aRich V 99 (V 1).toNatClampNeg).1 = -9 then 0 else aWealth V (aRich V 99 (V 1).toNatClampNeg).1 99 8
def aLt (x3 : Int32) : Nat → (Nat → Int32) × Int32 → Int32 → Int32
  | 0, _, c => c
  | k + 1, q, c => aLt x3 k (aLA (q.1 1).toNatClampNeg 0 q) (c + aYv (aLA (q.1 1).toNatClampNeg 0 q).1 x3)
def anLots (V : Nat → Int32) (x1 x2 x3 : Int32) : Int32 := cF (cF (cN x1 1 20) (cO x3 2)) (if V 0 = 0 then 0 else aLt x3 x1.toNatClampNeg (V, x2) 0)
theorem aL4_s {l k : Nat} {q : (Nat → Int32) × Int32} : aL4 l (k + 1) q = aL4 l k (aL1 l q) := itN_s
theorem aL4_0 {l : Nat} {q : (Nat → Int32) × Int32} : aL4 l 0 q = q := itN_0
theorem aLA_0 {l : Nat} {q : (Nat → Int32) × Int32} : aLA 0 l q = q := itL_0
theorem aLA_s {l k : Nat} {q : (Nat → Int32) × Int32} : aLA (k + 1) l q = aLA k (l + 1) (aL4 l 4 (aStand q.1 l 0 23 9, q.2)) := itL_s
theorem lt_24 : (24 : Int32).toInt = 24 := rfl
theorem lt_m9 : (-9 : Int32).toInt = -9 := rfl
theorem aTo_b {f : Int32} (h : 0 ≤ f.toInt ∧ f.toInt < 24) : f.toNatClampNeg ≤ aTo f ∧ aTo f < 24 := by
  have n := ti_nat f
  unfold aTo
  by_cases c : f.toInt ≤ 20
  · rw [if_pos c]; omega
  · rw [if_neg c]; omega
theorem ax_draw {F : Nat} {z n : Int32} {σ : Mem} (hn : 0 < n.toInt) : pc (f_X3_drawBelow F z n σ) (fun r s => r = aDr z n ∧ s = σ) := by
  rw [f_X3_drawBelow_e]
  refine pc_ite (fun _ => pc_nz (fun _ => pc_ret ⟨by unfold aDr; rfl, rfl⟩)) (fun c => absurd (Int32.lt_iff_toInt_lt.mpr (by rw [tz_0]; exact hn)) c)
theorem ax_seed {F : Nat} {z : Int32} {σ : Mem} : f_X3_nextSeed F z σ = some (aNx z, σ) := by rw [f_X3_nextSeed_e]; rfl
theorem ax_to {f : Int32} (h : 0 ≤ f.toInt ∧ f.toInt < 24) : (wt_min ((f + 4) - 1) 23).toInt = (aTo f : Int) := by
  have n := ti_nat f
  have e4 : (f + 4).toInt = f.toInt + 4 := by rw [ti_add (by rw [tz_4]; omega) (by rw [tz_4]; omega), tz_4]
  have e1 : ((f + 4) - 1).toInt = f.toInt + 3 := by rw [ti_sub (by rw [tz_1]; omega) (by rw [tz_1]; omega), tz_1, e4]; omega
  unfold wt_min aTo
  by_cases c : (23 : Int32) < (f + 4) - 1
  · have d := ti_lt c
    rw [tz_23, e1] at d
    rw [if_pos c, if_neg (by omega), tz_23]; rfl
  · have d := ti_nlt c
    rw [tz_23, e1] at d
    rw [if_neg c, if_pos (by omega), e1]; omega
/-- the class casts -/
theorem qx_cast {F : Nat} (hF : 1000 ≤ F) {z : Int32} {σ : Mem} {V : Nat → Int32} (a : vH 24 V σ) (hP : 0 < (V 0).toInt) : pc (f_X3_castRosters F z σ) (fun r s => r = (aLA (V 1).toNatClampNeg 0 (V, z)).2 ∧ vH 24 (aLA (V 1).toNatClampNeg 0 (V, z)).1 s ∧ o24 σ s ∧ (aLA (V 1).toNatClampNeg 0 (V, z)).1 0 = V 0 ∧ (aLA (V 1).toNatClampNeg 0 (V, z)).1 1 = V 1) := by
  have h5 := a.1.2.1
  have m1 := ti_nat (V 1)
  have inner : ∀ (k4 : Int32 → Int32 → Mem → Option (Int32 × Mem)) (Q : Int32 → Mem → Prop) (l : Nat) (x3 : Int32), x3.toInt = (l : Int) → (l : Int) < (V 1).toInt → ∀ (N k i : Nat) (q : (Nat → Int32) × Int32) (x4 : Int32) (s : Mem), (∀ s, vH 24 (aL4 l k q).1 s → o24 σ s → (aL4 l k q).1 0 = V 0 → (aL4 l k q).1 1 = V 1 → pc (k4 (aL4 l k q).2 (x3 + 1) s) Q) → x4.toInt = (i : Int) → i + k = 4 → vH 24 q.1 s → o24 σ s → q.1 0 = V 0 → q.1 1 = V 1 → pc (lp_X3_castRosters_32 F k4 x3 N q.2 x4 s) Q := by
    intro k4 Q l x3 hl hl5 N
    induction N with
    | zero => intro k i q x4 s hk h1 h2 v o e0 e1; exact pc_none rfl
    | succ N ih =>
      intro k i q x4 s hk h1 h2 v o e0 e1
      rw [lp_X3_castRosters_32_s]
      refine pc_ite (fun c => ?_) (fun c => ?_)
      · have d := ti_le c
        rw [tz_4] at d
        have k0 : k = 0 := by omega
        subst k0
        rw [aL4_0] at hk
        exact hk s v o e0 e1
      have d := ti_nle c
      rw [tz_4] at d
      obtain ⟨k', rfl⟩ : ∃ k', k = k' + 1 := ⟨k - 1, by omega⟩
      refine pc_be ax_seed (pc_bnd (ax_draw (by rw [lt_24]; decide)) (fun r3 s4 q3 => ?_))
      rw [q3.2, q3.1]
      refine pc_be ax_seed (pc_lt (fun z7 g7 => ?_))
      have b3 := aDr_b (z := aNx q.2) (n := 24) (by rw [lt_24]; decide)
      rw [lt_24] at b3
      have b8 := aDr_b (z := aNx (aNx q.2)) (n := q.1 0) (by rw [e0]; exact hP)
      have eL : aL1 l q = (aStand q.1 l (aDr (aNx q.2) 24).toNatClampNeg (aTo (aDr (aNx q.2) 24)) (aDr (aNx (aNx q.2)) (q.1 0)), aNx (aNx q.2)) := rfl
      rw [vH_0 v]
      refine pc_bnd (ax_draw (by rw [e0]; exact hP)) (fun r8 s9 q8 => ?_)
      rw [q8.2, q8.1]
      clear q3 q8
      generalize aDr (aNx q.2) 24 = fr at g7 b3 eL ⊢
      generalize aDr (aNx (aNx q.2)) (q.1 0) = pw at b8 eL ⊢
      have bt := aTo_b b3
      have e7 : z7.toInt = (aTo fr : Int) := by rw [g7]; exact ax_to b3
      have n3 := ti_nat fr
      refine pc_bnd (qx_post24 hF v ⟨by rw [e1]; omega, by omega, by omega, by omega, Or.inr b8⟩) (fun _ s11 q11 => ?_)
      have w : vH 24 (aL1 l q).1 s11 := by
        have u := q11.1
        rw [tn_int hl, tn_int e7] at u
        rw [eL]
        exact u
      have f0 : (aL1 l q).1 0 = V 0 := by rw [eL]; exact (aStand_0 (by decide)).trans e0
      have f1 : (aL1 l q).1 1 = V 1 := by rw [eL]; exact (aStand_0 (by decide)).trans e1
      have f2 : aNx (aNx q.2) = (aL1 l q).2 := by rw [eL]
      rw [aL4_s] at hk
      rw [f2]
      clear eL f2
      generalize aL1 l q = g at hk w f0 f1 ⊢
      exact ih k' (i + 1) g _ s11 hk (ti_nx h1 (by omega)) (by omega) w (o24_tr o q11.2) f0 f1
  have outer : ∀ (N k l : Nat) (q : (Nat → Int32) × Int32) (x3 : Int32) (s : Mem), x3.toInt = (l : Int) → l + k = (V 1).toNatClampNeg → vH 24 q.1 s → o24 σ s → q.1 0 = V 0 → q.1 1 = V 1 → pc (lp_X3_castRosters_4 F N q.2 x3 s) (fun r s => r = (aLA k l q).2 ∧ vH 24 (aLA k l q).1 s ∧ o24 σ s ∧ (aLA k l q).1 0 = V 0 ∧ (aLA k l q).1 1 = V 1) := by
    intro N
    induction N with
    | zero => intro k l q x3 s h1 h2 v o e0 e1; exact pc_none rfl
    | succ N ih =>
      intro k l q x3 s h1 h2 v o e0 e1
      rw [lp_X3_castRosters_4_s, vH_2 v, e1]
      refine pc_ite (fun c => ?_) (fun c => ?_)
      · have d := ti_le c
        have k0 : k = 0 := by omega
        subst k0
        rw [aLA_0]
        exact pc_ret ⟨rfl, v, o, e0, e1⟩
      have d := ti_nle c
      obtain ⟨k', rfl⟩ : ∃ k', k = k' + 1 := ⟨k - 1, by omega⟩
      rw [aLA_s]
      refine pc_bnd (qx_post24 hF v ⟨by rw [e1]; omega, by rw [tz_0]; omega, by rw [tz_23]; omega, by rw [tz_0, tz_23]; omega, Or.inl tz_9⟩) (fun _ s13 q13 => ?_)
      have w := q13.1
      rw [tn_int h1] at w
      exact inner _ _ l x3 h1 (by omega) F 4 0 (aStand q.1 l 0 23 9, q.2) 0 s13 (fun z vz oz e0z e1z => ih k' (l + 1) (aL4 l 4 (aStand q.1 l 0 23 9, q.2)) _ z (ti_nx h1 (by omega)) (by omega) vz oz e0z e1z) rfl (by omega) w (o24_tr o q13.2) ((aStand_0 (by decide)).trans e0) ((aStand_0 (by decide)).trans e1)
  rw [f_X3_castRosters_e]
  exact outer F _ 0 (V, z) 0 σ rfl (by omega) a o24_rf rfl rfl
theorem qx_lots {F : Nat} (hF : 1000 ≤ F) {x1 x2 x3 : Int32} {σ : Mem} {V : Nat → Int32} (h : vH 1 V σ) : pc (f_X3_lots F x1 x2 x3 σ) (fun r _ => r = anLots V x1 x2 x3) := by
  rw [f_X3_lots_e]
  refine pc_be ax_outside (pc_be ax_notBelow (pc_be ax_firstOf ?_))
  rw [vH_0 h]
  unfold anLots
  refine cq_end (fun e => pc_ite (fun c => pc_ret (by rw [if_pos c])) (fun c => ?_))
  rw [if_neg c]
  have d1 := cN_0 (cF_0 e).1
  rw [tz_1, tz_20] at d1
  have n1 := ti_nat x1
  have hP : 0 < (V 0).toInt := by
    have := ti_ne c
    rw [tz_0] at this
    have := h.1.1
    omega
  refine pc_bnd (qx_take hF h) (fun _ s q => ?_)
  have key : ∀ (N k i : Nat) (p : (Nat → Int32) × Int32) (x6 x7 : Int32) (s : Mem), x7.toInt = (i : Int) → i + k = x1.toNatClampNeg → vH 24 p.1 s → p.1 0 = V 0 → p.1 1 = V 1 → pc (lp_X3_lots_61 F x1 x3 N p.2 x6 x7 s) (fun r _ => r = aLt x3 k p x6) := by
    intro N
    induction N with
    | zero => intro k i p x6 x7 s h1 h2 v e0 e1; exact pc_none rfl
    | succ N ih =>
      intro k i p x6 x7 s h1 h2 v e0 e1
      rw [lp_X3_lots_61_s]
      simp only [j_X3_lots_140_e]
      refine pc_ite (fun c => ?_) (fun c => ?_)
      · have d := ti_le c
        have k0 : k = 0 := by omega
        subst k0
        exact pc_ret rfl
      have d := ti_nle c
      obtain ⟨k', rfl⟩ : ∃ k', k = k' + 1 := ⟨k - 1, by omega⟩
      refine pc_bnd (qx_cast hF v (by rw [e0]; exact hP)) (fun r1 s2 q2 => ?_)
      rw [show (p.1, p.2) = p from rfl] at q2
      have es : aLt x3 (k' + 1) p x6 = aLt x3 k' (aLA (p.1 1).toNatClampNeg 0 p) (x6 + aYv (aLA (p.1 1).toNatClampNeg 0 p).1 x3) := rfl
      rw [es]
      generalize aLA (p.1 1).toNatClampNeg 0 p = g at q2 ⊢
      obtain ⟨u1, u2, u3, u4, u5⟩ := q2
      rw [u1]
      refine pc_bnd (qx_reckH u2) (fun _ s4 q4 => pc_bnd (qx_wealthiest q4.1) (fun r5 s6 q6 => ?_))
      rw [q6.2]
      have r5e := q6.1
      have n7 := ti_nx h1 (by omega)
      refine pc_ite (fun c0 => ?_) (fun c0 => ?_)
      · refine pc_bnd (qx_heldN q4.1) (fun r9 s10 q10 => ?_)
        rw [q10.2, q10.1]
        refine pc_be aPop_f ?_
        have ev : aPop (255 - aBits g.1 (-9) 99 8) = aYv g.1 x3 := by
          unfold aYv
          rw [if_pos c0]
          exact aPop_b _
        rw [ev]
        exact ih k' (i + 1) g _ _ s4 n7 (by omega) q4.1.1 (u4.trans e0) (u5.trans e1)
      · refine pc_ite (fun c9 => ?_) (fun c9 => ?_)
        · have ev : aYv g.1 x3 = 0 := by
            unfold aYv
            rw [if_neg c0, ← r5e, if_pos c9]
          rw [ev, Int32.add_zero]
          exact ih k' (i + 1) g _ _ s4 n7 (by omega) q4.1.1 (u4.trans e0) (u5.trans e1)
        · refine pc_bnd (qx_wealth q4.1) (fun r7 s8 q8 => ?_)
          have ev : aYv g.1 x3 = aWealth g.1 r5 99 8 := by
            unfold aYv
            rw [if_neg c0, ← r5e, if_neg c9]
          rw [q8.2, q8.1, ev]
          exact ih k' (i + 1) g _ _ s4 n7 (by omega) q4.1.1 (u4.trans e0) (u5.trans e1)
  exact key F x1.toNatClampNeg 0 (V, x2) 0 0 s rfl (by omega) q.1 rfl rfl
/-- ones of eight bits -/
def pc8 (k : Nat) : Nat := k % 2 + k / 2 % 2 + k / 4 % 2 + k / 8 % 2 + k / 16 % 2 + k / 32 % 2 + k / 64 % 2 + k / 128 % 2
theorem st_256 : ∀ k, k < 256 → k ≠ 0 → (Int32.ofNat k &&& (Int32.ofNat k - 1)) = Int32.ofNat (Nat.land k (k - 1)) ∧ Nat.land k (k - 1) < 256 ∧ pc8 k = pc8 (Nat.land k (k - 1)) + 1 ∧ ¬ Int32.ofNat k = 0 := by decide +kernel
theorem qm_onesK {F : Nat} {σ : Mem} : ∀ (N k : Nat) (c x : Int32), k < 256 → x = Int32.ofNat k → pc (lp_X4_onesOf_4 F N c x σ) (fun r z => r = c + Int32.ofNat (pc8 k) ∧ z = σ) := by
  intro N
  induction N with
  | zero => intro k c x hk hx; exact pc_none rfl
  | succ N ih =>
    intro k c x hk hx
    rw [lp_X4_onesOf_4_s]
    by_cases k0 : k = 0
    · subst k0
      refine pc_ite (fun e => pc_ret ⟨(Int32.add_zero c).symm, rfl⟩) (fun e => absurd hx e)
    obtain ⟨s1, s2, s3, s4⟩ := st_256 k hk k0
    refine pc_ite (fun e => absurd (hx.symm.trans e) s4) (fun e => pc_lt (fun z1 hz => ?_))
    refine pc_mono (ih (Nat.land k (k - 1)) (c + 1) z1 s2 (by rw [hz, hx]; exact s1)) (fun r z q => ⟨?_, q.2⟩)
    rw [q.1, s3, Int32.ofNat_add, Int32.add_assoc, Int32.add_comm 1]
    try rfl
def kB (b0 b1 b2 b3 b4 b5 b6 b7 : Bool) : Nat := b0.toNat + 2 * b1.toNat + 4 * b2.toNat + 8 * b3.toNat + 16 * b4.toNat + 32 * b5.toNat + 64 * b6.toNat + 128 * b7.toNat
theorem orB_kB : ∀ b0 b1 b2 b3 b4 b5 b6 b7 : Bool, orB (fB b0 b1 b2 b3 b4 b5 b6 b7) 8 = Int32.ofNat (kB b0 b1 b2 b3 b4 b5 b6 b7) ∧ kB b0 b1 b2 b3 b4 b5 b6 b7 < 256 ∧ 8 - Int32.ofNat (pc8 (kB b0 b1 b2 b3 b4 b5 b6 b7)) = cntB (fB b0 b1 b2 b3 b4 b5 b6 b7) 8 := by decide +kernel
theorem qm_ones {F : Nat} {σ : Mem} (b : Nat → Bool) : pc (f_X4_onesOf F (orB b 8) σ) (fun r z => 8 - r = cntB b 8 ∧ z = σ) := by
  obtain ⟨w1, w2, w3⟩ := orB_kB (b 0) (b 1) (b 2) (b 3) (b 4) (b 5) (b 6) (b 7)
  rw [← orB_cg 8 (fB_of b)] at w1
  rw [← cntB_cg 8 (fB_of b)] at w3
  rw [f_X4_onesOf_e]
  refine pc_mono (qm_onesK F _ 0 (orB b 8) w2 w1) (fun r z q => ⟨?_, q.2⟩)
  rw [q.1, Int32.zero_add]
  exact w3
/-- the reference -/
theorem mx_draw {F : Nat} {n z : Int32} {σ : Mem} (hz : σ 101 35 = z) : pc (f_X4_drawBelow F n σ) (fun r s => r = aDr (aNx z) n ∧ s 101 35 = aNx z ∧ ∀ k i, ¬ (k = 101 ∧ i = 35) → s k i = σ k i) := by
  rw [f_X4_drawBelow_e]
  refine pc_lt (fun s1 g1 => pc_nz (fun _ => pc_ret ⟨?_, ?_, fun k i hn => ?_⟩))
  · rw [g1, up2_s, hz]; unfold aDr aNx; rfl
  · rw [g1, up2_s, hz]; unfold aNx; rfl
  · rw [g1]
    by_cases c : k = 101
    · subst c; exact up2_i (fun e => hn ⟨rfl, e⟩)
    · rw [up2_k c]
theorem vM_35 {V : Nat → Int32} {s z : Mem} (h : vM V s) (e : ∀ k i, ¬ (k = 101 ∧ i = 35) → z k i = s k i) : vM V z := ⟨h.1, fun p hp => by
  have hc := wvM_cid hp
  unfold wvM
  rw [e _ _ (fun q => by rw [q.1, q.2] at hc; exact absurd hc (by decide))]
  exact h.2 p hp⟩
theorem qm_cast {F : Nat} {V : Nat → Int32} (hv : wvV V) (hP : 0 < (V 0).toInt) {k46 : Int32 → Int32 → Mem → Option (Int32 × Mem)} {Q : Int32 → Mem → Prop} {x1 x3 x5 x6 : Int32} : ∀ (N k l : Nat) (q : (Nat → Int32) × Int32) (x7 : Int32) (s : Mem), (∀ z, vM (aLA k l q).1 z → z 101 35 = (aLA k l q).2 → (aLA k l q).1 0 = V 0 → (aLA k l q).1 1 = V 1 → pc (wt_bnd (f_X4_layBrings F z) fun _ s8 => wt_bnd (f_X4_richestIn F 99 s8) fun r9 s10 => if x3 = 0 then (wt_bnd (f_X4_viewsIn F (-9) 99 s10) fun r13 s14 => wt_bnd (f_X4_onesOf F r13 s14) fun r15 s16 => j_X4_lots_195 F k46 x1 x3 x6 x5 (8 - r15) s16) else (if 0 ≤ r9 then (wt_bnd (f_X4_worthIn F r9 99 s10) fun r11 s12 => j_X4_lots_195 F k46 x1 x3 x6 x5 r11 s12) else j_X4_lots_195 F k46 x1 x3 x6 x5 0 s10)) Q) → x7.toInt = (l : Int) → l + k = (V 1).toNatClampNeg → vM q.1 s → s 101 35 = q.2 → q.1 0 = V 0 → q.1 1 = V 1 → pc (lp_X4_lots_62 F k46 x1 x3 x5 x6 N x7 s) Q := by
  have h5 := hv.2.1
  have h6 := hv.1.2
  have m1 := ti_nat (V 1)
  have inner : ∀ (k62 : Int32 → Mem → Option (Int32 × Mem)) (l : Nat) (x7 : Int32), x7.toInt = (l : Int) → (l : Int) < (V 1).toInt → ∀ (N k i : Nat) (q : (Nat → Int32) × Int32) (x8 : Int32) (s : Mem), (∀ z, vM (aL4 l k q).1 z → z 101 35 = (aL4 l k q).2 → (aL4 l k q).1 0 = V 0 → (aL4 l k q).1 1 = V 1 → pc (k62 (x7 + 1) z) Q) → x8.toInt = (i : Int) → i + k = 4 → vM q.1 s → s 101 35 = q.2 → q.1 0 = V 0 → q.1 1 = V 1 → pc (lp_X4_lots_85 F k46 k62 x1 x3 x5 x6 x7 N x8 s) Q := by
    intro k62 l x7 hl hl5 N
    induction N with
    | zero => intro k i q x8 s hk h1 h2 v z e0 e1; exact pc_none rfl
    | succ N ih =>
      intro k i q x8 s hk h1 h2 v z e0 e1
      rw [lp_X4_lots_85_s]
      simp only [j_X4_lots_120_e]
      refine pc_ite (fun c => ?_) (fun c => ?_)
      · have d := ti_le c
        rw [tz_4] at d
        have k0 : k = 0 := by omega
        subst k0
        rw [aL4_0] at hk
        exact hk s v z e0 e1
      have d := ti_nle c
      rw [tz_4] at d
      obtain ⟨k', rfl⟩ : ∃ k', k = k' + 1 := ⟨k - 1, by omega⟩
      refine pc_bnd (mx_draw z) (fun r5 s6 q5 => ?_)
      obtain ⟨a1, a2, a3⟩ := q5
      have v6 := vM_35 v a3
      have b3 := aDr_b (z := aNx q.2) (n := 24) (by rw [lt_24]; decide)
      rw [lt_24] at b3
      have b8 := aDr_b (z := aNx (aNx q.2)) (n := q.1 0) (by rw [e0]; exact hP)
      have eL : aL1 l q = (aStand q.1 l (aDr (aNx q.2) 24).toNatClampNeg (aTo (aDr (aNx q.2) 24)) (aDr (aNx (aNx q.2)) (q.1 0)), aNx (aNx q.2)) := rfl
      rw [a1]
      clear a1
      generalize aDr (aNx q.2) 24 = fr at b3 eL ⊢
      have bt := aTo_b b3
      have n3 := ti_nat fr
      have go : ∀ to : Int32, to.toInt = (aTo fr : Int) → pc (wt_bnd (f_X4_drawBelow F (s6 101 1) s6) fun r1 s2 => wt_bnd (f_X4_stand F x7 fr to r1 s2) fun r3 s4 => lp_X4_lots_85 F k46 k62 x1 x3 x5 x6 x7 N (x8 + 1) s4) Q := fun to ht => by
        rw [vM_P v6]
        refine pc_bnd (mx_draw a2) (fun r1 s2 q2 => ?_)
        obtain ⟨c1, c2, c3⟩ := q2
        have v2 := vM_35 v6 c3
        rw [c1]
        clear c1
        generalize aDr (aNx (aNx q.2)) (q.1 0) = pw at b8 eL ⊢
        refine pc_bnd (vM_stand v2 (Or.inr b8) hl (by omega) (a := fr.toNatClampNeg) (by omega) ht (by omega) bt.2) (fun _ s4 q4 => ?_)
        have f0 : (aL1 l q).1 0 = V 0 := by rw [eL]; exact (aStand_0 (by decide)).trans e0
        have f1 : (aL1 l q).1 1 = V 1 := by rw [eL]; exact (aStand_0 (by decide)).trans e1
        have f2 : s4 101 35 = (aL1 l q).2 := by rw [eL, q4.2 101 (by decide)]; exact c2
        have w : vM (aL1 l q).1 s4 := by rw [eL]; exact q4.1
        rw [aL4_s] at hk
        clear eL
        generalize aL1 l q = g at hk w f0 f1 f2 ⊢
        exact ih k' (i + 1) g _ s4 hk (ti_nx h1 (by omega)) (by omega) w f2 f0 f1
      refine pc_ite (fun c2 => go _ ?_) (fun c2 => go _ ?_)
      · have d2 := ti_le c2
        rw [tz_20] at d2
        rw [ti_add (by rw [tz_3]; omega) (by rw [tz_3]; omega), tz_3]
        unfold aTo
        rw [if_pos d2]
        omega
      · have d2 := ti_nle c2
        rw [tz_20] at d2
        unfold aTo
        rw [if_neg (by omega)]
        rfl
  intro N
  induction N with
  | zero => intro k l q x7 s hk h1 h2 v z e0 e1; exact pc_none rfl
  | succ N ih =>
    intro k l q x7 s hk h1 h2 v z e0 e1
    rw [lp_X4_lots_62_s, vM_L v, e1]
    refine pc_ite (fun c => ?_) (fun c => ?_)
    · have d := ti_le c
      have k0 : k = 0 := by omega
      subst k0
      rw [aLA_0] at hk
      exact hk s v z e0 e1
    have d := ti_nle c
    obtain ⟨k', rfl⟩ : ∃ k', k = k' + 1 := ⟨k - 1, by omega⟩
    rw [aLA_s] at hk
    refine pc_bnd (vM_stand v (x4 := 9) (Or.inl rfl) h1 (by omega) (a := 0) (b := 23) rfl rfl (by omega) (by omega)) (fun _ s18 q18 => ?_)
    exact inner _ l x7 h1 (by omega) F 4 0 (aStand q.1 l 0 23 9, q.2) 0 s18 (fun y vy zy e0y e1y => ih k' (l + 1) (aL4 l 4 (aStand q.1 l 0 23 9, q.2)) _ y hk (ti_nx h1 (by omega)) (by omega) vy zy e0y e1y) rfl (by omega) q18.1 (by rw [q18.2 101 (by decide)]; exact z) ((aStand_0 (by decide)).trans e0) ((aStand_0 (by decide)).trans e1)
theorem t99 : 0 ≤ (99 : Int32).toInt ∧ (99 : Int32).toInt ≤ 9999 := by decide
theorem qm_lots {F : Nat} (hF : 1000 ≤ F) {x1 x2 x3 : Int32} {s : Mem} {V : Nat → Int32} (h : vM V s) : pc (f_X4_lots F x1 x2 x3 s) (fun r _ => r = anLots V x1 x2 x3) := by
  have h6 := h.1.1
  rw [f_X4_lots_e]
  refine pc_lt (fun s5 g5 => ?_)
  have h' : vM V s5 := vM_up h g5
  clear g5
  refine pc_be mx_wrongN (pc_be mx_wrongBit ?_)
  unfold anLots
  refine mq_end (sg_cF sg_cN sg_cO) (fun e => pc_lt (fun s26 g26 => ?_))
  have d1 := cN_0 (cF_0 e).1
  rw [tz_1, tz_20] at d1
  have n1 := ti_nat x1
  have v26 : vM V s26 := ⟨h'.1, fun p hp => by rw [g26, wvM_no (by omega) (by omega) hp]; exact h'.2 p hp⟩
  have z26 : s26 101 35 = x2 := by rw [g26, up2_s]
  clear g26
  refine pc_bnd (vM_think hF v26) (fun _ s28 q28 => ?_)
  have v28 := q28.1
  have z28 : s28 101 35 = x2 := q28.2.2.2.trans z26
  have fin : ∀ (x5 : Int32) (z : Mem), pc (j_X4_lots_204 F x5 z) (fun r _ => r = x5) := fun x5 z => by
    rw [j_X4_lots_204_e]
    exact pc_bnd pc_true (fun _ _ _ => pc_ret rfl)
  by_cases c : V 0 = 0
  · rw [if_pos c]
    have lp0 : ∀ N, pc (lp_X4_lots_46 F x1 x3 N 0 0 s28) (fun r _ => r = 0) := fun N => by
      cases N with
      | zero => exact pc_none rfl
      | succ N =>
        rw [lp_X4_lots_46_s, vM_P v28, c]
        exact pc_ite (fun _ => fin _ _) (fun _ => pc_ite (fun _ => fin _ _) (fun n => absurd (by decide) n))
    exact lp0 F
  rw [if_neg c]
  have hP : 0 < (V 0).toInt := by
    have := ti_ne c
    rw [tz_0] at this
    omega
  have key : ∀ (N k i : Nat) (p : (Nat → Int32) × Int32) (x5 x6 : Int32) (s : Mem), x6.toInt = (i : Int) → i + k = x1.toNatClampNeg → vM p.1 s → s 101 35 = p.2 → p.1 0 = V 0 → p.1 1 = V 1 → pc (lp_X4_lots_46 F x1 x3 N x5 x6 s) (fun r _ => r = aLt x3 k p x5) := by
    intro N
    induction N with
    | zero => intro k i p x5 x6 s h1 h2 v z e0 e1; exact pc_none rfl
    | succ N ih =>
      intro k i p x5 x6 s h1 h2 v z e0 e1
      rw [lp_X4_lots_46_s, vM_P v, e0]
      refine pc_ite (fun c => ?_) (fun c => pc_ite (fun c2 => absurd (ti_le c2) (by rw [tz_0]; omega)) (fun _ => ?_))
      · have d := ti_le c
        have k0 : k = 0 := by omega
        subst k0
        exact fin _ _
      have d := ti_nle c
      obtain ⟨k', rfl⟩ : ∃ k', k = k' + 1 := ⟨k - 1, by omega⟩
      have es : aLt x3 (k' + 1) p x5 = aLt x3 k' (aLA (p.1 1).toNatClampNeg 0 p) (x5 + aYv (aLA (p.1 1).toNatClampNeg 0 p).1 x3) := rfl
      rw [es]
      refine qm_cast h.1 hP F (p.1 1).toNatClampNeg 0 p 0 s (fun y vy zy e0y e1y => ?_) rfl (by rw [e1]; omega) v z e0 e1
      generalize aLA (p.1 1).toNatClampNeg 0 p = g at vy zy e0y e1y ⊢
      simp only [j_X4_lots_195_e]
      have n6 := ti_nx h1 (by omega)
      refine pc_bnd (pc_and (qm_lay vy) (pc_pf (fr_X4_layBrings hF))) (fun _ s8 q8 => ?_)
      obtain ⟨q8, f8⟩ := q8
      have z8 : s8 101 35 = g.2 := (f8 101 35 (by rw [show wcid 101 35 = 1035 from rfl]; show ¬ _; unfold wf_46; omega)).trans zy
      refine pc_bnd (pc_and (qm_richestIn t99 q8) (pc_pf (fr_X4_richestIn hF))) (fun r9 s10 q10 => ?_)
      obtain ⟨q10, f10⟩ := q10
      have z10 : s10 101 35 = g.2 := (f10 101 35 (by rw [show wcid 101 35 = 1035 from rfl]; show ¬ _; unfold wf_47; omega)).trans z8
      have rb := aRich_b vy.1 (n := 99) (g.1 1).toNatClampNeg (by have := vy.1.2.1; have := ti_nat (g.1 1); omega)
      refine pc_ite (fun c0 => ?_) (fun c0 => ?_)
      · refine pc_bnd (pc_and (qm_viewsIn t99 q10.2) (pc_pf (fr_X4_viewsIn hF))) (fun r13 s14 q14 => ?_)
        obtain ⟨q14, f14⟩ := q14
        rw [q14.1]
        refine pc_bnd (qm_ones _) (fun r15 s16 q16 => ?_)
        rw [q16.2, q16.1]
        have ev : aYv g.1 x3 = cntB (fun v => decide (aHold g.1 99 v = -9)) 8 := by
          unfold aYv
          rw [if_pos c0]
          rfl
        rw [ev]
        exact ih k' (i + 1) g _ _ s14 n6 (by omega) q14.2.1 ((f14 101 35 (by rw [show wcid 101 35 = 1035 from rfl]; show ¬ _; unfold wf_47; omega)).trans z10) e0y e1y
      · rcases rb with ⟨-, er⟩ | ⟨-, b, hb, er⟩
        · have e9 : r9 = -9 := by rw [q10.1, er]
          have ev : aYv g.1 x3 = 0 := by
            unfold aYv
            rw [if_neg c0, er, if_pos rfl]
          rw [ev, e9]
          refine pc_ite (fun w => absurd w (by decide)) (fun _ => ?_)
          exact ih k' (i + 1) g _ _ s10 n6 (by omega) q10.2.1 z10 e0y e1y
        · have b5 : b < 5 := by have := vy.1.2.1; have := ti_nat (g.1 1); omega
          have e9 : r9 = Int32.ofNat b := by rw [q10.1, er]
          have eb := io_nat b (by omega)
          have ev : aYv g.1 x3 = aWealth g.1 (Int32.ofNat b) 99 8 := by
            unfold aYv
            rw [if_neg c0, er]
            exact if_neg (fun q => by
              have u := congrArg Int32.toInt q
              rw [eb, lt_m9] at u
              omega)
          rw [ev, e9]
          refine pc_ite (fun _ => ?_) (fun w => absurd (Int32.le_iff_toInt_le.mpr (by rw [tz_0]; omega)) w)
          refine pc_bnd (pc_and (qm_worthIn t99 q10.2) (pc_pf (fr_X4_worthIn hF))) (fun r11 s12 q12 => ?_)
          obtain ⟨q12, f12⟩ := q12
          rw [q12.1]
          exact ih k' (i + 1) g _ _ s12 n6 (by omega) q12.2.1 ((f12 101 35 (by rw [show wcid 101 35 = 1035 from rfl]; show ¬ _; unfold wf_47; omega)).trans z10) e0y e1y
  exact key F x1.toNatClampNeg 0 (V, x2) 0 0 s28 rfl (by omega) v28 z28 rfl rfl
end
section
/-! cover -/
def aUn (V : Nat → Int32) (k : Nat) : Nat → Int32
  | 0 => 0
  | i + 1 => aUn V k i ||| (if (Int32.ofNat k >>> (Int32.ofNat i &&& 31)) &&& (1 : Int32) = 1 then V (12 + i) else 0)
theorem aUn_t {V : Nat → Int32} {k i : Nat} (e : (Int32.ofNat k >>> (Int32.ofNat i &&& 31)) &&& (1 : Int32) = 1) : aUn V k (i + 1) = aUn V k i ||| V (12 + i) := by
  show aUn V k i ||| (if (Int32.ofNat k >>> (Int32.ofNat i &&& 31)) &&& (1 : Int32) = 1 then V (12 + i) else 0) = _
  rw [if_pos e]
theorem aUn_f {V : Nat → Int32} {k i : Nat} (e : ¬ (Int32.ofNat k >>> (Int32.ofNat i &&& 31)) &&& (1 : Int32) = 1) : aUn V k (i + 1) = aUn V k i := by
  show aUn V k i ||| (if (Int32.ofNat k >>> (Int32.ofNat i &&& 31)) &&& (1 : Int32) = 1 then V (12 + i) else 0) = _
  rw [if_neg e, Int32.or_zero]
def aCn (k : Nat) : Int32 := aPop (Int32.ofNat k)
def aCu (V : Nat → Int32) (P : Nat) : Nat → Nat
  | 0 => 2 ^ P - 1
  | k + 1 => if aCn k < aCn (aCu V P k) ∧ aUn V k P = aAll V P then k else aCu V P k
theorem aUn_full {V : Nat → Int32} {P : Nat} (hP : P ≤ 6) : ∀ i, i ≤ P → aUn V (2 ^ P - 1) i = aAll V i := fun i => by
  have bit : ∀ P, P ≤ 6 → ∀ i, i < P → (Int32.ofNat (2 ^ P - 1) >>> (Int32.ofNat i &&& 31)) &&& (1 : Int32) = 1 := by decide +kernel
  induction i with
  | zero => intro _; rfl
  | succ i ih =>
    intro hi
    rw [aUn_t (bit P hP i (by omega)), ih (by omega)]
    rfl
theorem two_P : ∀ P, P ≤ 6 → 1 ≤ 2 ^ P ∧ 2 ^ P ≤ 64 := by decide +kernel
theorem cn_full : ∀ P, P ≤ 6 → ∀ j, j < 2 ^ P - 1 → aCn j < aCn (2 ^ P - 1) := by decide +kernel
/-- of those from lo on that show all: the fewest, the least -/
def aBst (V : Nat → Int32) (P lo b : Nat) : Prop := b < 2 ^ P ∧ aUn V b P = aAll V P ∧ ∀ j, lo ≤ j → j < 2 ^ P → aUn V j P = aAll V P → (aCn b).toInt ≤ (aCn j).toInt ∧ ((aCn b).toInt = (aCn j).toInt → b ≤ j)
theorem aBst_u {V : Nat → Int32} {P a b : Nat} (ha : aBst V P 0 a) (hb : aBst V P 0 b) : a = b := by
  have w1 := ha.2.2 b (by omega) hb.1 hb.2.1
  have w2 := hb.2.2 a (by omega) ha.1 ha.2.1
  have e1 := w1.2 (by omega)
  have e2 := w2.2 (by omega)
  omega
theorem aCu_inv {V : Nat → Int32} {P : Nat} (hP : P ≤ 6) : ∀ k, k ≤ 2 ^ P → (aCu V P k = 2 ^ P - 1 ∧ ∀ j, j < k → j < 2 ^ P - 1 → ¬ aUn V j P = aAll V P) ∨ (aCu V P k < k ∧ aUn V (aCu V P k) P = aAll V P ∧ ∀ j, j < k → aUn V j P = aAll V P → (aCn (aCu V P k)).toInt ≤ (aCn j).toInt ∧ ((aCn (aCu V P k)).toInt = (aCn j).toInt → aCu V P k ≤ j)) := fun k => by
  induction k with
  | zero => intro _; exact Or.inl ⟨rfl, fun j hj => absurd hj (Nat.not_lt_zero j)⟩
  | succ k ih =>
    intro hk
    have hs : aCu V P (k + 1) = if aCn k < aCn (aCu V P k) ∧ aUn V k P = aAll V P then k else aCu V P k := rfl
    by_cases c : aCn k < aCn (aCu V P k) ∧ aUn V k P = aAll V P
    · rw [hs, if_pos c]
      have d := ti_lt c.1
      refine Or.inr ⟨by omega, c.2, fun j hj e => ?_⟩
      by_cases z : j = k
      · rw [z]; exact ⟨Int.le_refl _, fun _ => Nat.le_refl _⟩
      rcases ih (by omega) with w | w
      · by_cases f : j < 2 ^ P - 1
        · exact absurd e (w.2 j (by omega) f)
        · omega
      · have u := w.2.2 j (by omega) e
        exact ⟨by omega, fun q => by omega⟩
    · rw [hs, if_neg c]
      rcases ih (by omega) with w | w
      · refine Or.inl ⟨w.1, fun j hj f => ?_⟩
        by_cases z : j = k
        · subst z
          intro e
          exact c ⟨by rw [w.1]; exact cn_full P hP j f, e⟩
        · exact w.2 j (by omega) f
      · refine Or.inr ⟨by omega, w.2.1, fun j hj e => ?_⟩
        by_cases z : j = k
        · subst z
          have l : ¬ aCn j < aCn (aCu V P j) := fun l => c ⟨l, e⟩
          exact ⟨ti_nlt l, fun _ => by omega⟩
        · exact w.2.2 j (by omega) e
theorem aCu_best {V : Nat → Int32} {P : Nat} (hP : P ≤ 6) : aBst V P 0 (aCu V P (2 ^ P)) := by
  have h2 := two_P P hP
  rcases aCu_inv (V := V) hP (2 ^ P) (Nat.le_refl _) with w | w
  · rw [w.1]
    refine ⟨by omega, aUn_full hP P (Nat.le_refl _), fun j _ hj e => ?_⟩
    by_cases f : j < 2 ^ P - 1
    · exact absurd e (w.2 j hj f)
    · rw [show j = 2 ^ P - 1 by omega]; exact ⟨Int.le_refl _, fun _ => Nat.le_refl _⟩
  · exact ⟨w.1, w.2.1, fun j _ hj e => w.2.2 j hj e⟩
theorem aCu_lt {V : Nat → Int32} {P : Nat} (hP : P ≤ 6) (k : Nat) (hk : k ≤ 2 ^ P) : aCu V P k < 64 := by
  have h2 := two_P P hP
  rcases aCu_inv (V := V) hP k hk with w | w <;> omega
theorem io_64 : ∀ k, k < 65 → (Int32.ofNat k).toInt = (k : Int) := by decide +kernel
theorem sh_P : ∀ P, P ≤ 6 → ((1 : Int32) <<< (Int32.ofNat P &&& 31)) = Int32.ofNat (2 ^ P) ∧ Int32.ofNat (2 ^ P) - 1 = Int32.ofNat (2 ^ P - 1) := by decide +kernel
theorem io_eq64 {x : Int32} {n : Nat} (h : x.toInt = (n : Int)) (hn : n < 65) : x = Int32.ofNat n := Int32.toInt_inj.mp (by rw [h, io_64 n hn])
theorem io_P {V : Nat → Int32} (h : wvV V) : V 0 = Int32.ofNat (V 0).toNatClampNeg := io_eq (by have := h.1; have := ti_nat (V 0); omega) (by have := h.1; have := ti_nat (V 0); omega)
def anCover (V : Nat → Int32) : Int32 := Int32.ofNat (aCu V (V 0).toNatClampNeg (2 ^ (V 0).toNatClampNeg))
theorem qx_shownBy {F : Nat} {x1 : Int32} {k : Nat} {σ : Mem} {V : Nat → Int32} (a : vH 1 V σ) (h1 : x1 = Int32.ofNat k) : pc (f_X0_shownBy F 1 x1 σ) (fun r s => r = aUn V k (V 0).toNatClampNeg ∧ s = σ) := by
  have h6 := a.1.1
  have m0 := ti_nat (V 0)
  have key : ∀ (N i : Nat) (x2 x3 : Int32), x3.toInt = (i : Int) → i ≤ (V 0).toNatClampNeg → x2 = aUn V k i → pc (lp_X0_shownBy_4 F 1 x1 N x2 x3 σ) (fun r s => r = aUn V k (V 0).toNatClampNeg ∧ s = σ) := by
    intro N
    induction N with
    | zero => intro i x2 x3 h2 h3 h4; exact pc_none rfl
    | succ N ih =>
      intro i x2 x3 h2 h3 h4
      rw [lp_X0_shownBy_4_s, vH_0 a]
      simp only [j_X0_shownBy_30_e]
      refine pc_ite (fun c => ?_) (fun c => ?_)
      · have d := ti_le c
        exact pc_ret ⟨by rw [h4, show i = (V 0).toNatClampNeg by omega], rfl⟩
      have d := ti_nle c
      have e3 := io_eq h2 (by omega)
      refine pc_ite (fun b => pc_chk (fun _ => pc_lt (fun z2 g2 => ?_))) (fun b => ?_)
      · rw [h1, e3] at b
        refine ih (i + 1) _ _ (ti_nx h2 (by omega)) (by omega) ?_
        rw [g2, aUn_t b, h4, tn_int h2, vH_1 a (by omega)]
      · rw [h1, e3] at b
        refine ih (i + 1) _ _ (ti_nx h2 (by omega)) (by omega) ?_
        rw [aUn_f b]; exact h4
  rw [f_X0_shownBy_e]
  exact key F 0 0 0 rfl (by omega) rfl
theorem qx_cover {F : Nat} {σ : Mem} {V : Nat → Int32} (h : vH 1 V σ) : pc (f_X3_cover F σ) (fun r _ => r = anCover V) := by
  have h6 := h.1.1
  have m0 := ti_nat (V 0)
  have hP : (V 0).toNatClampNeg ≤ 6 := by omega
  have h2 := two_P _ hP
  have eP := io_P h.1
  obtain ⟨e1, e2⟩ := sh_P _ hP
  rw [← eP] at e1
  rw [f_X3_cover_e]
  refine pc_bnd (ax_allShown h) (fun r7 s8 q8 => ?_)
  rw [q8.2, q8.1, vH_0 h]
  refine pc_lt (fun z9 g9 => ?_)
  rw [e1, e2] at g9
  rw [g9]
  have key : ∀ (N k : Nat) (x3 : Int32), x3.toInt = (k : Int) → k ≤ 2 ^ (V 0).toNatClampNeg → pc (lp_X3_cover_22 F (aAll V (V 0).toNatClampNeg) N (Int32.ofNat (aCu V (V 0).toNatClampNeg k)) x3 σ) (fun r _ => r = anCover V) := by
    intro N
    induction N with
    | zero => intro k x3 h1 h3; exact pc_none rfl
    | succ N ih =>
      intro k x3 h1 h3
      rw [lp_X3_cover_22_s, vH_0 h, e1]
      simp only [j_X3_cover_60_e]
      have i2 := io_64 (2 ^ (V 0).toNatClampNeg) (by omega)
      refine pc_ite (fun c => ?_) (fun c => ?_)
      · have d := ti_le c
        exact pc_ret (by rw [show k = 2 ^ (V 0).toNatClampNeg by omega]; rfl)
      have d := ti_nle c
      have e3 := io_eq64 h1 (by omega)
      have hs : aCu V (V 0).toNatClampNeg (k + 1) = if aCn k < aCn (aCu V (V 0).toNatClampNeg k) ∧ aUn V k (V 0).toNatClampNeg = aAll V (V 0).toNatClampNeg then k else aCu V (V 0).toNatClampNeg k := rfl
      have n3 := ti_nx h1 (by omega)
      refine pc_be aPop_f (pc_be aPop_f ?_)
      rw [show aPop x3 = aCn k by rw [e3]; rfl, show aPop (Int32.ofNat (aCu V (V 0).toNatClampNeg k)) = aCn (aCu V (V 0).toNatClampNeg k) from rfl]
      have keep : ¬ (aCn k < aCn (aCu V (V 0).toNatClampNeg k) ∧ aUn V k (V 0).toNatClampNeg = aAll V (V 0).toNatClampNeg) → pc (lp_X3_cover_22 F (aAll V (V 0).toNatClampNeg) N (Int32.ofNat (aCu V (V 0).toNatClampNeg k)) (x3 + 1) σ) (fun r _ => r = anCover V) := fun w => by
        have u := ih (k + 1) _ n3 (by omega)
        rw [hs, if_neg w] at u
        exact u
      refine pc_ite (fun c1 => keep (fun w => by have := ti_le c1; have := ti_lt w.1; omega)) (fun c1 => ?_)
      refine pc_bnd (qx_shownBy h e3) (fun r5 s6 q6 => ?_)
      rw [q6.2, q6.1]
      refine pc_ite (fun c2 => ?_) (fun c2 => keep (fun w => c2 w.2))
      have u := ih (k + 1) _ n3 (by omega)
      rw [hs, if_pos ⟨Int32.lt_iff_toInt_lt.mpr (ti_nle c1), c2⟩, ← e3] at u
      exact u
  exact key F 0 0 rfl (by omega)
theorem cn_64 : ∀ k, k < 64 → Int32.ofNat (pc8 k) = aCn k := by decide +kernel
theorem qm_ones64 {F : Nat} {σ : Mem} {x : Int32} {k : Nat} (h : x = Int32.ofNat k) (hk : k < 64) : pc (f_X4_onesOf F x σ) (fun r z => r = aCn k ∧ z = σ) := by
  rw [f_X4_onesOf_e]
  refine pc_mono (qm_onesK F k 0 x (by omega) h) (fun r z q => ⟨?_, q.2⟩)
  rw [q.1, Int32.zero_add]
  exact cn_64 k hk
theorem qm_cover {F : Nat} {s : Mem} {V : Nat → Int32} (h : vM V s) : pc (f_X4_cover F s) (fun r _ => r = anCover V) := by
  have h6 := h.1.1
  have m0 := ti_nat (V 0)
  have hP : (V 0).toNatClampNeg ≤ 6 := by omega
  have h2 := two_P _ hP
  have eP := io_P h.1
  obtain ⟨e1, e2⟩ := sh_P _ hP
  rw [← eP] at e1
  rw [f_X4_cover_e]
  refine pc_lt (fun s5 g5 => ?_)
  have h' : vM V s5 := vM_up h g5
  clear g5
  refine pc_bnd (mx_allShown h') (fun r9 s10 q10 => ?_)
  rw [q10.2, q10.1, vM_P h']
  refine pc_lt (fun z11 g11 => ?_)
  rw [e1, e2] at g11
  rw [g11]
  have inner : ∀ (k21 : Int32 → Int32 → Mem → Option (Int32 × Mem)) (Q : Int32 → Mem → Prop) (b k : Nat) (x2 x3 : Int32), x2 = Int32.ofNat b → x3 = Int32.ofNat k → b < 64 → k < 64 → pc (k21 (if aUn V k (V 0).toNatClampNeg = aAll V (V 0).toNatClampNeg ∧ ¬ aCn b < aCn k then x3 else x2) (x3 + -1) s5) Q → ∀ (N i : Nat) (x4 x5 : Int32), x5.toInt = (i : Int) → i ≤ (V 0).toNatClampNeg → x4 = aUn V k i → pc (lp_X4_cover_31 F k21 (aAll V (V 0).toNatClampNeg) x2 x3 N x4 x5 s5) Q := by
    intro k21 Q b k x2 x3 hb hk b64 k64 hK N
    induction N with
    | zero => intro i x4 x5 h1 h3 h4; exact pc_none rfl
    | succ N ih =>
      intro i x4 x5 h1 h3 h4
      rw [lp_X4_cover_31_s, vM_P h']
      simp only [j_X4_cover_62_e, j_X4_cover_92_e, j_X4_cover_93_e]
      refine pc_ite (fun c => ?_) (fun c => ?_)
      · have d := ti_le c
        rw [show i = (V 0).toNatClampNeg by omega] at h4
        rw [h4]
        refine pc_ite (fun c1 => ?_) (fun c1 => ?_)
        · refine pc_bnd (qm_ones64 hk k64) (fun r1 s2 q2 => ?_)
          rw [q2.2, q2.1]
          refine pc_bnd (qm_ones64 hb b64) (fun r3 s4 q4 => ?_)
          rw [q4.2, q4.1]
          refine pc_ite (fun c2 => ?_) (fun c2 => ?_)
          · rw [if_neg (fun w => w.2 c2)] at hK; exact hK
          · rw [if_pos ⟨c1, c2⟩] at hK; exact hK
        · rw [if_neg (fun w => c1 w.1)] at hK; exact hK
      have d := ti_nle c
      have e5 := io_eq h1 (by omega)
      have n5 := ti_nx h1 (by omega)
      rw [f_X4_hasBit_e]
      by_cases w : (x3 >>> (x5 &&& 31)) &&& (1 : Int32) = 1
      · rw [if_pos w]
        refine pc_be rfl ?_
        rw [if_neg (by decide)]
        refine pc_chk (fun _ => ih (i + 1) _ _ n5 (by omega) ?_)
        rw [hk, e5] at w
        rw [aUn_t w, h4, tn_int h1, vM_103 h' (by omega)]
      · rw [if_neg w]
        refine pc_be rfl ?_
        rw [if_pos rfl]
        refine ih (i + 1) _ _ n5 (by omega) ?_
        rw [hk, e5] at w
        rw [aUn_f w, Int32.or_zero]; exact h4
  have key : ∀ (N m b : Nat) (x2 x3 : Int32), x3.toInt = (m : Int) - 1 → m ≤ 2 ^ (V 0).toNatClampNeg → x2 = Int32.ofNat b → aBst V (V 0).toNatClampNeg m b → pc (lp_X4_cover_21 F (aAll V (V 0).toNatClampNeg) N x2 x3 s5) (fun r _ => r = anCover V) := by
    intro N
    induction N with
    | zero => intro m b x2 x3 h1 h3 h4 h5; exact pc_none rfl
    | succ N ih =>
      intro m b x2 x3 h1 h3 h4 h5
      rw [lp_X4_cover_21_s]
      refine pc_ite (fun c => ?_) (fun c => ?_)
      · have d := ti_lt c
        rw [tz_0] at d
        have z0 : m = 0 := by omega
        subst z0
        refine pc_ret ?_
        rw [h4, aBst_u h5 (aCu_best hP)]
        rfl
      have d := ti_nlt c
      rw [tz_0] at d
      obtain ⟨k, rfl⟩ : ∃ k, m = k + 1 := ⟨m - 1, by omega⟩
      have h1' : x3.toInt = (k : Int) := by omega
      have e3 := io_eq64 h1' (by omega)
      have n3 : (x3 + -1).toInt = (k : Int) - 1 := by rw [ti_m1 (by omega)]; omega
      refine inner _ _ b k x2 x3 h4 e3 (by have := h5.1; omega) (by omega) ?_ F 0 0 0 rfl (by omega) rfl
      by_cases w : aUn V k (V 0).toNatClampNeg = aAll V (V 0).toNatClampNeg ∧ ¬ aCn b < aCn k
      · rw [if_pos w]
        have w2 := ti_nlt w.2
        refine ih k k _ _ n3 (by omega) e3 ⟨by omega, w.1, fun j hj hn e => ?_⟩
        by_cases z : j = k
        · rw [z]; exact ⟨Int.le_refl _, fun _ => Nat.le_refl _⟩
        · have u := h5.2.2 j (by omega) hn e
          exact ⟨by omega, fun _ => by omega⟩
      · rw [if_neg w]
        refine ih k b _ _ n3 (by omega) h4 ⟨h5.1, h5.2.1, fun j hj hn e => ?_⟩
        by_cases z : j = k
        · subst z
          have l : aCn b < aCn j := Classical.byContradiction (fun l => w ⟨e, l⟩)
          have l' := ti_lt l
          exact ⟨by omega, fun q => by omega⟩
        · exact h5.2.2 j (by omega) hn e
  have i1 := io_64 (2 ^ (V 0).toNatClampNeg - 1) (by omega)
  exact key F (2 ^ (V 0).toNatClampNeg) (2 ^ (V 0).toNatClampNeg - 1) _ _ (by rw [i1]; omega) (Nat.le_refl _) rfl ⟨by omega, aUn_full hP _ (Nat.le_refl _), fun j hj hn _ => absurd hn (Nat.not_lt.mpr hj)⟩
end
