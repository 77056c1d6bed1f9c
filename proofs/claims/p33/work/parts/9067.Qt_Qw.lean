section
/-! lots -/
def aNx (z : Int32) : Int32 := z * 1103515245 + 12345
def aDr (z n : Int32) : Int32 := ((z &&& 2147483647) / 65536) - ((z &&& 2147483647) / 65536) / n * n
theorem aDr_b {z n : Int32} (hn : 0 < n.toInt) : 0 ≤ (aDr z n).toInt ∧ (aDr z n).toInt < n.toInt := by
  have a1 := wt_and31 z
  have a2 : ((z &&& 2147483647) / 65536).toInt = (z &&& 2147483647).toInt / 65536 := ti_div a1 (by decide)
  have a3 : 0 ≤ ((z &&& 2147483647) / 65536).toInt := by rw [a2]; exact Int.ediv_nonneg a1 (by decide)
  unfold aDr
  rw [ti_rem]
  exact ⟨Int.tmod_nonneg _ a3, Int.tmod_lt_of_pos _ hn⟩
def aTo (f : Int32) : Nat := if f.toInt ≤ 20 then f.toNatClampNeg + 3 else 23
/-- one lot of looker l: the house and the seed behind it -/
def aL1 (l : Nat) (q : (Nat → Int32) × Int32) : (Nat → Int32) × Int32 := (aStand q.1 l (aDr (aNx q.2) 24).toNatClampNeg (aTo (aDr (aNx q.2) 24)) (aDr (aNx (aNx q.2)) (q.1 0)), aNx (aNx q.2))
def itN {A : Type} (f : A → A) : Nat → A → A
  | 0, q => q
  | k + 1, q => itN f k (f q)
def itL {A : Type} (f : Nat → A → A) : Nat → Nat → A → A
  | 0, _, q => q
  | k + 1, l, q => itL f k (l + 1) (f l q)
theorem itN_0 {A : Type} {f : A → A} {q : A} : itN f 0 q = q := rfl
theorem itN_s {A : Type} {f : A → A} {k : Nat} {q : A} : itN f (k + 1) q = itN f k (f q) := rfl
theorem itL_0 {A : Type} {f : Nat → A → A} {l : Nat} {q : A} : itL f 0 l q = q := rfl
theorem itL_s {A : Type} {f : Nat → A → A} {k l : Nat} {q : A} : itL f (k + 1) l q = itL f k (l + 1) (f l q) := rfl
def aL4 (l k : Nat) (q : (Nat → Int32) × Int32) : (Nat → Int32) × Int32 := itN (aL1 l) k q
def aLf (l : Nat) (q : (Nat → Int32) × Int32) : (Nat → Int32) × Int32 := aL4 l 4 (aStand q.1 l 0 23 9, q.2)
def aLA (k l : Nat) (q : (Nat → Int32) × Int32) : (Nat → Int32) × Int32 := itL aLf k l q
def aYv (V : Nat → Int32) (x3 : Int32) : Int32 := if x3 = 0 then aOwned V 99 8 else if (aRich V 99 (V 1).toNatClampNeg).1 = -9 then 0 else aWealth V (aRich V 99 (V 1).toNatClampNeg).1 99 8
def aLt (x3 : Int32) : Nat → (Nat → Int32) × Int32 → Int32 → Int32
  | 0, _, c => c
  | k + 1, q, c => aLt x3 k (aLA (q.1 1).toNatClampNeg 0 q) (c + aYv (aLA (q.1 1).toNatClampNeg 0 q).1 x3)
def anLots (V : Nat → Int32) (x1 x2 x3 : Int32) : Int32 := cF (cF (cN x1 1 20) (cO x3 2)) (if V 0 = 0 then 0 else aLt x3 x1.toNatClampNeg (V, x2) 0)
theorem aL4_s {l k : Nat} {q : (Nat → Int32) × Int32} : aL4 l (k + 1) q = aL4 l k (aL1 l q) := itN_s
theorem aL4_0 {l : Nat} {q : (Nat → Int32) × Int32} : aL4 l 0 q = q := itN_0
theorem aLA_0 {l : Nat} {q : (Nat → Int32) × Int32} : aLA 0 l q = q := itL_0
theorem aLA_s {l k : Nat} {q : (Nat → Int32) × Int32} : aLA (k + 1) l q = aLA k (l + 1) (aL4 l 4 (aStand q.1 l 0 23 9, q.2)) := itL_s
theorem lt_24 : (24 : Int32).toInt = 24 := rfl
theorem lt_m9 : (-9 : Int32).toInt = -9 := rfl
theorem aTo_b {f : Int32} (h : 0 ≤ f.toInt ∧ f.toInt < 24) : f.toNatClampNeg ≤ aTo f ∧ aTo f < 24 := by
  have n := ti_nat f
  unfold aTo
  by_cases c : f.toInt ≤ 20
  · rw [if_pos c]; omega
  · rw [if_neg c]; omega
theorem ax_draw {F : Nat} {z n : Int32} {σ : Mem} (hn : 0 < n.toInt) : pc (f_X3_drawBelow F z n σ) (fun r s => r = aDr z n ∧ s = σ) := by
  rw [f_X3_drawBelow_e]
  refine pc_ite (fun _ => pc_nz (fun _ => pc_ret ⟨by unfold aDr; rfl, rfl⟩)) (fun c => absurd (Int32.lt_iff_toInt_lt.mpr (by rw [tz_0]; exact hn)) c)
theorem ax_seed {F : Nat} {z : Int32} {σ : Mem} : f_X3_nextSeed F z σ = some (aNx z, σ) := by rw [f_X3_nextSeed_e]; rfl
theorem ax_to {f : Int32} (h : 0 ≤ f.toInt ∧ f.toInt < 24) : (wt_min ((f + 4) - 1) 23).toInt = (aTo f : Int) := by
  have n := ti_nat f
  have e4 : (f + 4).toInt = f.toInt + 4 := by rw [ti_add (by rw [tz_4]; omega) (by rw [tz_4]; omega), tz_4]
  have e1 : ((f + 4) - 1).toInt = f.toInt + 3 := by rw [ti_sub (by rw [tz_1]; omega) (by rw [tz_1]; omega), tz_1, e4]; omega
  unfold wt_min aTo
  by_cases c : (23 : Int32) < (f + 4) - 1
  · have d := ti_lt c
    rw [tz_23, e1] at d
    rw [if_pos c, if_neg (by omega), tz_23]; rfl
  · have d := ti_nlt c
    rw [tz_23, e1] at d
    rw [if_neg c, if_pos (by omega), e1]; omega
/-- the class casts -/
theorem qx_cast {F : Nat} (hF : 1000 ≤ F) {z : Int32} {σ : Mem} {V : Nat → Int32} (a : vH 24 V σ) (hP : 0 < (V 0).toInt) : pc (f_X3_castRosters F z σ) (fun r s => r = (aLA (V 1).toNatClampNeg 0 (V, z)).2 ∧ vH 24 (aLA (V 1).toNatClampNeg 0 (V, z)).1 s ∧ o24 σ s ∧ (aLA (V 1).toNatClampNeg 0 (V, z)).1 0 = V 0 ∧ (aLA (V 1).toNatClampNeg 0 (V, z)).1 1 = V 1) := by
  have h5 := a.1.2.1
  have m1 := ti_nat (V 1)
  have inner : ∀ (k4 : Int32 → Int32 → Mem → Option (Int32 × Mem)) (Q : Int32 → Mem → Prop) (l : Nat) (x3 : Int32), x3.toInt = (l : Int) → (l : Int) < (V 1).toInt → ∀ (N k i : Nat) (q : (Nat → Int32) × Int32) (x4 : Int32) (s : Mem), (∀ s, vH 24 (aL4 l k q).1 s → o24 σ s → (aL4 l k q).1 0 = V 0 → (aL4 l k q).1 1 = V 1 → pc (k4 (aL4 l k q).2 (x3 + 1) s) Q) → x4.toInt = (i : Int) → i + k = 4 → vH 24 q.1 s → o24 σ s → q.1 0 = V 0 → q.1 1 = V 1 → pc (lp_X3_castRosters_32 F k4 x3 N q.2 x4 s) Q := by
    intro k4 Q l x3 hl hl5 N
    induction N with
    | zero => intro k i q x4 s hk h1 h2 v o e0 e1; exact pc_none rfl
    | succ N ih =>
      intro k i q x4 s hk h1 h2 v o e0 e1
      rw [lp_X3_castRosters_32_s]
      refine pc_ite (fun c => ?_) (fun c => ?_)
      · have d := ti_le c
        rw [tz_4] at d
        have k0 : k = 0 := by omega
        subst k0
        rw [aL4_0] at hk
        exact hk s v o e0 e1
      have d := ti_nle c
      rw [tz_4] at d
      obtain ⟨k', rfl⟩ : ∃ k', k = k' + 1 := ⟨k - 1, by omega⟩
      refine pc_be ax_seed (pc_bnd (ax_draw (by rw [lt_24]; decide)) (fun r3 s4 q3 => ?_))
      rw [q3.2, q3.1]
      refine pc_be ax_seed (pc_lt (fun z7 g7 => ?_))
      have b3 := aDr_b (z := aNx q.2) (n := 24) (by rw [lt_24]; decide)
      rw [lt_24] at b3
      have b8 := aDr_b (z := aNx (aNx q.2)) (n := q.1 0) (by rw [e0]; exact hP)
      have eL : aL1 l q = (aStand q.1 l (aDr (aNx q.2) 24).toNatClampNeg (aTo (aDr (aNx q.2) 24)) (aDr (aNx (aNx q.2)) (q.1 0)), aNx (aNx q.2)) := rfl
      rw [vH_0 v]
      refine pc_bnd (ax_draw (by rw [e0]; exact hP)) (fun r8 s9 q8 => ?_)
      rw [q8.2, q8.1]
      clear q3 q8
      generalize aDr (aNx q.2) 24 = fr at g7 b3 eL ⊢
      generalize aDr (aNx (aNx q.2)) (q.1 0) = pw at b8 eL ⊢
      have bt := aTo_b b3
      have e7 : z7.toInt = (aTo fr : Int) := by rw [g7]; exact ax_to b3
      have n3 := ti_nat fr
      refine pc_bnd (qx_post24 hF v ⟨by rw [e1]; omega, by omega, by omega, by omega, Or.inr b8⟩) (fun _ s11 q11 => ?_)
      have w : vH 24 (aL1 l q).1 s11 := by
        have u := q11.1
        rw [tn_int hl, tn_int e7] at u
        rw [eL]
        exact u
      have f0 : (aL1 l q).1 0 = V 0 := by rw [eL]; exact (aStand_0 (by decide)).trans e0
      have f1 : (aL1 l q).1 1 = V 1 := by rw [eL]; exact (aStand_0 (by decide)).trans e1
      have f2 : aNx (aNx q.2) = (aL1 l q).2 := by rw [eL]
      rw [aL4_s] at hk
      rw [f2]
      clear eL f2
      generalize aL1 l q = g at hk w f0 f1 ⊢
      exact ih k' (i + 1) g _ s11 hk (ti_nx h1 (by omega)) (by omega) w (o24_tr o q11.2) f0 f1
  have outer : ∀ (N k l : Nat) (q : (Nat → Int32) × Int32) (x3 : Int32) (s : Mem), x3.toInt = (l : Int) → l + k = (V 1).toNatClampNeg → vH 24 q.1 s → o24 σ s → q.1 0 = V 0 → q.1 1 = V 1 → pc (lp_X3_castRosters_4 F N q.2 x3 s) (fun r s => r = (aLA k l q).2 ∧ vH 24 (aLA k l q).1 s ∧ o24 σ s ∧ (aLA k l q).1 0 = V 0 ∧ (aLA k l q).1 1 = V 1) := by
    intro N
    induction N with
    | zero => intro k l q x3 s h1 h2 v o e0 e1; exact pc_none rfl
    | succ N ih =>
      intro k l q x3 s h1 h2 v o e0 e1
      rw [lp_X3_castRosters_4_s, vH_2 v, e1]
      refine pc_ite (fun c => ?_) (fun c => ?_)
      · have d := ti_le c
        have k0 : k = 0 := by omega
        subst k0
        rw [aLA_0]
        exact pc_ret ⟨rfl, v, o, e0, e1⟩
      have d := ti_nle c
      obtain ⟨k', rfl⟩ : ∃ k', k = k' + 1 := ⟨k - 1, by omega⟩
      rw [aLA_s]
      refine pc_bnd (qx_post24 hF v ⟨by rw [e1]; omega, by rw [tz_0]; omega, by rw [tz_23]; omega, by rw [tz_0, tz_23]; omega, Or.inl tz_9⟩) (fun _ s13 q13 => ?_)
      have w := q13.1
      rw [tn_int h1] at w
      exact inner _ _ l x3 h1 (by omega) F 4 0 (aStand q.1 l 0 23 9, q.2) 0 s13 (fun z vz oz e0z e1z => ih k' (l + 1) (aL4 l 4 (aStand q.1 l 0 23 9, q.2)) _ z (ti_nx h1 (by omega)) (by omega) vz oz e0z e1z) rfl (by omega) w (o24_tr o q13.2) ((aStand_0 (by decide)).trans e0) ((aStand_0 (by decide)).trans e1)
  rw [f_X3_castRosters_e]
  exact outer F _ 0 (V, z) 0 σ rfl (by omega) a o24_rf rfl rfl
theorem qx_lots {F : Nat} (hF : 1000 ≤ F) {x1 x2 x3 : Int32} {σ : Mem} {V : Nat → Int32} (h : vH 1 V σ) : pc (f_X3_lots F x1 x2 x3 σ) (fun r _ => r = anLots V x1 x2 x3) := by
  rw [f_X3_lots_e]
  refine pc_be ax_outside (pc_be ax_notBelow (pc_be ax_firstOf ?_))
  rw [vH_0 h]
  unfold anLots
  refine cq_end (fun e => pc_ite (fun c => pc_ret (by rw [if_pos c])) (fun c => ?_))
  rw [if_neg c]
  have d1 := cN_0 (cF_0 e).1
  rw [tz_1, tz_20] at d1
  have n1 := ti_nat x1
  have hP : 0 < (V 0).toInt := by
    have := ti_ne c
    rw [tz_0] at this
    have := h.1.1
    omega
  refine pc_bnd (qx_take hF h) (fun _ s q => ?_)
  have key : ∀ (N k i : Nat) (p : (Nat → Int32) × Int32) (x6 x7 : Int32) (s : Mem), x7.toInt = (i : Int) → i + k = x1.toNatClampNeg → vH 24 p.1 s → p.1 0 = V 0 → p.1 1 = V 1 → pc (lp_X3_lots_61 F x1 x3 N p.2 x6 x7 s) (fun r _ => r = aLt x3 k p x6) := by
    intro N
    induction N with
    | zero => intro k i p x6 x7 s h1 h2 v e0 e1; exact pc_none rfl
    | succ N ih =>
      intro k i p x6 x7 s h1 h2 v e0 e1
      rw [lp_X3_lots_61_s]
      simp only [j_X3_lots_140_e]
      refine pc_ite (fun c => ?_) (fun c => ?_)
      · have d := ti_le c
        have k0 : k = 0 := by omega
        subst k0
        exact pc_ret rfl
      have d := ti_nle c
      obtain ⟨k', rfl⟩ : ∃ k', k = k' + 1 := ⟨k - 1, by omega⟩
      refine pc_bnd (qx_cast hF v (by rw [e0]; exact hP)) (fun r1 s2 q2 => ?_)
      rw [show (p.1, p.2) = p from rfl] at q2
      have es : aLt x3 (k' + 1) p x6 = aLt x3 k' (aLA (p.1 1).toNatClampNeg 0 p) (x6 + aYv (aLA (p.1 1).toNatClampNeg 0 p).1 x3) := rfl
      rw [es]
      generalize aLA (p.1 1).toNatClampNeg 0 p = g at q2 ⊢
      obtain ⟨u1, u2, u3, u4, u5⟩ := q2
      rw [u1]
      refine pc_bnd (qx_reckH u2) (fun _ s4 q4 => pc_bnd (qx_wealthiest q4.1) (fun r5 s6 q6 => ?_))
      rw [q6.2]
      have r5e := q6.1
      have n7 := ti_nx h1 (by omega)
      refine pc_ite (fun c0 => ?_) (fun c0 => ?_)
      · refine pc_bnd (qx_heldN q4.1) (fun r9 s10 q10 => ?_)
        rw [q10.2, q10.1]
        refine pc_be aPop_f ?_
        have ev : aPop (255 - aBits g.1 (-9) 99 8) = aYv g.1 x3 := by
          unfold aYv
          rw [if_pos c0]
          exact aPop_b _
        rw [ev]
        exact ih k' (i + 1) g _ _ s4 n7 (by omega) q4.1.1 (u4.trans e0) (u5.trans e1)
      · refine pc_ite (fun c9 => ?_) (fun c9 => ?_)
        · have ev : aYv g.1 x3 = 0 := by
            unfold aYv
            rw [if_neg c0, ← r5e, if_pos c9]
          rw [ev, Int32.add_zero]
          exact ih k' (i + 1) g _ _ s4 n7 (by omega) q4.1.1 (u4.trans e0) (u5.trans e1)
        · refine pc_bnd (qx_wealth q4.1) (fun r7 s8 q8 => ?_)
          have ev : aYv g.1 x3 = aWealth g.1 r5 99 8 := by
            unfold aYv
            rw [if_neg c0, ← r5e, if_neg c9]
          rw [q8.2, q8.1, ev]
          exact ih k' (i + 1) g _ _ s4 n7 (by omega) q4.1.1 (u4.trans e0) (u5.trans e1)
  exact key F x1.toNatClampNeg 0 (V, x2) 0 0 s rfl (by omega) q.1 rfl rfl
/-- ones of eight bits -/
def pc8 (k : Nat) : Nat := k % 2 + k / 2 % 2 + k / 4 % 2 + k / 8 % 2 + k / 16 % 2 + k / 32 % 2 + k / 64 % 2 + k / 128 % 2
theorem st_256 : ∀ k, k < 256 → k ≠ 0 → (Int32.ofNat k &&& (Int32.ofNat k - 1)) = Int32.ofNat (Nat.land k (k - 1)) ∧ Nat.land k (k - 1) < 256 ∧ pc8 k = pc8 (Nat.land k (k - 1)) + 1 ∧ ¬ Int32.ofNat k = 0 := by decide +kernel
theorem qm_onesK {F : Nat} {σ : Mem} : ∀ (N k : Nat) (c x : Int32), k < 256 → x = Int32.ofNat k → pc (lp_X4_onesOf_4 F N c x σ) (fun r z => r = c + Int32.ofNat (pc8 k) ∧ z = σ) := by
  intro N
  induction N with
  | zero => intro k c x hk hx; exact pc_none rfl
  | succ N ih =>
    intro k c x hk hx
    rw [lp_X4_onesOf_4_s]
    by_cases k0 : k = 0
    · subst k0
      refine pc_ite (fun e => pc_ret ⟨(Int32.add_zero c).symm, rfl⟩) (fun e => absurd hx e)
    obtain ⟨s1, s2, s3, s4⟩ := st_256 k hk k0
    refine pc_ite (fun e => absurd (hx.symm.trans e) s4) (fun e => pc_lt (fun z1 hz => ?_))
    refine pc_mono (ih (Nat.land k (k - 1)) (c + 1) z1 s2 (by rw [hz, hx]; exact s1)) (fun r z q => ⟨?_, q.2⟩)
    rw [q.1, s3, Int32.ofNat_add, Int32.add_assoc, Int32.add_comm 1]
    try rfl
def kB (b0 b1 b2 b3 b4 b5 b6 b7 : Bool) : Nat := b0.toNat + 2 * b1.toNat + 4 * b2.toNat + 8 * b3.toNat + 16 * b4.toNat + 32 * b5.toNat + 64 * b6.toNat + 128 * b7.toNat
theorem orB_kB : ∀ b0 b1 b2 b3 b4 b5 b6 b7 : Bool, orB (fB b0 b1 b2 b3 b4 b5 b6 b7) 8 = Int32.ofNat (kB b0 b1 b2 b3 b4 b5 b6 b7) ∧ kB b0 b1 b2 b3 b4 b5 b6 b7 < 256 ∧ 8 - Int32.ofNat (pc8 (kB b0 b1 b2 b3 b4 b5 b6 b7)) = cntB (fB b0 b1 b2 b3 b4 b5 b6 b7) 8 := by decide +kernel
theorem qm_ones {F : Nat} {σ : Mem} (b : Nat → Bool) : pc (f_X4_onesOf F (orB b 8) σ) (fun r z => 8 - r = cntB b 8 ∧ z = σ) := by
  obtain ⟨w1, w2, w3⟩ := orB_kB (b 0) (b 1) (b 2) (b 3) (b 4) (b 5) (b 6) (b 7)
  rw [← orB_cg 8 (fB_of b)] at w1
  rw [← cntB_cg 8 (fB_of b)] at w3
  rw [f_X4_onesOf_e]
  refine pc_mono (qm_onesK F _ 0 (orB b 8) w2 w1) (fun r z q => ⟨?_, q.2⟩)
  rw [q.1, Int32.zero_add]
  exact w3
/-- the reference -/
theorem mx_draw {F : Nat} {n z : Int32} {σ : Mem} (hz : σ 101 35 = z) : pc (f_X4_drawBelow F n σ) (fun r s => r = aDr (aNx z) n ∧ s 101 35 = aNx z ∧ ∀ k i, ¬ (k = 101 ∧ i = 35) → s k i = σ k i) := by
  rw [f_X4_drawBelow_e]
  refine pc_lt (fun s1 g1 => pc_nz (fun _ => pc_ret ⟨?_, ?_, fun k i hn => ?_⟩))
  · rw [g1, up2_s, hz]; unfold aDr aNx; rfl
  · rw [g1, up2_s, hz]; unfold aNx; rfl
  · rw [g1]
    by_cases c : k = 101
    · subst c; exact up2_i (fun e => hn ⟨rfl, e⟩)
    · rw [up2_k c]
theorem vM_35 {V : Nat → Int32} {s z : Mem} (h : vM V s) (e : ∀ k i, ¬ (k = 101 ∧ i = 35) → z k i = s k i) : vM V z := ⟨h.1, fun p hp => by
  have hc := wvM_cid hp
  unfold wvM
  rw [e _ _ (fun q => by rw [q.1, q.2] at hc; exact absurd hc (by decide))]
  exact h.2 p hp⟩
theorem qm_cast {F : Nat} {V : Nat → Int32} (hv : wvV V) (hP : 0 < (V 0).toInt) {k46 : Int32 → Int32 → Mem → Option (Int32 × Mem)} {Q : Int32 → Mem → Prop} {x1 x3 x5 x6 : Int32} : ∀ (N k l : Nat) (q : (Nat → Int32) × Int32) (x7 : Int32) (s : Mem), (∀ z, vM (aLA k l q).1 z → z 101 35 = (aLA k l q).2 → (aLA k l q).1 0 = V 0 → (aLA k l q).1 1 = V 1 → pc (wt_bnd (f_X4_layBrings F z) fun _ s8 => wt_bnd (f_X4_richestIn F 99 s8) fun r9 s10 => if x3 = 0 then (wt_bnd (f_X4_viewsIn F (-9) 99 s10) fun r13 s14 => wt_bnd (f_X4_onesOf F r13 s14) fun r15 s16 => j_X4_lots_195 F k46 x1 x3 x6 x5 (8 - r15) s16) else (if 0 ≤ r9 then (wt_bnd (f_X4_worthIn F r9 99 s10) fun r11 s12 => j_X4_lots_195 F k46 x1 x3 x6 x5 r11 s12) else j_X4_lots_195 F k46 x1 x3 x6 x5 0 s10)) Q) → x7.toInt = (l : Int) → l + k = (V 1).toNatClampNeg → vM q.1 s → s 101 35 = q.2 → q.1 0 = V 0 → q.1 1 = V 1 → pc (lp_X4_lots_62 F k46 x1 x3 x5 x6 N x7 s) Q := by
  have h5 := hv.2.1
  have h6 := hv.1.2
  have m1 := ti_nat (V 1)
  have inner : ∀ (k62 : Int32 → Mem → Option (Int32 × Mem)) (l : Nat) (x7 : Int32), x7.toInt = (l : Int) → (l : Int) < (V 1).toInt → ∀ (N k i : Nat) (q : (Nat → Int32) × Int32) (x8 : Int32) (s : Mem), (∀ z, vM (aL4 l k q).1 z → z 101 35 = (aL4 l k q).2 → (aL4 l k q).1 0 = V 0 → (aL4 l k q).1 1 = V 1 → pc (k62 (x7 + 1) z) Q) → x8.toInt = (i : Int) → i + k = 4 → vM q.1 s → s 101 35 = q.2 → q.1 0 = V 0 → q.1 1 = V 1 → pc (lp_X4_lots_85 F k46 k62 x1 x3 x5 x6 x7 N x8 s) Q := by
    intro k62 l x7 hl hl5 N
    induction N with
    | zero => intro k i q x8 s hk h1 h2 v z e0 e1; exact pc_none rfl
    | succ N ih =>
      intro k i q x8 s hk h1 h2 v z e0 e1
      rw [lp_X4_lots_85_s]
      simp only [j_X4_lots_120_e]
      refine pc_ite (fun c => ?_) (fun c => ?_)
      · have d := ti_le c
        rw [tz_4] at d
        have k0 : k = 0 := by omega
        subst k0
        rw [aL4_0] at hk
        exact hk s v z e0 e1
      have d := ti_nle c
      rw [tz_4] at d
      obtain ⟨k', rfl⟩ : ∃ k', k = k' + 1 := ⟨k - 1, by omega⟩
      refine pc_bnd (mx_draw z) (fun r5 s6 q5 => ?_)
      obtain ⟨a1, a2, a3⟩ := q5
      have v6 := vM_35 v a3
      have b3 := aDr_b (z := aNx q.2) (n := 24) (by rw [lt_24]; decide)
      rw [lt_24] at b3
      have b8 := aDr_b (z := aNx (aNx q.2)) (n := q.1 0) (by rw [e0]; exact hP)
      have eL : aL1 l q = (aStand q.1 l (aDr (aNx q.2) 24).toNatClampNeg (aTo (aDr (aNx q.2) 24)) (aDr (aNx (aNx q.2)) (q.1 0)), aNx (aNx q.2)) := rfl
      rw [a1]
      clear a1
      generalize aDr (aNx q.2) 24 = fr at b3 eL ⊢
      have bt := aTo_b b3
      have n3 := ti_nat fr
      have go : ∀ to : Int32, to.toInt = (aTo fr : Int) → pc (wt_bnd (f_X4_drawBelow F (s6 101 1) s6) fun r1 s2 => wt_bnd (f_X4_stand F x7 fr to r1 s2) fun r3 s4 => lp_X4_lots_85 F k46 k62 x1 x3 x5 x6 x7 N (x8 + 1) s4) Q := fun to ht => by
        rw [vM_P v6]
        refine pc_bnd (mx_draw a2) (fun r1 s2 q2 => ?_)
        obtain ⟨c1, c2, c3⟩ := q2
        have v2 := vM_35 v6 c3
        rw [c1]
        clear c1
        generalize aDr (aNx (aNx q.2)) (q.1 0) = pw at b8 eL ⊢
        refine pc_bnd (vM_stand v2 (Or.inr b8) hl (by omega) (a := fr.toNatClampNeg) (by omega) ht (by omega) bt.2) (fun _ s4 q4 => ?_)
        have f0 : (aL1 l q).1 0 = V 0 := by rw [eL]; exact (aStand_0 (by decide)).trans e0
        have f1 : (aL1 l q).1 1 = V 1 := by rw [eL]; exact (aStand_0 (by decide)).trans e1
        have f2 : s4 101 35 = (aL1 l q).2 := by rw [eL, q4.2 101 (by decide)]; exact c2
        have w : vM (aL1 l q).1 s4 := by rw [eL]; exact q4.1
        rw [aL4_s] at hk
        clear eL
        generalize aL1 l q = g at hk w f0 f1 f2 ⊢
        exact ih k' (i + 1) g _ s4 hk (ti_nx h1 (by omega)) (by omega) w f2 f0 f1
      refine pc_ite (fun c2 => go _ ?_) (fun c2 => go _ ?_)
      · have d2 := ti_le c2
        rw [tz_20] at d2
        rw [ti_add (by rw [tz_3]; omega) (by rw [tz_3]; omega), tz_3]
        unfold aTo
        rw [if_pos d2]
        omega
      · have d2 := ti_nle c2
        rw [tz_20] at d2
        unfold aTo
        rw [if_neg (by omega)]
        rfl
  intro N
  induction N with
  | zero => intro k l q x7 s hk h1 h2 v z e0 e1; exact pc_none rfl
  | succ N ih =>
    intro k l q x7 s hk h1 h2 v z e0 e1
    rw [lp_X4_lots_62_s, vM_L v, e1]
    refine pc_ite (fun c => ?_) (fun c => ?_)
    · have d := ti_le c
      have k0 : k = 0 := by omega
      subst k0
      rw [aLA_0] at hk
      exact hk s v z e0 e1
    have d := ti_nle c
    obtain ⟨k', rfl⟩ : ∃ k', k = k' + 1 := ⟨k - 1, by omega⟩
    rw [aLA_s] at hk
    refine pc_bnd (vM_stand v (x4 := 9) (Or.inl rfl) h1 (by omega) (a := 0) (b := 23) rfl rfl (by omega) (by omega)) (fun _ s18 q18 => ?_)
    exact inner _ l x7 h1 (by omega) F 4 0 (aStand q.1 l 0 23 9, q.2) 0 s18 (fun y vy zy e0y e1y => ih k' (l + 1) (aL4 l 4 (aStand q.1 l 0 23 9, q.2)) _ y hk (ti_nx h1 (by omega)) (by omega) vy zy e0y e1y) rfl (by omega) q18.1 (by rw [q18.2 101 (by decide)]; exact z) ((aStand_0 (by decide)).trans e0) ((aStand_0 (by decide)).trans e1)
theorem t99 : 0 ≤ (99 : Int32).toInt ∧ (99 : Int32).toInt ≤ 9999 := by decide
theorem qm_lots {F : Nat} (hF : 1000 ≤ F) {x1 x2 x3 : Int32} {s : Mem} {V : Nat → Int32} (h : vM V s) : pc (f_X4_lots F x1 x2 x3 s) (fun r _ => r = anLots V x1 x2 x3) := by
  have h6 := h.1.1
  rw [f_X4_lots_e]
  refine pc_lt (fun s5 g5 => ?_)
  have h' : vM V s5 := vM_up h g5
  clear g5
  refine pc_be mx_wrongN (pc_be mx_wrongBit ?_)
  unfold anLots
  refine mq_end (sg_cF sg_cN sg_cO) (fun e => pc_lt (fun s26 g26 => ?_))
  have d1 := cN_0 (cF_0 e).1
  rw [tz_1, tz_20] at d1
  have n1 := ti_nat x1
  have v26 : vM V s26 := ⟨h'.1, fun p hp => by rw [g26, wvM_no (by omega) (by omega) hp]; exact h'.2 p hp⟩
  have z26 : s26 101 35 = x2 := by rw [g26, up2_s]
  clear g26
  refine pc_bnd (vM_think hF v26) (fun _ s28 q28 => ?_)
  have v28 := q28.1
  have z28 : s28 101 35 = x2 := q28.2.2.2.trans z26
  have fin : ∀ (x5 : Int32) (z : Mem), pc (j_X4_lots_204 F x5 z) (fun r _ => r = x5) := fun x5 z => by
    rw [j_X4_lots_204_e]
    exact pc_bnd pc_true (fun _ _ _ => pc_ret rfl)
  by_cases c : V 0 = 0
  · rw [if_pos c]
    have lp0 : ∀ N, pc (lp_X4_lots_46 F x1 x3 N 0 0 s28) (fun r _ => r = 0) := fun N => by
      cases N with
      | zero => exact pc_none rfl
      | succ N =>
        rw [lp_X4_lots_46_s, vM_P v28, c]
        exact pc_ite (fun _ => fin _ _) (fun _ => pc_ite (fun _ => fin _ _) (fun n => absurd (by decide) n))
    exact lp0 F
  rw [if_neg c]
  have hP : 0 < (V 0).toInt := by
    have := ti_ne c
    rw [tz_0] at this
    omega
  have key : ∀ (N k i : Nat) (p : (Nat → Int32) × Int32) (x5 x6 : Int32) (s : Mem), x6.toInt = (i : Int) → i + k = x1.toNatClampNeg → vM p.1 s → s 101 35 = p.2 → p.1 0 = V 0 → p.1 1 = V 1 → pc (lp_X4_lots_46 F x1 x3 N x5 x6 s) (fun r _ => r = aLt x3 k p x5) := by
    intro N
    induction N with
    | zero => intro k i p x5 x6 s h1 h2 v z e0 e1; exact pc_none rfl
    | succ N ih =>
      intro k i p x5 x6 s h1 h2 v z e0 e1
      rw [lp_X4_lots_46_s, vM_P v, e0]
      refine pc_ite (fun c => ?_) (fun c => pc_ite (fun c2 => absurd (ti_le c2) (by rw [tz_0]; omega)) (fun _ => ?_))
      · have d := ti_le c
        have k0 : k = 0 := by omega
        subst k0
        exact fin _ _
      have d := ti_nle c
      obtain ⟨k', rfl⟩ : ∃ k', k = k' + 1 := ⟨k - 1, by omega⟩
      have es : aLt x3 (k' + 1) p x5 = aLt x3 k' (aLA (p.1 1).toNatClampNeg 0 p) (x5 + aYv (aLA (p.1 1).toNatClampNeg 0 p).1 x3) := rfl
      rw [es]
      refine qm_cast h.1 hP F (p.1 1).toNatClampNeg 0 p 0 s (fun y vy zy e0y e1y => ?_) rfl (by rw [e1]; omega) v z e0 e1
      generalize aLA (p.1 1).toNatClampNeg 0 p = g at vy zy e0y e1y ⊢
      simp only [j_X4_lots_195_e]
      have n6 := ti_nx h1 (by omega)
      refine pc_bnd (pc_and (qm_lay vy) (pc_pf (fr_X4_layBrings hF))) (fun _ s8 q8 => ?_)
      obtain ⟨q8, f8⟩ := q8
      have z8 : s8 101 35 = g.2 := (f8 101 35 (by rw [show wcid 101 35 = 1035 from rfl]; show ¬ _; unfold wf_46; omega)).trans zy
      refine pc_bnd (pc_and (qm_richestIn t99 q8) (pc_pf (fr_X4_richestIn hF))) (fun r9 s10 q10 => ?_)
      obtain ⟨q10, f10⟩ := q10
      have z10 : s10 101 35 = g.2 := (f10 101 35 (by rw [show wcid 101 35 = 1035 from rfl]; show ¬ _; unfold wf_47; omega)).trans z8
      have rb := aRich_b vy.1 (n := 99) (g.1 1).toNatClampNeg (by have := vy.1.2.1; have := ti_nat (g.1 1); omega)
      refine pc_ite (fun c0 => ?_) (fun c0 => ?_)
      · refine pc_bnd (pc_and (qm_viewsIn t99 q10.2) (pc_pf (fr_X4_viewsIn hF))) (fun r13 s14 q14 => ?_)
        obtain ⟨q14, f14⟩ := q14
        rw [q14.1]
        refine pc_bnd (qm_ones _) (fun r15 s16 q16 => ?_)
        rw [q16.2, q16.1]
        have ev : aYv g.1 x3 = cntB (fun v => decide (aHold g.1 99 v = -9)) 8 := by
          unfold aYv
          rw [if_pos c0]
          rfl
        rw [ev]
        exact ih k' (i + 1) g _ _ s14 n6 (by omega) q14.2.1 ((f14 101 35 (by rw [show wcid 101 35 = 1035 from rfl]; show ¬ _; unfold wf_47; omega)).trans z10) e0y e1y
      · rcases rb with ⟨-, er⟩ | ⟨-, b, hb, er⟩
        · have e9 : r9 = -9 := by rw [q10.1, er]
          have ev : aYv g.1 x3 = 0 := by
            unfold aYv
            rw [if_neg c0, er, if_pos rfl]
          rw [ev, e9]
          refine pc_ite (fun w => absurd w (by decide)) (fun _ => ?_)
          exact ih k' (i + 1) g _ _ s10 n6 (by omega) q10.2.1 z10 e0y e1y
        · have b5 : b < 5 := by have := vy.1.2.1; have := ti_nat (g.1 1); omega
          have e9 : r9 = Int32.ofNat b := by rw [q10.1, er]
          have eb := io_nat b (by omega)
          have ev : aYv g.1 x3 = aWealth g.1 (Int32.ofNat b) 99 8 := by
            unfold aYv
            rw [if_neg c0, er]
            exact if_neg (fun q => by
              have u := congrArg Int32.toInt q
              rw [eb, lt_m9] at u
              omega)
          rw [ev, e9]
          refine pc_ite (fun _ => ?_) (fun w => absurd (Int32.le_iff_toInt_le.mpr (by rw [tz_0]; omega)) w)
          refine pc_bnd (pc_and (qm_worthIn t99 q10.2) (pc_pf (fr_X4_worthIn hF))) (fun r11 s12 q12 => ?_)
          obtain ⟨q12, f12⟩ := q12
          rw [q12.1]
          exact ih k' (i + 1) g _ _ s12 n6 (by omega) q12.2.1 ((f12 101 35 (by rw [show wcid 101 35 = 1035 from rfl]; show ¬ _; unfold wf_47; omega)).trans z10) e0y e1y
  exact key F x1.toNatClampNeg 0 (V, x2) 0 0 s28 rfl (by omega) v28 z28 rfl rfl
end
section
/-! who holds a view by any counts -/
def gTop (B : Nat → Int32) : Nat → Int32 × Int32 × Int32 × Int32
  | 0 => (-9, 0, 0, 0)
  | l + 1 => if B l ≤ (gTop B l).2.1 then ((gTop B l).1, (gTop B l).2.1, (gTop B l).2.2.1 + B l, if B l = (gTop B l).2.1 then 1 else (gTop B l).2.2.2) else (Int32.ofNat l, B l, (gTop B l).2.2.1 + B l, 0)
def gHold (w L : Int32) (B : Nat → Int32) : Int32 :=
  if w = 1 then (if (gTop B L.toNatClampNeg).2.2.2 = 0 then (gTop B L.toNatClampNeg).1 else -9) else if w = 2 then (if (gTop B L.toNatClampNeg).2.2.1 - (gTop B L.toNatClampNeg).2.1 < (gTop B L.toNatClampNeg).2.1 then (gTop B L.toNatClampNeg).1 else -9) else (gTop B L.toNatClampNeg).1
theorem gTop_le {B : Nat → Int32} {l : Nat} (h : B l ≤ (gTop B l).2.1) : gTop B (l + 1) = ((gTop B l).1, (gTop B l).2.1, (gTop B l).2.2.1 + B l, if B l = (gTop B l).2.1 then 1 else (gTop B l).2.2.2) := by
  show (if B l ≤ (gTop B l).2.1 then _ else _) = _
  rw [if_pos h]
theorem gTop_gt {B : Nat → Int32} {l : Nat} (h : ¬ B l ≤ (gTop B l).2.1) : gTop B (l + 1) = (Int32.ofNat l, B l, (gTop B l).2.2.1 + B l, 0) := by
  show (if B l ≤ (gTop B l).2.1 then _ else _) = _
  rw [if_neg h]
/-- the numbers of the run within their bounds -/
theorem gTop_b {V B : Nat → Int32} (hv : wvV V) (hB : ∀ l : Nat, (l : Int) < (V 1).toInt → 0 ≤ (B l).toInt ∧ (B l).toInt ≤ 99999) : ∀ l : Nat, (l : Int) ≤ (V 1).toInt → (((gTop B l).1 = -9) ∨ (0 ≤ (gTop B l).1.toInt ∧ (gTop B l).1.toInt < (l : Int))) ∧ (0 ≤ (gTop B l).2.1.toInt ∧ (gTop B l).2.1.toInt ≤ 99999) ∧ (0 ≤ (gTop B l).2.2.1.toInt ∧ (gTop B l).2.2.1.toInt ≤ 99999 * (l : Int)) ∧ ((gTop B l).2.2.2 = 0 ∨ (gTop B l).2.2.2 = 1) := fun l => by
  induction l with
  | zero => intro _; exact ⟨Or.inl rfl, ⟨Int.le_refl 0, (by decide : (0 : Int) ≤ 99999)⟩, ⟨Int.le_refl 0, Int.le_refl 0⟩, Or.inl rfl⟩
  | succ l ih =>
    intro hl
    obtain ⟨b1, b2, b3, b4⟩ := ih (by omega)
    have h5 := hv.2.1.2
    have g := hB l (by omega)
    have es : ((gTop B l).2.2.1 + B l).toInt = (gTop B l).2.2.1.toInt + (B l).toInt := ti_add (by omega) (by omega)
    by_cases c : B l ≤ (gTop B l).2.1
    · rw [gTop_le c]
      refine ⟨b1.imp id (fun q => ⟨q.1, by show (gTop B l).1.toInt < _; omega⟩), b2, ?_, ?_⟩
      · show 0 ≤ ((gTop B l).2.2.1 + B l).toInt ∧ ((gTop B l).2.2.1 + B l).toInt ≤ _
        rw [es]; omega
      · show (if B l = (gTop B l).2.1 then (1 : Int32) else (gTop B l).2.2.2) = 0 ∨ (if B l = (gTop B l).2.1 then (1 : Int32) else (gTop B l).2.2.2) = 1
        by_cases d : B l = (gTop B l).2.1
        · rw [if_pos d]; exact Or.inr rfl
        · rw [if_neg d]; exact b4
    · rw [gTop_gt c]
      refine ⟨Or.inr ?_, g, ?_, Or.inl rfl⟩
      · show 0 ≤ (Int32.ofNat l).toInt ∧ (Int32.ofNat l).toInt < ((l + 1 : Nat) : Int)
        rw [io_nat l (by omega)]; omega
      · show 0 ≤ ((gTop B l).2.2.1 + B l).toInt ∧ ((gTop B l).2.2.1 + B l).toInt ≤ _
        rw [es]; omega
/-- the class -/
theorem gx_holder_15 {F h : Nat} {x1 x2 : Int32} {σ : Mem} {V B : Nat → Int32} (a : vH h V σ) (hB : ∀ (l : Nat) (x : Int32), x.toInt = (l : Int) → (l : Int) < (V 1).toInt → pc (f_X0_behind F h x x1 x2 σ) (fun r s => r = B l ∧ s = σ)) : ∀ (N l : Nat) (x3 x4 x5 x6 x7 : Int32), x7.toInt = (l : Int) → (l : Int) ≤ (V 1).toInt → (x3, x4, x5, x6) = gTop B l → pc (lp_X0_holder_15 F h x1 x2 N x3 x4 x5 x6 x7 σ) (fun r s => r = gHold (V 2) (V 1) B ∧ s = σ) := by
  have h5 := a.1.2.1.2
  have n1 := ti_nat (V 1)
  intro N
  induction N with
  | zero => intro l x3 x4 x5 x6 x7 h1 h2 h3; exact pc_none rfl
  | succ N ih =>
    intro l x3 x4 x5 x6 x7 h1 h2 h3
    have e3 : x3 = (gTop B l).1 := congrArg Prod.fst h3
    have e4 : x4 = (gTop B l).2.1 := congrArg (fun q => q.2.1) h3
    have e5 : x5 = (gTop B l).2.2.1 := congrArg (fun q => q.2.2.1) h3
    have e6 : x6 = (gTop B l).2.2.2 := congrArg (fun q => q.2.2.2) h3
    rw [lp_X0_holder_15_s, vH_2 a, vH_8 a]
    simp only [j_X0_holder_71_e, j_X0_holder_90_e, j_X0_holder_108_e, j_X0_holder_111_e]
    rw [vH_8 a]
    refine pc_ite (fun c => ?_) (fun c => pc_bnd (hB l _ h1 ?_) (fun r s q => ?_))
    · have d := ti_le c
      have el : (V 1).toNatClampNeg = l := by omega
      unfold gHold
      rw [el, ← e3, ← e4, ← e5, ← e6]
      refine pc_ite (fun c1 => ?_) (fun c1 => ?_)
      · rw [if_pos c1]
        refine pc_ite (fun c2 => ?_) (fun c2 => pc_ret ⟨by rw [if_neg c2], rfl⟩)
        rw [if_pos c2]
        refine pc_ite (fun c3 => ?_) (fun _ => pc_ret ⟨rfl, rfl⟩)
        exact absurd (c1.symm.trans c3) (by decide)
      · rw [if_neg c1]
        refine pc_ite (fun c2 => ?_) (fun c2 => pc_ret ⟨by rw [if_neg c2], rfl⟩)
        rw [if_pos c2]
        exact pc_ite (fun c3 => pc_ret ⟨by rw [if_pos c3], rfl⟩) (fun c3 => pc_ret ⟨by rw [if_neg c3], rfl⟩)
    · have d := ti_nle c
      omega
    · have d := ti_nle c
      obtain ⟨q1, q2⟩ := q
      rw [q2, q1]
      refine pc_ite (fun c1 => pc_ite (fun c2 => ih (l + 1) _ _ _ _ _ (ti_nx h1 (by omega)) (by omega) ?_) (fun c2 => ih (l + 1) _ _ _ _ _ (ti_nx h1 (by omega)) (by omega) ?_)) (fun c1 => ih (l + 1) _ _ _ _ _ (ti_nx h1 (by omega)) (by omega) ?_)
      · rw [e4] at c1 c2
        rw [gTop_le c1, if_pos c2, e3, e4, e5]
      · rw [e4] at c1 c2
        rw [gTop_le c1, if_neg c2, e3, e4, e5, e6]
      · rw [e4] at c1
        rw [gTop_gt c1, e5, io_eq h1 (by omega)]
theorem gx_holder {F h : Nat} {x1 x2 : Int32} {σ : Mem} {V B : Nat → Int32} (a : vH h V σ) (hB : ∀ (l : Nat) (x : Int32), x.toInt = (l : Int) → (l : Int) < (V 1).toInt → pc (f_X0_behind F h x x1 x2 σ) (fun r s => r = B l ∧ s = σ)) : pc (f_X0_holder F h x1 x2 σ) (fun r s => r = gHold (V 2) (V 1) B ∧ s = σ) := by
  rw [f_X0_holder_e]
  exact gx_holder_15 a hB F 0 _ _ _ _ _ rfl a.1.2.1.1 rfl
/-- the reference: what lies in 110 is what is behind each -/
theorem gm_ownerLooked_13 {F : Nat} {s : Mem} {V B : Nat → Int32} (hB : ∀ l : Nat, (l : Int) < (V 1).toInt → 0 ≤ (B l).toInt ∧ (B l).toInt ≤ 99999) (h : vM V s) (hC : ∀ l : Nat, (l : Int) < (V 1).toInt → s 110 l = B l) : ∀ (N l : Nat) (x1 x2 x3 x4 x5 : Int32), x5.toInt = (l : Int) → (l : Int) ≤ (V 1).toInt → x1 = (gTop B l).1 → x2 = (gTop B l).2.1 → x3 = (gTop B l).2.2.1 → (x4 = if (gTop B l).2.2.2 = 0 then 1 else 0) → pc (lp_X4_ownerLooked_13 F N x1 x2 x3 x4 x5 s) (fun r z => r = gHold (V 2) (V 1) B ∧ z = s) := by
  have h5 := h.1.2.1
  have n1 := ti_nat (V 1)
  intro N
  induction N with
  | zero => intro l x1 x2 x3 x4 x5 h1 h2 e1 e2 e3 e4; exact pc_none rfl
  | succ N ih =>
    intro l x1 x2 x3 x4 x5 h1 h2 e1 e2 e3 e4
    obtain ⟨b1, b2, b3, b4⟩ := gTop_b h.1 hB l h2
    rw [lp_X4_ownerLooked_13_s, vM_L h, vM_W h]
    simp only [j_X4_ownerLooked_157_e, j_X4_ownerLooked_156_e, j_X4_ownerLooked_152_e, j_X4_ownerLooked_137_e, j_X4_ownerLooked_96_e, j_X4_ownerLooked_73_e, j_X4_ownerLooked_54_e, j_X4_ownerLooked_49_e, j_X4_ownerLooked_53_e]
    rw [vM_W h]
    refine pc_ite (fun c => ?_) (fun c => pc_chk (fun w => ?_))
    · have d := ti_le c
      have el : (V 1).toNatClampNeg = l := by omega
      unfold gHold
      rw [el, ← e1, ← e2, ← e3]
      simp only [↓reduceIte, (eq_false (by decide) : ((1 : Int32) = 0) = False)]
      rw [← e1] at b1
      rw [← e2] at b2
      rw [← e3] at b3
      refine pc_ite (fun c0 => pc_ret ⟨?_, rfl⟩) (fun c0 => ?_)
      · have d0 := ti_lt c0
        rw [tz_0] at d0
        have e9 : x1 = -9 := by
          rcases b1 with q | q
          · exact q
          · omega
        rw [e9, ite_self, ite_self, ite_self, ite_self]
      refine pc_ite (fun c1 => pc_ret ⟨?_, rfl⟩) (fun c1 => ?_)
      · rw [if_neg (by rw [c1]; decide), if_neg (by rw [c1]; decide)]
      refine pc_ite (fun c2 => ?_) (fun c2 => ?_)
      · rw [if_pos c2]
        refine pc_ite (fun c3 => pc_ite (fun c4 => absurd (c2.symm.trans c4) (by decide)) (fun _ => pc_ret ⟨?_, rfl⟩)) (fun c3 => pc_ret ⟨?_, rfl⟩)
        · rw [e4] at c3
          by_cases ct : (gTop B l).2.2.2 = 0
          · rw [if_pos ct] at c3; exact absurd c3 (by decide)
          · rw [if_neg ct]
        · rw [e4] at c3
          by_cases ct : (gTop B l).2.2.2 = 0
          · rw [if_pos ct]
          · rw [if_neg ct] at c3; exact absurd rfl c3
      · rw [if_neg c2]
        have hl5 : (l : Int) ≤ 5 := by omega
        have em : ((2 : Int32) * x2).toInt = 2 * x2.toInt := by rw [ti_mul (by rw [tz_2]; omega) (by rw [tz_2]; omega), tz_2]
        have ed : (x3 - x2).toInt = x3.toInt - x2.toInt := ti_sub (by omega) (by omega)
        refine pc_ite (fun c3 => pc_ite (fun c4 => pc_ret ⟨?_, rfl⟩) (fun c4 => pc_ret ⟨?_, rfl⟩)) (fun c3 => pc_ret ⟨?_, rfl⟩)
        · have d4 := ti_le c4
          rw [if_pos c3, if_neg (fun q => by have := ti_lt q; omega)]
        · have d4 := ti_nle c4
          rw [if_pos c3, if_pos (Int32.lt_iff_toInt_lt.mpr (by omega))]
        · exfalso
          have k0 := ti_ne c1
          have k1 := ti_ne c2
          have k2 := ti_ne c3
          have hW := h.1.2.2.1
          rw [tz_0] at k0
          rw [tz_1] at k1
          rw [tz_2] at k2
          omega
    · have d := ti_nle c
      rw [tn_int h1, hC l (by omega)]
      have g := hB l (by omega)
      have n5 : (x5 + 1).toInt = ((l + 1 : Nat) : Int) := ti_nx h1 (by omega)
      by_cases c1 : B l ≤ x2
      · have c1' : ¬ x2 < B l := fun q => by have := ti_lt q; have := ti_le c1; omega
        have c1e : B l ≤ (gTop B l).2.1 := by rw [← e2]; exact c1
        have step : ∀ y, (y = if (gTop B (l + 1)).2.2.2 = 0 then (1 : Int32) else 0) → pc (wt_chk x5 5 <| if B l ≤ x2 then wt_chk x5 5 <| if B l ≤ x2 then wt_chk x5 5 <| wt_lt (x3 + B l) fun z2 => lp_X4_ownerLooked_13 F N x1 x2 z2 y (x5 + 1) s else wt_chk x5 5 <| wt_lt (x3 + B l) fun z2 => lp_X4_ownerLooked_13 F N x1 (B l) z2 y (x5 + 1) s else wt_chk x5 5 <| if B l ≤ x2 then wt_chk x5 5 <| wt_lt (x3 + B l) fun z2 => lp_X4_ownerLooked_13 F N x5 x2 z2 y (x5 + 1) s else wt_chk x5 5 <| wt_lt (x3 + B l) fun z2 => lp_X4_ownerLooked_13 F N x5 (B l) z2 y (x5 + 1) s) (fun r z => r = gHold (V 2) (V 1) B ∧ z = s) := fun y hy => by
          refine pc_chk (fun _ => ?_)
          rw [if_pos c1]
          refine pc_chk (fun _ => ?_)
          rw [if_pos c1]
          exact pc_chk (fun _ => pc_lt (fun z2 hz => ih (l + 1) _ _ _ _ _ n5 (by omega) (by rw [gTop_le c1e]; exact e1) (by rw [gTop_le c1e]; exact e2) (by rw [gTop_le c1e, hz, e3]) hy))
        rw [if_neg c1']
        have hy0 : B l = (gTop B l).2.1 → (0 : Int32) = if (gTop B (l + 1)).2.2.2 = 0 then (1 : Int32) else 0 := fun q => by
          rw [gTop_le c1e, if_pos q]; exact (if_neg (show ¬ (1 : Int32) = 0 by decide)).symm
        have hyn : ¬ B l = (gTop B l).2.1 → x4 = if (gTop B (l + 1)).2.2.2 = 0 then (1 : Int32) else 0 := fun q => by
          rw [gTop_le c1e, if_neg q]; exact e4
        refine pc_ite (fun c2 => step 0 ?_) (fun c2 => pc_ite (fun c3 => step 0 (hy0 ?_)) (fun c3 => step 1 ?_))
        · by_cases q : B l = (gTop B l).2.1
          · exact hy0 q
          · rw [← hyn q, c2]
        · have d3 := ti_le c3
          have d1 := ti_le c1
          exact Int32.toInt_inj.mp (by rw [← e2]; omega)
        · have q : ¬ B l = (gTop B l).2.1 := fun q => c3 (Int32.le_iff_toInt_le.mpr (by rw [q, ← e2]; exact Int.le_refl _))
          rw [← hyn q]
          rcases b4 with t | t
          · rw [e4, if_pos t]
          · rw [e4, t] at c2
            exact absurd (if_neg (by decide)) c2
      · have c1' : x2 < B l := Int32.lt_iff_toInt_lt.mpr (ti_nle c1)
        have c1e : ¬ B l ≤ (gTop B l).2.1 := by rw [← e2]; exact c1
        rw [if_pos c1']
        refine pc_chk (fun _ => ?_)
        rw [if_neg c1]
        refine pc_chk (fun _ => ?_)
        rw [if_neg c1]
        exact pc_chk (fun _ => pc_lt (fun z2 hz => ih (l + 1) _ _ _ _ _ n5 (by omega) (by rw [gTop_gt c1e]; exact io_eq h1 (by omega)) (by rw [gTop_gt c1e]) (by rw [gTop_gt c1e, hz, e3]) (by rw [gTop_gt c1e, if_pos rfl])))
theorem aTop_g {V : Nat → Int32} {x : Int32} {v : Nat} : ∀ l, aTop V x v l = gTop (fun m => aBehind V x m v) l := fun l => by
  induction l with
  | zero => rfl
  | succ l ih =>
    show (if aBehind V x l v ≤ (aTop V x v l).2.1 then ((aTop V x v l).1, (aTop V x v l).2.1, (aTop V x v l).2.2.1 + aBehind V x l v, if aBehind V x l v = (aTop V x v l).2.1 then (1 : Int32) else (aTop V x v l).2.2.2) else (Int32.ofNat l, aBehind V x l v, (aTop V x v l).2.2.1 + aBehind V x l v, 0)) = _
    rw [ih]
    rfl
theorem aHold_g {V : Nat → Int32} {x : Int32} {v : Nat} : aHold V x v = gHold (V 2) (V 1) (fun m => aBehind V x m v) := by
  unfold aHold gHold
  rw [aTop_g]
theorem gm_ownerIn {F : Nat} {x1 x2 : Int32} {v : Nat} (hv : x1.toInt = (v : Int)) (hv8 : v < 8) {s : Mem} {V B : Nat → Int32} (h : vM V s) (hB : ∀ l : Nat, (l : Int) < (V 1).toInt → 0 ≤ (B l).toInt ∧ (B l).toInt ≤ 99999) (hC : ∀ l : Nat, (l : Int) < (V 1).toInt → wt_min 99999 (V (148 + 8 * l + v) + x2 * s 109 (8 * l + v)) = B l) : pc (f_X4_ownerIn F x1 x2 s) (fun r z => r = gHold (V 2) (V 1) B ∧ ∀ k, ¬ k = 110 → z k = s k) := by
  have h5 := h.1.2.1
  have key : ∀ (N l : Nat) (x3 : Int32) (σ : Mem), x3.toInt = (l : Int) → (l : Int) ≤ (V 1).toInt → (∀ k, ¬ k = 110 → σ k = s k) → (∀ m : Nat, m < l → σ 110 m = B m) → pc (lp_X4_ownerIn_2 F x1 x2 N x3 σ) (fun r z => r = gHold (V 2) (V 1) B ∧ ∀ k, ¬ k = 110 → z k = s k) := by
    intro N
    induction N with
    | zero => intro l x3 σ h1 h2 h3 h4; exact pc_none rfl
    | succ N ih =>
      intro l x3 σ h1 h2 h3 h4
      rw [lp_X4_ownerIn_2_s, h3 101 (by decide), vM_L h]
      refine pc_ite (fun c => ?_) (fun c => pc_chk (fun _ => pc_be mx_held (pc_chk (fun _ => pc_lt (fun s7 h7 => ?_)))))
      · have d := ti_le c
        have hM : vM V σ := vM_109 h (fun k _ q => h3 k q)
        rw [f_X4_ownerLooked_e]
        refine pc_bnd (gm_ownerLooked_13 hB hM (fun m hm => h4 m (by omega)) F 0 _ _ _ _ _ rfl h5.1 rfl rfl rfl (if_pos (show (gTop B 0).2.2.2 = 0 from rfl)).symm) (fun r z q => pc_ret ⟨q.1, fun k hk => by rw [q.2]; exact h3 k hk⟩)
      · have d := ti_nle c
        rw [tn_8 h1 hv (by omega) hv8, tn_int h1, h3 107 (by decide), h3 109 (by decide), vM_107 h (by omega), show 148 + (8 * l + v) = 148 + 8 * l + v by omega, hC l (by omega)] at h7
        refine ih (l + 1) _ _ (ti_nx h1 (by omega)) (by omega) (fun k hk => by rw [h7, up2_k hk, h3 k hk]) (fun m hm => ?_)
        rw [h7]
        by_cases e : m = l
        · subst e; rw [up2_s]
        · rw [up2_i e]; exact h4 m (by omega)
  rw [f_X4_ownerIn_e]
  exact key F 0 0 s rfl h5.1 (fun _ _ => rfl) (fun m hm => absurd hm (Nat.not_lt_zero m))
/-! more hours -/
def aBm (V : Nat → Int32) (n : Int32) (l v : Nat) (D : Int32) (m : Nat) : Int32 := if m = l then wt_min 99999 (V (148 + 8 * l + v) + n * (aGain V l v 24 + D)) else aBehind V n m v
def aOwn (V : Nat → Int32) (n : Int32) (l v : Nat) (D : Int32) : Int32 := gHold (V 2) (V 1) (aBm V n l v D)
theorem aOwn_0 {V : Nat → Int32} {n : Int32} {l v : Nat} : aOwn V n l v 0 = aHold V n v := by
  unfold aOwn
  rw [aHold_g, show aBm V n l v 0 = (fun m => aBehind V n m v) from funext (fun m => by
    unfold aBm
    by_cases c : m = l
    · rw [if_pos c, Int32.add_zero, c]; rfl
    · rw [if_neg c])]
theorem aBm_b {V : Nat → Int32} (h : wvV V) {n : Int32} (hn : 0 ≤ n.toInt ∧ n.toInt ≤ 999) {l v : Nat} (hl : (l : Int) < (V 1).toInt) (hv : v < 8) {D : Int32} (hD : 0 ≤ D.toInt ∧ D.toInt ≤ 3000) : ∀ m : Nat, (m : Int) < (V 1).toInt → 0 ≤ (aBm V n l v D m).toInt ∧ (aBm V n l v D m).toInt ≤ 99999 := fun m hm => by
  unfold aBm
  by_cases c : m = l
  · rw [if_pos c]
    have hc := vV_n h hl hv
    have hg := aGain_b h (v := v) hl 24 (by omega)
    have e1 : (aGain V l v 24 + D).toInt = (aGain V l v 24).toInt + D.toInt := ti_add (by omega) (by omega)
    have p0 : 0 ≤ n.toInt * ((aGain V l v 24).toInt + D.toInt) := Int.mul_nonneg hn.1 (by omega)
    have p1 : n.toInt * ((aGain V l v 24).toInt + D.toInt) ≤ 999 * 3240 := Int.mul_le_mul hn.2 (by omega) (by omega) (by omega)
    have e2 : (n * (aGain V l v 24 + D)).toInt = n.toInt * ((aGain V l v 24).toInt + D.toInt) := by rw [ti_mul (by rw [e1]; omega) (by rw [e1]; omega), e1]
    have e3 : (V (148 + 8 * l + v) + n * (aGain V l v 24 + D)).toInt = (V (148 + 8 * l + v)).toInt + n.toInt * ((aGain V l v 24).toInt + D.toInt) := by rw [ti_add (by rw [e2]; omega) (by rw [e2]; omega), e2]
    unfold wt_min
    by_cases c2 : V (148 + 8 * l + v) + n * (aGain V l v 24 + D) < 99999
    · have d := ti_lt c2
      rw [tz_99999] at d
      rw [if_pos c2]; omega
    · rw [if_neg c2, tz_99999]; omega
  · rw [if_neg c]
    exact aBehind_b h hm hv ⟨hn.1, by omega⟩
def mhH (V : Nat → Int32) (who n : Int32) (l v : Nat) (p : Int32) : Nat → Nat → Int32 → Int32 → Bool × Int32 × Int32
  | 0, _, D, st => (false, D, st)
  | k + 1, t, D, st => if (V (28 + 24 * l + t)).toInt < 0 ∧ aPull V l (Int32.ofNat t) = p then (if aOwn V n l v (D + p) = who then (true, D + p, st + 1) else mhH V who n l v p k (t + 1) (D + p) (st + 1)) else mhH V who n l v p k (t + 1) D st
theorem mhH_n {V : Nat → Int32} {who n p D st : Int32} {l v k t : Nat} (c : ¬ ((V (28 + 24 * l + t)).toInt < 0 ∧ aPull V l (Int32.ofNat t) = p)) : mhH V who n l v p (k + 1) t D st = mhH V who n l v p k (t + 1) D st := if_neg c
theorem mhH_y {V : Nat → Int32} {who n p D st : Int32} {l v k t : Nat} (c : (V (28 + 24 * l + t)).toInt < 0 ∧ aPull V l (Int32.ofNat t) = p) (d : aOwn V n l v (D + p) = who) : mhH V who n l v p (k + 1) t D st = (true, D + p, st + 1) := (if_pos c).trans (if_pos d)
theorem mhH_z {V : Nat → Int32} {who n p D st : Int32} {l v k t : Nat} (c : (V (28 + 24 * l + t)).toInt < 0 ∧ aPull V l (Int32.ofNat t) = p) (d : ¬ aOwn V n l v (D + p) = who) : mhH V who n l v p (k + 1) t D st = mhH V who n l v p k (t + 1) (D + p) (st + 1) := (if_pos c).trans (if_neg d)
def mhP (V : Nat → Int32) (who n : Int32) (l v : Nat) : Nat → Int32 → Int32 → Int32
  | 0, _, _ => -9
  | k + 1, D, st => if (mhH V who n l v (Int32.ofNat (k + 1)) 24 0 D st).1 = true then (mhH V who n l v (Int32.ofNat (k + 1)) 24 0 D st).2.2 else mhP V who n l v k (mhH V who n l v (Int32.ofNat (k + 1)) 24 0 D st).2.1 (mhH V who n l v (Int32.ofNat (k + 1)) 24 0 D st).2.2
def anMoreHours (V : Nat → Int32) (x1 x2 x3 : Int32) : Int32 := cF (cF (cF (cB (0 ≤ x1.toInt ∧ x1.toInt < (V 1).toInt)) (cB (0 ≤ x2.toInt ∧ x2.toInt ≤ 7))) (cN x3 1 999)) (if aHold V x3 x2.toNatClampNeg = x1 then 0 else if anShown1 V x2 (V 0).toNatClampNeg = 0 then -9 else if V (18 + 2 * x1.toNatClampNeg) = 2 then -9 else mhP V x1 x3 x1.toNatClampNeg x2.toNatClampNeg 10 0 0)
/-- gains as laid, one of them D more -/
def gD (V : Nat → Int32) (l v : Nat) (D : Int32) (s : Mem) : Prop := ∀ m : Nat, (m : Int) < (V 1).toInt → ∀ w, w < 8 → s (24 + 18 + m) w = if m = l ∧ w = v then aGain V l v 24 + D else aGain V m w 24
theorem gx_own {F : Nat} {x1 x2 D : Int32} {l v : Nat} {σ : Mem} {V : Nat → Int32} (a : vH 24 V σ) (g : gD V l v D σ) (hv : x1.toInt = (v : Int)) (hv8 : v < 8) : pc (f_X0_holder F 24 x1 x2 σ) (fun r s => r = aOwn V x2 l v D ∧ s = σ) := by
  refine gx_holder a (fun m x hm hm5 => ?_)
  rw [f_X0_behind_e]
  refine pc_chk (fun _ => pc_chk (fun _ => pc_ret ⟨?_, rfl⟩))
  rw [tn_int hm, tn_int hv, vH_n a hm5 hv8, g m hm5 v hv8]
  unfold aBm
  by_cases c : m = l
  · rw [if_pos ⟨c, rfl⟩, if_pos c, c]
  · rw [if_neg (fun q => c q.1), if_neg c]; rfl
theorem qx_mh_33 {F : Nat} {x1 x2 x3 x5 : Int32} {l v : Nat} {V : Nat → Int32} (hl : x1.toInt = (l : Int)) (hl5 : (l : Int) < (V 1).toInt) (hv : x2.toInt = (v : Int)) (hv8 : v < 8) {k25 : Int32 → Int32 → Mem → Option (Int32 × Mem)} {Q : Int32 → Mem → Prop} : ∀ (N k t : Nat) (x4 x6 D : Int32) (s : Mem), x6.toInt = (t : Int) → t + k = 24 → vH 1 V s → vH 24 V s → gD V l v D s → ((mhH V x1 x3 l v x5 k t D x4).1 = true → ∀ s', Q (mhH V x1 x3 l v x5 k t D x4).2.2 s') → (¬ (mhH V x1 x3 l v x5 k t D x4).1 = true → ∀ s', vH 1 V s' → vH 24 V s' → gD V l v (mhH V x1 x3 l v x5 k t D x4).2.1 s' → pc (k25 (mhH V x1 x3 l v x5 k t D x4).2.2 (x5 + -1) s') Q) → pc (lp_X3_hoursUntilOwned_33 F k25 x1 x2 x3 x5 N x4 x6 s) Q := by
  intro N
  induction N with
  | zero => intro k t x4 x6 D s h1 h2 a b g hy hn; exact pc_none rfl
  | succ N ih =>
    intro k t x4 x6 D s h1 h2 a b g hy hn
    have h5 := a.1.2.1.2
    rw [lp_X3_hoursUntilOwned_33_s]
    simp only [j_X3_hoursUntilOwned_107_e]
    refine pc_ite (fun c => ?_) (fun c => pc_chk (fun _ => pc_chk (fun _ => ?_)))
    · have d := ti_le c
      rw [tz_24] at d
      have k0 : k = 0 := by omega
      subst k0
      exact hn (fun q => absurd q Bool.false_ne_true) s a b g
    have d := ti_nle c
    rw [tz_24] at d
    obtain ⟨k', rfl⟩ : ∃ k', k = k' + 1 := ⟨k - 1, by omega⟩
    have e6 := io_eq h1 (by omega)
    have n6 := ti_nx h1 (by omega)
    rw [tn_int hl, tn_int h1, vH_c a hl5 (by omega)]
    have hc := wvN_9 (vH_b a (l := l) (t := t) hl5 (by omega))
    have skip : ¬ ((V (28 + 24 * l + t)).toInt < 0 ∧ aPull V l (Int32.ofNat t) = x5) → pc (lp_X3_hoursUntilOwned_33 F k25 x1 x2 x3 x5 N x4 (x6 + 1) s) Q := fun w => by
      rw [mhH_n w] at hy hn
      exact ih k' (t + 1) _ _ D s n6 (by omega) a b g hy hn
    refine pc_ite (fun c9 => pc_bnd (ax_pull a hl hl5) (fun r s4 q => ?_)) (fun c9 => skip (fun w => c9 (hc.mpr w.1)))
    rw [q.2, q.1, e6]
    rw [e6] at skip
    refine pc_ite (fun cp => pc_chk (fun _ => pc_lt (fun s6 g6 => ?_))) (fun cp => skip (fun w => cp w.2))
    have w : (V (28 + 24 * l + t)).toInt < 0 ∧ aPull V l (Int32.ofNat t) = x5 := ⟨hc.mp c9, cp⟩
    rw [tn_int hv, g l hl5 v hv8, if_pos ⟨rfl, rfl⟩, Int32.add_assoc] at g6
    have a6 : vH 1 V s6 := vH_e a (fun j _ _ => by rw [g6, up2_k (by omega)])
    have b6 : vH 24 V s6 := vH_e b (fun j _ _ => by rw [g6, up2_k (by omega)])
    have gd6 : gD V l v (D + x5) s6 := fun m hm j hj => by
      rw [g6]
      by_cases z1 : m = l
      · subst z1
        by_cases z2 : j = v
        · subst z2; rw [up2_s, if_pos ⟨rfl, rfl⟩]
        · rw [up2_i z2, g m hm j hj, if_neg (fun q => z2 q.2), if_neg (fun q => z2 q.2)]
      · rw [up2_k (by omega), g m hm j hj, if_neg (fun q => z1 q.1), if_neg (fun q => z1 q.1)]
    refine pc_bnd (gx_own b6 gd6 hv hv8) (fun r7 s8 q8 => ?_)
    rw [q8.2, q8.1]
    refine pc_ite (fun co => pc_ret ?_) (fun co => ?_)
    · rw [mhH_y w co] at hy
      exact hy rfl _
    · rw [mhH_z w co] at hy hn
      exact ih k' (t + 1) _ _ (D + x5) s6 (by rw [← e6]; exact n6) (by omega) a6 b6 gd6 hy hn
theorem qx_mh {F : Nat} (hF : 1000 ≤ F) {x1 x2 x3 : Int32} {l v : Nat} {σ : Mem} {V : Nat → Int32} (h : vH 1 V σ) (hl : x1.toInt = (l : Int)) (hl5 : (l : Int) < (V 1).toInt) (hv : x2.toInt = (v : Int)) (hv8 : v < 8) : pc (f_X3_hoursUntilOwned F x1 x2 x3 σ) (fun r _ => r = mhP V x1 x3 l v 10 0 0) := by
  rw [f_X3_hoursUntilOwned_e]
  refine pc_bnd (qx_take hF h) (fun _ s10 q10 => pc_bnd (qx_reckH q10.1) (fun _ s12 q12 => ?_))
  have a12 : vH 1 V s12 := vH_o (vH_o h q10.2) (o24_rk q12.2)
  have g12 : gD V l v 0 s12 := fun m hm w hw => by
    rw [q12.1.2 m hm w hw, Int32.add_zero]
    by_cases c : m = l ∧ w = v
    · rw [if_pos c, c.1, c.2]
    · rw [if_neg c]
  have key : ∀ (N k : Nat) (x4 x5 D : Int32) (s : Mem), x5.toInt = (k : Int) → k ≤ 10 → vH 1 V s → vH 24 V s → gD V l v D s → pc (lp_X3_hoursUntilOwned_25 F x1 x2 x3 N x4 x5 s) (fun r _ => r = mhP V x1 x3 l v k D x4) := by
    intro N
    induction N with
    | zero => intro k x4 x5 D s h1 h2 a b g; exact pc_none rfl
    | succ N ih =>
      intro k x4 x5 D s h1 h2 a b g
      rw [lp_X3_hoursUntilOwned_25_s]
      refine pc_ite (fun c => ?_) (fun c => ?_)
      · have d := ti_le c
        rw [tz_0] at d
        rw [show k = 0 by omega]
        exact pc_ret rfl
      have d := ti_nle c
      rw [tz_0] at d
      obtain ⟨k', rfl⟩ : ∃ k', k = k' + 1 := ⟨k - 1, by omega⟩
      have e5 := io_eq h1 (by omega)
      have hs : mhP V x1 x3 l v (k' + 1) D x4 = if (mhH V x1 x3 l v x5 24 0 D x4).1 = true then (mhH V x1 x3 l v x5 24 0 D x4).2.2 else mhP V x1 x3 l v k' (mhH V x1 x3 l v x5 24 0 D x4).2.1 (mhH V x1 x3 l v x5 24 0 D x4).2.2 := by rw [e5]; rfl
      rw [hs]
      refine qx_mh_33 hl hl5 hv hv8 F 24 0 x4 0 D s rfl (by omega) a b g (fun w _ => by rw [if_pos w]) (fun w s' a' b' g' => ?_)
      rw [if_neg w]
      exact ih k' _ _ _ s' (by rw [ti_m1 (by omega)]; omega) (by omega) a' b' g'
  exact key F 10 0 10 0 s12 rfl (by omega) a12 q12.1.1 g12
theorem qx_moreHours {F : Nat} (hF : 1000 ≤ F) {x1 x2 x3 : Int32} {σ : Mem} {V : Nat → Int32} (h : vH 1 V σ) : pc (f_X3_moreHours F x1 x2 x3 σ) (fun r _ => r = anMoreHours V x1 x2 x3) := by
  have h5 := h.1.2.1.2
  rw [f_X3_moreHours_e]
  refine pc_be (ax_noLooker (by rw [vH_2 h]; exact h5)) (pc_be ax_noView (pc_be ax_firstOf (pc_be ax_outside (pc_be ax_firstOf ?_))))
  rw [vH_2 h]
  simp only [j_X3_moreHours_83_e]
  unfold anMoreHours
  refine cq_end (fun e => pc_bnd (qx_reckon h) (fun _ s12 a12 => ?_))
  have d1 := cB_0 (cF_0 (cF_0 e).1).1
  have d2 := cB_0 (cF_0 (cF_0 e).1).2
  have n1 := ti_nat x1
  have n2 := ti_nat x2
  refine pc_bnd (qx_hold a12 (v := x2.toNatClampNeg) (by omega) (by omega)) (fun r s14 q14 => ?_)
  rw [q14.2, q14.1]
  refine pc_ite (fun c => pc_ret (by rw [if_pos c])) (fun c => ?_)
  rw [if_neg c]
  refine pc_bnd (qx_timesShown (vX_H a12.1) d2) (fun r s16 q16 => ?_)
  rw [q16.2, q16.1]
  refine pc_ite (fun c2 => pc_ret (by rw [if_pos c2])) (fun c2 => pc_chk (fun w => ?_))
  rw [if_neg c2, vH_k2 a12.1 w.2.2]
  refine pc_ite (fun c3 => pc_ret (by rw [if_pos c3])) (fun c3 => ?_)
  rw [if_neg c3]
  exact pc_bnd (qx_mh hF a12.1 (l := x1.toNatClampNeg) (v := x2.toNatClampNeg) (by omega) (by omega) (by omega) (by omega)) (fun r z q => pc_ret q)
/-- a view is shown by no pane: the two ways to tell it -/
theorem bit_or (a b c : Int32) : ((a ||| b) >>> c) &&& (1 : Int32) = ((a >>> c) &&& 1) ||| ((b >>> c) &&& 1) := by
  rw [Int32.shiftRight_or]
  exact Int32.toBitVec_inj.mp BitVec.and_or_distrib_right
theorem shown_0 {V : Nat → Int32} {x : Int32} : ∀ n, n ≤ 6 → (0 ≤ (anShown1 V x n).toInt ∧ (anShown1 V x n).toInt ≤ (n : Int)) ∧ ((aAll V n >>> (x &&& 31)) &&& (1 : Int32) = 0 ↔ anShown1 V x n = 0) := fun n => by
  induction n with
  | zero => intro _; exact ⟨⟨Int.le_refl 0, Int.le_refl 0⟩, ⟨fun _ => rfl, fun _ => by show ((0 : Int32) >>> (x &&& 31)) &&& 1 = 0; rw [Int32.zero_shiftRight, Int32.zero_and]⟩⟩
  | succ n ih =>
    intro hn
    obtain ⟨b, e⟩ := ih (by omega)
    have hs : anShown1 V x (n + 1) = anShown1 V x n + anBit (V (12 + n)) x := rfl
    have hb : (aAll V (n + 1) >>> (x &&& 31)) &&& (1 : Int32) = ((aAll V n >>> (x &&& 31)) &&& 1) ||| anBit (V (12 + n)) x := bit_or _ _ _
    rw [hs, hb]
    rcases ax_and1 (V (12 + n) >>> (x &&& 31)) with q | q
    · rw [show anBit (V (12 + n)) x = 0 from q, Int32.add_zero, Int32.or_zero]
      exact ⟨by omega, e⟩
    · rw [show anBit (V (12 + n)) x = 1 from q]
      have t : (anShown1 V x n + 1).toInt = (anShown1 V x n).toInt + 1 := by rw [ti_add (by rw [tz_1]; omega) (by rw [tz_1]; omega), tz_1]
      refine ⟨by omega, ⟨fun w => ?_, fun w => ?_⟩⟩
      · exfalso
        rcases ax_and1 (aAll V n >>> (x &&& 31)) with u | u
        · rw [u] at w; exact absurd w (by decide)
        · rw [u] at w; exact absurd w (by decide)
      · have := congrArg Int32.toInt w
        rw [tz_0] at this
        omega
def mD (V : Nat → Int32) (l v : Nat) (D : Int32) (s : Mem) : Prop := ∀ m : Nat, (m : Int) < (V 1).toInt → ∀ w, w < 8 → s 109 (8 * m + w) = if m = l ∧ w = v then aGain V l v 24 + D else aGain V m w 24
theorem gm_own {F : Nat} {x1 x2 D : Int32} (hx : 0 ≤ x2.toInt ∧ x2.toInt ≤ 999) {l v : Nat} {s : Mem} {V : Nat → Int32} (a : vM V s) (g : mD V l v D s) (hl5 : (l : Int) < (V 1).toInt) (hv : x1.toInt = (v : Int)) (hv8 : v < 8) (hD : 0 ≤ D.toInt ∧ D.toInt ≤ 3000) : pc (f_X4_ownerIn F x1 x2 s) (fun r z => r = aOwn V x2 l v D ∧ ∀ k, ¬ k = 110 → z k = s k) := gm_ownerIn hv hv8 a (aBm_b a.1 hx hl5 hv8 hD) (fun m hm => by
  rw [g m hm v hv8]
  unfold aBm
  by_cases c : m = l
  · rw [if_pos ⟨c, rfl⟩, if_pos c, c]
  · rw [if_neg (fun q => c q.1), if_neg c]; rfl)
theorem qm_mh_101 {F : Nat} {x1 x2 x3 x6 : Int32} {l v : Nat} {V : Nat → Int32} (hx : 0 ≤ x3.toInt ∧ x3.toInt ≤ 999) (hl : x1.toInt = (l : Int)) (hl5 : (l : Int) < (V 1).toInt) (hv : x2.toInt = (v : Int)) (hv8 : v < 8) (hp : 0 ≤ x6.toInt ∧ x6.toInt ≤ 10) {k93 : Int32 → Int32 → Mem → Option (Int32 × Mem)} {Q : Int32 → Mem → Prop} {T : Int} (hT : 0 ≤ T ∧ T ≤ 2700) : ∀ (N k t : Nat) (x5 x7 D : Int32) (s : Mem), x7.toInt = (t : Int) → t + k = 24 → vM V s → mD V l v D s → (0 ≤ D.toInt ∧ D.toInt ≤ T + 10 * (t : Int)) → ((mhH V x1 x3 l v x6 k t D x5).1 = true → ∀ s', Q (mhH V x1 x3 l v x6 k t D x5).2.2 s') → (¬ (mhH V x1 x3 l v x6 k t D x5).1 = true → ∀ s', vM V s' → mD V l v (mhH V x1 x3 l v x6 k t D x5).2.1 s' → (0 ≤ (mhH V x1 x3 l v x6 k t D x5).2.1.toInt ∧ (mhH V x1 x3 l v x6 k t D x5).2.1.toInt ≤ T + 240) → pc (k93 (mhH V x1 x3 l v x6 k t D x5).2.2 (x6 + -1) s') Q) → pc (lp_X4_moreHours_101 F k93 x1 x2 x3 x6 N x5 x7 s) Q := by
  intro N
  induction N with
  | zero => intro k t x5 x7 D s h1 h2 a g hD hy hn; exact pc_none rfl
  | succ N ih =>
    intro k t x5 x7 D s h1 h2 a g hD hy hn
    have h5 := a.1.2.1.2
    rw [lp_X4_moreHours_101_s]
    simp only [j_X4_moreHours_167_e]
    refine pc_ite (fun c => ?_) (fun c => pc_chk (fun _ => ?_))
    · have d := ti_le c
      rw [tz_24] at d
      have k0 : k = 0 := by omega
      subst k0
      exact hn (fun q => absurd q Bool.false_ne_true) s a g ⟨hD.1, by show D.toInt ≤ _; omega⟩
    have d := ti_nle c
    rw [tz_24] at d
    obtain ⟨k', rfl⟩ : ∃ k', k = k' + 1 := ⟨k - 1, by omega⟩
    have e7 := io_eq h1 (by omega)
    have n7 := ti_nx h1 (by omega)
    rw [tn_24 hl h1 (by omega) (by omega), vM_106 a (by omega), show 28 + (24 * l + t) = 28 + 24 * l + t by omega]
    have skip : ¬ ((V (28 + 24 * l + t)).toInt < 0 ∧ aPull V l (Int32.ofNat t) = x6) → pc (lp_X4_moreHours_101 F k93 x1 x2 x3 x6 N x5 (x7 + 1) s) Q := fun w => by
      rw [mhH_n w] at hy hn
      exact ih k' (t + 1) _ _ D s n7 (by omega) a g ⟨hD.1, by omega⟩ hy hn
    refine pc_ite (fun c9 => skip (fun w => by have := ti_le c9; rw [tz_0] at this; omega)) (fun c9 => pc_bnd (mx_pullOf a hl hl5) (fun r s4 q => ?_))
    have c9' := ti_nle c9
    rw [tz_0] at c9'
    rw [q.2, q.1, e7]
    rw [e7] at skip
    refine pc_ite (fun cp => pc_chk (fun _ => pc_lt (fun s6 g6 => ?_))) (fun cp => skip (fun w => cp w.2))
    have w : (V (28 + 24 * l + t)).toInt < 0 ∧ aPull V l (Int32.ofNat t) = x6 := ⟨c9', cp⟩
    rw [tn_8 hl hv (by omega) hv8, g l hl5 v hv8, if_pos ⟨rfl, rfl⟩, Int32.add_assoc] at g6
    have a6 : vM V s6 := vM_109 a (fun j j1 _ => by rw [g6, up2_k j1])
    have gd6 : mD V l v (D + x6) s6 := fun m hm j hj => by
      rw [g6]
      by_cases z : m = l ∧ j = v
      · rw [z.1, z.2, up2_s, if_pos ⟨rfl, rfl⟩]
      · rw [up2_i (by omega), g m hm j hj, if_neg z, if_neg z]
    have hD6 : (D + x6).toInt = D.toInt + x6.toInt := ti_add (by omega) (by omega)
    refine pc_bnd (gm_own hx a6 gd6 hl5 hv hv8 ⟨by omega, by omega⟩) (fun r7 s8 q8 => ?_)
    rw [q8.1]
    have a8 : vM V s8 := vM_109 a6 (fun j _ j2 => q8.2 j j2)
    have g8 : mD V l v (D + x6) s8 := fun m hm j hj => by rw [q8.2 109 (by decide)]; exact gd6 m hm j hj
    refine pc_ite (fun co => pc_ret ?_) (fun co => ?_)
    · rw [mhH_y w co] at hy
      exact hy rfl _
    · rw [mhH_z w co] at hy hn
      exact ih k' (t + 1) _ _ (D + x6) s8 (by rw [← e7]; exact n7) (by omega) a8 g8 ⟨by omega, by omega⟩ hy hn
theorem mh_own {V : Nat → Int32} {who n p : Int32} {l v : Nat} : ∀ (k t : Nat) (D st : Int32), ¬ aOwn V n l v D = who → ¬ (mhH V who n l v p k t D st).1 = true → ¬ aOwn V n l v (mhH V who n l v p k t D st).2.1 = who := fun k => by
  induction k with
  | zero => intro t D st h _; exact h
  | succ k ih =>
    intro t D st h hn
    by_cases c : (V (28 + 24 * l + t)).toInt < 0 ∧ aPull V l (Int32.ofNat t) = p
    · by_cases d : aOwn V n l v (D + p) = who
      · rw [mhH_y c d] at hn; exact absurd rfl hn
      · rw [mhH_z c d] at hn ⊢; exact ih _ _ _ d hn
    · rw [mhH_n c] at hn ⊢; exact ih _ _ _ h hn
theorem mh_nil {V : Nat → Int32} {who n : Int32} {l v : Nat} : ∀ (k t : Nat) (D st : Int32), ¬ aOwn V n l v D = who → ¬ (mhH V who n l v 0 k t D st).1 = true := fun k => by
  induction k with
  | zero => intro t D st h q; exact absurd q Bool.false_ne_true
  | succ k ih =>
    intro t D st h
    by_cases c : (V (28 + 24 * l + t)).toInt < 0 ∧ aPull V l (Int32.ofNat t) = 0
    · rw [mhH_z c (by rw [Int32.add_zero]; exact h), Int32.add_zero]; exact ih _ _ _ h
    · rw [mhH_n c]; exact ih _ _ _ h
theorem qm_moreHours {F : Nat} {x1 x2 x3 : Int32} {s : Mem} {V : Nat → Int32} (h : vM V s) : pc (f_X4_moreHours F x1 x2 x3 s) (fun r _ => r = anMoreHours V x1 x2 x3) := by
  have h5 := h.1.2.1.2
  have m0 := ti_nat (V 0)
  have h6 := h.1.1
  rw [f_X4_moreHours_e]
  refine pc_lt (fun s5 g5 => ?_)
  have h' : vM V s5 := vM_up h g5
  clear g5
  simp only [j_X4_moreHours_31_e, j_X4_moreHours_32_e, j_X4_moreHours_83_e]
  refine pc_be (mx_isLooker (by rw [vM_L h']; exact h.1.2.1.1)) ?_
  rw [vM_L h']
  unfold anMoreHours
  by_cases c : 0 ≤ x1.toInt ∧ x1.toInt < (V 1).toInt
  · rw [if_pos c, if_neg (by decide), cB_t c, cF_z]
    refine pc_be mx_isView ?_
    by_cases c2 : 0 ≤ x2.toInt ∧ x2.toInt ≤ 7
    · rw [if_pos c2, if_neg (by decide), cB_t c2, cF_z]
      have n1 := ti_nat x1
      have n2 := ti_nat x2
      refine pc_be mx_wrongN ?_
      refine mq_end sg_cN (fun e => pc_bnd (qm_lay h') (fun _ s9 q9 => ?_))
      have d2 := cN_0 e
      rw [tz_1, tz_999'] at d2
      have hx : 0 ≤ x3.toInt ∧ x3.toInt ≤ 999 := ⟨by omega, d2.2⟩
      refine pc_bnd (qm_own ⟨hx.1, by omega⟩ (v := x2.toNatClampNeg) (by omega) (by omega) q9) (fun r s11 q11 => ?_)
      rw [q11.1]
      refine pc_ite (fun c3 => pc_ret (by rw [if_pos c3])) (fun c3 => pc_chk (fun w => ?_))
      rw [if_neg c3, vM_104 q11.2.1 w.2.2]
      have sh := (shown_0 (V := V) (x := x2) (V 0).toNatClampNeg (by omega)).2
      refine pc_ite (fun c4 => pc_ret ?_) (fun c4 => pc_bnd (mx_allShown q11.2.1) (fun r13 s14 q14 => ?_))
      · rw [if_pos c4, ite_self]
      rw [q14.2, q14.1, f_X4_hasBit_e]
      have hl : x1.toInt = (x1.toNatClampNeg : Int) := by omega
      have hl5 : (x1.toNatClampNeg : Int) < (V 1).toInt := by omega
      have hv : x2.toInt = (x2.toNatClampNeg : Int) := by omega
      have hv8 : x2.toNatClampNeg < 8 := by omega
      rcases ax_and1 (aAll V (V 0).toNatClampNeg >>> (x2 &&& 31)) with b | b
      · rw [b, if_neg (by decide)]
        refine pc_be rfl ?_
        rw [if_pos rfl]
        exact pc_ret (by rw [if_pos (sh.mp b)])
      · have nb : ¬ anShown1 V x2 (V 0).toNatClampNeg = 0 := fun q => by rw [sh.mpr q] at b; exact absurd b (by decide)
        rw [b, if_pos rfl]
        refine pc_be rfl ?_
        rw [if_neg (by decide), if_neg nb, if_neg c4]
        have g11 : mD V x1.toNatClampNeg x2.toNatClampNeg 0 s11 := fun m hm j hj => by
          rw [q11.2.2 m hm j hj, Int32.add_zero]
          by_cases z : m = x1.toNatClampNeg ∧ j = x2.toNatClampNeg
          · rw [if_pos z, z.1, z.2]
          · rw [if_neg z]
        have key : ∀ (N k : Nat) (x5 x6 D : Int32) (s : Mem), x6.toInt = (k : Int) → k ≤ 10 → vM V s → mD V x1.toNatClampNeg x2.toNatClampNeg D s → (0 ≤ D.toInt ∧ D.toInt ≤ 240 * (10 - (k : Int))) → ¬ aOwn V x3 x1.toNatClampNeg x2.toNatClampNeg D = x1 → pc (lp_X4_moreHours_93 F x1 x2 x3 N x5 x6 s) (fun r _ => r = mhP V x1 x3 x1.toNatClampNeg x2.toNatClampNeg k D x5) := by
          intro N
          induction N with
          | zero => intro k x5 x6 D s h1 h2 a g hD ho; exact pc_none rfl
          | succ N ih =>
            intro k x5 x6 D s h1 h2 a g hD ho
            rw [lp_X4_moreHours_93_s]
            refine pc_ite (fun c => ?_) (fun c => ?_)
            · have d := ti_lt c
              rw [tz_0] at d
              omega
            have e6 := io_eq h1 (by omega)
            cases k with
            | zero =>
              have x60 : x6 = 0 := by rw [e6]; rfl
              refine qm_mh_101 hx hl hl5 hv hv8 ⟨by omega, by omega⟩ (T := 2400) ⟨by omega, by omega⟩ F 24 0 x5 0 D s rfl (by omega) a g ⟨hD.1, by omega⟩ (fun w => ?_) (fun w s' a' g' hD' => ?_)
              · rw [x60] at w
                exact absurd w (mh_nil 24 0 D x5 ho)
              · cases N with
                | zero => exact pc_none rfl
                | succ N =>
                  rw [lp_X4_moreHours_93_s, if_pos (by rw [x60]; decide)]
                  exact pc_ret rfl
            | succ k' =>
              have hs : mhP V x1 x3 x1.toNatClampNeg x2.toNatClampNeg (k' + 1) D x5 = if (mhH V x1 x3 x1.toNatClampNeg x2.toNatClampNeg x6 24 0 D x5).1 = true then (mhH V x1 x3 x1.toNatClampNeg x2.toNatClampNeg x6 24 0 D x5).2.2 else mhP V x1 x3 x1.toNatClampNeg x2.toNatClampNeg k' (mhH V x1 x3 x1.toNatClampNeg x2.toNatClampNeg x6 24 0 D x5).2.1 (mhH V x1 x3 x1.toNatClampNeg x2.toNatClampNeg x6 24 0 D x5).2.2 := by rw [e6]; rfl
              rw [hs]
              refine qm_mh_101 hx hl hl5 hv hv8 ⟨by omega, by omega⟩ (T := 240 * (10 - ((k' + 1 : Nat) : Int))) ⟨by omega, by omega⟩ F 24 0 x5 0 D s rfl (by omega) a g ⟨hD.1, by omega⟩ (fun w _ => by rw [if_pos w]) (fun w s' a' g' hD' => ?_)
              rw [if_neg w]
              exact ih k' _ _ _ s' (by rw [ti_m1 (by omega)]; omega) (by omega) a' g' ⟨hD'.1, by omega⟩ (mh_own 24 0 D x5 ho w)
        exact key F 10 0 10 0 s11 rfl (by omega) q11.2.1 g11 ⟨Int.le_refl 0, Int.le_refl 0⟩ (by rw [aOwn_0]; exact c3)
    · rw [if_neg c2, if_pos rfl, cB_f c2, cF_n (a := -1) (by decide), if_neg (by decide)]
      exact mq_ref (cF_n (by decide))
  · rw [if_neg c, if_pos rfl, cB_f c, cF_n (a := -1) (by decide), cF_n (a := -1) (by decide), if_neg (by decide)]
    exact mq_ref (cF_n (by decide))
end
section
/-! fractions in lowest terms -/
theorem lc3 (x y : Int64) : (y.toInt < x.toInt ∧ lg_cmp x y = 1) ∨ (x = y ∧ lg_cmp x y = 0) ∨ (x.toInt < y.toInt ∧ lg_cmp x y = -1) := by
  unfold lg_cmp
  by_cases c : x > y
  · rw [if_pos c]; exact Or.inl ⟨Int64.lt_iff_toInt_lt.mp c, rfl⟩
  · rw [if_neg c]
    have c' : ¬ y.toInt < x.toInt := fun q => c (Int64.lt_iff_toInt_lt.mpr q)
    by_cases d : x = y
    · rw [if_pos d]; exact Or.inr (Or.inl ⟨d, rfl⟩)
    · rw [if_neg d]
      have d' : ¬ x.toInt = y.toInt := fun q => d (Int64.toInt_inj.mp q)
      exact Or.inr (Or.inr ⟨by omega, rfl⟩)
theorem l200 : (200 : Int32).toInt = 200 := rfl
theorem l64_0 : (0 : Int64).toInt = 0 := rfl
theorem lc_z {x : Int64} : lg_cmp x 0 = 0 ↔ x = 0 := by
  rcases lc3 x 0 with ⟨a, b⟩ | ⟨a, b⟩ | ⟨a, b⟩
  · rw [b]; exact ⟨fun q => absurd q (by decide), fun q => by rw [q] at a; exact absurd a (by decide)⟩
  · exact ⟨fun _ => a, fun _ => b⟩
  · rw [b]; exact ⟨fun q => absurd q (by decide), fun q => by rw [q] at a; exact absurd a (by decide)⟩
theorem lc_p {x : Int64} (h : 0 < x.toInt) : lg_cmp x 0 = 1 := by
  rcases lc3 x 0 with ⟨_, b⟩ | ⟨a, _⟩ | ⟨a, _⟩
  · exact b
  · rw [a, l64_0] at h; omega
  · rw [l64_0] at a; omega
theorem w_bm {n : Int} (h1 : -9223372036854775808 ≤ n) (h2 : n ≤ 9223372036854775807) : n.bmod (2 ^ 64) = n := by
  show Int.bmod n 18446744073709551616 = n
  rw [Int.bmod_eq_of_le] <;> omega
theorem w_lt (x : Int64) : -9223372036854775808 ≤ x.toInt ∧ x.toInt ≤ 9223372036854775807 := by
  have a : x.toInt < 9223372036854775808 := x.toInt_lt
  have b : -9223372036854775808 ≤ x.toInt := x.le_toInt
  omega
theorem w_div {x y : Int64} (hx : 0 ≤ x.toInt) (hy : 0 < y.toInt) : (x / y).toInt = x.toInt / y.toInt := by
  have b := w_lt x
  have l := Int.ediv_le_self y.toInt hx
  have p := Int.ediv_nonneg hx (Int.le_of_lt hy)
  rw [Int64.toInt_div, Int.tdiv_eq_ediv_of_nonneg hx]
  exact w_bm (by omega) (by omega)
theorem w_rem {x y : Int64} (hx : 0 ≤ x.toInt) (hy : 0 < y.toInt) : (x - x / y * y).toInt = x.toInt % y.toInt := by
  have b := w_lt x
  have hd := w_div hx hy
  have b1 := Int.ediv_mul_le x.toInt (Int.ne_of_gt hy)
  have b2 : 0 ≤ x.toInt / y.toInt * y.toInt := Int.mul_nonneg (Int.ediv_nonneg hx (Int.le_of_lt hy)) (Int.le_of_lt hy)
  have hm : (x / y * y).toInt = x.toInt / y.toInt * y.toInt := by
    rw [Int64.toInt_mul, hd]
    exact w_bm (by omega) (by omega)
  rw [Int64.toInt_sub, hm, w_bm (by omega) (by omega), Int.emod_def, Int.mul_comm]
def gG (a b : Int64) : Nat := Nat.gcd a.toInt.toNat b.toInt.toNat
theorem gG_s {a b : Int64} (ha : 0 ≤ a.toInt) (hb : 0 < b.toInt) : gG b (a - a / b * b) = gG a b := by
  unfold gG
  rw [w_rem ha hb, Int.toNat_emod ha (Int.le_of_lt hb), Nat.gcd_comm a.toInt.toNat, Nat.gcd_rec b.toInt.toNat a.toInt.toNat]
  exact Nat.gcd_comm _ _
theorem g_half {b r : Nat} (h0 : 0 < r) (hle : r ≤ b) : 2 * (b % r) < b := by
  have e := Nat.div_add_mod b r
  have l := Nat.mod_lt b h0
  have h1 : 1 ≤ b / r := Nat.div_pos hle h0
  have h2 : r * 1 ≤ r * (b / r) := Nat.mul_le_mul_left r h1
  omega
theorem cx_dz {F : Nat} {σ : Mem} {a b : Int64} {i : Int32} (ha : 0 ≤ a.toInt) (hb : b = 0) (hi : i.toInt < 200) (N : Nat) : pc (lp_X3_commonDivisor_9 F N a b i σ) (fun r s => r.toInt = (gG a b : Int) ∧ s = σ) := by
  cases N with
  | zero => exact pc_none rfl
  | succ N =>
    rw [lp_X3_commonDivisor_9_s]
    simp only [j_X3_commonDivisor_45_e]
    refine pc_ite (fun c => absurd (ti_le c) (by rw [l200]; omega)) (fun _ => pc_ite (fun _ => pc_ret ⟨?_, rfl⟩) (fun n => absurd (lc_z.mpr hb) n))
    rw [hb]
    unfold gG
    rw [l64_0]
    show a.toInt = ((Nat.gcd a.toInt.toNat 0 : Nat) : Int)
    rw [Nat.gcd_zero_right]
    omega
theorem cx_ds {F : Nat} {σ : Mem} {a b : Int64} {i : Int32} {Q : Int64 → Mem → Prop} (hb : ¬ b = 0) (hi : i.toInt < 200) (h : ∀ N, pc (lp_X3_commonDivisor_9 F N b (a - a / b * b) (i + 1) σ) Q) (N : Nat) : pc (lp_X3_commonDivisor_9 F N a b i σ) Q := by
  cases N with
  | zero => exact pc_none rfl
  | succ N =>
    rw [lp_X3_commonDivisor_9_s]
    exact pc_ite (fun c => absurd (ti_le c) (by rw [l200]; omega)) (fun _ => pc_ite (fun c => absurd (lc_z.mp c) hb) (fun _ => pc_nzl (fun _ => h N)))
theorem cx_div {F : Nat} {σ : Mem} : ∀ (m : Nat) (a b : Int64) (i : Int32) (j : Nat), 0 ≤ a.toInt → 0 ≤ b.toInt → b.toInt.toNat < 2 ^ m → i.toInt = (j : Int) → j + 2 * m < 200 → ∀ N, pc (lp_X3_commonDivisor_9 F N a b i σ) (fun r s => r.toInt = (gG a b : Int) ∧ s = σ) := fun m => by
  induction m with
  | zero =>
    intro a b i j ha hb h1 h2 h3
    exact cx_dz ha (Int64.toInt_inj.mp (by rw [l64_0]; omega)) (by omega)
  | succ m ih =>
    intro a b i j ha hb h1 h2 h3
    by_cases z : b = 0
    · exact cx_dz ha z (by omega)
    have zb : 0 < b.toInt := by
      have : ¬ b.toInt = 0 := fun q => z (Int64.toInt_inj.mp (by rw [l64_0]; exact q))
      omega
    have r1 := w_rem ha zb
    have p1 := Int.emod_nonneg a.toInt (Int.ne_of_gt zb)
    have l1 := Int.emod_lt_of_pos a.toInt zb
    have n1 := ti_nx h2 (by omega)
    refine cx_ds z (by omega) ?_
    rw [← gG_s ha zb]
    by_cases z2 : a - a / b * b = 0
    · exact cx_dz hb z2 (by omega)
    have zr : 0 < (a - a / b * b).toInt := by
      have : ¬ (a - a / b * b).toInt = 0 := fun q => z2 (Int64.toInt_inj.mp (by rw [l64_0]; exact q))
      omega
    refine cx_ds z2 (by omega) ?_
    rw [← gG_s hb zr]
    have r2 := w_rem hb zr
    have p2 := Int.emod_nonneg b.toInt (Int.ne_of_gt zr)
    have hh := g_half (b := b.toInt.toNat) (r := (a - a / b * b).toInt.toNat) (by omega) (by omega)
    rw [← Int.toNat_emod hb (Int.le_of_lt zr)] at hh
    have pw : 2 ^ (m + 1) = 2 * 2 ^ m := by rw [Nat.pow_succ, Nat.mul_comm]
    exact ih _ _ _ (j + 2) (by omega) (by rw [r2]; exact p2) (by rw [r2]; omega) (ti_nx n1 (by omega)) (by omega)
theorem mx_div {F : Nat} {σ : Mem} : ∀ (N : Nat) (a b : Int64), 0 ≤ a.toInt → 0 ≤ b.toInt → pc (lp_X4_divisor_6 F N a b σ) (fun r s => r.toInt = (gG a b : Int) ∧ s = σ) := by
  intro N
  induction N with
  | zero => intro a b ha hb; exact pc_none rfl
  | succ N ih =>
    intro a b ha hb
    rw [lp_X4_divisor_6_s]
    refine pc_ite (fun c => pc_ret ⟨?_, rfl⟩) (fun c => pc_nzl (fun _ => ?_))
    · rw [lc_z.mp c]
      unfold gG
      rw [l64_0]
      show a.toInt = ((Nat.gcd a.toInt.toNat 0 : Nat) : Int)
      rw [Nat.gcd_zero_right]
      omega
    · have z : ¬ b = 0 := fun q => c (lc_z.mpr q)
      have zb : 0 < b.toInt := by
        have : ¬ b.toInt = 0 := fun q => z (Int64.toInt_inj.mp (by rw [l64_0]; exact q))
        omega
      rw [← gG_s ha zb]
      exact ih _ _ hb (by rw [w_rem ha zb]; exact Int.emod_nonneg a.toInt (Int.ne_of_gt zb))
def aFrac (y0 y2 : Int64) (x4 : Int32) : Int64 := if y0 = 0 then Int32.toInt64 x4 else if x4 = 0 then y0 / Int64.ofInt (gG y0 y2) else y2 / Int64.ofInt (gG y0 y2)
theorem cx_frac {F : Nat} {y0 y2 : Int64} {x4 : Int32} {σ : Mem} (h0 : 0 ≤ y0.toInt) (h2 : 0 < y0.toInt → 0 < y2.toInt) (hx : x4 = 0 ∨ x4 = 1) : pc (f_X3_fraction F y0 y2 x4 σ) (fun r s => r = aFrac y0 y2 x4 ∧ s = σ) := by
  rw [f_X3_fraction_e]
  simp only [j_X3_fraction_12_e]
  unfold aFrac
  by_cases z : y0 = 0
  · rw [if_pos z]
    refine pc_ite (fun _ => ?_) (fun n => absurd (by rw [lc_z.mpr z]; decide) n)
    rcases hx with x | x
    · rw [x]; exact pc_ite (fun _ => pc_ret ⟨rfl, rfl⟩) (fun n => absurd rfl n)
    · rw [x]; exact pc_ite (fun q => absurd q (by decide)) (fun _ => pc_ret ⟨rfl, rfl⟩)
  · rw [if_neg z]
    have zp : 0 < y0.toInt := by
      have : ¬ y0.toInt = 0 := fun q => z (Int64.toInt_inj.mp (by rw [l64_0]; exact q))
      omega
    have z2 := h2 zp
    have b2 := w_lt y2
    refine pc_ite (fun c => absurd c (by rw [lc_p zp]; decide)) (fun _ => pc_ite (fun _ => ?_) (fun n => absurd (by rw [lc_p z2]; decide) n))
    rw [f_X3_commonDivisor_e]
    refine pc_bnd (cx_div 63 y0 y2 0 0 h0 (Int.le_of_lt z2) (by have p63 : (2 : Nat) ^ 63 = 9223372036854775808 := rfl; rw [p63]; omega) rfl (by omega) F) (fun r1 s2 q => ?_)
    rw [q.2]
    have gp : 0 < gG y0 y2 := Nat.gcd_pos_of_pos_left _ (by omega)
    have er : r1 = Int64.ofInt (gG y0 y2) := by rw [← q.1]; exact (Int64.ofInt_toInt r1).symm
    refine pc_ite (fun _ => pc_ite (fun c => pc_nzl (fun _ => pc_ret ⟨by rw [if_pos c, er], rfl⟩)) (fun c => pc_nzl (fun _ => pc_ret ⟨by rw [if_neg c, er], rfl⟩))) (fun n => absurd (by rw [lc_p (by rw [q.1]; omega)]; decide) n)
theorem mx_part {F : Nat} {y0 y2 : Int64} {x4 : Int32} {σ : Mem} (h0 : 0 ≤ y0.toInt) (h2 : 0 < y0.toInt → 0 < y2.toInt) : pc (f_X4_partOf F y0 y2 x4 σ) (fun r s => r = aFrac y0 y2 x4 ∧ s = σ) := by
  rw [f_X4_partOf_e]
  unfold aFrac
  refine pc_ite (fun c => pc_ret ⟨by rw [if_pos (lc_z.mp c)], rfl⟩) (fun c => ?_)
  have z : ¬ y0 = 0 := fun q => c (lc_z.mpr q)
  rw [if_neg z, f_X4_divisor_e]
  have zp : 0 < y0.toInt := by
    have : ¬ y0.toInt = 0 := fun q => z (Int64.toInt_inj.mp (by rw [l64_0]; exact q))
    omega
  refine pc_bnd (mx_div F y0 y2 h0 (Int.le_of_lt (h2 zp))) (fun r1 s2 q => ?_)
  rw [q.2]
  have er : r1 = Int64.ofInt (gG y0 y2) := by rw [← q.1]; exact (Int64.ofInt_toInt r1).symm
  exact pc_ite (fun c => pc_nzl (fun _ => pc_ret ⟨by rw [if_pos c, er], rfl⟩)) (fun c => pc_nzl (fun _ => pc_ret ⟨by rw [if_neg c, er], rfl⟩))
/-! share -/
def cFL (e : Int32) (v : Int64) : Int64 := if e = 0 then v else (4000000000000000000 : Int64) - Int32.toInt64 e
theorem cFL_z {v : Int64} : cFL 0 v = v := if_pos rfl
theorem cFL_n {e : Int32} {v : Int64} (h : ¬ e = 0) : cFL e v = (4000000000000000000 : Int64) - Int32.toInt64 e := if_neg h
theorem cqL_end {F : Nat} {e : Int32} {val : Int64} {σ : Mem} {A : Option (Int64 × Mem)} (h : e = 0 → pc A (fun r _ => r = val)) : pc (if e = 0 then A else wt_bnd (f_X3_refuseLong F e σ) fun r s => some (r, s)) (fun r _ => r = cFL e val) := by
  refine pc_ite (fun c => pc_mono (h c) (fun a s g => by rw [g, c, cFL_z])) (fun c => ?_)
  rw [f_X3_refuseLong_e]
  refine pc_bnd (P := fun r _ => r = cFL e val) (pc_bnd ax_refuse (fun r s q => pc_ret (by rw [q.1, cFL_n c]))) (fun r s q => pc_ret q)
theorem mqL_ref {F : Nat} {e : Int32} {X : Int64} {σ : Mem} (h : X = (4000000000000000000 : Int64) - Int32.toInt64 e) : pc (wt_bnd (f_X4_refuse F e σ) fun r s => some (((4000000000000000000 : Int64) - Int32.toInt64 r), s)) (fun r _ => r = X) := pc_bnd mx_refuse (fun r s q => pc_ret (by rw [q.1]; exact h.symm))
def aSm (V : Nat → Int32) (v : Nat) : Nat → Int64
  | 0 => 0
  | l + 1 => aSm V v l + Int32.toInt64 (V (148 + 8 * l + v))
theorem aSm_b {V : Nat → Int32} (h : wvV V) {v : Nat} (hv : v < 8) : ∀ l : Nat, (l : Int) ≤ (V 1).toInt → (0 ≤ (aSm V v l).toInt ∧ (aSm V v l).toInt ≤ 99999 * (l : Int)) ∧ ∀ m, m < l → (V (148 + 8 * m + v)).toInt ≤ (aSm V v l).toInt := fun l => by
  induction l with
  | zero => intro _; exact ⟨⟨Int.le_refl 0, Int.le_refl 0⟩, fun m hm => absurd hm (Nat.not_lt_zero m)⟩
  | succ l ih =>
    intro hl
    obtain ⟨b, e⟩ := ih (by omega)
    have h5 := h.2.1.2
    have n := vV_n h (l := l) (v := v) (by omega) hv
    have t : (aSm V v (l + 1)).toInt = (aSm V v l).toInt + (V (148 + 8 * l + v)).toInt := by
      show (aSm V v l + Int32.toInt64 (V (148 + 8 * l + v))).toInt = _
      rw [Int64.toInt_add, Int32.toInt_toInt64]
      exact w_bm (by omega) (by omega)
    refine ⟨by omega, fun m hm => ?_⟩
    by_cases z : m = l
    · rw [z]; omega
    · have := e m (by omega); omega
def anShare (V : Nat → Int32) (x1 x2 x3 : Int32) : Int64 := cFL (cF (cF (cB (0 ≤ x1.toInt ∧ x1.toInt < (V 1).toInt)) (cB (0 ≤ x2.toInt ∧ x2.toInt ≤ 7))) (cO x3 2)) (aFrac (Int32.toInt64 (V (148 + 8 * x1.toNatClampNeg + x2.toNatClampNeg))) (aSm V x2.toNatClampNeg (V 1).toNatClampNeg) x3)
theorem x01 {x : Int32} (h : cO x 2 = 0) : x = 0 ∨ x = 1 := by
  have d := cO_0 h
  rw [tz_2] at d
  by_cases w : x = 0
  · exact Or.inl w
  · have w' := ti_ne w
    rw [tz_0] at w'
    exact Or.inr (Int32.toInt_inj.mp (by rw [tz_1]; omega))
theorem share_ok {V : Nat → Int32} (h : wvV V) {l v : Nat} (hl : (l : Int) < (V 1).toInt) (hv : v < 8) : 0 ≤ (Int32.toInt64 (V (148 + 8 * l + v))).toInt ∧ (0 < (Int32.toInt64 (V (148 + 8 * l + v))).toInt → 0 < (aSm V v (V 1).toNatClampNeg).toInt) := by
  have n := vV_n h hl hv
  have m1 := ti_nat (V 1)
  have b := (aSm_b h hv (V 1).toNatClampNeg (by omega)).2 l (by omega)
  rw [Int32.toInt_toInt64]
  exact ⟨n.1, fun q => by omega⟩
theorem qx_share {F : Nat} {x1 x2 x3 : Int32} {σ : Mem} {V : Nat → Int32} (h : vH 1 V σ) : pc (f_X3_share F x1 x2 x3 σ) (fun r _ => r = anShare V x1 x2 x3) := by
  have h5 := h.1.2.1
  have m1 := ti_nat (V 1)
  rw [f_X3_share_e]
  refine pc_be (ax_noLooker (by rw [vH_2 h]; exact h5.2)) (pc_be ax_noView (pc_be ax_firstOf (pc_be ax_notBelow (pc_be ax_firstOf ?_))))
  rw [vH_2 h]
  unfold anShare
  refine cqL_end (fun e => ?_)
  have d1 := cB_0 (cF_0 (cF_0 e).1).1
  have d2 := cB_0 (cF_0 (cF_0 e).1).2
  have d3 := x01 (cF_0 e).2
  have n1 := ti_nat x1
  have n2 := ti_nat x2
  have ok := share_ok h.1 (l := x1.toNatClampNeg) (v := x2.toNatClampNeg) (by omega) (by omega)
  have key : ∀ (N l : Nat) (y5 : Int64) (x7 : Int32), x7.toInt = (l : Int) → (l : Int) ≤ (V 1).toInt → y5 = aSm V x2.toNatClampNeg l → pc (lp_X3_share_40 F x1 x2 x3 N y5 x7 σ) (fun r _ => r = aFrac (Int32.toInt64 (V (148 + 8 * x1.toNatClampNeg + x2.toNatClampNeg))) (aSm V x2.toNatClampNeg (V 1).toNatClampNeg) x3) := by
    intro N
    induction N with
    | zero => intro l y5 x7 h1 h2 h3; exact pc_none rfl
    | succ N ih =>
      intro l y5 x7 h1 h2 h3
      rw [lp_X3_share_40_s, vH_2 h]
      refine pc_ite (fun c => pc_chk (fun _ => pc_chk (fun _ => ?_))) (fun c => pc_chk (fun _ => pc_chk (fun _ => pc_lt (fun z7 g7 => ?_))))
      · have d := ti_le c
        rw [h3, show l = (V 1).toNatClampNeg by omega, vH_n h (l := x1.toNatClampNeg) (v := x2.toNatClampNeg) (by omega) (by omega)]
        exact pc_bnd (cx_frac ok.1 ok.2 d3) (fun r s q => pc_ret q.1)
      · have d := ti_nle c
        rw [tn_int h1, vH_n h (l := l) (v := x2.toNatClampNeg) (by omega) (by omega)] at g7
        refine ih (l + 1) _ _ (ti_nx h1 (by omega)) (by omega) ?_
        rw [g7, h3]
        rfl
  exact key F 0 0 0 rfl h5.1 rfl
theorem qm_share {F : Nat} {x1 x2 x3 : Int32} {s : Mem} {V : Nat → Int32} (h : vM V s) : pc (f_X4_share F x1 x2 x3 s) (fun r _ => r = anShare V x1 x2 x3) := by
  have h5 := h.1.2.1
  have m1 := ti_nat (V 1)
  rw [f_X4_share_e]
  refine pc_lt (fun s6 g6 => ?_)
  have h' : vM V s6 := vM_up h g6
  clear g6
  simp only [j_X4_share_29_e, j_X4_share_30_e]
  refine pc_be (mx_isLooker (by rw [vM_L h']; exact h5.1)) ?_
  rw [vM_L h']
  unfold anShare
  by_cases c : 0 ≤ x1.toInt ∧ x1.toInt < (V 1).toInt
  · rw [if_pos c, if_neg (by decide), cB_t c, cF_z]
    refine pc_be mx_isView ?_
    by_cases c2 : 0 ≤ x2.toInt ∧ x2.toInt ≤ 7
    · rw [if_pos c2, if_neg (by decide), cB_t c2, cF_z]
      have n1 := ti_nat x1
      have n2 := ti_nat x2
      refine pc_be mx_wrongBit ?_
      rw [cF_z]
      have ok := share_ok h.1 (l := x1.toNatClampNeg) (v := x2.toNatClampNeg) (by omega) (by omega)
      have key : ∀ (N l : Nat) (y5 : Int64) (x7 : Int32), x7.toInt = (l : Int) → (l : Int) ≤ (V 1).toInt → y5 = aSm V x2.toNatClampNeg l → pc (lp_X4_share_55 F x1 x2 x3 N y5 x7 s6) (fun r _ => r = aFrac (Int32.toInt64 (V (148 + 8 * x1.toNatClampNeg + x2.toNatClampNeg))) (aSm V x2.toNatClampNeg (V 1).toNatClampNeg) x3) := by
        intro N
        induction N with
        | zero => intro l y5 x7 h1 h2 h3; exact pc_none rfl
        | succ N ih =>
          intro l y5 x7 h1 h2 h3
          rw [lp_X4_share_55_s, vM_L h']
          refine pc_ite (fun c => pc_chk (fun _ => ?_)) (fun c => pc_chk (fun _ => pc_lt (fun z5 g5 => ?_)))
          · have d := ti_le c
            rw [h3, show l = (V 1).toNatClampNeg by omega, tn_8 (l := x1.toNatClampNeg) (k := x2.toNatClampNeg) (by omega) (by omega) (by omega) (by omega), vM_107 h' (by omega), show 148 + (8 * x1.toNatClampNeg + x2.toNatClampNeg) = 148 + 8 * x1.toNatClampNeg + x2.toNatClampNeg by omega]
            exact pc_bnd (mx_part ok.1 ok.2) (fun r s q => pc_ret q.1)
          · have d := ti_nle c
            rw [tn_8 h1 (k := x2.toNatClampNeg) (by omega) (by omega) (by omega), vM_107 h' (by omega), show 148 + (8 * l + x2.toNatClampNeg) = 148 + 8 * l + x2.toNatClampNeg by omega] at g5
            refine ih (l + 1) _ _ (ti_nx h1 (by omega)) (by omega) ?_
            rw [g5, h3]
            rfl
      by_cases c3 : cO x3 2 = 0
      · rw [c3, cFL_z, if_pos (by decide)]
        exact key F 0 0 0 rfl h5.1 rfl
      · have e3 := cO_n c3
        rw [e3, if_neg (by decide)]
        exact mqL_ref (cFL_n (by decide))
    · rw [if_neg c2, if_pos rfl, cB_f c2, cF_n (a := -1) (by decide), if_neg (by decide)]
      exact mqL_ref (cFL_n (by decide))
  · rw [if_neg c, if_pos rfl, cB_f c, cF_n (a := -1) (by decide), cF_n (a := -1) (by decide), if_neg (by decide)]
    exact mqL_ref (cFL_n (by decide))
end
