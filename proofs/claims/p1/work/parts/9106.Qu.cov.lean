/-! cover -/
def aUn (V : Nat → Int32) (k : Nat) : Nat → Int32
  | 0 => 0
  | i + 1 => aUn V k i ||| (if (Int32.ofNat k >>> (Int32.ofNat i &&& 31)) &&& (1 : Int32) = 1 then V (12 + i) else 0)
theorem aUn_t {V : Nat → Int32} {k i : Nat} (e : (Int32.ofNat k >>> (Int32.ofNat i &&& 31)) &&& (1 : Int32) = 1) : aUn V k (i + 1) = aUn V k i ||| V (12 + i) := by
  show aUn V k i ||| (if (Int32.ofNat k >>> (Int32.ofNat i &&& 31)) &&& (1 : Int32) = 1 then V (12 + i) else 0) = _
  rw [if_pos e]
theorem aUn_f {V : Nat → Int32} {k i : Nat} (e : ¬ (Int32.ofNat k >>> (Int32.ofNat i &&& 31)) &&& (1 : Int32) = 1) : aUn V k (i + 1) = aUn V k i := by
  show aUn V k i ||| (if (Int32.ofNat k >>> (Int32.ofNat i &&& 31)) &&& (1 : Int32) = 1 then V (12 + i) else 0) = _
  rw [if_neg e, Int32.or_zero]
def aCn (k : Nat) : Int32 := aPop (Int32.ofNat k)
def aCu (V : Nat → Int32) (P : Nat) : Nat → Nat
  | 0 => 2 ^ P - 1
  | k + 1 => if aCn k < aCn (aCu V P k) ∧ aUn V k P = aAll V P then k else aCu V P k
theorem aUn_full {V : Nat → Int32} {P : Nat} (hP : P ≤ 6) : ∀ i, i ≤ P → aUn V (2 ^ P - 1) i = aAll V i := fun i => by
  have bit : ∀ P, P ≤ 6 → ∀ i, i < P → (Int32.ofNat (2 ^ P - 1) >>> (Int32.ofNat i &&& 31)) &&& (1 : Int32) = 1 := by decide +kernel
  induction i with
  | zero => intro _; rfl
  | succ i ih =>
    intro hi
    rw [aUn_t (bit P hP i (by omega)), ih (by omega)]
    rfl
theorem two_P : ∀ P, P ≤ 6 → 1 ≤ 2 ^ P ∧ 2 ^ P ≤ 64 := by decide +kernel
theorem cn_full : ∀ P, P ≤ 6 → ∀ j, j < 2 ^ P - 1 → aCn j < aCn (2 ^ P - 1) := by decide +kernel
/-- of those from lo on that show all: the fewest, the least -/
def aBst (V : Nat → Int32) (P lo b : Nat) : Prop := b < 2 ^ P ∧ aUn V b P = aAll V P ∧ ∀ j, lo ≤ j → j < 2 ^ P → aUn V j P = aAll V P → (aCn b).toInt ≤ (aCn j).toInt ∧ ((aCn b).toInt = (aCn j).toInt → b ≤ j)
theorem aBst_u {V : Nat → Int32} {P a b : Nat} (ha : aBst V P 0 a) (hb : aBst V P 0 b) : a = b := by
  have w1 := ha.2.2 b (by omega) hb.1 hb.2.1
  have w2 := hb.2.2 a (by omega) ha.1 ha.2.1
  have e1 := w1.2 (by omega)
  have e2 := w2.2 (by omega)
  omega
theorem aCu_inv {V : Nat → Int32} {P : Nat} (hP : P ≤ 6) : ∀ k, k ≤ 2 ^ P → (aCu V P k = 2 ^ P - 1 ∧ ∀ j, j < k → j < 2 ^ P - 1 → ¬ aUn V j P = aAll V P) ∨ (aCu V P k < k ∧ aUn V (aCu V P k) P = aAll V P ∧ ∀ j, j < k → aUn V j P = aAll V P → (aCn (aCu V P k)).toInt ≤ (aCn j).toInt ∧ ((aCn (aCu V P k)).toInt = (aCn j).toInt → aCu V P k ≤ j)) := fun k => by
  induction k with
  | zero => intro _; exact Or.inl ⟨rfl, fun j hj => absurd hj (Nat.not_lt_zero j)⟩
  | succ k ih =>
    intro hk
    have hs : aCu V P (k + 1) = if aCn k < aCn (aCu V P k) ∧ aUn V k P = aAll V P then k else aCu V P k := rfl
    by_cases c : aCn k < aCn (aCu V P k) ∧ aUn V k P = aAll V P
    · rw [hs, if_pos c]
      have d := ti_lt c.1
      refine Or.inr ⟨by omega, c.2, fun j hj e => ?_⟩
      by_cases z : j = k
      · rw [z]; exact ⟨Int.le_refl _, fun _ => Nat.le_refl _⟩
      rcases ih (by omega) with w | w
      · by_cases f : j < 2 ^ P - 1
        · exact absurd e (w.2 j (by omega) f)
        · omega
      · have u := w.2.2 j (by omega) e
        exact ⟨by omega, fun q => by omega⟩
    · rw [hs, if_neg c]
      rcases ih (by omega) with w | w
      · refine Or.inl ⟨w.1, fun j hj f => ?_⟩
        by_cases z : j = k
        · subst z
          intro e
          exact c ⟨by rw [w.1]; exact cn_full P hP j f, e⟩
        · exact w.2 j (by omega) f
      · refine Or.inr ⟨by omega, w.2.1, fun j hj e => ?_⟩
        by_cases z : j = k
        · subst z
          have l : ¬ aCn j < aCn (aCu V P j) := fun l => c ⟨l, e⟩
          exact ⟨ti_nlt l, fun _ => by omega⟩
        · exact w.2.2 j (by omega) e
theorem aCu_best {V : Nat → Int32} {P : Nat} (hP : P ≤ 6) : aBst V P 0 (aCu V P (2 ^ P)) := by
  have h2 := two_P P hP
  rcases aCu_inv (V := V) hP (2 ^ P) (Nat.le_refl _) with w | w
  · rw [w.1]
    refine ⟨by omega, aUn_full hP P (Nat.le_refl _), fun j _ hj e => ?_⟩
    by_cases f : j < 2 ^ P - 1
    · exact absurd e (w.2 j hj f)
    · rw [show j = 2 ^ P - 1 by omega]; exact ⟨Int.le_refl _, fun _ => Nat.le_refl _⟩
  · exact ⟨w.1, w.2.1, fun j _ hj e => w.2.2 j hj e⟩
theorem aCu_lt {V : Nat → Int32} {P : Nat} (hP : P ≤ 6) (k : Nat) (hk : k ≤ 2 ^ P) : aCu V P k < 64 := by
  have h2 := two_P P hP
  rcases aCu_inv (V := V) hP k hk with w | w <;> omega
theorem io_64 : ∀ k, k < 65 → (Int32.ofNat k).toInt = (k : Int) := by decide +kernel
theorem sh_P : ∀ P, P ≤ 6 → ((1 : Int32) <<< (Int32.ofNat P &&& 31)) = Int32.ofNat (2 ^ P) ∧ Int32.ofNat (2 ^ P) - 1 = Int32.ofNat (2 ^ P - 1) := by decide +kernel
theorem io_eq64 {x : Int32} {n : Nat} (h : x.toInt = (n : Int)) (hn : n < 65) : x = Int32.ofNat n := Int32.toInt_inj.mp (by rw [h, io_64 n hn])
theorem io_P {V : Nat → Int32} (h : wvV V) : V 0 = Int32.ofNat (V 0).toNatClampNeg := io_eq (by have := h.1; have := ti_nat (V 0); omega) (by have := h.1; have := ti_nat (V 0); omega)
def anCover (V : Nat → Int32) : Int32 := Int32.ofNat (aCu V (V 0).toNatClampNeg (2 ^ (V 0).toNatClampNeg))
theorem qx_shownBy {F : Nat} {x1 : Int32} {k : Nat} {σ : Mem} {V : Nat → Int32} (a : vH 1 V σ) (h1 : x1 = Int32.ofNat k) : pc (f_X0_shownBy F 1 x1 σ) (fun r s => r = aUn V k (V 0).toNatClampNeg ∧ s = σ) := by
  have h6 := a.1.1
  have m0 := ti_nat (V 0)
  have key : ∀ (N i : Nat) (x2 x3 : Int32), x3.toInt = (i : Int) → i ≤ (V 0).toNatClampNeg → x2 = aUn V k i → pc (lp_X0_shownBy_4 F 1 x1 N x2 x3 σ) (fun r s => r = aUn V k (V 0).toNatClampNeg ∧ s = σ) := by
    intro N
    induction N with
    | zero => intro i x2 x3 h2 h3 h4; exact pc_none rfl
    | succ N ih =>
      intro i x2 x3 h2 h3 h4
      rw [lp_X0_shownBy_4_s, vH_0 a]
      simp only [j_X0_shownBy_30_e]
      refine pc_ite (fun c => ?_) (fun c => ?_)
      · have d := ti_le c
        exact pc_ret ⟨by rw [h4, show i = (V 0).toNatClampNeg by omega], rfl⟩
      have d := ti_nle c
      have e3 := io_eq h2 (by omega)
      refine pc_ite (fun b => pc_chk (fun _ => pc_lt (fun z2 g2 => ?_))) (fun b => ?_)
      · rw [h1, e3] at b
        refine ih (i + 1) _ _ (ti_nx h2 (by omega)) (by omega) ?_
        rw [g2, aUn_t b, h4, tn_int h2, vH_1 a (by omega)]
      · rw [h1, e3] at b
        refine ih (i + 1) _ _ (ti_nx h2 (by omega)) (by omega) ?_
        rw [aUn_f b]; exact h4
  rw [f_X0_shownBy_e]
  exact key F 0 0 0 rfl (by omega) rfl
theorem qx_cover {F : Nat} {σ : Mem} {V : Nat → Int32} (h : vH 1 V σ) : pc (f_X3_cover F σ) (fun r _ => r = anCover V) := by
  have h6 := h.1.1
  have m0 := ti_nat (V 0)
  have hP : (V 0).toNatClampNeg ≤ 6 := by omega
  have h2 := two_P _ hP
  have eP := io_P h.1
  obtain ⟨e1, e2⟩ := sh_P _ hP
  rw [← eP] at e1
  rw [f_X3_cover_e]
  refine pc_bnd (ax_allShown h) (fun r7 s8 q8 => ?_)
  rw [q8.2, q8.1, vH_0 h]
  refine pc_lt (fun z9 g9 => ?_)
  rw [e1, e2] at g9
  rw [g9]
  have key : ∀ (N k : Nat) (x3 : Int32), x3.toInt = (k : Int) → k ≤ 2 ^ (V 0).toNatClampNeg → pc (lp_X3_cover_22 F (aAll V (V 0).toNatClampNeg) N (Int32.ofNat (aCu V (V 0).toNatClampNeg k)) x3 σ) (fun r _ => r = anCover V) := by
    intro N
    induction N with
    | zero => intro k x3 h1 h3; exact pc_none rfl
    | succ N ih =>
      intro k x3 h1 h3
      rw [lp_X3_cover_22_s, vH_0 h, e1]
      simp only [j_X3_cover_60_e]
      have i2 := io_64 (2 ^ (V 0).toNatClampNeg) (by omega)
      refine pc_ite (fun c => ?_) (fun c => ?_)
      · have d := ti_le c
        exact pc_ret (by rw [show k = 2 ^ (V 0).toNatClampNeg by omega]; rfl)
      have d := ti_nle c
      have e3 := io_eq64 h1 (by omega)
      have hs : aCu V (V 0).toNatClampNeg (k + 1) = if aCn k < aCn (aCu V (V 0).toNatClampNeg k) ∧ aUn V k (V 0).toNatClampNeg = aAll V (V 0).toNatClampNeg then k else aCu V (V 0).toNatClampNeg k := rfl
      have n3 := ti_nx h1 (by omega)
      refine pc_be aPop_f (pc_be aPop_f ?_)
      rw [show aPop x3 = aCn k by rw [e3]; rfl, show aPop (Int32.ofNat (aCu V (V 0).toNatClampNeg k)) = aCn (aCu V (V 0).toNatClampNeg k) from rfl]
      have keep : ¬ (aCn k < aCn (aCu V (V 0).toNatClampNeg k) ∧ aUn V k (V 0).toNatClampNeg = aAll V (V 0).toNatClampNeg) → pc (lp_X3_cover_22 F (aAll V (V 0).toNatClampNeg) N (Int32.ofNat (aCu V (V 0).toNatClampNeg k)) (x3 + 1) σ) (fun r _ => r = anCover V) := fun w => by
        have u := ih (k + 1) _ n3 (by omega)
        rw [hs, if_neg w] at u
        exact u
      refine pc_ite (fun c1 => keep (fun w => by have := ti_le c1; have := ti_lt w.1; omega)) (fun c1 => ?_)
      refine pc_bnd (qx_shownBy h e3) (fun r5 s6 q6 => ?_)
      rw [q6.2, q6.1]
      refine pc_ite (fun c2 => ?_) (fun c2 => keep (fun w => c2 w.2))
      have u := ih (k + 1) _ n3 (by omega)
      rw [hs, if_pos ⟨Int32.lt_iff_toInt_lt.mpr (ti_nle c1), c2⟩, ← e3] at u
      exact u
  exact key F 0 0 rfl (by omega)
theorem cn_64 : ∀ k, k < 64 → Int32.ofNat (pc8 k) = aCn k := by decide +kernel
theorem qm_ones64 {F : Nat} {σ : Mem} {x : Int32} {k : Nat} (h : x = Int32.ofNat k) (hk : k < 64) : pc (f_X4_onesOf F x σ) (fun r z => r = aCn k ∧ z = σ) := by
  rw [f_X4_onesOf_e]
  refine pc_mono (qm_onesK F k 0 x (by omega) h) (fun r z q => ⟨?_, q.2⟩)
  rw [q.1, Int32.zero_add]
  exact cn_64 k hk
theorem qm_cover {F : Nat} {s : Mem} {V : Nat → Int32} (h : vM V s) : pc (f_X4_cover F s) (fun r _ => r = anCover V) := by
  have h6 := h.1.1
  have m0 := ti_nat (V 0)
  have hP : (V 0).toNatClampNeg ≤ 6 := by omega
  have h2 := two_P _ hP
  have eP := io_P h.1
  obtain ⟨e1, e2⟩ := sh_P _ hP
  rw [← eP] at e1
  rw [f_X4_cover_e]
  refine pc_lt (fun s5 g5 => ?_)
  have h' : vM V s5 := vM_up h g5
  clear g5
  refine pc_bnd (mx_allShown h') (fun r9 s10 q10 => ?_)
  rw [q10.2, q10.1, vM_P h']
  refine pc_lt (fun z11 g11 => ?_)
  rw [e1, e2] at g11
  rw [g11]
  have inner : ∀ (k21 : Int32 → Int32 → Mem → Option (Int32 × Mem)) (Q : Int32 → Mem → Prop) (b k : Nat) (x2 x3 : Int32), x2 = Int32.ofNat b → x3 = Int32.ofNat k → b < 64 → k < 64 → pc (k21 (if aUn V k (V 0).toNatClampNeg = aAll V (V 0).toNatClampNeg ∧ ¬ aCn b < aCn k then x3 else x2) (x3 + -1) s5) Q → ∀ (N i : Nat) (x4 x5 : Int32), x5.toInt = (i : Int) → i ≤ (V 0).toNatClampNeg → x4 = aUn V k i → pc (lp_X4_cover_31 F k21 (aAll V (V 0).toNatClampNeg) x2 x3 N x4 x5 s5) Q := by
    intro k21 Q b k x2 x3 hb hk b64 k64 hK N
    induction N with
    | zero => intro i x4 x5 h1 h3 h4; exact pc_none rfl
    | succ N ih =>
      intro i x4 x5 h1 h3 h4
      rw [lp_X4_cover_31_s, vM_P h']
      simp only [j_X4_cover_62_e, j_X4_cover_92_e, j_X4_cover_93_e]
      refine pc_ite (fun c => ?_) (fun c => ?_)
      · have d := ti_le c
        rw [show i = (V 0).toNatClampNeg by omega] at h4
        rw [h4]
        refine pc_ite (fun c1 => ?_) (fun c1 => ?_)
        · refine pc_bnd (qm_ones64 hk k64) (fun r1 s2 q2 => ?_)
          rw [q2.2, q2.1]
          refine pc_bnd (qm_ones64 hb b64) (fun r3 s4 q4 => ?_)
          rw [q4.2, q4.1]
          refine pc_ite (fun c2 => ?_) (fun c2 => ?_)
          · rw [if_neg (fun w => w.2 c2)] at hK; exact hK
          · rw [if_pos ⟨c1, c2⟩] at hK; exact hK
        · rw [if_neg (fun w => c1 w.1)] at hK; exact hK
      have d := ti_nle c
      have e5 := io_eq h1 (by omega)
      have n5 := ti_nx h1 (by omega)
      rw [f_X4_hasBit_e]
      by_cases w : (x3 >>> (x5 &&& 31)) &&& (1 : Int32) = 1
      · rw [if_pos w]
        refine pc_be rfl ?_
        rw [if_neg (by decide)]
        refine pc_chk (fun _ => ih (i + 1) _ _ n5 (by omega) ?_)
        rw [hk, e5] at w
        rw [aUn_t w, h4, tn_int h1, vM_103 h' (by omega)]
      · rw [if_neg w]
        refine pc_be rfl ?_
        rw [if_pos rfl]
        refine ih (i + 1) _ _ n5 (by omega) ?_
        rw [hk, e5] at w
        rw [aUn_f w, Int32.or_zero]; exact h4
  have key : ∀ (N m b : Nat) (x2 x3 : Int32), x3.toInt = (m : Int) - 1 → m ≤ 2 ^ (V 0).toNatClampNeg → x2 = Int32.ofNat b → aBst V (V 0).toNatClampNeg m b → pc (lp_X4_cover_21 F (aAll V (V 0).toNatClampNeg) N x2 x3 s5) (fun r _ => r = anCover V) := by
    intro N
    induction N with
    | zero => intro m b x2 x3 h1 h3 h4 h5; exact pc_none rfl
    | succ N ih =>
      intro m b x2 x3 h1 h3 h4 h5
      rw [lp_X4_cover_21_s]
      refine pc_ite (fun c => ?_) (fun c => ?_)
      · have d := ti_lt c
        rw [tz_0] at d
        have z0 : m = 0 := by omega
        subst z0
        refine pc_ret ?_
        rw [h4, aBst_u h5 (aCu_best hP)]
        rfl
      have d := ti_nlt c
      rw [tz_0] at d
      obtain ⟨k, rfl⟩ : ∃ k, m = k + 1 := ⟨m - 1, by omega⟩
      have h1' : x3.toInt = (k : Int) := by omega
      have e3 := io_eq64 h1' (by omega)
      have n3 : (x3 + -1).toInt = (k : Int) - 1 := by rw [ti_m1 (by omega)]; omega
      refine inner _ _ b k x2 x3 h4 e3 (by have := h5.1; omega) (by omega) ?_ F 0 0 0 rfl (by omega) rfl
      by_cases w : aUn V k (V 0).toNatClampNeg = aAll V (V 0).toNatClampNeg ∧ ¬ aCn b < aCn k
      · rw [if_pos w]
        have w2 := ti_nlt w.2
        refine ih k k _ _ n3 (by omega) e3 ⟨by omega, w.1, fun j hj hn e => ?_⟩
        by_cases z : j = k
        · rw [z]; exact ⟨Int.le_refl _, fun _ => Nat.le_refl _⟩
        · have u := h5.2.2 j (by omega) hn e
          exact ⟨by omega, fun _ => by omega⟩
      · rw [if_neg w]
        refine ih k b _ _ n3 (by omega) h4 ⟨h5.1, h5.2.1, fun j hj hn e => ?_⟩
        by_cases z : j = k
        · subst z
          have l : aCn b < aCn j := Classical.byContradiction (fun l => w ⟨e, l⟩)
          have l' := ti_lt l
          exact ⟨by omega, fun q => by omega⟩
        · exact h5.2.2 j (by omega) hn e
  have i1 := io_64 (2 ^ (V 0).toNatClampNeg - 1) (by omega)
  exact key F (2 ^ (V 0).toNatClampNeg) (2 ^ (V 0).toNatClampNeg - 1) _ _ (by rw [i1]; omega) (Nat.le_refl _) rfl ⟨by omega, aUn_full hP _ (Nat.le_refl _), fun j hj hn _ => absurd hn (Nat.not_lt.mpr hj)⟩
