/-! who holds a view -/
def aTop (V : Nat → Int32) (x : Int32) (v : Nat) : Nat → Int32 × Int32 × Int32 × Int32
  | 0 => (-9, 0, 0, 0)
  | l + 1 => if aBehind V x l v ≤ (aTop V x v l).2.1 then ((aTop V x v l).1, (aTop V x v l).2.1, (aTop V x v l).2.2.1 + aBehind V x l v, if aBehind V x l v = (aTop V x v l).2.1 then 1 else (aTop V x v l).2.2.2) else (Int32.ofNat l, aBehind V x l v, (aTop V x v l).2.2.1 + aBehind V x l v, 0)
def aHold (V : Nat → Int32) (x : Int32) (v : Nat) : Int32 :=
  if V 2 = 1 then (if (aTop V x v (V 1).toNatClampNeg).2.2.2 = 0 then (aTop V x v (V 1).toNatClampNeg).1 else -9) else if V 2 = 2 then (if (aTop V x v (V 1).toNatClampNeg).2.2.1 - (aTop V x v (V 1).toNatClampNeg).2.1 < (aTop V x v (V 1).toNatClampNeg).2.1 then (aTop V x v (V 1).toNatClampNeg).1 else -9) else (aTop V x v (V 1).toNatClampNeg).1
theorem aTop_le {V : Nat → Int32} {x : Int32} {v l : Nat} (h : aBehind V x l v ≤ (aTop V x v l).2.1) : aTop V x v (l + 1) = ((aTop V x v l).1, (aTop V x v l).2.1, (aTop V x v l).2.2.1 + aBehind V x l v, if aBehind V x l v = (aTop V x v l).2.1 then 1 else (aTop V x v l).2.2.2) := by
  show (if aBehind V x l v ≤ (aTop V x v l).2.1 then _ else _) = _
  rw [if_pos h]
theorem aTop_gt {V : Nat → Int32} {x : Int32} {v l : Nat} (h : ¬ aBehind V x l v ≤ (aTop V x v l).2.1) : aTop V x v (l + 1) = (Int32.ofNat l, aBehind V x l v, (aTop V x v l).2.2.1 + aBehind V x l v, 0) := by
  show (if aBehind V x l v ≤ (aTop V x v l).2.1 then _ else _) = _
  rw [if_neg h]
/-- the numbers of the run within their bounds -/
theorem aTop_b {V : Nat → Int32} (hv : wvV V) {x : Int32} (hx : 0 ≤ x.toInt ∧ x.toInt ≤ 9999) {v : Nat} (hv8 : v < 8) : ∀ l : Nat, (l : Int) ≤ (V 1).toInt → (((aTop V x v l).1 = -9) ∨ (0 ≤ (aTop V x v l).1.toInt ∧ (aTop V x v l).1.toInt < (l : Int))) ∧ (0 ≤ (aTop V x v l).2.1.toInt ∧ (aTop V x v l).2.1.toInt ≤ 99999) ∧ (0 ≤ (aTop V x v l).2.2.1.toInt ∧ (aTop V x v l).2.2.1.toInt ≤ 99999 * (l : Int)) ∧ ((aTop V x v l).2.2.2 = 0 ∨ (aTop V x v l).2.2.2 = 1) := fun l => by
  induction l with
  | zero => intro _; exact ⟨Or.inl rfl, ⟨Int.le_refl 0, (by decide : (0 : Int) ≤ 99999)⟩, ⟨Int.le_refl 0, Int.le_refl 0⟩, Or.inl rfl⟩
  | succ l ih =>
    intro hl
    obtain ⟨b1, b2, b3, b4⟩ := ih (by omega)
    have h5 := hv.2.1.2
    have g := aBehind_b hv (l := l) (by omega) hv8 hx
    have es : ((aTop V x v l).2.2.1 + aBehind V x l v).toInt = (aTop V x v l).2.2.1.toInt + (aBehind V x l v).toInt := ti_add (by omega) (by omega)
    by_cases c : aBehind V x l v ≤ (aTop V x v l).2.1
    · rw [aTop_le c]
      refine ⟨b1.imp id (fun q => ⟨q.1, by show (aTop V x v l).1.toInt < _; omega⟩), b2, ?_, ?_⟩
      · show 0 ≤ ((aTop V x v l).2.2.1 + aBehind V x l v).toInt ∧ ((aTop V x v l).2.2.1 + aBehind V x l v).toInt ≤ _
        rw [es]; omega
      · show (if aBehind V x l v = (aTop V x v l).2.1 then (1 : Int32) else (aTop V x v l).2.2.2) = 0 ∨ (if aBehind V x l v = (aTop V x v l).2.1 then (1 : Int32) else (aTop V x v l).2.2.2) = 1
        by_cases d : aBehind V x l v = (aTop V x v l).2.1
        · rw [if_pos d]; exact Or.inr rfl
        · rw [if_neg d]; exact b4
    · rw [aTop_gt c]
      refine ⟨Or.inr ?_, g, ?_, Or.inl rfl⟩
      · show 0 ≤ (Int32.ofNat l).toInt ∧ (Int32.ofNat l).toInt < ((l + 1 : Nat) : Int)
        rw [io_nat l (by omega)]; omega
      · show 0 ≤ ((aTop V x v l).2.2.1 + aBehind V x l v).toInt ∧ ((aTop V x v l).2.2.1 + aBehind V x l v).toInt ≤ _
        rw [es]; omega
/-- the class -/
theorem qx_holder_15 {F h : Nat} {x1 x2 : Int32} {v : Nat} {σ : Mem} {V : Nat → Int32} (a : vH h V σ) (g : vG h V σ) (hv : x1.toInt = (v : Int)) (hv8 : v < 8) : ∀ (N l : Nat) (x3 x4 x5 x6 x7 : Int32), x7.toInt = (l : Int) → (l : Int) ≤ (V 1).toInt → (x3, x4, x5, x6) = aTop V x2 v l → pc (lp_X0_holder_15 F h x1 x2 N x3 x4 x5 x6 x7 σ) (fun r s => r = aHold V x2 v ∧ s = σ) := by
  have h5 := a.1.2.1.2
  have n1 := ti_nat (V 1)
  intro N
  induction N with
  | zero => intro l x3 x4 x5 x6 x7 h1 h2 h3; exact pc_none rfl
  | succ N ih =>
    intro l x3 x4 x5 x6 x7 h1 h2 h3
    have e3 : x3 = (aTop V x2 v l).1 := congrArg Prod.fst h3
    have e4 : x4 = (aTop V x2 v l).2.1 := congrArg (fun q => q.2.1) h3
    have e5 : x5 = (aTop V x2 v l).2.2.1 := congrArg (fun q => q.2.2.1) h3
    have e6 : x6 = (aTop V x2 v l).2.2.2 := congrArg (fun q => q.2.2.2) h3
    rw [lp_X0_holder_15_s, vH_2 a, vH_8 a]
    simp only [j_X0_holder_71_e, j_X0_holder_90_e, j_X0_holder_108_e, j_X0_holder_111_e]
    rw [vH_8 a]
    refine pc_ite (fun c => ?_) (fun c => pc_bnd (qx_behind a g h1 ?_ hv hv8) (fun r s q => ?_))
    · have d := ti_le c
      have el : (V 1).toNatClampNeg = l := by omega
      unfold aHold
      rw [el, ← e3, ← e4, ← e5, ← e6]
      refine pc_ite (fun c1 => ?_) (fun c1 => ?_)
      · rw [if_pos c1]
        refine pc_ite (fun c2 => ?_) (fun c2 => pc_ret ⟨by rw [if_neg c2], rfl⟩)
        rw [if_pos c2]
        refine pc_ite (fun c3 => ?_) (fun _ => pc_ret ⟨rfl, rfl⟩)
        exact absurd (c1.symm.trans c3) (by decide)
      · rw [if_neg c1]
        refine pc_ite (fun c2 => ?_) (fun c2 => pc_ret ⟨by rw [if_neg c2], rfl⟩)
        rw [if_pos c2]
        exact pc_ite (fun c3 => pc_ret ⟨by rw [if_pos c3], rfl⟩) (fun c3 => pc_ret ⟨by rw [if_neg c3], rfl⟩)
    · have d := ti_nle c
      omega
    · have d := ti_nle c
      obtain ⟨q1, q2⟩ := q
      rw [q2, q1]
      refine pc_ite (fun c1 => pc_ite (fun c2 => ih (l + 1) _ _ _ _ _ (ti_nx h1 (by omega)) (by omega) ?_) (fun c2 => ih (l + 1) _ _ _ _ _ (ti_nx h1 (by omega)) (by omega) ?_)) (fun c1 => ih (l + 1) _ _ _ _ _ (ti_nx h1 (by omega)) (by omega) ?_)
      · rw [e4] at c1 c2
        rw [aTop_le c1, if_pos c2, e3, e4, e5]
      · rw [e4] at c1 c2
        rw [aTop_le c1, if_neg c2, e3, e4, e5, e6]
      · rw [e4] at c1
        rw [aTop_gt c1, e5, io_eq h1 (by omega)]
theorem qx_holder {F h : Nat} {x1 x2 : Int32} {v : Nat} {σ : Mem} {V : Nat → Int32} (a : vH h V σ) (g : vG h V σ) (hv : x1.toInt = (v : Int)) (hv8 : v < 8) : pc (f_X0_holder F h x1 x2 σ) (fun r s => r = aHold V x2 v ∧ s = σ) := by
  rw [f_X0_holder_e]
  exact qx_holder_15 a g hv hv8 F 0 _ _ _ _ _ rfl a.1.2.1.1 rfl
/-- the reference: what lies in 110 is what is behind each -/
theorem qm_ownerLooked_13 {F : Nat} {x : Int32} (hx : 0 ≤ x.toInt ∧ x.toInt ≤ 9999) {v : Nat} (hv8 : v < 8) {s : Mem} {V : Nat → Int32} (h : vM V s) (hC : ∀ l : Nat, (l : Int) < (V 1).toInt → s 110 l = aBehind V x l v) : ∀ (N l : Nat) (x1 x2 x3 x4 x5 : Int32), x5.toInt = (l : Int) → (l : Int) ≤ (V 1).toInt → x1 = (aTop V x v l).1 → x2 = (aTop V x v l).2.1 → x3 = (aTop V x v l).2.2.1 → (x4 = if (aTop V x v l).2.2.2 = 0 then 1 else 0) → pc (lp_X4_ownerLooked_13 F N x1 x2 x3 x4 x5 s) (fun r z => r = aHold V x v ∧ z = s) := by
  have h5 := h.1.2.1
  have n1 := ti_nat (V 1)
  intro N
  induction N with
  | zero => intro l x1 x2 x3 x4 x5 h1 h2 e1 e2 e3 e4; exact pc_none rfl
  | succ N ih =>
    intro l x1 x2 x3 x4 x5 h1 h2 e1 e2 e3 e4
    obtain ⟨b1, b2, b3, b4⟩ := aTop_b h.1 hx hv8 l h2
    rw [lp_X4_ownerLooked_13_s, vM_L h, vM_W h]
    simp only [j_X4_ownerLooked_157_e, j_X4_ownerLooked_156_e, j_X4_ownerLooked_152_e, j_X4_ownerLooked_137_e, j_X4_ownerLooked_96_e, j_X4_ownerLooked_73_e, j_X4_ownerLooked_54_e, j_X4_ownerLooked_49_e, j_X4_ownerLooked_53_e]
    rw [vM_W h]
    refine pc_ite (fun c => ?_) (fun c => pc_chk (fun w => ?_))
    · have d := ti_le c
      have el : (V 1).toNatClampNeg = l := by omega
      unfold aHold
      rw [el, ← e1, ← e2, ← e3]
      simp only [↓reduceIte, (eq_false (by decide) : ((1 : Int32) = 0) = False)]
      rw [← e1] at b1
      rw [← e2] at b2
      rw [← e3] at b3
      refine pc_ite (fun c0 => pc_ret ⟨?_, rfl⟩) (fun c0 => ?_)
      · have d0 := ti_lt c0
        rw [tz_0] at d0
        have e9 : x1 = -9 := by
          rcases b1 with q | q
          · exact q
          · omega
        rw [e9, ite_self, ite_self, ite_self, ite_self]
      refine pc_ite (fun c1 => pc_ret ⟨?_, rfl⟩) (fun c1 => ?_)
      · rw [if_neg (by rw [c1]; decide), if_neg (by rw [c1]; decide)]
      refine pc_ite (fun c2 => ?_) (fun c2 => ?_)
      · rw [if_pos c2]
        refine pc_ite (fun c3 => pc_ite (fun c4 => absurd (c2.symm.trans c4) (by decide)) (fun _ => pc_ret ⟨?_, rfl⟩)) (fun c3 => pc_ret ⟨?_, rfl⟩)
        · rw [e4] at c3
          by_cases ct : (aTop V x v l).2.2.2 = 0
          · rw [if_pos ct] at c3; exact absurd c3 (by decide)
          · rw [if_neg ct]
        · rw [e4] at c3
          by_cases ct : (aTop V x v l).2.2.2 = 0
          · rw [if_pos ct]
          · rw [if_neg ct] at c3; exact absurd rfl c3
      · rw [if_neg c2]
        have hl5 : (l : Int) ≤ 5 := by omega
        have em : ((2 : Int32) * x2).toInt = 2 * x2.toInt := by rw [ti_mul (by rw [tz_2]; omega) (by rw [tz_2]; omega), tz_2]
        have ed : (x3 - x2).toInt = x3.toInt - x2.toInt := ti_sub (by omega) (by omega)
        refine pc_ite (fun c3 => pc_ite (fun c4 => pc_ret ⟨?_, rfl⟩) (fun c4 => pc_ret ⟨?_, rfl⟩)) (fun c3 => pc_ret ⟨?_, rfl⟩)
        · have d4 := ti_le c4
          rw [if_pos c3, if_neg (fun q => by have := ti_lt q; omega)]
        · have d4 := ti_nle c4
          rw [if_pos c3, if_pos (Int32.lt_iff_toInt_lt.mpr (by omega))]
        · exfalso
          have k0 := ti_ne c1
          have k1 := ti_ne c2
          have k2 := ti_ne c3
          have hW := h.1.2.2.1
          rw [tz_0] at k0
          rw [tz_1] at k1
          rw [tz_2] at k2
          omega
    · have d := ti_nle c
      rw [tn_int h1, hC l (by omega)]
      have g := aBehind_b h.1 (l := l) (by omega) hv8 hx
      have n5 : (x5 + 1).toInt = ((l + 1 : Nat) : Int) := ti_nx h1 (by omega)
      by_cases c1 : aBehind V x l v ≤ x2
      · have c1' : ¬ x2 < aBehind V x l v := fun q => by have := ti_lt q; have := ti_le c1; omega
        have c1e : aBehind V x l v ≤ (aTop V x v l).2.1 := by rw [← e2]; exact c1
        have step : ∀ y, (y = if (aTop V x v (l + 1)).2.2.2 = 0 then (1 : Int32) else 0) → pc (wt_chk x5 5 <| if aBehind V x l v ≤ x2 then wt_chk x5 5 <| if aBehind V x l v ≤ x2 then wt_chk x5 5 <| wt_lt (x3 + aBehind V x l v) fun z2 => lp_X4_ownerLooked_13 F N x1 x2 z2 y (x5 + 1) s else wt_chk x5 5 <| wt_lt (x3 + aBehind V x l v) fun z2 => lp_X4_ownerLooked_13 F N x1 (aBehind V x l v) z2 y (x5 + 1) s else wt_chk x5 5 <| if aBehind V x l v ≤ x2 then wt_chk x5 5 <| wt_lt (x3 + aBehind V x l v) fun z2 => lp_X4_ownerLooked_13 F N x5 x2 z2 y (x5 + 1) s else wt_chk x5 5 <| wt_lt (x3 + aBehind V x l v) fun z2 => lp_X4_ownerLooked_13 F N x5 (aBehind V x l v) z2 y (x5 + 1) s) (fun r z => r = aHold V x v ∧ z = s) := fun y hy => by
          refine pc_chk (fun _ => ?_)
          rw [if_pos c1]
          refine pc_chk (fun _ => ?_)
          rw [if_pos c1]
          exact pc_chk (fun _ => pc_lt (fun z2 hz => ih (l + 1) _ _ _ _ _ n5 (by omega) (by rw [aTop_le c1e]; exact e1) (by rw [aTop_le c1e]; exact e2) (by rw [aTop_le c1e, hz, e3]) hy))
        rw [if_neg c1']
        have hy0 : aBehind V x l v = (aTop V x v l).2.1 → (0 : Int32) = if (aTop V x v (l + 1)).2.2.2 = 0 then (1 : Int32) else 0 := fun q => by
          rw [aTop_le c1e, if_pos q]; exact (if_neg (show ¬ (1 : Int32) = 0 by decide)).symm
        have hyn : ¬ aBehind V x l v = (aTop V x v l).2.1 → x4 = if (aTop V x v (l + 1)).2.2.2 = 0 then (1 : Int32) else 0 := fun q => by
          rw [aTop_le c1e, if_neg q]; exact e4
        refine pc_ite (fun c2 => step 0 ?_) (fun c2 => pc_ite (fun c3 => step 0 (hy0 ?_)) (fun c3 => step 1 ?_))
        · by_cases q : aBehind V x l v = (aTop V x v l).2.1
          · exact hy0 q
          · rw [← hyn q, c2]
        · have d3 := ti_le c3
          have d1 := ti_le c1
          exact Int32.toInt_inj.mp (by rw [← e2]; omega)
        · have q : ¬ aBehind V x l v = (aTop V x v l).2.1 := fun q => c3 (Int32.le_iff_toInt_le.mpr (by rw [q, ← e2]; exact Int.le_refl _))
          rw [← hyn q]
          rcases b4 with t | t
          · rw [e4, if_pos t]
          · rw [e4, t] at c2
            exact absurd (if_neg (by decide)) c2
      · have c1' : x2 < aBehind V x l v := Int32.lt_iff_toInt_lt.mpr (ti_nle c1)
        have c1e : ¬ aBehind V x l v ≤ (aTop V x v l).2.1 := by rw [← e2]; exact c1
        rw [if_pos c1']
        refine pc_chk (fun _ => ?_)
        rw [if_neg c1]
        refine pc_chk (fun _ => ?_)
        rw [if_neg c1]
        exact pc_chk (fun _ => pc_lt (fun z2 hz => ih (l + 1) _ _ _ _ _ n5 (by omega) (by rw [aTop_gt c1e]; exact io_eq h1 (by omega)) (by rw [aTop_gt c1e]) (by rw [aTop_gt c1e, hz, e3]) (by rw [aTop_gt c1e, if_pos rfl])))
theorem qm_ownerIn {F : Nat} {x1 x2 : Int32} (hx : 0 ≤ x2.toInt ∧ x2.toInt ≤ 9999) {v : Nat} (hv : x1.toInt = (v : Int)) (hv8 : v < 8) {s : Mem} {V : Nat → Int32} (h : vM V s) (b : vB V s) : pc (f_X4_ownerIn F x1 x2 s) (fun r z => r = aHold V x2 v ∧ ∀ k, ¬ k = 110 → z k = s k) := by
  have h5 := h.1.2.1
  have key : ∀ (N l : Nat) (x3 : Int32) (σ : Mem), x3.toInt = (l : Int) → (l : Int) ≤ (V 1).toInt → (∀ k, ¬ k = 110 → σ k = s k) → (∀ m : Nat, m < l → σ 110 m = aBehind V x2 m v) → pc (lp_X4_ownerIn_2 F x1 x2 N x3 σ) (fun r z => r = aHold V x2 v ∧ ∀ k, ¬ k = 110 → z k = s k) := by
    intro N
    induction N with
    | zero => intro l x3 σ h1 h2 h3 h4; exact pc_none rfl
    | succ N ih =>
      intro l x3 σ h1 h2 h3 h4
      rw [lp_X4_ownerIn_2_s, h3 101 (by decide), vM_L h]
      refine pc_ite (fun c => ?_) (fun c => pc_chk (fun _ => pc_be mx_held (pc_chk (fun _ => pc_lt (fun s7 h7 => ?_)))))
      · have d := ti_le c
        have hM : vM V σ := vM_109 h (fun k _ q => h3 k q)
        rw [f_X4_ownerLooked_e]
        refine pc_bnd (qm_ownerLooked_13 hx hv8 hM (fun m hm => h4 m (by omega)) F 0 _ _ _ _ _ rfl h5.1 rfl rfl rfl (if_pos (show (aTop V x2 v 0).2.2.2 = 0 from rfl)).symm) (fun r z q => pc_ret ⟨q.1, fun k hk => by rw [q.2]; exact h3 k hk⟩)
      · have d := ti_nle c
        rw [tn_8 h1 hv (by omega) hv8, tn_int h1, h3 107 (by decide), h3 109 (by decide), vM_107 h (by omega), b l (by omega) v hv8] at h7
        have hA : aBehind V x2 l v = wt_min 99999 (V (148 + (8 * l + v)) + x2 * aGain V l v 24) := by
          unfold aBehind
          rw [show 148 + 8 * l + v = 148 + (8 * l + v) by omega]
        rw [← hA] at h7
        refine ih (l + 1) _ _ (ti_nx h1 (by omega)) (by omega) (fun k hk => by rw [h7, up2_k hk, h3 k hk]) (fun m hm => ?_)
        rw [h7]
        by_cases e : m = l
        · subst e; rw [up2_s]
        · rw [up2_i e]; exact h4 m (by omega)
  rw [f_X4_ownerIn_e]
  exact key F 0 0 s rfl h5.1 (fun _ _ => rfl) (fun m hm => absurd hm (Nat.not_lt_zero m))
