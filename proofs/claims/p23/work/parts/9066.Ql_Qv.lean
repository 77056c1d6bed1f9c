section
/-! the mind's house: what is taken along and changed -/
theorem pc_true {α : Type} {o : Option (α × Mem)} : pc o (fun _ _ => True) := fun _ _ _ => trivial
theorem vH_e {h : Nat} {V : Nat → Int32} {σ s : Mem} (a : vH h V σ) (e : ∀ k, h ≤ k → k ≤ h + 16 → s k = σ k) : vH h V s := ⟨a.1, fun p hp hl => by
  rw [wvX_eq (fun q hq => by rw [e _ (by omega) (by have := wvJ_le q hq; omega)]) hp]
  exact a.2 p hp hl⟩
theorem vG_e {h : Nat} {V : Nat → Int32} {σ s : Mem} (h5 : (V 1).toInt ≤ 5) (g : vG h V σ) (e : ∀ k, h + 18 ≤ k → k ≤ h + 22 → s k = σ k) : vG h V s := fun m hm v hv => by
  rw [e _ (by omega) (by omega)]
  exact g m hm v hv
theorem wcid_24 {k i : Nat} (h : ¬ (24 ≤ k ∧ k ≤ 46)) : ¬ (24 ≤ wcid k i ∧ wcid k i ≤ 46) := by
  unfold wcid
  by_cases c1 : k = 101
  · rw [if_pos c1]; omega
  rw [if_neg c1]
  by_cases c2 : k = 0
  · rw [if_pos c2]; omega
  rw [if_neg c2]
  by_cases c3 : k = 70
  · rw [if_pos c3]; omega
  rw [if_neg c3]
  by_cases c4 : k = 83
  · rw [if_pos c4]; omega
  rw [if_neg c4]
  exact h
/-- all but the mind's house is as it was -/
def o24 (σ s : Mem) : Prop := ∀ k, ¬ (24 ≤ k ∧ k ≤ 46) → s k = σ k
theorem o24_rf {σ : Mem} : o24 σ σ := fun _ _ => rfl
theorem o24_tr {σ s z : Mem} (a : o24 σ s) (b : o24 s z) : o24 σ z := fun k hk => (b k hk).trans (a k hk)
theorem o24_fr {W : Nat → Prop} {σ s : Mem} (f : fr W σ s) (hW : ∀ c, W c → 24 ≤ c ∧ c ≤ 46) : o24 σ s := fun k hk => funext (fun i => f k i (fun w => wcid_24 hk (hW _ w)))
theorem o24_up {σ : Mem} {k i : Nat} {x : Int32} (hk : 24 ≤ k ∧ k ≤ 46) : o24 σ (up2 σ k i x) := fun q hq => up2_k (fun e => hq (by rw [e]; exact hk))
theorem o24_rk {σ s : Mem} (e : ∀ k, ¬ (24 + 18 ≤ k ∧ k ≤ 24 + 22) → s k = σ k) : o24 σ s := fun k hk => e k (by omega)
theorem vH_o {V : Nat → Int32} {σ s : Mem} (a : vH 1 V σ) (o : o24 σ s) : vH 1 V s := vH_e a (fun k _ _ => o k (by omega))
theorem qx_take {F : Nat} (hF : 1000 ≤ F) {σ : Mem} {V : Nat → Int32} (a : vH 1 V σ) : pc (f_X0_takeFrom F 24 1 σ) (fun _ s => vH 24 V s ∧ o24 σ s) := pc_mono (pc_and (ax_takeFrom (by omega)) (pc_pf (fr_X0_takeFrom hF wt_h24 wt_h1))) (fun _ s q => ⟨⟨a.1, fun p hp hl => by rw [q.1 p hp]; exact a.2 p hp hl⟩, o24_fr q.2 (fun c w => by unfold wf_0 at w; omega)⟩)
theorem qx_reckH {F h : Nat} {σ : Mem} {V : Nat → Int32} (a : vH h V σ) : pc (f_X0_reckon F h σ) (fun _ s => (vH h V s ∧ vG h V s) ∧ ∀ k, ¬ (h + 18 ≤ k ∧ k ≤ h + 22) → s k = σ k) := pc_mono (ax_reckon a) (fun _ _ q => ⟨⟨vH_k a q.1, q.2⟩, q.1⟩)
theorem qx_rule24 {F : Nat} (hF : 1000 ≤ F) {x : Int32} {σ : Mem} {V : Nat → Int32} (a : vH 24 V σ) (hx : 0 ≤ x.toInt ∧ x.toInt ≤ 2) : pc (f_X0_rule F 24 x σ) (fun _ s => vH 24 (aLaw V x) s ∧ ∀ k, ¬ k = 24 → s k = σ k) := pc_mono (pc_and ax_rule (pc_pf (fr_X0_rule hF wt_h24))) (fun _ s q => ⟨⟨wvV_aLaw a.1 hx, fun p hp hl => by rw [(q.1.1 hx).2 p hp]; exact weq_aLaw (lim := 188) a.2 p hp hl⟩, fun k hk => funext (fun i => q.2 k i (fun w => by
  unfold wf_7 at w
  by_cases c : 24 ≤ k ∧ k ≤ 46
  · have e := wcid_lo (k := k) (i := i) (by omega) (by omega)
    omega
  · have := wcid_24 (i := i) c
    omega))⟩)
theorem aLaw_n {V : Nat → Int32} {x : Int32} {p : Nat} (h : ¬ p = 2) : aLaw V x p = V p := wv_un h
theorem aLaw_2 {V : Nat → Int32} {x : Int32} : aLaw V x 2 = x := wv_us
theorem aLaw_id {V : Nat → Int32} : aLaw V (V 2) = V := funext (fun p => by
  by_cases c : p = 2
  · rw [c, aLaw_2]
  · exact aLaw_n c)
theorem aLaw_tw {V : Nat → Int32} {x y : Int32} : aLaw (aLaw V x) y = aLaw V y := funext (fun p => by
  by_cases c : p = 2
  · rw [c, aLaw_2, aLaw_2]
  · rw [aLaw_n c, aLaw_n c, aLaw_n c])
theorem aGain_law {V : Nat → Int32} {x : Int32} {l v : Nat} : ∀ t, aGain (aLaw V x) l v t = aGain V l v t := fun t => by
  have eA : aAll (aLaw V x) (V 0).toNatClampNeg = aAll V (V 0).toNatClampNeg := aAll_cg _ (fun i _ => aLaw_n (by omega))
  have eS : ∀ t, aSees (aLaw V x) l t = aSees V l t := fun t => by
    unfold aSees
    rw [aLaw_n (p := 18 + 2 * l) (by omega), aLaw_n (p := 0) (by omega), eA, aLaw_n (p := 28 + 24 * l + t) (by omega), aLaw_n (p := 12 + (V (28 + 24 * l + t)).toNatClampNeg) (by omega)]
  have eP : ∀ t, aPull (aLaw V x) l t = aPull V l t := fun t => by
    unfold aPull
    rw [aLaw_n (p := 18 + 2 * l) (by omega), aLaw_n (p := 19 + 2 * l) (by omega)]
  induction t with
  | zero => rfl
  | succ t ih =>
    show aGain (aLaw V x) l v t + (if (aSees (aLaw V x) l t >>> (Int32.ofNat v &&& 31)) &&& (1 : Int32) = 1 then aPull (aLaw V x) l (Int32.ofNat t) else 0) = aGain V l v t + (if (aSees V l t >>> (Int32.ofNat v &&& 31)) &&& (1 : Int32) = 1 then aPull V l (Int32.ofNat t) else 0)
    rw [ih, eS, eP]
/-- the reference's house with another law -/
theorem vM_law {V : Nat → Int32} {s : Mem} {x : Int32} (h : vM V s) (hx : 0 ≤ x.toInt ∧ x.toInt ≤ 2) : vM (aLaw V x) (up2 s 101 8 x) := ⟨wvV_aLaw h.1 hx, fun p hp => by
  rw [wvM_at (q := 2) (k := 101) (i := 8) (by decide) rfl rfl hp]
  exact upd_cg (h.2 p hp) rfl⟩
theorem io_3 {k : Nat} (h : k < 3) : 0 ≤ (Int32.ofNat k).toInt ∧ (Int32.ofNat k).toInt ≤ 2 := by rw [io_nat k (by omega)]; omega
/-! rows of owners -/
def aIn (y : Int32) : Int32 := if y = -9 then 99 else y
def aRT (V : Nat → Int32) (row : Nat → Int32) (x : Int32) : Nat → Bool
  | 0 => true
  | i + 1 => aRT V row x i && decide (row i = aIn (aHold V x i))
theorem aRT_t {V row : Nat → Int32} {x : Int32} {i : Nat} (e : row i = aIn (aHold V x i)) : aRT V row x (i + 1) = aRT V row x i := by
  show (aRT V row x i && decide (row i = aIn (aHold V x i))) = _
  rw [decide_eq_true e, Bool.and_true]
theorem aRT_f {V row : Nat → Int32} {x : Int32} {i : Nat} (e : ¬ row i = aIn (aHold V x i)) : aRT V row x (i + 1) = false := by
  show (aRT V row x i && decide (row i = aIn (aHold V x i))) = _
  rw [decide_eq_false e, Bool.and_false]
theorem aRT_dn {V row : Nat → Int32} {x : Int32} {i : Nat} (e : aRT V row x i = false) : ∀ k, aRT V row x (i + k) = false := fun k => by
  induction k with
  | zero => exact e
  | succ k ih =>
    show (aRT V row x (i + k) && decide (row (i + k) = aIn (aHold V x (i + k)))) = false
    rw [ih, Bool.false_and]
theorem ax_inRow {F : Nat} {x : Int32} {σ : Mem} : f_X3_inRow F x σ = some (aIn x, σ) := by
  rw [f_X3_inRow_e]
  unfold aIn
  by_cases c : x = -9
  · rw [if_pos c, if_pos c]
  · rw [if_neg c, if_neg c]
def b01 (b : Bool) : Int32 := if b = true then 1 else 0
theorem qx_rowTells {F : Nat} {x1 : Int32} {n : Nat} {σ : Mem} {V : Nat → Int32} (a : vH 24 V σ ∧ vG 24 V σ) (hn : (σ 0 7).toInt = (n : Int)) (hn8 : n ≤ 8) : pc (f_X3_rowTells F x1 σ) (fun r s => r = b01 (aRT V (σ 85) x1 n) ∧ s = σ) := by
  have key : ∀ (N i : Nat) (x2 : Int32), x2.toInt = (i : Int) → i ≤ n → aRT V (σ 85) x1 i = true → pc (lp_X3_rowTells_2 F x1 N x2 σ) (fun r s => r = b01 (aRT V (σ 85) x1 n) ∧ s = σ) := by
    intro N
    induction N with
    | zero => intro i x2 h1 h2 h3; exact pc_none rfl
    | succ N ih =>
      intro i x2 h1 h2 h3
      rw [lp_X3_rowTells_2_s]
      simp only [j_X3_rowTells_45_e]
      refine pc_ite (fun c => ?_) (fun c => pc_ite (fun c8 => ?_) (fun c8 => pc_chk (fun _ => ?_)))
      · have d := ti_le c
        rw [show i = n by omega] at h3
        exact pc_ret ⟨by rw [h3]; rfl, rfl⟩
      · have d := ti_nle c
        have d8 := ti_le c8
        rw [tz_8] at d8
        omega
      · have d := ti_nle c
        have hi : i < n := by omega
        refine pc_bnd (qx_holder a.1 a.2 h1 (by omega)) (fun r s q => ?_)
        rw [q.2, q.1]
        refine pc_be ax_inRow ?_
        rw [tn_int h1]
        refine pc_ite (fun e => ih (i + 1) _ (ti_nx h1 (by omega)) (by omega) (by rw [aRT_t e]; exact h3)) (fun e => pc_ret ⟨?_, rfl⟩)
        have w := aRT_dn (aRT_f e) (n - (i + 1))
        rw [show i + 1 + (n - (i + 1)) = n by omega] at w
        rw [w]
        rfl
  rw [f_X3_rowTells_e]
  exact key F 0 0 rfl (by omega) rfl
theorem qm_isRow {F : Nat} {x1 : Int32} (hx : 0 ≤ x1.toInt ∧ x1.toInt ≤ 9999) {n : Nat} {s : Mem} {V row : Nat → Int32} (h : vM V s) (hn : (s 101 34).toInt = (n : Int)) (hn8 : n ≤ 8) (hr : ∀ i, i < n → s 121 i = row i) : pc (f_X4_isRow F x1 s) (fun r z => r = b01 (aRT V row x1 n) ∧ ∀ k, ¬ k = 109 → ¬ k = 110 → z k = s k) := by
  have h5 := h.1.2.1.2
  have key : ∀ (N i : Nat) (x2 x3 : Int32) (z : Mem), x3.toInt = (i : Int) → i ≤ n → x2 = b01 (aRT V row x1 i) → (∀ k, ¬ k = 109 → ¬ k = 110 → z k = s k) → vB V z → pc (lp_X4_isRow_8 F x1 N x2 x3 z) (fun r z => r = b01 (aRT V row x1 n) ∧ ∀ k, ¬ k = 109 → ¬ k = 110 → z k = s k) := by
    intro N
    induction N with
    | zero => intro i x2 x3 z h1 h2 h3 e b; exact pc_none rfl
    | succ N ih =>
      intro i x2 x3 z h1 h2 h3 e b
      rw [lp_X4_isRow_8_s, e 101 (by decide) (by decide)]
      simp only [j_X4_isRow_54_e, j_X4_isRow_53_e, j_X4_isRow_46_e]
      refine pc_ite (fun c => ?_) (fun c => ?_)
      · have d := ti_le c
        rw [show i = n by omega] at h3
        exact pc_bz (fun _ => pc_ret ⟨h3, e⟩)
      have d := ti_nle c
      have hi : i < n := by omega
      refine pc_bnd (qm_ownerIn hx h1 (by omega) (vM_109 h e) b) (fun r y q => ?_)
      have e' : ∀ k, ¬ k = 109 → ¬ k = 110 → y k = s k := fun k a1 a2 => by rw [q.2 k a2]; exact e k a1 a2
      have b' : vB V y := fun m hm v hv => by rw [q.2 109 (by decide)]; exact b m hm v hv
      have h0 := aHold_0 h.1 hx (v := i) (by omega)
      rw [q.1, tn_int h1, e' 121 (by decide) (by decide), hr i hi]
      have no : aRT V row x1 (i + 1) = false → pc (lp_X4_isRow_8 F x1 N 0 (x3 + 1) y) (fun r z => r = b01 (aRT V row x1 n) ∧ ∀ k, ¬ k = 109 → ¬ k = 110 → z k = s k) := fun w => ih (i + 1) _ _ _ (ti_nx h1 (by omega)) (by omega) (by rw [w]; rfl) e' b'
      cases hb : aRT V row x1 i with
      | false =>
        rw [hb] at h3
        refine pc_ite (fun _ => no (aRT_dn hb 1)) (fun c0 => absurd (h3.trans rfl) c0)
      | true =>
        rw [hb] at h3
        refine pc_ite (fun c0 => absurd (h3.symm.trans c0) (by decide)) (fun _ => pc_chk (fun _ => ?_))
        have yes : row i = aIn (aHold V x1 i) → pc (lp_X4_isRow_8 F x1 N 1 (x3 + 1) y) (fun r z => r = b01 (aRT V row x1 n) ∧ ∀ k, ¬ k = 109 → ¬ k = 110 → z k = s k) := fun w => ih (i + 1) _ _ _ (ti_nx h1 (by omega)) (by omega) (by rw [aRT_t w, hb]; rfl) e' b'
        refine pc_ite (fun c1 => ?_) (fun c1 => ?_)
        · have ea : aIn (aHold V x1 i) = aHold V x1 i := if_neg (h0.mp c1)
          exact pc_ite (fun w => yes (w.trans ea.symm)) (fun w => no (aRT_f (fun w' => w (w'.trans ea))))
        · have ea : aIn (aHold V x1 i) = 99 := if_pos (Classical.byContradiction (fun n => c1 (h0.mpr n)))
          exact pc_ite (fun w => yes (w.trans ea.symm)) (fun w => no (aRT_f (fun w' => w (w'.trans ea))))
  rw [f_X4_isRow_e]
  exact pc_bnd (mx_layBrings h) (fun _ z q => key F 0 1 0 z rfl (by omega) rfl (fun k a _ => q.1 k a) q.2)
/-- answers by the row too -/
theorem eqr {σ : Mem} {o1 : Option (Int32 × Mem)} {o2 : Mem → Option (Int32 × Mem)} {A : (Nat → Int32) → Int32 → (Nat → Int32) → Int32} (h : ∃ r1 s1 r2 s2, o1 = some (r1, s1) ∧ o2 s1 = some (r2, s2) ∧ wR 188 s2) (hw : wR 188 σ) (p0 : pc o1 (fun _ s => ∀ k, 101 ≤ k → s k = σ k)) (p1 : ∀ V, vH 1 V σ → (0 ≤ (σ 0 7).toInt ∧ (σ 0 7).toInt ≤ 12) → pc o1 (fun r _ => r = A V (σ 0 7) (σ 85))) (p2 : ∀ V s n row, vM V s → (0 ≤ n.toInt ∧ n.toInt ≤ 12) → s 101 34 = n → (∀ i, i < n.toNatClampNeg → s 121 i = row i) → pc (o2 s) (fun r _ => r = A V n row)) : ∃ r1 s1 r2 s2, o1 = some (r1, s1) ∧ o2 s1 = some (r2, s2) ∧ wR 188 s2 ∧ r1 = r2 := by
  obtain ⟨r1, s1, r2, s2, e1, e2, w⟩ := h
  obtain ⟨hX, hM, hV, hI, hS, hL, hW⟩ := hw
  have a := p1 _ hV (wx_X3_7 hX) r1 s1 e1
  have hs := p0 r1 s1 e1
  have b := p2 (wvM σ) s1 (σ 0 7) (σ 85) ⟨hV.1, eMV hs⟩ (wx_X3_7 hX) (by rw [hs 101 (by decide)]; exact hW.1.symm) (fun i hi => by rw [hs 121 (by decide)]; exact (hW.2 i (by rw [← hW.1]; exact hi)).symm) r2 s2 e2
  exact ⟨r1, s1, r2, s2, e1, e2, w, a.trans b.symm⟩
/-! which law -/
def cLR (n : Int32) : Int32 := if n ≤ 8 then 0 else -3
def aWL (V row : Nat → Int32) (n : Nat) : Nat → Int32
  | 0 => 0
  | k + 1 => aWL V row n k ||| (if aRT (aLaw V (Int32.ofNat k)) row 0 n = true then (1 : Int32) <<< (Int32.ofNat k &&& 31) else 0)
theorem aWL_t {V row : Nat → Int32} {n k : Nat} (e : aRT (aLaw V (Int32.ofNat k)) row 0 n = true) : aWL V row n (k + 1) = aWL V row n k ||| (1 : Int32) <<< (Int32.ofNat k &&& 31) := by
  show aWL V row n k ||| (if aRT (aLaw V (Int32.ofNat k)) row 0 n = true then (1 : Int32) <<< (Int32.ofNat k &&& 31) else 0) = _
  rw [if_pos e]
theorem aWL_f {V row : Nat → Int32} {n k : Nat} (e : aRT (aLaw V (Int32.ofNat k)) row 0 n = false) : aWL V row n (k + 1) = aWL V row n k := by
  show aWL V row n k ||| (if aRT (aLaw V (Int32.ofNat k)) row 0 n = true then (1 : Int32) <<< (Int32.ofNat k &&& 31) else 0) = _
  rw [if_neg (by rw [e]; decide), Int32.or_zero]
def anWhichLaw (V : Nat → Int32) (n : Int32) (row : Nat → Int32) : Int32 := cF (cLR n) (aWL V row n.toNatClampNeg 3)
theorem ax_longRow {F : Nat} {σ : Mem} : f_X3_longRow F σ = some (cLR (σ 0 7), σ) := by
  rw [f_X3_longRow_e]
  unfold cLR
  by_cases c : σ 0 7 ≤ 8
  · rw [if_pos c, if_pos c]
  · rw [if_neg c, if_neg c]
theorem qxr_whichLaw {F : Nat} (hF : 1000 ≤ F) {σ : Mem} {V : Nat → Int32} (h : vH 1 V σ) (hn : 0 ≤ (σ 0 7).toInt ∧ (σ 0 7).toInt ≤ 12) : pc (f_X3_whichLaw F σ) (fun r _ => r = anWhichLaw V (σ 0 7) (σ 85)) := by
  rw [f_X3_whichLaw_e]
  refine pc_be ax_longRow ?_
  unfold anWhichLaw
  refine cq_end (fun e => pc_bnd (qx_take hF h) (fun _ s q => ?_))
  have c8 : σ 0 7 ≤ 8 := by
    by_cases c : σ 0 7 ≤ 8
    · exact c
    · rw [show cLR (σ 0 7) = -3 from if_neg c] at e; exact absurd e (by decide)
  have d8 := ti_le c8
  rw [tz_8] at d8
  have n1 := ti_nat (σ 0 7)
  have key : ∀ (N k : Nat) (x2 x3 y : Int32) (s : Mem), x3.toInt = (k : Int) → k ≤ 3 → x2 = aWL V (σ 85) (σ 0 7).toNatClampNeg k → vH 24 (aLaw V y) s → o24 σ s → pc (lp_X3_whichLaw_30 F N x2 x3 s) (fun r _ => r = aWL V (σ 85) (σ 0 7).toNatClampNeg 3) := by
    intro N
    induction N with
    | zero => intro k x2 x3 y s h1 h2 h3 a o; exact pc_none rfl
    | succ N ih =>
      intro k x2 x3 y s h1 h2 h3 a o
      rw [lp_X3_whichLaw_30_s]
      simp only [j_X3_whichLaw_65_e]
      refine pc_ite (fun c => ?_) (fun c => ?_)
      · have d := ti_le c
        rw [tz_3] at d
        exact pc_ret (by rw [h3, show k = 3 by omega])
      have d := ti_nle c
      rw [tz_3] at d
      have e3 := io_eq h1 (by omega)
      refine pc_bnd (qx_rule24 hF a (by omega)) (fun _ s2 q => ?_)
      rw [aLaw_tw] at q
      refine pc_bnd (qx_reckH q.1) (fun _ s4 q4 => ?_)
      have o4 : o24 σ s4 := o24_tr o (o24_tr (fun j hj => q.2 j (by omega)) (o24_rk q4.2))
      refine pc_bnd (qx_rowTells q4.1 (n := (σ 0 7).toNatClampNeg) (by rw [o4 0 (by decide)]; omega) (by omega)) (fun r s6 q6 => ?_)
      rw [q6.2, q6.1, o4 85 (by decide)]
      rw [e3] at q4
      cases hb : aRT (aLaw V x3) (σ 85) 0 (σ 0 7).toNatClampNeg with
      | false =>
        refine pc_ite (fun _ => ih (k + 1) _ _ _ _ (ti_nx h1 (by omega)) (by omega) ?_ q4.1.1 o4) (fun w => absurd rfl w)
        rw [aWL_f (by rw [← e3]; exact hb)]; exact h3
      | true =>
        refine pc_ite (fun w => absurd w (by decide)) (fun _ => pc_lt (fun z7 hz => ih (k + 1) _ _ _ _ (ti_nx h1 (by omega)) (by omega) ?_ q4.1.1 o4))
        rw [aWL_t (by rw [← e3]; exact hb), hz, h3, e3]
  exact key F 0 0 0 (V 2) s rfl (by omega) rfl (by rw [aLaw_id]; exact q.1) q.2
theorem qmr_whichLaw {F : Nat} {n : Int32} {row : Nat → Int32} {s : Mem} {V : Nat → Int32} (h : vM V s) (hn : 0 ≤ n.toInt ∧ n.toInt ≤ 12) (h34 : s 101 34 = n) (hr : ∀ i, i < n.toNatClampNeg → s 121 i = row i) : pc (f_X4_whichLaw F s) (fun r _ => r = anWhichLaw V n row) := by
  rw [f_X4_whichLaw_e]
  refine pc_lt (fun s5 g5 => ?_)
  have h' : vM V s5 := vM_up h g5
  have e34 : s5 101 34 = n := by rw [g5, up2_i (by decide)]; exact h34
  have er : ∀ i, i < n.toNatClampNeg → s5 121 i = row i := fun i hi => by rw [g5, up2_k (by decide)]; exact hr i hi
  clear g5
  rw [e34]
  unfold anWhichLaw
  have n1 := ti_nat n
  refine pc_ite (fun c8 => ?_) (fun c8 => ?_)
  · have d8 := ti_le c8
    rw [tz_8] at d8
    rw [show cLR n = 0 from if_pos c8, cF_z]
    have key : ∀ (N k : Nat) (x1 x2 x3 y : Int32) (z : Mem), x3.toInt = (k : Int) → k ≤ 3 → x2 = aWL V row n.toNatClampNeg k → vM (aLaw V y) z → z 101 34 = n → z 121 = s5 121 → pc (lp_X4_whichLaw_30 F x1 N x2 x3 z) (fun r _ => r = aWL V row n.toNatClampNeg 3) := by
      intro N
      induction N with
      | zero => intro k x1 x2 x3 y z h1 h2 h3 a e r; exact pc_none rfl
      | succ N ih =>
        intro k x1 x2 x3 y z h1 h2 h3 a e r
        rw [lp_X4_whichLaw_30_s]
        simp only [j_X4_whichLaw_56_e]
        refine pc_ite (fun c => ?_) (fun c => ?_)
        · have d := ti_le c
          rw [tz_3] at d
          exact pc_lt (fun s1 _ => pc_ret (by rw [h3, show k = 3 by omega]))
        have d := ti_nle c
        rw [tz_3] at d
        have e3 := io_eq h1 (by omega)
        refine pc_lt (fun s2 g2 => ?_)
        have a2 : vM (aLaw V x3) s2 := by
          have w := vM_law (x := x3) a (by omega)
          rw [aLaw_tw] at w
          rw [g2]; exact w
        have e2 : s2 101 34 = n := by rw [g2, up2_i (by decide)]; exact e
        have r2 : s2 121 = s5 121 := by rw [g2, up2_k (by decide)]; exact r
        clear g2
        refine pc_bnd (qm_isRow (x1 := 0) (row := row) (by decide) a2 (n := n.toNatClampNeg) (by rw [e2]; omega) (by omega) (fun i hi => by rw [r2]; exact er i hi)) (fun r4 s4 q => ?_)
        have a4 : vM (aLaw V x3) s4 := vM_109 a2 q.2
        have e4 : s4 101 34 = n := by rw [q.2 101 (by decide) (by decide)]; exact e2
        have r5 : s4 121 = s5 121 := by rw [q.2 121 (by decide) (by decide)]; exact r2
        rw [q.1]
        cases hb : aRT (aLaw V x3) row 0 n.toNatClampNeg with
        | false =>
          refine pc_ite (fun _ => ih (k + 1) _ _ _ _ _ (ti_nx h1 (by omega)) (by omega) ?_ a4 e4 r5) (fun w => absurd rfl w)
          rw [aWL_f (by rw [← e3]; exact hb), Int32.or_zero]; exact h3
        | true =>
          refine pc_ite (fun w => absurd w (by decide)) (fun _ => ih (k + 1) _ _ _ _ _ (ti_nx h1 (by omega)) (by omega) ?_ a4 e4 r5)
          rw [aWL_t (by rw [← e3]; exact hb), h3, e3]
    exact key F 0 _ 0 0 (V 2) s5 rfl (by omega) rfl (by rw [aLaw_id]; exact h') e34 rfl
  · rw [show cLR n = -3 from if_neg c8]
    exact mq_ref (cF_n (by decide))
/-! the best law -/
def aBL (V : Nat → Int32) (x1 x2 : Int32) : Nat → Int32 × Int32
  | 0 => (0, -1)
  | k + 1 => if aWealth (aLaw V (Int32.ofNat k)) x1 x2 8 ≤ (aBL V x1 x2 k).2 then aBL V x1 x2 k else (Int32.ofNat k, aWealth (aLaw V (Int32.ofNat k)) x1 x2 8)
theorem aBL_s {V : Nat → Int32} {x1 x2 : Int32} {k : Nat} : aBL V x1 x2 (k + 1) = if aWealth (aLaw V (Int32.ofNat k)) x1 x2 8 ≤ (aBL V x1 x2 k).2 then aBL V x1 x2 k else (Int32.ofNat k, aWealth (aLaw V (Int32.ofNat k)) x1 x2 8) := rfl
def anBestLaw (V : Nat → Int32) (x1 x2 : Int32) : Int32 := cF (cF (cB (0 ≤ x1.toInt ∧ x1.toInt < (V 1).toInt)) (cN x2 0 999)) (aBL V x1 x2 3).1
theorem vG_law {h : Nat} {V : Nat → Int32} {x : Int32} {s : Mem} (g : vG h V s) : vG h (aLaw V x) s := fun m hm v hv => by
  rw [aLaw_n (by decide)] at hm
  rw [aGain_law]; exact g m hm v hv
theorem vB_law {V : Nat → Int32} {x : Int32} {s : Mem} (g : vB V s) : vB (aLaw V x) s := fun m hm v hv => by
  rw [aLaw_n (by decide)] at hm
  rw [aGain_law]; exact g m hm v hv
theorem qx_bestLaw {F : Nat} (hF : 1000 ≤ F) {x1 x2 : Int32} {σ : Mem} {V : Nat → Int32} (h : vH 1 V σ) : pc (f_X3_bestLaw F x1 x2 σ) (fun r _ => r = anBestLaw V x1 x2) := by
  rw [f_X3_bestLaw_e, f_X3_noLookerFar_e]
  refine pc_be (by rw [wt_bnd_eq (ax_noLooker (by rw [vH_2 h]; exact h.1.2.1.2)), wt_bnd_eq ax_outside, wt_bnd_eq ax_firstOf]) ?_
  rw [vH_2 h]
  unfold anBestLaw
  refine cq_end (fun e => pc_bnd (qx_take hF h) (fun _ s q => pc_bnd (qx_reckH q.1) (fun _ s2 q2 => ?_)))
  have h5 := h.1.2.1.2
  have key : ∀ (N k : Nat) (x4 x5 x6 y : Int32) (s : Mem), x6.toInt = (k : Int) → k ≤ 3 → (x4, x5) = aBL V x1 x2 k → vH 24 (aLaw V y) s → vG 24 V s → pc (lp_X3_bestLaw_44 F x1 x2 N x4 x5 x6 s) (fun r _ => r = (aBL V x1 x2 3).1) := by
    intro N
    induction N with
    | zero => intro k x4 x5 x6 y s h1 h2 h3 a g; exact pc_none rfl
    | succ N ih =>
      intro k x4 x5 x6 y s h1 h2 h3 a g
      have e4 : x4 = (aBL V x1 x2 k).1 := congrArg Prod.fst h3
      have e5 : x5 = (aBL V x1 x2 k).2 := congrArg Prod.snd h3
      rw [lp_X3_bestLaw_44_s]
      simp only [j_X3_bestLaw_86_e]
      refine pc_ite (fun c => ?_) (fun c => ?_)
      · have d := ti_le c
        rw [tz_3] at d
        exact pc_ret (by rw [e4, show k = 3 by omega])
      have d := ti_nle c
      rw [tz_3] at d
      have e6 := io_eq h1 (by omega)
      refine pc_bnd (qx_rule24 hF a (by omega)) (fun _ s2 q => ?_)
      rw [aLaw_tw] at q
      have g2 : vG 24 V s2 := vG_e h5 g (fun j _ _ => q.2 j (by omega))
      refine pc_bnd (qx_wealth ⟨q.1, vG_law g2⟩) (fun r s4 q4 => ?_)
      rw [q4.2, q4.1, e5, e6]
      rw [e6] at q
      refine pc_ite (fun w => ih (k + 1) _ _ _ _ _ (by rw [← e6]; exact ti_nx h1 (by omega)) (by omega) ?_ q.1 g2) (fun w => ih (k + 1) _ _ _ _ _ (by rw [← e6]; exact ti_nx h1 (by omega)) (by omega) ?_ q.1 g2)
      · rw [aBL_s, if_pos w, ← e5]; exact h3
      · rw [aBL_s, if_neg w]
  exact key F 0 0 (-1) 0 (V 2) s2 rfl (by omega) rfl (by rw [aLaw_id]; exact q2.1.1) q2.1.2
theorem qm_bestLaw {F : Nat} {x1 x2 : Int32} {s : Mem} {V : Nat → Int32} (h : vM V s) : pc (f_X4_bestLaw F x1 x2 s) (fun r _ => r = anBestLaw V x1 x2) := by
  rw [f_X4_bestLaw_e]
  refine pc_lt (fun s6 h6 => ?_)
  have h' : vM V s6 := vM_up h h6
  clear h6
  simp only [j_X4_bestLaw_25_e]
  refine pc_be (mx_isLooker (by rw [vM_L h']; exact h.1.2.1.1)) ?_
  rw [vM_L h']
  unfold anBestLaw
  by_cases c : 0 ≤ x1.toInt ∧ x1.toInt < (V 1).toInt
  · rw [if_pos c, if_neg (by decide), cB_t c, cF_z]
    refine pc_be mx_wrongN ?_
    refine mq_end sg_cN (fun e => pc_bnd (qm_lay h') (fun _ z q => ?_))
    have d2 := cN_0 e
    rw [tz_0, tz_999'] at d2
    have hx : 0 ≤ x2.toInt ∧ x2.toInt ≤ 9999 := ⟨d2.1, by omega⟩
    have key : ∀ (N k : Nat) (x0 x5 x6 x7 y : Int32) (s : Mem), x7.toInt = (k : Int) → k ≤ 3 → (x5, x6) = aBL V x1 x2 k → mRdy (aLaw V y) s → pc (lp_X4_bestLaw_55 F x1 x2 x0 N x5 x6 x7 s) (fun r _ => r = (aBL V x1 x2 3).1) := by
      intro N
      induction N with
      | zero => intro k x0 x5 x6 x7 y s h1 h2 h3 a; exact pc_none rfl
      | succ N ih =>
        intro k x0 x5 x6 x7 y s h1 h2 h3 a
        have e5 : x5 = (aBL V x1 x2 k).1 := congrArg Prod.fst h3
        have e6 : x6 = (aBL V x1 x2 k).2 := congrArg Prod.snd h3
        rw [lp_X4_bestLaw_55_s]
        simp only [j_X4_bestLaw_89_e, j_X4_bestLaw_105_e]
        refine pc_ite (fun c => ?_) (fun c => ?_)
        · have d := ti_le c
          rw [tz_3] at d
          exact pc_lt (fun s1 _ => pc_ret (by rw [e5, show k = 3 by omega]))
        have d := ti_nle c
        rw [tz_3] at d
        have e7 := io_eq h1 (by omega)
        refine pc_lt (fun s2 g2 => ?_)
        have a2 : mRdy (aLaw V x7) s2 := by
          have w := vM_law (x := x7) a.1 (by omega)
          rw [aLaw_tw] at w
          have b := vB_law (x := x7) a.2
          rw [aLaw_tw] at b
          rw [g2]
          exact ⟨w, fun m hm v hv => by rw [up2_k (by decide)]; exact b m hm v hv⟩
        clear g2
        refine pc_bnd (qm_worthIn hx a2) (fun r3 s4 q => ?_)
        rw [q.1, e6, e7]
        have q2 := q.2
        rw [e7] at q2
        refine pc_ite (fun w => ?_) (fun w => ?_)
        · rw [if_pos w]
          exact ih (k + 1) _ _ _ _ _ _ (by rw [← e7]; exact ti_nx h1 (by omega)) (by omega) (by rw [aBL_s, if_pos w, ← e6]; exact h3) q2
        · rw [if_neg w]
          exact ih (k + 1) _ _ _ _ _ _ (by rw [← e7]; exact ti_nx h1 (by omega)) (by omega) (by rw [aBL_s, if_neg w]) q2
    exact key F 0 _ 0 (-1) 0 (V 2) z rfl (by omega) rfl (by rw [aLaw_id]; exact q)
  · rw [if_neg c, if_pos rfl, cB_f c, cF_n (a := -1) (by decide), if_neg (by decide)]
    exact mq_ref (cF_n (by decide))
end
section
/-! worth within bounds; who leads -/
theorem aWealth_b {V : Nat → Int32} (hv : wvV V) {who n : Int32} : ∀ v, v ≤ 8 → 0 ≤ (aWealth V who n v).toInt ∧ (aWealth V who n v).toInt ≤ 9 * (v : Int) := fun v => by
  induction v with
  | zero => intro _; exact ⟨Int.le_refl 0, Int.le_refl 0⟩
  | succ v ih =>
    intro h
    have b := ih (by omega)
    have w := hv.2.2.2.1 (4 + v) (by omega) (by omega)
    show 0 ≤ (aWealth V who n v + (if aHold V n v = who then V (4 + v) else 0)).toInt ∧ (aWealth V who n v + (if aHold V n v = who then V (4 + v) else 0)).toInt ≤ 9 * ((v + 1 : Nat) : Int)
    by_cases c : aHold V n v = who
    · rw [if_pos c, ti_add (by omega) (by omega)]; omega
    · rw [if_neg c, Int32.add_zero]; omega
theorem aWealth_t {V : Nat → Int32} (hv : wvV V) {who n : Int32} {v : Nat} (h8 : v < 8) (c : aHold V n v = who) : (aWealth V who n (v + 1)).toInt = (aWealth V who n v).toInt + (V (4 + v)).toInt := by
  have b := aWealth_b hv (who := who) (n := n) v (by omega)
  have w := hv.2.2.2.1 (4 + v) (by omega) (by omega)
  show (aWealth V who n v + (if aHold V n v = who then V (4 + v) else 0)).toInt = _
  rw [if_pos c, ti_add (by omega) (by omega)]
theorem aWealth_f {V : Nat → Int32} {who n : Int32} {v : Nat} (c : ¬ aHold V n v = who) : aWealth V who n (v + 1) = aWealth V who n v := by
  show aWealth V who n v + (if aHold V n v = who then V (4 + v) else 0) = _
  rw [if_neg c, Int32.add_zero]
theorem qx_lead {F : Nat} {x1 x2 x3 : Int32} (hne : ¬ x1 = x2) {σ : Mem} {V : Nat → Int32} (a : cRdy V σ) : pc (f_X0_lead F 1 x1 x2 x3 σ) (fun r s => r.toInt = (aWealth V x1 x3 8).toInt - (aWealth V x2 x3 8).toInt ∧ s = σ) := by
  have key : ∀ (N v : Nat) (x4 x5 : Int32), x5.toInt = (v : Int) → v ≤ 8 → x4.toInt = (aWealth V x1 x3 v).toInt - (aWealth V x2 x3 v).toInt → pc (lp_X0_lead_6 F 1 x1 x2 x3 N x4 x5 σ) (fun r s => r.toInt = (aWealth V x1 x3 8).toInt - (aWealth V x2 x3 8).toInt ∧ s = σ) := by
    intro N
    induction N with
    | zero => intro v x4 x5 h1 h2 h3; exact pc_none rfl
    | succ N ih =>
      intro v x4 x5 h1 h2 h3
      rw [lp_X0_lead_6_s]
      simp only [j_X0_lead_61_e]
      refine pc_ite (fun c => ?_) (fun c => ?_)
      · have d := ti_le c
        rw [tz_8] at d
        have e8 : v = 8 := by omega
        subst e8
        exact pc_ret ⟨h3, rfl⟩
      have d := ti_nle c
      rw [tz_8] at d
      have b1 := aWealth_b a.1.1 (who := x1) (n := x3) v (by omega)
      have b2 := aWealth_b a.1.1 (who := x2) (n := x3) v (by omega)
      have w := a.1.1.2.2.2.1 (4 + v) (by omega) (by omega)
      refine pc_bnd (qx_hold a h1 (by omega)) (fun r s q => ?_)
      rw [q.2, q.1]
      refine pc_ite (fun e => pc_chk (fun _ => pc_lt (fun z6 hz => ih (v + 1) _ _ (ti_nx h1 (by omega)) (by omega) ?_))) (fun e => pc_ite (fun e2 => pc_chk (fun _ => pc_lt (fun z4 hz => ih (v + 1) _ _ (ti_nx h1 (by omega)) (by omega) ?_))) (fun e2 => ih (v + 1) _ _ (ti_nx h1 (by omega)) (by omega) ?_))
      · rw [tn_int h1, vH_w a.1 (by omega)] at hz
        rw [hz, ti_add (by omega) (by omega), aWealth_t a.1.1 (by omega) e, aWealth_f (fun q => hne (e.symm.trans q))]
        omega
      · rw [tn_int h1, vH_w a.1 (by omega)] at hz
        rw [hz, ti_sub (by omega) (by omega), aWealth_t a.1.1 (by omega) e2, aWealth_f e]
        omega
      · rw [aWealth_f e, aWealth_f e2]; exact h3
  rw [f_X0_lead_e]
  exact key F 0 0 0 rfl (by omega) rfl
/-! staredOut -/
def anStaredOut (V : Nat → Int32) (x1 x2 x3 : Int32) : Int32 := cF (cF (cB ((0 ≤ x1.toInt ∧ x1.toInt < (V 1).toInt) ∧ (0 ≤ x2.toInt ∧ x2.toInt < (V 1).toInt) ∧ ¬ x1 = x2)) (cN x3 0 999)) (aBits V x1 0 8 &&& aBits V x2 x3 8)
theorem vX_H {V : Nat → Int32} {σ : Mem} (a : vH 1 V σ) : vX V σ := ⟨a.1, fun p hp => vH_lo a hp, fun l t hl ht => vH_c a hl ht⟩
theorem qx_staredOut {F : Nat} {x1 x2 x3 : Int32} {σ : Mem} {V : Nat → Int32} (h : vH 1 V σ) : pc (f_X3_staredOut F x1 x2 x3 σ) (fun r _ => r = anStaredOut V x1 x2 x3) := by
  rw [f_X3_staredOut_e, f_X3_noPairFar_e]
  refine pc_be (by rw [wt_bnd_eq (qx_noPair (vX_H h)), wt_bnd_eq ax_outside, wt_bnd_eq ax_firstOf]) ?_
  unfold anStaredOut
  refine cq_end (fun e => pc_bnd (qx_reckon h) (fun _ s q => pc_bnd (qx_holdings q) (fun r z w => ?_)))
  rw [w.2]
  exact pc_bnd (qx_holdings q) (fun r' y u => pc_ret (by rw [w.1, u.1]))
theorem qm_staredOut {F : Nat} {x1 x2 x3 : Int32} {s : Mem} {V : Nat → Int32} (h : vM V s) : pc (f_X4_staredOut F x1 x2 x3 s) (fun r _ => r = anStaredOut V x1 x2 x3) := by
  rw [f_X4_staredOut_e]
  refine pc_lt (fun s6 h6 => ?_)
  have h' : vM V s6 := vM_up h h6
  clear h6
  simp only [j_X4_staredOut_26_e]
  refine pc_be (qm_areTwo h') ?_
  unfold anStaredOut
  by_cases c : (0 ≤ x1.toInt ∧ x1.toInt < (V 1).toInt) ∧ (0 ≤ x2.toInt ∧ x2.toInt < (V 1).toInt) ∧ ¬ x1 = x2
  · rw [if_pos c, if_neg (by decide), cB_t c, cF_z]
    refine pc_be mx_wrongN (mq_end sg_cN (fun e => pc_bnd (qm_lay h') (fun _ z q => pc_bnd (qm_viewsIn (x2 := 0) (by decide) q) (fun r y w => ?_))))
    have d2 := cN_0 e
    rw [tz_0, tz_999'] at d2
    exact pc_bnd (qm_viewsIn ⟨d2.1, by omega⟩ w.2) (fun r' y u => pc_ret (by rw [w.1, u.1]))
  · rw [if_neg c, if_pos rfl, cB_f c, cF_n (a := -1) (by decide)]
    exact mq_end (Or.inr (by decide)) (fun q => absurd q (by decide))
/-! ahead -/
def anAhead1 (V : Nat → Int32) (x1 x2 : Int32) : Nat → Int32 → Int32
  | 0, _ => -9
  | k + 1, x => if aWealth V x1 x 8 ≤ aWealth V x2 x 8 then anAhead1 V x1 x2 k (x + 1) else x
def anAhead (V : Nat → Int32) (x1 x2 : Int32) : Int32 := cF (cB ((0 ≤ x1.toInt ∧ x1.toInt < (V 1).toInt) ∧ (0 ≤ x2.toInt ∧ x2.toInt < (V 1).toInt) ∧ ¬ x1 = x2)) (anAhead1 V x1 x2 1000 0)
theorem qx_ahead_27 {F : Nat} {x1 x2 : Int32} (hne : ¬ x1 = x2) {σ : Mem} {V : Nat → Int32} (a : cRdy V σ) : ∀ (N k i : Nat) (x4 : Int32), x4.toInt = (i : Int) → i + k = 1000 → pc (lp_X3_ahead_27 F x1 x2 N x4 σ) (fun r _ => r = anAhead1 V x1 x2 k x4) := by
  intro N
  induction N with
  | zero => intro k i x4 h1 h2; exact pc_none rfl
  | succ N ih =>
    intro k i x4 h1 h2
    rw [lp_X3_ahead_27_s]
    refine pc_ite (fun c => ?_) (fun c => pc_bnd (qx_lead hne a) (fun r s q => ?_))
    · have d := ti_lt c
      rw [tz_999'] at d
      rw [show k = 0 by omega]
      exact pc_ret rfl
    · have d := ti_nlt c
      rw [tz_999'] at d
      obtain ⟨k', rfl⟩ : ∃ k', k = k' + 1 := ⟨k - 1, by omega⟩
      rw [q.2]
      have q1 := q.1
      refine pc_ite (fun e => pc_mono (ih k' (i + 1) _ (ti_nx h1 (by omega)) (by omega)) (fun r s w => ?_)) (fun e => pc_ret ?_)
      · have e' := ti_le e
        rw [tz_0] at e'
        show r = if aWealth V x1 x4 8 ≤ aWealth V x2 x4 8 then _ else x4
        rw [if_pos (Int32.le_iff_toInt_le.mpr (by omega))]; exact w
      · have e' := ti_nle e
        rw [tz_0] at e'
        show x4 = if aWealth V x1 x4 8 ≤ aWealth V x2 x4 8 then _ else x4
        rw [if_neg (fun w => by have := ti_le w; omega)]
theorem qx_ahead {F : Nat} {x1 x2 : Int32} {σ : Mem} {V : Nat → Int32} (h : vH 1 V σ) : pc (f_X3_ahead F x1 x2 σ) (fun r _ => r = anAhead V x1 x2) := by
  rw [f_X3_ahead_e]
  refine pc_be (qx_noPair (vX_H h)) ?_
  unfold anAhead
  exact cq_end (fun e => pc_bnd (qx_reckon h) (fun _ s q => qx_ahead_27 (cB_0 e).2.2 q F 1000 0 0 rfl rfl))
theorem qm_ahead_26 {F : Nat} {x1 x2 : Int32} {V : Nat → Int32} : ∀ (N k i : Nat) (x4 : Int32) (s : Mem), mRdy V s → x4.toInt = (i : Int) → i + k = 1000 → pc (lp_X4_ahead_26 F x1 x2 N x4 s) (fun r _ => r = anAhead1 V x1 x2 k x4) := by
  intro N
  induction N with
  | zero => intro k i x4 s a h1 h2; exact pc_none rfl
  | succ N ih =>
    intro k i x4 s a h1 h2
    rw [lp_X4_ahead_26_s]
    refine pc_ite (fun c => ?_) (fun c => ?_)
    · have d := ti_lt c
      rw [tz_999'] at d
      rw [show k = 0 by omega]
      exact pc_ret rfl
    · have d := ti_nlt c
      rw [tz_999'] at d
      obtain ⟨k', rfl⟩ : ∃ k', k = k' + 1 := ⟨k - 1, by omega⟩
      refine pc_bnd (qm_worthIn ⟨by omega, by omega⟩ a) (fun r1 s2 q => pc_bnd (qm_worthIn ⟨by omega, by omega⟩ q.2) (fun r3 s4 q3 => ?_))
      rw [q.1, q3.1]
      refine pc_ite (fun e => pc_mono (ih k' (i + 1) _ _ q3.2 (ti_nx h1 (by omega)) (by omega)) (fun r s w => ?_)) (fun e => pc_ret ?_)
      · show r = if aWealth V x1 x4 8 ≤ aWealth V x2 x4 8 then _ else x4
        rw [if_pos e]; exact w
      · show x4 = if aWealth V x1 x4 8 ≤ aWealth V x2 x4 8 then _ else x4
        rw [if_neg e]
theorem qm_ahead {F : Nat} {x1 x2 : Int32} {s : Mem} {V : Nat → Int32} (h : vM V s) : pc (f_X4_ahead F x1 x2 s) (fun r _ => r = anAhead V x1 x2) := by
  rw [f_X4_ahead_e]
  refine pc_lt (fun s6 h6 => ?_)
  have h' : vM V s6 := vM_up h h6
  clear h6
  refine pc_be (qm_areTwo h') ?_
  unfold anAhead
  by_cases c : (0 ≤ x1.toInt ∧ x1.toInt < (V 1).toInt) ∧ (0 ≤ x2.toInt ∧ x2.toInt < (V 1).toInt) ∧ ¬ x1 = x2
  · rw [if_pos c, if_neg (by decide), cB_t c, cF_z]
    exact pc_bnd (qm_lay h') (fun _ z q => qm_ahead_26 F 1000 0 0 z q rfl rfl)
  · rw [if_neg c, if_pos rfl, cB_f c]
    exact mq_ref (cF_n (by decide))
/-! gap -/
def aTwoTop (V : Nat → Int32) (n : Int32) (v : Nat) : Nat → Int32 × Int32
  | 0 => (0, 0)
  | l + 1 => if aBehind V n l v ≤ (aTwoTop V n v l).1 then (if aBehind V n l v ≤ (aTwoTop V n v l).2 then aTwoTop V n v l else ((aTwoTop V n v l).1, aBehind V n l v)) else (aBehind V n l v, (aTwoTop V n v l).1)
theorem aTwoTop_s {V : Nat → Int32} {n : Int32} {v l : Nat} : aTwoTop V n v (l + 1) = if aBehind V n l v ≤ (aTwoTop V n v l).1 then (if aBehind V n l v ≤ (aTwoTop V n v l).2 then aTwoTop V n v l else ((aTwoTop V n v l).1, aBehind V n l v)) else (aBehind V n l v, (aTwoTop V n v l).1) := rfl
def anGap (V : Nat → Int32) (x1 x2 : Int32) : Int32 := cF (cF (cB (0 ≤ x1.toInt ∧ x1.toInt ≤ 7)) (cN x2 0 999)) ((aTwoTop V x2 x1.toNatClampNeg (V 1).toNatClampNeg).1 - (aTwoTop V x2 x1.toNatClampNeg (V 1).toNatClampNeg).2)
theorem qx_gap_42 {F : Nat} {x1 x2 : Int32} {v : Nat} {σ : Mem} {V : Nat → Int32} (a : cRdy V σ) (hv : x1.toInt = (v : Int)) (hv8 : v < 8) : ∀ (N l : Nat) (x4 x5 x6 : Int32), x6.toInt = (l : Int) → (l : Int) ≤ (V 1).toInt → (x4, x5) = aTwoTop V x2 v l → pc (lp_X3_gap_42 F x1 x2 N x4 x5 x6 σ) (fun r _ => r = (aTwoTop V x2 v (V 1).toNatClampNeg).1 - (aTwoTop V x2 v (V 1).toNatClampNeg).2) := by
  have h5 := a.1.1.2.1.2
  have n1 := ti_nat (V 1)
  intro N
  induction N with
  | zero => intro l x4 x5 x6 h1 h2 h3; exact pc_none rfl
  | succ N ih =>
    intro l x4 x5 x6 h1 h2 h3
    have e4 : x4 = (aTwoTop V x2 v l).1 := congrArg Prod.fst h3
    have e5 : x5 = (aTwoTop V x2 v l).2 := congrArg Prod.snd h3
    rw [lp_X3_gap_42_s, vH_2 a.1]
    simp only [j_X3_gap_96_e]
    refine pc_ite (fun c => ?_) (fun c => pc_bnd (qx_behind a.1 a.2 h1 (by have d := ti_nle c; omega) hv hv8) (fun r s q => ?_))
    · have d := ti_le c
      exact pc_ret (by rw [e4, e5, show (V 1).toNatClampNeg = l by omega])
    · have d := ti_nle c
      rw [q.2, q.1]
      refine pc_ite (fun c1 => pc_ite (fun c2 => ih (l + 1) _ _ _ (ti_nx h1 (by omega)) (by omega) ?_) (fun c2 => ih (l + 1) _ _ _ (ti_nx h1 (by omega)) (by omega) ?_)) (fun c1 => ih (l + 1) _ _ _ (ti_nx h1 (by omega)) (by omega) ?_)
      · rw [e4] at c1
        rw [e5] at c2
        rw [aTwoTop_s, if_pos c1, if_pos c2]; exact h3
      · rw [e4] at c1
        rw [e5] at c2
        rw [aTwoTop_s, if_pos c1, if_neg c2, e4]
      · rw [e4] at c1
        rw [aTwoTop_s, if_neg c1, e4]
theorem qx_gap {F : Nat} {x1 x2 : Int32} {σ : Mem} {V : Nat → Int32} (h : vH 1 V σ) : pc (f_X3_gap F x1 x2 σ) (fun r _ => r = anGap V x1 x2) := by
  rw [f_X3_gap_e]
  refine pc_be ax_noView (pc_be ax_outside (pc_be ax_firstOf ?_))
  unfold anGap
  refine cq_end (fun e => pc_bnd (qx_reckon h) (fun _ s q => ?_))
  have d1 := cB_0 (cF_0 e).1
  have n1 := ti_nat x1
  exact qx_gap_42 q (by omega) (by omega) F 0 0 0 0 rfl h.1.2.1.1 rfl
theorem qm_countIn {F : Nat} {x1 x2 x3 : Int32} {l v : Nat} {s : Mem} {V : Nat → Int32} (a : mRdy V s) (hl : x1.toInt = (l : Int)) (hl5 : (l : Int) < (V 1).toInt) (hv : x2.toInt = (v : Int)) (hv8 : v < 8) : pc (f_X4_countIn F x1 x2 x3 s) (fun r z => r = aBehind V x3 l v ∧ z = s) := by
  have h5 := a.1.1.2.1.2
  rw [f_X4_countIn_e]
  refine pc_chk (fun _ => pc_be mx_held (pc_ret ⟨?_, rfl⟩))
  rw [tn_8 hl hv (by omega) hv8, vM_107 a.1 (by omega), a.2 l hl5 v hv8, show 148 + (8 * l + v) = 148 + 8 * l + v by omega]
  rfl
theorem qm_gap_48 {F : Nat} {x1 x2 : Int32} {v : Nat} {s : Mem} {V : Nat → Int32} (a : mRdy V s) (hv : x1.toInt = (v : Int)) (hv8 : v < 8) : ∀ (N l : Nat) (x4 x5 x6 : Int32), x6.toInt = (l : Int) → (l : Int) ≤ (V 1).toInt → (x4, x5) = aTwoTop V x2 v l → pc (lp_X4_gap_48 F x1 x2 N x4 x5 x6 s) (fun r _ => r = (aTwoTop V x2 v (V 1).toNatClampNeg).1 - (aTwoTop V x2 v (V 1).toNatClampNeg).2) := by
  have h5 := a.1.1.2.1.2
  have n1 := ti_nat (V 1)
  intro N
  induction N with
  | zero => intro l x4 x5 x6 h1 h2 h3; exact pc_none rfl
  | succ N ih =>
    intro l x4 x5 x6 h1 h2 h3
    have e4 : x4 = (aTwoTop V x2 v l).1 := congrArg Prod.fst h3
    have e5 : x5 = (aTwoTop V x2 v l).2 := congrArg Prod.snd h3
    rw [lp_X4_gap_48_s, vM_L a.1]
    simp only [j_X4_gap_93_e, j_X4_gap_109_e]
    refine pc_ite (fun c => ?_) (fun c => pc_bnd (qm_countIn a h1 (by have d := ti_nle c; omega) hv hv8) (fun r z q => ?_))
    · have d := ti_le c
      exact pc_ret (by rw [e4, e5, show (V 1).toNatClampNeg = l by omega])
    · have d := ti_nle c
      rw [q.2, q.1]
      refine pc_ite (fun c1 => pc_ite (fun c2 => ?_) (fun c2 => ?_)) (fun c1 => ?_)
      · rw [if_pos c1]
        refine ih (l + 1) _ _ _ (ti_nx h1 (by omega)) (by omega) ?_
        rw [e4] at c1
        rw [e5] at c2
        rw [aTwoTop_s, if_pos c1, if_pos c2]; exact h3
      · rw [if_pos c1]
        refine ih (l + 1) _ _ _ (ti_nx h1 (by omega)) (by omega) ?_
        rw [e4] at c1
        rw [e5] at c2
        rw [aTwoTop_s, if_pos c1, if_neg c2, e4]
      · rw [if_neg c1]
        refine ih (l + 1) _ _ _ (ti_nx h1 (by omega)) (by omega) ?_
        rw [e4] at c1
        rw [aTwoTop_s, if_neg c1, e4]
theorem qm_gap {F : Nat} {x1 x2 : Int32} {s : Mem} {V : Nat → Int32} (h : vM V s) : pc (f_X4_gap F x1 x2 s) (fun r _ => r = anGap V x1 x2) := by
  rw [f_X4_gap_e]
  refine pc_lt (fun s6 h6 => ?_)
  have h' : vM V s6 := vM_up h h6
  clear h6
  simp only [j_X4_gap_24_e]
  refine pc_be mx_isView ?_
  unfold anGap
  by_cases c : 0 ≤ x1.toInt ∧ x1.toInt ≤ 7
  · rw [if_pos c, if_neg (by decide), cB_t c, cF_z]
    have n1 := ti_nat x1
    refine pc_be mx_wrongN (mq_end sg_cN (fun e => pc_bnd (qm_lay h') (fun _ z q => ?_)))
    exact qm_gap_48 q (by omega) (by omega) F 0 0 0 0 rfl h.1.2.1.1 rfl
  · rw [if_neg c, if_pos rfl, cB_f c, cF_n (a := -1) (by decide)]
    exact mq_end (Or.inr (by decide)) (fun q => absurd q (by decide))
end
section
/-! who holds a view by any counts -/
def gTop (B : Nat → Int32) : Nat → Int32 × Int32 × Int32 × Int32
  | 0 => (-9, 0, 0, 0)
  | l + 1 => if B l ≤ (gTop B l).2.1 then ((gTop B l).1, (gTop B l).2.1, (gTop B l).2.2.1 + B l, if B l = (gTop B l).2.1 then 1 else (gTop B l).2.2.2) else (Int32.ofNat l, B l, (gTop B l).2.2.1 + B l, 0)
def gHold (w L : Int32) (B : Nat → Int32) : Int32 :=
  if w = 1 then (if (gTop B L.toNatClampNeg).2.2.2 = 0 then (gTop B L.toNatClampNeg).1 else -9) else if w = 2 then (if (gTop B L.toNatClampNeg).2.2.1 - (gTop B L.toNatClampNeg).2.1 < (gTop B L.toNatClampNeg).2.1 then (gTop B L.toNatClampNeg).1 else -9) else (gTop B L.toNatClampNeg).1
theorem gTop_le {B : Nat → Int32} {l : Nat} (h : B l ≤ (gTop B l).2.1) : gTop B (l + 1) = ((gTop B l).1, (gTop B l).2.1, (gTop B l).2.2.1 + B l, if B l = (gTop B l).2.1 then 1 else (gTop B l).2.2.2) := by
  show (if B l ≤ (gTop B l).2.1 then _ else _) = _
  rw [if_pos h]
theorem gTop_gt {B : Nat → Int32} {l : Nat} (h : ¬ B l ≤ (gTop B l).2.1) : gTop B (l + 1) = (Int32.ofNat l, B l, (gTop B l).2.2.1 + B l, 0) := by
  show (if B l ≤ (gTop B l).2.1 then _ else _) = _
  rw [if_neg h]
/-- the numbers of the run within their bounds -/
theorem gTop_b {V B : Nat → Int32} (hv : wvV V) (hB : ∀ l : Nat, (l : Int) < (V 1).toInt → 0 ≤ (B l).toInt ∧ (B l).toInt ≤ 99999) : ∀ l : Nat, (l : Int) ≤ (V 1).toInt → (((gTop B l).1 = -9) ∨ (0 ≤ (gTop B l).1.toInt ∧ (gTop B l).1.toInt < (l : Int))) ∧ (0 ≤ (gTop B l).2.1.toInt ∧ (gTop B l).2.1.toInt ≤ 99999) ∧ (0 ≤ (gTop B l).2.2.1.toInt ∧ (gTop B l).2.2.1.toInt ≤ 99999 * (l : Int)) ∧ ((gTop B l).2.2.2 = 0 ∨ (gTop B l).2.2.2 = 1) := fun l => by
  induction l with
  | zero => intro _; exact ⟨Or.inl rfl, ⟨Int.le_refl 0, (by decide : (0 : Int) ≤ 99999)⟩, ⟨Int.le_refl 0, Int.le_refl 0⟩, Or.inl rfl⟩
  | succ l ih =>
    intro hl
    obtain ⟨b1, b2, b3, b4⟩ := ih (by omega)
    have h5 := hv.2.1.2
    have g := hB l (by omega)
    have es : ((gTop B l).2.2.1 + B l).toInt = (gTop B l).2.2.1.toInt + (B l).toInt := ti_add (by omega) (by omega)
    by_cases c : B l ≤ (gTop B l).2.1
    · rw [gTop_le c]
      refine ⟨b1.imp id (fun q => ⟨q.1, by show (gTop B l).1.toInt < _; omega⟩), b2, ?_, ?_⟩
      · show 0 ≤ ((gTop B l).2.2.1 + B l).toInt ∧ ((gTop B l).2.2.1 + B l).toInt ≤ _
        rw [es]; omega
      · show (if B l = (gTop B l).2.1 then (1 : Int32) else (gTop B l).2.2.2) = 0 ∨ (if B l = (gTop B l).2.1 then (1 : Int32) else (gTop B l).2.2.2) = 1
        by_cases d : B l = (gTop B l).2.1
        · rw [if_pos d]; exact Or.inr rfl
        · rw [if_neg d]; exact b4
    · rw [gTop_gt c]
      refine ⟨Or.inr ?_, g, ?_, Or.inl rfl⟩
      · show 0 ≤ (Int32.ofNat l).toInt ∧ (Int32.ofNat l).toInt < ((l + 1 : Nat) : Int)
        rw [io_nat l (by omega)]; omega
      · show 0 ≤ ((gTop B l).2.2.1 + B l).toInt ∧ ((gTop B l).2.2.1 + B l).toInt ≤ _
        rw [es]; omega
/-- the class -/
theorem gx_holder_15 {F h : Nat} {x1 x2 : Int32} {σ : Mem} {V B : Nat → Int32} (a : vH h V σ) (hB : ∀ (l : Nat) (x : Int32), x.toInt = (l : Int) → (l : Int) < (V 1).toInt → pc (f_X0_behind F h x x1 x2 σ) (fun r s => r = B l ∧ s = σ)) : ∀ (N l : Nat) (x3 x4 x5 x6 x7 : Int32), x7.toInt = (l : Int) → (l : Int) ≤ (V 1).toInt → (x3, x4, x5, x6) = gTop B l → pc (lp_X0_holder_15 F h x1 x2 N x3 x4 x5 x6 x7 σ) (fun r s => r = gHold (V 2) (V 1) B ∧ s = σ) := by
  have h5 := a.1.2.1.2
  have n1 := ti_nat (V 1)
  intro N
  induction N with
  | zero => intro l x3 x4 x5 x6 x7 h1 h2 h3; exact pc_none rfl
  | succ N ih =>
    intro l x3 x4 x5 x6 x7 h1 h2 h3
    have e3 : x3 = (gTop B l).1 := congrArg Prod.fst h3
    have e4 : x4 = (gTop B l).2.1 := congrArg (fun q => q.2.1) h3
    have e5 : x5 = (gTop B l).2.2.1 := congrArg (fun q => q.2.2.1) h3
    have e6 : x6 = (gTop B l).2.2.2 := congrArg (fun q => q.2.2.2) h3
    rw [lp_X0_holder_15_s, vH_2 a, vH_8 a]
    simp only [j_X0_holder_71_e, j_X0_holder_90_e, j_X0_holder_108_e, j_X0_holder_111_e]
    rw [vH_8 a]
    refine pc_ite (fun c => ?_) (fun c => pc_bnd (hB l _ h1 ?_) (fun r s q => ?_))
    · have d := ti_le c
      have el : (V 1).toNatClampNeg = l := by omega
      unfold gHold
      rw [el, ← e3, ← e4, ← e5, ← e6]
      refine pc_ite (fun c1 => ?_) (fun c1 => ?_)
      · rw [if_pos c1]
        refine pc_ite (fun c2 => ?_) (fun c2 => pc_ret ⟨by rw [if_neg c2], rfl⟩)
        rw [if_pos c2]
        refine pc_ite (fun c3 => ?_) (fun _ => pc_ret ⟨rfl, rfl⟩)
        exact absurd (c1.symm.trans c3) (by decide)
      · rw [if_neg c1]
        refine pc_ite (fun c2 => ?_) (fun c2 => pc_ret ⟨by rw [if_neg c2], rfl⟩)
        rw [if_pos c2]
        exact pc_ite (fun c3 => pc_ret ⟨by rw [if_pos c3], rfl⟩) (fun c3 => pc_ret ⟨by rw [if_neg c3], rfl⟩)
    · have d := ti_nle c
      omega
    · have d := ti_nle c
      obtain ⟨q1, q2⟩ := q
      rw [q2, q1]
      refine pc_ite (fun c1 => pc_ite (fun c2 => ih (l + 1) _ _ _ _ _ (ti_nx h1 (by omega)) (by omega) ?_) (fun c2 => ih (l + 1) _ _ _ _ _ (ti_nx h1 (by omega)) (by omega) ?_)) (fun c1 => ih (l + 1) _ _ _ _ _ (ti_nx h1 (by omega)) (by omega) ?_)
      · rw [e4] at c1 c2
        rw [gTop_le c1, if_pos c2, e3, e4, e5]
      · rw [e4] at c1 c2
        rw [gTop_le c1, if_neg c2, e3, e4, e5, e6]
      · rw [e4] at c1
        rw [gTop_gt c1, e5, io_eq h1 (by omega)]
theorem gx_holder {F h : Nat} {x1 x2 : Int32} {σ : Mem} {V B : Nat → Int32} (a : vH h V σ) (hB : ∀ (l : Nat) (x : Int32), x.toInt = (l : Int) → (l : Int) < (V 1).toInt → pc (f_X0_behind F h x x1 x2 σ) (fun r s => r = B l ∧ s = σ)) : pc (f_X0_holder F h x1 x2 σ) (fun r s => r = gHold (V 2) (V 1) B ∧ s = σ) := by
  rw [f_X0_holder_e]
  exact gx_holder_15 a hB F 0 _ _ _ _ _ rfl a.1.2.1.1 rfl
/-- the reference: what lies in 110 is what is behind each -/
theorem gm_ownerLooked_13 {F : Nat} {s : Mem} {V B : Nat → Int32} (hB : ∀ l : Nat, (l : Int) < (V 1).toInt → 0 ≤ (B l).toInt ∧ (B l).toInt ≤ 99999) (h : vM V s) (hC : ∀ l : Nat, (l : Int) < (V 1).toInt → s 110 l = B l) : ∀ (N l : Nat) (x1 x2 x3 x4 x5 : Int32), x5.toInt = (l : Int) → (l : Int) ≤ (V 1).toInt → x1 = (gTop B l).1 → x2 = (gTop B l).2.1 → x3 = (gTop B l).2.2.1 → (x4 = if (gTop B l).2.2.2 = 0 then 1 else 0) → pc (lp_X4_ownerLooked_13 F N x1 x2 x3 x4 x5 s) (fun r z => r = gHold (V 2) (V 1) B ∧ z = s) := by
  have h5 := h.1.2.1
  have n1 := ti_nat (V 1)
  intro N
  induction N with
  | zero => intro l x1 x2 x3 x4 x5 h1 h2 e1 e2 e3 e4; exact pc_none rfl
  | succ N ih =>
    intro l x1 x2 x3 x4 x5 h1 h2 e1 e2 e3 e4
    obtain ⟨b1, b2, b3, b4⟩ := gTop_b h.1 hB l h2
    rw [lp_X4_ownerLooked_13_s, vM_L h, vM_W h]
    simp only [j_X4_ownerLooked_157_e, j_X4_ownerLooked_156_e, j_X4_ownerLooked_152_e, j_X4_ownerLooked_137_e, j_X4_ownerLooked_96_e, j_X4_ownerLooked_73_e, j_X4_ownerLooked_54_e, j_X4_ownerLooked_49_e, j_X4_ownerLooked_53_e]
    rw [vM_W h]
    refine pc_ite (fun c => ?_) (fun c => pc_chk (fun w => ?_))
    · have d := ti_le c
      have el : (V 1).toNatClampNeg = l := by omega
      unfold gHold
      rw [el, ← e1, ← e2, ← e3]
      simp only [↓reduceIte, (eq_false (by decide) : ((1 : Int32) = 0) = False)]
      rw [← e1] at b1
      rw [← e2] at b2
      rw [← e3] at b3
      refine pc_ite (fun c0 => pc_ret ⟨?_, rfl⟩) (fun c0 => ?_)
      · have d0 := ti_lt c0
        rw [tz_0] at d0
        have e9 : x1 = -9 := by
          rcases b1 with q | q
          · exact q
          · omega
        rw [e9, ite_self, ite_self, ite_self, ite_self]
      refine pc_ite (fun c1 => pc_ret ⟨?_, rfl⟩) (fun c1 => ?_)
      · rw [if_neg (by rw [c1]; decide), if_neg (by rw [c1]; decide)]
      refine pc_ite (fun c2 => ?_) (fun c2 => ?_)
      · rw [if_pos c2]
        refine pc_ite (fun c3 => pc_ite (fun c4 => absurd (c2.symm.trans c4) (by decide)) (fun _ => pc_ret ⟨?_, rfl⟩)) (fun c3 => pc_ret ⟨?_, rfl⟩)
        · rw [e4] at c3
          by_cases ct : (gTop B l).2.2.2 = 0
          · rw [if_pos ct] at c3; exact absurd c3 (by decide)
          · rw [if_neg ct]
        · rw [e4] at c3
          by_cases ct : (gTop B l).2.2.2 = 0
          · rw [if_pos ct]
          · rw [if_neg ct] at c3; exact absurd rfl c3
      · rw [if_neg c2]
        have hl5 : (l : Int) ≤ 5 := by omega
        have em : ((2 : Int32) * x2).toInt = 2 * x2.toInt := by rw [ti_mul (by rw [tz_2]; omega) (by rw [tz_2]; omega), tz_2]
        have ed : (x3 - x2).toInt = x3.toInt - x2.toInt := ti_sub (by omega) (by omega)
        refine pc_ite (fun c3 => pc_ite (fun c4 => pc_ret ⟨?_, rfl⟩) (fun c4 => pc_ret ⟨?_, rfl⟩)) (fun c3 => pc_ret ⟨?_, rfl⟩)
        · have d4 := ti_le c4
          rw [if_pos c3, if_neg (fun q => by have := ti_lt q; omega)]
        · have d4 := ti_nle c4
          rw [if_pos c3, if_pos (Int32.lt_iff_toInt_lt.mpr (by omega))]
        · exfalso
          have k0 := ti_ne c1
          have k1 := ti_ne c2
          have k2 := ti_ne c3
          have hW := h.1.2.2.1
          rw [tz_0] at k0
          rw [tz_1] at k1
          rw [tz_2] at k2
          omega
    · have d := ti_nle c
      rw [tn_int h1, hC l (by omega)]
      have g := hB l (by omega)
      have n5 : (x5 + 1).toInt = ((l + 1 : Nat) : Int) := ti_nx h1 (by omega)
      by_cases c1 : B l ≤ x2
      · have c1' : ¬ x2 < B l := fun q => by have := ti_lt q; have := ti_le c1; omega
        have c1e : B l ≤ (gTop B l).2.1 := by rw [← e2]; exact c1
        have step : ∀ y, (y = if (gTop B (l + 1)).2.2.2 = 0 then (1 : Int32) else 0) → pc (wt_chk x5 5 <| if B l ≤ x2 then wt_chk x5 5 <| if B l ≤ x2 then wt_chk x5 5 <| wt_lt (x3 + B l) fun z2 => lp_X4_ownerLooked_13 F N x1 x2 z2 y (x5 + 1) s else wt_chk x5 5 <| wt_lt (x3 + B l) fun z2 => lp_X4_ownerLooked_13 F N x1 (B l) z2 y (x5 + 1) s else wt_chk x5 5 <| if B l ≤ x2 then wt_chk x5 5 <| wt_lt (x3 + B l) fun z2 => lp_X4_ownerLooked_13 F N x5 x2 z2 y (x5 + 1) s else wt_chk x5 5 <| wt_lt (x3 + B l) fun z2 => lp_X4_ownerLooked_13 F N x5 (B l) z2 y (x5 + 1) s) (fun r z => r = gHold (V 2) (V 1) B ∧ z = s) := fun y hy => by
          refine pc_chk (fun _ => ?_)
          rw [if_pos c1]
          refine pc_chk (fun _ => ?_)
          rw [if_pos c1]
          exact pc_chk (fun _ => pc_lt (fun z2 hz => ih (l + 1) _ _ _ _ _ n5 (by omega) (by rw [gTop_le c1e]; exact e1) (by rw [gTop_le c1e]; exact e2) (by rw [gTop_le c1e, hz, e3]) hy))
        rw [if_neg c1']
        have hy0 : B l = (gTop B l).2.1 → (0 : Int32) = if (gTop B (l + 1)).2.2.2 = 0 then (1 : Int32) else 0 := fun q => by
          rw [gTop_le c1e, if_pos q]; exact (if_neg (show ¬ (1 : Int32) = 0 by decide)).symm
        have hyn : ¬ B l = (gTop B l).2.1 → x4 = if (gTop B (l + 1)).2.2.2 = 0 then (1 : Int32) else 0 := fun q => by
          rw [gTop_le c1e, if_neg q]; exact e4
        refine pc_ite (fun c2 => step 0 ?_) (fun c2 => pc_ite (fun c3 => step 0 (hy0 ?_)) (fun c3 => step 1 ?_))
        · by_cases q : B l = (gTop B l).2.1
          · exact hy0 q
          · rw [← hyn q, c2]
        · have d3 := ti_le c3
          have d1 := ti_le c1
          exact Int32.toInt_inj.mp (by rw [← e2]; omega)
        · have q : ¬ B l = (gTop B l).2.1 := fun q => c3 (Int32.le_iff_toInt_le.mpr (by rw [q, ← e2]; exact Int.le_refl _))
          rw [← hyn q]
          rcases b4 with t | t
          · rw [e4, if_pos t]
          · rw [e4, t] at c2
            exact absurd (if_neg (by decide)) c2
      · have c1' : x2 < B l := Int32.lt_iff_toInt_lt.mpr (ti_nle c1)
        have c1e : ¬ B l ≤ (gTop B l).2.1 := by rw [← e2]; exact c1
        rw [if_pos c1']
        refine pc_chk (fun _ => ?_)
        rw [if_neg c1]
        refine pc_chk (fun _ => ?_)
        rw [if_neg c1]
        exact pc_chk (fun _ => pc_lt (fun z2 hz => ih (l + 1) _ _ _ _ _ n5 (by omega) (by rw [gTop_gt c1e]; exact io_eq h1 (by omega)) (by rw [gTop_gt c1e]) (by rw [gTop_gt c1e, hz, e3]) (by rw [gTop_gt c1e, if_pos rfl])))
theorem aTop_g {V : Nat → Int32} {x : Int32} {v : Nat} : ∀ l, aTop V x v l = gTop (fun m => aBehind V x m v) l := fun l => by
  induction l with
  | zero => rfl
  | succ l ih =>
    show (if aBehind V x l v ≤ (aTop V x v l).2.1 then ((aTop V x v l).1, (aTop V x v l).2.1, (aTop V x v l).2.2.1 + aBehind V x l v, if aBehind V x l v = (aTop V x v l).2.1 then (1 : Int32) else (aTop V x v l).2.2.2) else (Int32.ofNat l, aBehind V x l v, (aTop V x v l).2.2.1 + aBehind V x l v, 0)) = _
    rw [ih]
    rfl
theorem aHold_g {V : Nat → Int32} {x : Int32} {v : Nat} : aHold V x v = gHold (V 2) (V 1) (fun m => aBehind V x m v) := by
  unfold aHold gHold
  rw [aTop_g]
theorem gm_ownerIn {F : Nat} {x1 x2 : Int32} {v : Nat} (hv : x1.toInt = (v : Int)) (hv8 : v < 8) {s : Mem} {V B : Nat → Int32} (h : vM V s) (hB : ∀ l : Nat, (l : Int) < (V 1).toInt → 0 ≤ (B l).toInt ∧ (B l).toInt ≤ 99999) (hC : ∀ l : Nat, (l : Int) < (V 1).toInt → wt_min 99999 (V (148 + 8 * l + v) + x2 * s 109 (8 * l + v)) = B l) : pc (f_X4_ownerIn F x1 x2 s) (fun r z => r = gHold (V 2) (V 1) B ∧ ∀ k, ¬ k = 110 → z k = s k) := by
  have h5 := h.1.2.1
  have key : ∀ (N l : Nat) (x3 : Int32) (σ : Mem), x3.toInt = (l : Int) → (l : Int) ≤ (V 1).toInt → (∀ k, ¬ k = 110 → σ k = s k) → (∀ m : Nat, m < l → σ 110 m = B m) → pc (lp_X4_ownerIn_2 F x1 x2 N x3 σ) (fun r z => r = gHold (V 2) (V 1) B ∧ ∀ k, ¬ k = 110 → z k = s k) := by
    intro N
    induction N with
    | zero => intro l x3 σ h1 h2 h3 h4; exact pc_none rfl
    | succ N ih =>
      intro l x3 σ h1 h2 h3 h4
      rw [lp_X4_ownerIn_2_s, h3 101 (by decide), vM_L h]
      refine pc_ite (fun c => ?_) (fun c => pc_chk (fun _ => pc_be mx_held (pc_chk (fun _ => pc_lt (fun s7 h7 => ?_)))))
      · have d := ti_le c
        have hM : vM V σ := vM_109 h (fun k _ q => h3 k q)
        rw [f_X4_ownerLooked_e]
        refine pc_bnd (gm_ownerLooked_13 hB hM (fun m hm => h4 m (by omega)) F 0 _ _ _ _ _ rfl h5.1 rfl rfl rfl (if_pos (show (gTop B 0).2.2.2 = 0 from rfl)).symm) (fun r z q => pc_ret ⟨q.1, fun k hk => by rw [q.2]; exact h3 k hk⟩)
      · have d := ti_nle c
        rw [tn_8 h1 hv (by omega) hv8, tn_int h1, h3 107 (by decide), h3 109 (by decide), vM_107 h (by omega), show 148 + (8 * l + v) = 148 + 8 * l + v by omega, hC l (by omega)] at h7
        refine ih (l + 1) _ _ (ti_nx h1 (by omega)) (by omega) (fun k hk => by rw [h7, up2_k hk, h3 k hk]) (fun m hm => ?_)
        rw [h7]
        by_cases e : m = l
        · subst e; rw [up2_s]
        · rw [up2_i e]; exact h4 m (by omega)
  rw [f_X4_ownerIn_e]
  exact key F 0 0 s rfl h5.1 (fun _ _ => rfl) (fun m hm => absurd hm (Nat.not_lt_zero m))
/-! more hours -/
def aBm (V : Nat → Int32) (n : Int32) (l v : Nat) (D : Int32) (m : Nat) : Int32 := if m = l then wt_min 99999 (V (148 + 8 * l + v) + n * (aGain V l v 24 + D)) else aBehind V n m v
def aOwn (V : Nat → Int32) (n : Int32) (l v : Nat) (D : Int32) : Int32 := gHold (V 2) (V 1) (aBm V n l v D)
theorem aOwn_0 {V : Nat → Int32} {n : Int32} {l v : Nat} : aOwn V n l v 0 = aHold V n v := by
  unfold aOwn
  rw [aHold_g, show aBm V n l v 0 = (fun m => aBehind V n m v) from funext (fun m => by
    unfold aBm
    by_cases c : m = l
    · rw [if_pos c, Int32.add_zero, c]; rfl
    · rw [if_neg c])]
theorem aBm_b {V : Nat → Int32} (h : wvV V) {n : Int32} (hn : 0 ≤ n.toInt ∧ n.toInt ≤ 999) {l v : Nat} (hl : (l : Int) < (V 1).toInt) (hv : v < 8) {D : Int32} (hD : 0 ≤ D.toInt ∧ D.toInt ≤ 3000) : ∀ m : Nat, (m : Int) < (V 1).toInt → 0 ≤ (aBm V n l v D m).toInt ∧ (aBm V n l v D m).toInt ≤ 99999 := fun m hm => by
  unfold aBm
  by_cases c : m = l
  · rw [if_pos c]
    have hc := vV_n h hl hv
    have hg := aGain_b h (v := v) hl 24 (by omega)
    have e1 : (aGain V l v 24 + D).toInt = (aGain V l v 24).toInt + D.toInt := ti_add (by omega) (by omega)
    have p0 : 0 ≤ n.toInt * ((aGain V l v 24).toInt + D.toInt) := Int.mul_nonneg hn.1 (by omega)
    have p1 : n.toInt * ((aGain V l v 24).toInt + D.toInt) ≤ 999 * 3240 := Int.mul_le_mul hn.2 (by omega) (by omega) (by omega)
    have e2 : (n * (aGain V l v 24 + D)).toInt = n.toInt * ((aGain V l v 24).toInt + D.toInt) := by rw [ti_mul (by rw [e1]; omega) (by rw [e1]; omega), e1]
    have e3 : (V (148 + 8 * l + v) + n * (aGain V l v 24 + D)).toInt = (V (148 + 8 * l + v)).toInt + n.toInt * ((aGain V l v 24).toInt + D.toInt) := by rw [ti_add (by rw [e2]; omega) (by rw [e2]; omega), e2]
    unfold wt_min
    by_cases c2 : V (148 + 8 * l + v) + n * (aGain V l v 24 + D) < 99999
    · have d := ti_lt c2
      rw [tz_99999] at d
      rw [if_pos c2]; omega
    · rw [if_neg c2, tz_99999]; omega
  · rw [if_neg c]
    exact aBehind_b h hm hv ⟨hn.1, by omega⟩
def mhH (V : Nat → Int32) (who n : Int32) (l v : Nat) (p : Int32) : Nat → Nat → Int32 → Int32 → Bool × Int32 × Int32
  | 0, _, D, st => (false, D, st)
  | k + 1, t, D, st => if (V (28 + 24 * l + t)).toInt < 0 ∧ aPull V l (Int32.ofNat t) = p then (if aOwn V n l v (D + p) = who then (true, D + p, st + 1) else mhH V who n l v p k (t + 1) (D + p) (st + 1)) else mhH V who n l v p k (t + 1) D st
theorem mhH_n {V : Nat → Int32} {who n p D st : Int32} {l v k t : Nat} (c : ¬ ((V (28 + 24 * l + t)).toInt < 0 ∧ aPull V l (Int32.ofNat t) = p)) : mhH V who n l v p (k + 1) t D st = mhH V who n l v p k (t + 1) D st := if_neg c
theorem mhH_y {V : Nat → Int32} {who n p D st : Int32} {l v k t : Nat} (c : (V (28 + 24 * l + t)).toInt < 0 ∧ aPull V l (Int32.ofNat t) = p) (d : aOwn V n l v (D + p) = who) : mhH V who n l v p (k + 1) t D st = (true, D + p, st + 1) := (if_pos c).trans (if_pos d)
theorem mhH_z {V : Nat → Int32} {who n p D st : Int32} {l v k t : Nat} (c : (V (28 + 24 * l + t)).toInt < 0 ∧ aPull V l (Int32.ofNat t) = p) (d : ¬ aOwn V n l v (D + p) = who) : mhH V who n l v p (k + 1) t D st = mhH V who n l v p k (t + 1) (D + p) (st + 1) := (if_pos c).trans (if_neg d)
def mhP (V : Nat → Int32) (who n : Int32) (l v : Nat) : Nat → Int32 → Int32 → Int32
  | 0, _, _ => -9
  | k + 1, D, st => if (mhH V who n l v (Int32.ofNat (k + 1)) 24 0 D st).1 = true then (mhH V who n l v (Int32.ofNat (k + 1)) 24 0 D st).2.2 else mhP V who n l v k (mhH V who n l v (Int32.ofNat (k + 1)) 24 0 D st).2.1 (mhH V who n l v (Int32.ofNat (k + 1)) 24 0 D st).2.2
def anMoreHours (V : Nat → Int32) (x1 x2 x3 : Int32) : Int32 := cF (cF (cF (cB (0 ≤ x1.toInt ∧ x1.toInt < (V 1).toInt)) (cB (0 ≤ x2.toInt ∧ x2.toInt ≤ 7))) (cN x3 1 999)) (if aHold V x3 x2.toNatClampNeg = x1 then 0 else if anShown1 V x2 (V 0).toNatClampNeg = 0 then -9 else if V (18 + 2 * x1.toNatClampNeg) = 2 then -9 else mhP V x1 x3 x1.toNatClampNeg x2.toNatClampNeg 10 0 0)
/-- gains as laid, one of them D more -/
def gD (V : Nat → Int32) (l v : Nat) (D : Int32) (s : Mem) : Prop := ∀ m : Nat, (m : Int) < (V 1).toInt → ∀ w, w < 8 → s (24 + 18 + m) w = if m = l ∧ w = v then aGain V l v 24 + D else aGain V m w 24
theorem gx_own {F : Nat} {x1 x2 D : Int32} {l v : Nat} {σ : Mem} {V : Nat → Int32} (a : vH 24 V σ) (g : gD V l v D σ) (hv : x1.toInt = (v : Int)) (hv8 : v < 8) : pc (f_X0_holder F 24 x1 x2 σ) (fun r s => r = aOwn V x2 l v D ∧ s = σ) := by
  refine gx_holder a (fun m x hm hm5 => ?_)
  rw [f_X0_behind_e]
  refine pc_chk (fun _ => pc_chk (fun _ => pc_ret ⟨?_, rfl⟩))
  rw [tn_int hm, tn_int hv, vH_n a hm5 hv8, g m hm5 v hv8]
  unfold aBm
  by_cases c : m = l
  · rw [if_pos ⟨c, rfl⟩, if_pos c, c]
  · rw [if_neg (fun q => c q.1), if_neg c]; rfl
theorem qx_mh_33 {F : Nat} {x1 x2 x3 x5 : Int32} {l v : Nat} {V : Nat → Int32} (hl : x1.toInt = (l : Int)) (hl5 : (l : Int) < (V 1).toInt) (hv : x2.toInt = (v : Int)) (hv8 : v < 8) {k25 : Int32 → Int32 → Mem → Option (Int32 × Mem)} {Q : Int32 → Mem → Prop} : ∀ (N k t : Nat) (x4 x6 D : Int32) (s : Mem), x6.toInt = (t : Int) → t + k = 24 → vH 1 V s → vH 24 V s → gD V l v D s → ((mhH V x1 x3 l v x5 k t D x4).1 = true → ∀ s', Q (mhH V x1 x3 l v x5 k t D x4).2.2 s') → (¬ (mhH V x1 x3 l v x5 k t D x4).1 = true → ∀ s', vH 1 V s' → vH 24 V s' → gD V l v (mhH V x1 x3 l v x5 k t D x4).2.1 s' → pc (k25 (mhH V x1 x3 l v x5 k t D x4).2.2 (x5 + -1) s') Q) → pc (lp_X3_hoursUntilOwned_33 F k25 x1 x2 x3 x5 N x4 x6 s) Q := by
  intro N
  induction N with
  | zero => intro k t x4 x6 D s h1 h2 a b g hy hn; exact pc_none rfl
  | succ N ih =>
    intro k t x4 x6 D s h1 h2 a b g hy hn
    have h5 := a.1.2.1.2
    rw [lp_X3_hoursUntilOwned_33_s]
    simp only [j_X3_hoursUntilOwned_107_e]
    refine pc_ite (fun c => ?_) (fun c => pc_chk (fun _ => pc_chk (fun _ => ?_)))
    · have d := ti_le c
      rw [tz_24] at d
      have k0 : k = 0 := by omega
      subst k0
      exact hn (fun q => absurd q Bool.false_ne_true) s a b g
    have d := ti_nle c
    rw [tz_24] at d
    obtain ⟨k', rfl⟩ : ∃ k', k = k' + 1 := ⟨k - 1, by omega⟩
    have e6 := io_eq h1 (by omega)
    have n6 := ti_nx h1 (by omega)
    rw [tn_int hl, tn_int h1, vH_c a hl5 (by omega)]
    have hc := wvN_9 (vH_b a (l := l) (t := t) hl5 (by omega))
    have skip : ¬ ((V (28 + 24 * l + t)).toInt < 0 ∧ aPull V l (Int32.ofNat t) = x5) → pc (lp_X3_hoursUntilOwned_33 F k25 x1 x2 x3 x5 N x4 (x6 + 1) s) Q := fun w => by
      rw [mhH_n w] at hy hn
      exact ih k' (t + 1) _ _ D s n6 (by omega) a b g hy hn
    refine pc_ite (fun c9 => pc_bnd (ax_pull a hl hl5) (fun r s4 q => ?_)) (fun c9 => skip (fun w => c9 (hc.mpr w.1)))
    rw [q.2, q.1, e6]
    rw [e6] at skip
    refine pc_ite (fun cp => pc_chk (fun _ => pc_lt (fun s6 g6 => ?_))) (fun cp => skip (fun w => cp w.2))
    have w : (V (28 + 24 * l + t)).toInt < 0 ∧ aPull V l (Int32.ofNat t) = x5 := ⟨hc.mp c9, cp⟩
    rw [tn_int hv, g l hl5 v hv8, if_pos ⟨rfl, rfl⟩, Int32.add_assoc] at g6
    have a6 : vH 1 V s6 := vH_e a (fun j _ _ => by rw [g6, up2_k (by omega)])
    have b6 : vH 24 V s6 := vH_e b (fun j _ _ => by rw [g6, up2_k (by omega)])
    have gd6 : gD V l v (D + x5) s6 := fun m hm j hj => by
      rw [g6]
      by_cases z1 : m = l
      · subst z1
        by_cases z2 : j = v
        · subst z2; rw [up2_s, if_pos ⟨rfl, rfl⟩]
        · rw [up2_i z2, g m hm j hj, if_neg (fun q => z2 q.2), if_neg (fun q => z2 q.2)]
      · rw [up2_k (by omega), g m hm j hj, if_neg (fun q => z1 q.1), if_neg (fun q => z1 q.1)]
    refine pc_bnd (gx_own b6 gd6 hv hv8) (fun r7 s8 q8 => ?_)
    rw [q8.2, q8.1]
    refine pc_ite (fun co => pc_ret ?_) (fun co => ?_)
    · rw [mhH_y w co] at hy
      exact hy rfl _
    · rw [mhH_z w co] at hy hn
      exact ih k' (t + 1) _ _ (D + x5) s6 (by rw [← e6]; exact n6) (by omega) a6 b6 gd6 hy hn
theorem qx_mh {F : Nat} (hF : 1000 ≤ F) {x1 x2 x3 : Int32} {l v : Nat} {σ : Mem} {V : Nat → Int32} (h : vH 1 V σ) (hl : x1.toInt = (l : Int)) (hl5 : (l : Int) < (V 1).toInt) (hv : x2.toInt = (v : Int)) (hv8 : v < 8) : pc (f_X3_hoursUntilOwned F x1 x2 x3 σ) (fun r _ => r = mhP V x1 x3 l v 10 0 0) := by
  rw [f_X3_hoursUntilOwned_e]
  refine pc_bnd (qx_take hF h) (fun _ s10 q10 => pc_bnd (qx_reckH q10.1) (fun _ s12 q12 => ?_))
  have a12 : vH 1 V s12 := vH_o (vH_o h q10.2) (o24_rk q12.2)
  have g12 : gD V l v 0 s12 := fun m hm w hw => by
    rw [q12.1.2 m hm w hw, Int32.add_zero]
    by_cases c : m = l ∧ w = v
    · rw [if_pos c, c.1, c.2]
    · rw [if_neg c]
  have key : ∀ (N k : Nat) (x4 x5 D : Int32) (s : Mem), x5.toInt = (k : Int) → k ≤ 10 → vH 1 V s → vH 24 V s → gD V l v D s → pc (lp_X3_hoursUntilOwned_25 F x1 x2 x3 N x4 x5 s) (fun r _ => r = mhP V x1 x3 l v k D x4) := by
    intro N
    induction N with
    | zero => intro k x4 x5 D s h1 h2 a b g; exact pc_none rfl
    | succ N ih =>
      intro k x4 x5 D s h1 h2 a b g
      rw [lp_X3_hoursUntilOwned_25_s]
      refine pc_ite (fun c => ?_) (fun c => ?_)
      · have d := ti_le c
        rw [tz_0] at d
        rw [show k = 0 by omega]
        exact pc_ret rfl
      have d := ti_nle c
      rw [tz_0] at d
      obtain ⟨k', rfl⟩ : ∃ k', k = k' + 1 := ⟨k - 1, by omega⟩
      have e5 := io_eq h1 (by omega)
      have hs : mhP V x1 x3 l v (k' + 1) D x4 = if (mhH V x1 x3 l v x5 24 0 D x4).1 = true then (mhH V x1 x3 l v x5 24 0 D x4).2.2 else mhP V x1 x3 l v k' (mhH V x1 x3 l v x5 24 0 D x4).2.1 (mhH V x1 x3 l v x5 24 0 D x4).2.2 := by rw [e5]; rfl
      rw [hs]
      refine qx_mh_33 hl hl5 hv hv8 F 24 0 x4 0 D s rfl (by omega) a b g (fun w _ => by rw [if_pos w]) (fun w s' a' b' g' => ?_)
      rw [if_neg w]
      exact ih k' _ _ _ s' (by rw [ti_m1 (by omega)]; omega) (by omega) a' b' g'
  exact key F 10 0 10 0 s12 rfl (by omega) a12 q12.1.1 g12
theorem qx_moreHours {F : Nat} (hF : 1000 ≤ F) {x1 x2 x3 : Int32} {σ : Mem} {V : Nat → Int32} (h : vH 1 V σ) : pc (f_X3_moreHours F x1 x2 x3 σ) (fun r _ => r = anMoreHours V x1 x2 x3) := by
  have h5 := h.1.2.1.2
  rw [f_X3_moreHours_e]
  refine pc_be (ax_noLooker (by rw [vH_2 h]; exact h5)) (pc_be ax_noView (pc_be ax_firstOf (pc_be ax_outside (pc_be ax_firstOf ?_))))
  rw [vH_2 h]
  simp only [j_X3_moreHours_83_e]
  unfold anMoreHours
  refine cq_end (fun e => pc_bnd (qx_reckon h) (fun _ s12 a12 => ?_))
  have d1 := cB_0 (cF_0 (cF_0 e).1).1
  have d2 := cB_0 (cF_0 (cF_0 e).1).2
  have n1 := ti_nat x1
  have n2 := ti_nat x2
  refine pc_bnd (qx_hold a12 (v := x2.toNatClampNeg) (by omega) (by omega)) (fun r s14 q14 => ?_)
  rw [q14.2, q14.1]
  refine pc_ite (fun c => pc_ret (by rw [if_pos c])) (fun c => ?_)
  rw [if_neg c]
  refine pc_bnd (qx_timesShown (vX_H a12.1) d2) (fun r s16 q16 => ?_)
  rw [q16.2, q16.1]
  refine pc_ite (fun c2 => pc_ret (by rw [if_pos c2])) (fun c2 => pc_chk (fun w => ?_))
  rw [if_neg c2, vH_k2 a12.1 w.2.2]
  refine pc_ite (fun c3 => pc_ret (by rw [if_pos c3])) (fun c3 => ?_)
  rw [if_neg c3]
  exact pc_bnd (qx_mh hF a12.1 (l := x1.toNatClampNeg) (v := x2.toNatClampNeg) (by omega) (by omega) (by omega) (by omega)) (fun r z q => pc_ret q)
/-- a view is shown by no pane: the two ways to tell it -/
theorem bit_or (a b c : Int32) : ((a ||| b) >>> c) &&& (1 : Int32) = ((a >>> c) &&& 1) ||| ((b >>> c) &&& 1) := by
  rw [Int32.shiftRight_or]
  exact Int32.toBitVec_inj.mp BitVec.and_or_distrib_right
theorem shown_0 {V : Nat → Int32} {x : Int32} : ∀ n, n ≤ 6 → (0 ≤ (anShown1 V x n).toInt ∧ (anShown1 V x n).toInt ≤ (n : Int)) ∧ ((aAll V n >>> (x &&& 31)) &&& (1 : Int32) = 0 ↔ anShown1 V x n = 0) := fun n => by
  induction n with
  | zero => intro _; exact ⟨⟨Int.le_refl 0, Int.le_refl 0⟩, ⟨fun _ => rfl, fun _ => by show ((0 : Int32) >>> (x &&& 31)) &&& 1 = 0; rw [Int32.zero_shiftRight, Int32.zero_and]⟩⟩
  | succ n ih =>
    intro hn
    obtain ⟨b, e⟩ := ih (by omega)
    have hs : anShown1 V x (n + 1) = anShown1 V x n + anBit (V (12 + n)) x := rfl
    have hb : (aAll V (n + 1) >>> (x &&& 31)) &&& (1 : Int32) = ((aAll V n >>> (x &&& 31)) &&& 1) ||| anBit (V (12 + n)) x := bit_or _ _ _
    rw [hs, hb]
    rcases ax_and1 (V (12 + n) >>> (x &&& 31)) with q | q
    · rw [show anBit (V (12 + n)) x = 0 from q, Int32.add_zero, Int32.or_zero]
      exact ⟨by omega, e⟩
    · rw [show anBit (V (12 + n)) x = 1 from q]
      have t : (anShown1 V x n + 1).toInt = (anShown1 V x n).toInt + 1 := by rw [ti_add (by rw [tz_1]; omega) (by rw [tz_1]; omega), tz_1]
      refine ⟨by omega, ⟨fun w => ?_, fun w => ?_⟩⟩
      · exfalso
        rcases ax_and1 (aAll V n >>> (x &&& 31)) with u | u
        · rw [u] at w; exact absurd w (by decide)
        · rw [u] at w; exact absurd w (by decide)
      · have := congrArg Int32.toInt w
        rw [tz_0] at this
        omega
def mD (V : Nat → Int32) (l v : Nat) (D : Int32) (s : Mem) : Prop := ∀ m : Nat, (m : Int) < (V 1).toInt → ∀ w, w < 8 → s 109 (8 * m + w) = if m = l ∧ w = v then aGain V l v 24 + D else aGain V m w 24
theorem gm_own {F : Nat} {x1 x2 D : Int32} (hx : 0 ≤ x2.toInt ∧ x2.toInt ≤ 999) {l v : Nat} {s : Mem} {V : Nat → Int32} (a : vM V s) (g : mD V l v D s) (hl5 : (l : Int) < (V 1).toInt) (hv : x1.toInt = (v : Int)) (hv8 : v < 8) (hD : 0 ≤ D.toInt ∧ D.toInt ≤ 3000) : pc (f_X4_ownerIn F x1 x2 s) (fun r z => r = aOwn V x2 l v D ∧ ∀ k, ¬ k = 110 → z k = s k) := gm_ownerIn hv hv8 a (aBm_b a.1 hx hl5 hv8 hD) (fun m hm => by
  rw [g m hm v hv8]
  unfold aBm
  by_cases c : m = l
  · rw [if_pos ⟨c, rfl⟩, if_pos c, c]
  · rw [if_neg (fun q => c q.1), if_neg c]; rfl)
theorem qm_mh_101 {F : Nat} {x1 x2 x3 x6 : Int32} {l v : Nat} {V : Nat → Int32} (hx : 0 ≤ x3.toInt ∧ x3.toInt ≤ 999) (hl : x1.toInt = (l : Int)) (hl5 : (l : Int) < (V 1).toInt) (hv : x2.toInt = (v : Int)) (hv8 : v < 8) (hp : 0 ≤ x6.toInt ∧ x6.toInt ≤ 10) {k93 : Int32 → Int32 → Mem → Option (Int32 × Mem)} {Q : Int32 → Mem → Prop} {T : Int} (hT : 0 ≤ T ∧ T ≤ 2700) : ∀ (N k t : Nat) (x5 x7 D : Int32) (s : Mem), x7.toInt = (t : Int) → t + k = 24 → vM V s → mD V l v D s → (0 ≤ D.toInt ∧ D.toInt ≤ T + 10 * (t : Int)) → ((mhH V x1 x3 l v x6 k t D x5).1 = true → ∀ s', Q (mhH V x1 x3 l v x6 k t D x5).2.2 s') → (¬ (mhH V x1 x3 l v x6 k t D x5).1 = true → ∀ s', vM V s' → mD V l v (mhH V x1 x3 l v x6 k t D x5).2.1 s' → (0 ≤ (mhH V x1 x3 l v x6 k t D x5).2.1.toInt ∧ (mhH V x1 x3 l v x6 k t D x5).2.1.toInt ≤ T + 240) → pc (k93 (mhH V x1 x3 l v x6 k t D x5).2.2 (x6 + -1) s') Q) → pc (lp_X4_moreHours_101 F k93 x1 x2 x3 x6 N x5 x7 s) Q := by
  intro N
  induction N with
  | zero => intro k t x5 x7 D s h1 h2 a g hD hy hn; exact pc_none rfl
  | succ N ih =>
    intro k t x5 x7 D s h1 h2 a g hD hy hn
    have h5 := a.1.2.1.2
    rw [lp_X4_moreHours_101_s]
    simp only [j_X4_moreHours_167_e]
    refine pc_ite (fun c => ?_) (fun c => pc_chk (fun _ => ?_))
    · have d := ti_le c
      rw [tz_24] at d
      have k0 : k = 0 := by omega
      subst k0
      exact hn (fun q => absurd q Bool.false_ne_true) s a g ⟨hD.1, by show D.toInt ≤ _; omega⟩
    have d := ti_nle c
    rw [tz_24] at d
    obtain ⟨k', rfl⟩ : ∃ k', k = k' + 1 := ⟨k - 1, by omega⟩
    have e7 := io_eq h1 (by omega)
    have n7 := ti_nx h1 (by omega)
    rw [tn_24 hl h1 (by omega) (by omega), vM_106 a (by omega), show 28 + (24 * l + t) = 28 + 24 * l + t by omega]
    have skip : ¬ ((V (28 + 24 * l + t)).toInt < 0 ∧ aPull V l (Int32.ofNat t) = x6) → pc (lp_X4_moreHours_101 F k93 x1 x2 x3 x6 N x5 (x7 + 1) s) Q := fun w => by
      rw [mhH_n w] at hy hn
      exact ih k' (t + 1) _ _ D s n7 (by omega) a g ⟨hD.1, by omega⟩ hy hn
    refine pc_ite (fun c9 => skip (fun w => by have := ti_le c9; rw [tz_0] at this; omega)) (fun c9 => pc_bnd (mx_pullOf a hl hl5) (fun r s4 q => ?_))
    have c9' := ti_nle c9
    rw [tz_0] at c9'
    rw [q.2, q.1, e7]
    rw [e7] at skip
    refine pc_ite (fun cp => pc_chk (fun _ => pc_lt (fun s6 g6 => ?_))) (fun cp => skip (fun w => cp w.2))
    have w : (V (28 + 24 * l + t)).toInt < 0 ∧ aPull V l (Int32.ofNat t) = x6 := ⟨c9', cp⟩
    rw [tn_8 hl hv (by omega) hv8, g l hl5 v hv8, if_pos ⟨rfl, rfl⟩, Int32.add_assoc] at g6
    have a6 : vM V s6 := vM_109 a (fun j j1 _ => by rw [g6, up2_k j1])
    have gd6 : mD V l v (D + x6) s6 := fun m hm j hj => by
      rw [g6]
      by_cases z : m = l ∧ j = v
      · rw [z.1, z.2, up2_s, if_pos ⟨rfl, rfl⟩]
      · rw [up2_i (by omega), g m hm j hj, if_neg z, if_neg z]
    have hD6 : (D + x6).toInt = D.toInt + x6.toInt := ti_add (by omega) (by omega)
    refine pc_bnd (gm_own hx a6 gd6 hl5 hv hv8 ⟨by omega, by omega⟩) (fun r7 s8 q8 => ?_)
    rw [q8.1]
    have a8 : vM V s8 := vM_109 a6 (fun j _ j2 => q8.2 j j2)
    have g8 : mD V l v (D + x6) s8 := fun m hm j hj => by rw [q8.2 109 (by decide)]; exact gd6 m hm j hj
    refine pc_ite (fun co => pc_ret ?_) (fun co => ?_)
    · rw [mhH_y w co] at hy
      exact hy rfl _
    · rw [mhH_z w co] at hy hn
      exact ih k' (t + 1) _ _ (D + x6) s8 (by rw [← e7]; exact n7) (by omega) a8 g8 ⟨by omega, by omega⟩ hy hn
theorem mh_own {V : Nat → Int32} {who n p : Int32} {l v : Nat} : ∀ (k t : Nat) (D st : Int32), ¬ aOwn V n l v D = who → ¬ (mhH V who n l v p k t D st).1 = true → ¬ aOwn V n l v (mhH V who n l v p k t D st).2.1 = who := fun k => by
  induction k with
  | zero => intro t D st h _; exact h
  | succ k ih =>
    intro t D st h hn
    by_cases c : (V (28 + 24 * l + t)).toInt < 0 ∧ aPull V l (Int32.ofNat t) = p
    · by_cases d : aOwn V n l v (D + p) = who
      · rw [mhH_y c d] at hn; exact absurd rfl hn
      · rw [mhH_z c d] at hn ⊢; exact ih _ _ _ d hn
    · rw [mhH_n c] at hn ⊢; exact ih _ _ _ h hn
theorem mh_nil {V : Nat → Int32} {who n : Int32} {l v : Nat} : ∀ (k t : Nat) (D st : Int32), ¬ aOwn V n l v D = who → ¬ (mhH V who n l v 0 k t D st).1 = true := fun k => by
  induction k with
  | zero => intro t D st h q; exact absurd q Bool.false_ne_true
  | succ k ih =>
    intro t D st h
    by_cases c : (V (28 + 24 * l + t)).toInt < 0 ∧ aPull V l (Int32.ofNat t) = 0
    · rw [mhH_z c (by rw [Int32.add_zero]; exact h), Int32.add_zero]; exact ih _ _ _ h
    · rw [mhH_n c]; exact ih _ _ _ h
theorem qm_moreHours {F : Nat} {x1 x2 x3 : Int32} {s : Mem} {V : Nat → Int32} (h : vM V s) : pc (f_X4_moreHours F x1 x2 x3 s) (fun r _ => r = anMoreHours V x1 x2 x3) := by
  have h5 := h.1.2.1.2
  have m0 := ti_nat (V 0)
  have h6 := h.1.1
  rw [f_X4_moreHours_e]
  refine pc_lt (fun s5 g5 => ?_)
  have h' : vM V s5 := vM_up h g5
  clear g5
  simp only [j_X4_moreHours_31_e, j_X4_moreHours_32_e, j_X4_moreHours_83_e]
  refine pc_be (mx_isLooker (by rw [vM_L h']; exact h.1.2.1.1)) ?_
  rw [vM_L h']
  unfold anMoreHours
  by_cases c : 0 ≤ x1.toInt ∧ x1.toInt < (V 1).toInt
  · rw [if_pos c, if_neg (by decide), cB_t c, cF_z]
    refine pc_be mx_isView ?_
    by_cases c2 : 0 ≤ x2.toInt ∧ x2.toInt ≤ 7
    · rw [if_pos c2, if_neg (by decide), cB_t c2, cF_z]
      have n1 := ti_nat x1
      have n2 := ti_nat x2
      refine pc_be mx_wrongN ?_
      refine mq_end sg_cN (fun e => pc_bnd (qm_lay h') (fun _ s9 q9 => ?_))
      have d2 := cN_0 e
      rw [tz_1, tz_999'] at d2
      have hx : 0 ≤ x3.toInt ∧ x3.toInt ≤ 999 := ⟨by omega, d2.2⟩
      refine pc_bnd (qm_own ⟨hx.1, by omega⟩ (v := x2.toNatClampNeg) (by omega) (by omega) q9) (fun r s11 q11 => ?_)
      rw [q11.1]
      refine pc_ite (fun c3 => pc_ret (by rw [if_pos c3])) (fun c3 => pc_chk (fun w => ?_))
      rw [if_neg c3, vM_104 q11.2.1 w.2.2]
      have sh := (shown_0 (V := V) (x := x2) (V 0).toNatClampNeg (by omega)).2
      refine pc_ite (fun c4 => pc_ret ?_) (fun c4 => pc_bnd (mx_allShown q11.2.1) (fun r13 s14 q14 => ?_))
      · rw [if_pos c4, ite_self]
      rw [q14.2, q14.1, f_X4_hasBit_e]
      have hl : x1.toInt = (x1.toNatClampNeg : Int) := by omega
      have hl5 : (x1.toNatClampNeg : Int) < (V 1).toInt := by omega
      have hv : x2.toInt = (x2.toNatClampNeg : Int) := by omega
      have hv8 : x2.toNatClampNeg < 8 := by omega
      rcases ax_and1 (aAll V (V 0).toNatClampNeg >>> (x2 &&& 31)) with b | b
      · rw [b, if_neg (by decide)]
        refine pc_be rfl ?_
        rw [if_pos rfl]
        exact pc_ret (by rw [if_pos (sh.mp b)])
      · have nb : ¬ anShown1 V x2 (V 0).toNatClampNeg = 0 := fun q => by rw [sh.mpr q] at b; exact absurd b (by decide)
        rw [b, if_pos rfl]
        refine pc_be rfl ?_
        rw [if_neg (by decide), if_neg nb, if_neg c4]
        have g11 : mD V x1.toNatClampNeg x2.toNatClampNeg 0 s11 := fun m hm j hj => by
          rw [q11.2.2 m hm j hj, Int32.add_zero]
          by_cases z : m = x1.toNatClampNeg ∧ j = x2.toNatClampNeg
          · rw [if_pos z, z.1, z.2]
          · rw [if_neg z]
        have key : ∀ (N k : Nat) (x5 x6 D : Int32) (s : Mem), x6.toInt = (k : Int) → k ≤ 10 → vM V s → mD V x1.toNatClampNeg x2.toNatClampNeg D s → (0 ≤ D.toInt ∧ D.toInt ≤ 240 * (10 - (k : Int))) → ¬ aOwn V x3 x1.toNatClampNeg x2.toNatClampNeg D = x1 → pc (lp_X4_moreHours_93 F x1 x2 x3 N x5 x6 s) (fun r _ => r = mhP V x1 x3 x1.toNatClampNeg x2.toNatClampNeg k D x5) := by
          intro N
          induction N with
          | zero => intro k x5 x6 D s h1 h2 a g hD ho; exact pc_none rfl
          | succ N ih =>
            intro k x5 x6 D s h1 h2 a g hD ho
            rw [lp_X4_moreHours_93_s]
            refine pc_ite (fun c => ?_) (fun c => ?_)
            · have d := ti_lt c
              rw [tz_0] at d
              omega
            have e6 := io_eq h1 (by omega)
            cases k with
            | zero =>
              have x60 : x6 = 0 := by rw [e6]; rfl
              refine qm_mh_101 hx hl hl5 hv hv8 ⟨by omega, by omega⟩ (T := 2400) ⟨by omega, by omega⟩ F 24 0 x5 0 D s rfl (by omega) a g ⟨hD.1, by omega⟩ (fun w => ?_) (fun w s' a' g' hD' => ?_)
              · rw [x60] at w
                exact absurd w (mh_nil 24 0 D x5 ho)
              · cases N with
                | zero => exact pc_none rfl
                | succ N =>
                  rw [lp_X4_moreHours_93_s, if_pos (by rw [x60]; decide)]
                  exact pc_ret rfl
            | succ k' =>
              have hs : mhP V x1 x3 x1.toNatClampNeg x2.toNatClampNeg (k' + 1) D x5 = if (mhH V x1 x3 x1.toNatClampNeg x2.toNatClampNeg x6 24 0 D x5).1 = true then (mhH V x1 x3 x1.toNatClampNeg x2.toNatClampNeg x6 24 0 D x5).2.2 else mhP V x1 x3 x1.toNatClampNeg x2.toNatClampNeg k' (mhH V x1 x3 x1.toNatClampNeg x2.toNatClampNeg x6 24 0 D x5).2.1 (mhH V x1 x3 x1.toNatClampNeg x2.toNatClampNeg x6 24 0 D x5).2.2 := by rw [e6]; rfl
              rw [hs]
              refine qm_mh_101 hx hl hl5 hv hv8 ⟨by omega, by omega⟩ (T := 240 * (10 - ((k' + 1 : Nat) : Int))) ⟨by omega, by omega⟩ F 24 0 x5 0 D s rfl (by omega) a g ⟨hD.1, by omega⟩ (fun w _ => by rw [if_pos w]) (fun w s' a' g' hD' => ?_)
              rw [if_neg w]
              exact ih k' _ _ _ s' (by rw [ti_m1 (by omega)]; omega) (by omega) a' g' ⟨hD'.1, by omega⟩ (mh_own 24 0 D x5 ho w)
        exact key F 10 0 10 0 s11 rfl (by omega) q11.2.1 g11 ⟨Int.le_refl 0, Int.le_refl 0⟩ (by rw [aOwn_0]; exact c3)
    · rw [if_neg c2, if_pos rfl, cB_f c2, cF_n (a := -1) (by decide), if_neg (by decide)]
      exact mq_ref (cF_n (by decide))
  · rw [if_neg c, if_pos rfl, cB_f c, cF_n (a := -1) (by decide), cF_n (a := -1) (by decide), if_neg (by decide)]
    exact mq_ref (cF_n (by decide))
end
