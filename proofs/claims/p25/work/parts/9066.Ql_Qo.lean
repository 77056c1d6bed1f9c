section
/-! the mind's house: what is taken along and changed -/
theorem pc_true {α : Type} {o : Option (α × Mem)} : pc o (fun _ _ => True) := fun _ _ _ => trivial
theorem vH_e {h : Nat} {V : Nat → Int32} {σ s : Mem} (a : vH h V σ) (e : ∀ k, h ≤ k → k ≤ h + 16 → s k = σ k) : vH h V s := ⟨a.1, fun p hp hl => by
  rw [wvX_eq (fun q hq => by rw [e _ (by omega) (by have := wvJ_le q hq; omega)]) hp]
  exact a.2 p hp hl⟩
theorem vG_e {h : Nat} {V : Nat → Int32} {σ s : Mem} (h5 : (V 1).toInt ≤ 5) (g : vG h V σ) (e : ∀ k, h + 18 ≤ k → k ≤ h + 22 → s k = σ k) : vG h V s := fun m hm v hv => by
  rw [e _ (by omega) (by omega)]
  exact g m hm v hv
theorem wcid_24 {k i : Nat} (h : ¬ (24 ≤ k ∧ k ≤ 46)) : ¬ (24 ≤ wcid k i ∧ wcid k i ≤ 46) := by
  unfold wcid
  by_cases c1 : k = 101
  · rw [if_pos c1]; omega
  rw [if_neg c1]
  by_cases c2 : k = 0
  · rw [if_pos c2]; omega
  rw [if_neg c2]
  by_cases c3 : k = 70
  · rw [if_pos c3]; omega
  rw [if_neg c3]
  by_cases c4 : k = 83
  · rw [if_pos c4]; omega
  rw [if_neg c4]
  exact h
/-- all but the mind's house is as it was -/
def o24 (σ s : Mem) : Prop := ∀ k, ¬ (24 ≤ k ∧ k ≤ 46) → s k = σ k
theorem o24_rf {σ : Mem} : o24 σ σ := fun _ _ => rfl
theorem o24_tr {σ s z : Mem} (a : o24 σ s) (b : o24 s z) : o24 σ z := fun k hk => (b k hk).trans (a k hk)
theorem o24_fr {W : Nat → Prop} {σ s : Mem} (f : fr W σ s) (hW : ∀ c, W c → 24 ≤ c ∧ c ≤ 46) : o24 σ s := fun k hk => funext (fun i => f k i (fun w => wcid_24 hk (hW _ w)))
theorem o24_up {σ : Mem} {k i : Nat} {x : Int32} (hk : 24 ≤ k ∧ k ≤ 46) : o24 σ (up2 σ k i x) := fun q hq => up2_k (fun e => hq (by rw [e]; exact hk))
theorem o24_rk {σ s : Mem} (e : ∀ k, ¬ (24 + 18 ≤ k ∧ k ≤ 24 + 22) → s k = σ k) : o24 σ s := fun k hk => e k (by omega)
theorem vH_o {V : Nat → Int32} {σ s : Mem} (a : vH 1 V σ) (o : o24 σ s) : vH 1 V s := vH_e a (fun k _ _ => o k (by omega))
theorem qx_take {F : Nat} (hF : 1000 ≤ F) {σ : Mem} {V : Nat → Int32} (a : vH 1 V σ) : pc (f_X0_takeFrom F 24 1 σ) (fun _ s => vH 24 V s ∧ o24 σ s) := pc_mono (pc_and (ax_takeFrom (by omega)) (pc_pf (fr_X0_takeFrom hF wt_h24 wt_h1))) (fun _ s q => ⟨⟨a.1, fun p hp hl => by rw [q.1 p hp]; exact a.2 p hp hl⟩, o24_fr q.2 (fun c w => by unfold wf_0 at w; omega)⟩)
theorem qx_reckH {F h : Nat} {σ : Mem} {V : Nat → Int32} (a : vH h V σ) : pc (f_X0_reckon F h σ) (fun _ s => (vH h V s ∧ vG h V s) ∧ ∀ k, ¬ (h + 18 ≤ k ∧ k ≤ h + 22) → s k = σ k) := pc_mono (ax_reckon a) (fun _ _ q => ⟨⟨vH_k a q.1, q.2⟩, q.1⟩)
theorem qx_rule24 {F : Nat} (hF : 1000 ≤ F) {x : Int32} {σ : Mem} {V : Nat → Int32} (a : vH 24 V σ) (hx : 0 ≤ x.toInt ∧ x.toInt ≤ 2) : pc (f_X0_rule F 24 x σ) (fun _ s => vH 24 (aLaw V x) s ∧ ∀ k, ¬ k = 24 → s k = σ k) := pc_mono (pc_and ax_rule (pc_pf (fr_X0_rule hF wt_h24))) (fun _ s q => ⟨⟨wvV_aLaw a.1 hx, fun p hp hl => by rw [(q.1.1 hx).2 p hp]; exact weq_aLaw (lim := 188) a.2 p hp hl⟩, fun k hk => funext (fun i => q.2 k i (fun w => by
  unfold wf_7 at w
  by_cases c : 24 ≤ k ∧ k ≤ 46
  · have e := wcid_lo (k := k) (i := i) (by omega) (by omega)
    omega
  · have := wcid_24 (i := i) c
    omega))⟩)
theorem aLaw_n {V : Nat → Int32} {x : Int32} {p : Nat} (h : ¬ p = 2) : aLaw V x p = V p := wv_un h
theorem aLaw_2 {V : Nat → Int32} {x : Int32} : aLaw V x 2 = x := wv_us
theorem aLaw_id {V : Nat → Int32} : aLaw V (V 2) = V := funext (fun p => by
  by_cases c : p = 2
  · rw [c, aLaw_2]
  · exact aLaw_n c)
theorem aLaw_tw {V : Nat → Int32} {x y : Int32} : aLaw (aLaw V x) y = aLaw V y := funext (fun p => by
  by_cases c : p = 2
  · rw [c, aLaw_2, aLaw_2]
  · rw [aLaw_n c, aLaw_n c, aLaw_n c])
theorem aGain_law {V : Nat → Int32} {x : Int32} {l v : Nat} : ∀ t, aGain (aLaw V x) l v t = aGain V l v t := fun t => by
  have eA : aAll (aLaw V x) (V 0).toNatClampNeg = aAll V (V 0).toNatClampNeg := aAll_cg _ (fun i _ => aLaw_n (by omega))
  have eS : ∀ t, aSees (aLaw V x) l t = aSees V l t := fun t => by
    unfold aSees
    rw [aLaw_n (p := 18 + 2 * l) (by omega), aLaw_n (p := 0) (by omega), eA, aLaw_n (p := 28 + 24 * l + t) (by omega), aLaw_n (p := 12 + (V (28 + 24 * l + t)).toNatClampNeg) (by omega)]
  have eP : ∀ t, aPull (aLaw V x) l t = aPull V l t := fun t => by
    unfold aPull
    rw [aLaw_n (p := 18 + 2 * l) (by omega), aLaw_n (p := 19 + 2 * l) (by omega)]
  induction t with
  | zero => rfl
  | succ t ih =>
    show aGain (aLaw V x) l v t + (if (aSees (aLaw V x) l t >>> (Int32.ofNat v &&& 31)) &&& (1 : Int32) = 1 then aPull (aLaw V x) l (Int32.ofNat t) else 0) = aGain V l v t + (if (aSees V l t >>> (Int32.ofNat v &&& 31)) &&& (1 : Int32) = 1 then aPull V l (Int32.ofNat t) else 0)
    rw [ih, eS, eP]
/-- the reference's house with another law -/
theorem vM_law {V : Nat → Int32} {s : Mem} {x : Int32} (h : vM V s) (hx : 0 ≤ x.toInt ∧ x.toInt ≤ 2) : vM (aLaw V x) (up2 s 101 8 x) := ⟨wvV_aLaw h.1 hx, fun p hp => by
  rw [wvM_at (q := 2) (k := 101) (i := 8) (by decide) rfl rfl hp]
  exact upd_cg (h.2 p hp) rfl⟩
theorem io_3 {k : Nat} (h : k < 3) : 0 ≤ (Int32.ofNat k).toInt ∧ (Int32.ofNat k).toInt ≤ 2 := by rw [io_nat k (by omega)]; omega
/-! rows of owners -/
def aIn (y : Int32) : Int32 := if y = -9 then 99 else y
def aRT (V : Nat → Int32) (row : Nat → Int32) (x : Int32) : Nat → Bool
  | 0 => true
  | i + 1 => aRT V row x i && decide (row i = aIn (aHold V x i))
theorem aRT_t {V row : Nat → Int32} {x : Int32} {i : Nat} (e : row i = aIn (aHold V x i)) : aRT V row x (i + 1) = aRT V row x i := by
  show (aRT V row x i && decide (row i = aIn (aHold V x i))) = _
  rw [decide_eq_true e, Bool.and_true]
theorem aRT_f {V row : Nat → Int32} {x : Int32} {i : Nat} (e : ¬ row i = aIn (aHold V x i)) : aRT V row x (i + 1) = false := by
  show (aRT V row x i && decide (row i = aIn (aHold V x i))) = _
  rw [decide_eq_false e, Bool.and_false]
theorem aRT_dn {V row : Nat → Int32} {x : Int32} {i : Nat} (e : aRT V row x i = false) : ∀ k, aRT V row x (i + k) = false := fun k => by
  induction k with
  | zero => exact e
  | succ k ih =>
    show (aRT V row x (i + k) && decide (row (i + k) = aIn (aHold V x (i + k)))) = false
    rw [ih, Bool.false_and]
theorem ax_inRow {F : Nat} {x : Int32} {σ : Mem} : f_X3_inRow F x σ = some (aIn x, σ) := by
  rw [f_X3_inRow_e]
  unfold aIn
  by_cases c : x = -9
  · rw [if_pos c, if_pos c]
  · rw [if_neg c, if_neg c]
def b01 (b : Bool) : Int32 := if b = true then 1 else 0
theorem qx_rowTells {F : Nat} {x1 : Int32} {n : Nat} {σ : Mem} {V : Nat → Int32} (a : vH 24 V σ ∧ vG 24 V σ) (hn : (σ 0 7).toInt = (n : Int)) (hn8 : n ≤ 8) : pc (f_X3_rowTells F x1 σ) (fun r s => r = b01 (aRT V (σ 85) x1 n) ∧ s = σ) := by
  have key : ∀ (N i : Nat) (x2 : Int32), x2.toInt = (i : Int) → i ≤ n → aRT V (σ 85) x1 i = true → pc (lp_X3_rowTells_2 F x1 N x2 σ) (fun r s => r = b01 (aRT V (σ 85) x1 n) ∧ s = σ) := by
    intro N
    induction N with
    | zero => intro i x2 h1 h2 h3; exact pc_none rfl
    | succ N ih =>
      intro i x2 h1 h2 h3
      rw [lp_X3_rowTells_2_s]
      simp only [j_X3_rowTells_45_e]
      refine pc_ite (fun c => ?_) (fun c => pc_ite (fun c8 => ?_) (fun c8 => pc_chk (fun _ => ?_)))
      · have d := ti_le c
        rw [show i = n by omega] at h3
        exact pc_ret ⟨by rw [h3]; rfl, rfl⟩
      · have d := ti_nle c
        have d8 := ti_le c8
        rw [tz_8] at d8
        omega
      · have d := ti_nle c
        have hi : i < n := by omega
        refine pc_bnd (qx_holder a.1 a.2 h1 (by omega)) (fun r s q => ?_)
        rw [q.2, q.1]
        refine pc_be ax_inRow ?_
        rw [tn_int h1]
        refine pc_ite (fun e => ih (i + 1) _ (ti_nx h1 (by omega)) (by omega) (by rw [aRT_t e]; exact h3)) (fun e => pc_ret ⟨?_, rfl⟩)
        have w := aRT_dn (aRT_f e) (n - (i + 1))
        rw [show i + 1 + (n - (i + 1)) = n by omega] at w
        rw [w]
        rfl
  rw [f_X3_rowTells_e]
  exact key F 0 0 rfl (by omega) rfl
theorem qm_isRow {F : Nat} {x1 : Int32} (hx : 0 ≤ x1.toInt ∧ x1.toInt ≤ 9999) {n : Nat} {s : Mem} {V row : Nat → Int32} (h : vM V s) (hn : (s 101 34).toInt = (n : Int)) (hn8 : n ≤ 8) (hr : ∀ i, i < n → s 121 i = row i) : pc (f_X4_isRow F x1 s) (fun r z => r = b01 (aRT V row x1 n) ∧ ∀ k, ¬ k = 109 → ¬ k = 110 → z k = s k) := by
  have h5 := h.1.2.1.2
  have key : ∀ (N i : Nat) (x2 x3 : Int32) (z : Mem), x3.toInt = (i : Int) → i ≤ n → x2 = b01 (aRT V row x1 i) → (∀ k, ¬ k = 109 → ¬ k = 110 → z k = s k) → vB V z → pc (lp_X4_isRow_8 F x1 N x2 x3 z) (fun r z => r = b01 (aRT V row x1 n) ∧ ∀ k, ¬ k = 109 → ¬ k = 110 → z k = s k) := by
    intro N
    induction N with
    | zero => intro i x2 x3 z h1 h2 h3 e b; exact pc_none rfl
    | succ N ih =>
      intro i x2 x3 z h1 h2 h3 e b
      rw [lp_X4_isRow_8_s, e 101 (by decide) (by decide)]
      simp only [j_X4_isRow_54_e, j_X4_isRow_53_e, j_X4_isRow_46_e]
      refine pc_ite (fun c => ?_) (fun c => ?_)
      · have d := ti_le c
        rw [show i = n by omega] at h3
        exact pc_bz (fun _ => pc_ret ⟨h3, e⟩)
      have d := ti_nle c
      have hi : i < n := by omega
      refine pc_bnd (qm_ownerIn hx h1 (by omega) (vM_109 h e) b) (fun r y q => ?_)
      have e' : ∀ k, ¬ k = 109 → ¬ k = 110 → y k = s k := fun k a1 a2 => by rw [q.2 k a2]; exact e k a1 a2
      have b' : vB V y := fun m hm v hv => by rw [q.2 109 (by decide)]; exact b m hm v hv
      have h0 := aHold_0 h.1 hx (v := i) (by omega)
      rw [q.1, tn_int h1, e' 121 (by decide) (by decide), hr i hi]
      have no : aRT V row x1 (i + 1) = false → pc (lp_X4_isRow_8 F x1 N 0 (x3 + 1) y) (fun r z => r = b01 (aRT V row x1 n) ∧ ∀ k, ¬ k = 109 → ¬ k = 110 → z k = s k) := fun w => ih (i + 1) _ _ _ (ti_nx h1 (by omega)) (by omega) (by rw [w]; rfl) e' b'
      cases hb : aRT V row x1 i with
      | false =>
        rw [hb] at h3
        refine pc_ite (fun _ => no (aRT_dn hb 1)) (fun c0 => absurd (h3.trans rfl) c0)
      | true =>
        rw [hb] at h3
        refine pc_ite (fun c0 => absurd (h3.symm.trans c0) (by decide)) (fun _ => pc_chk (fun _ => ?_))
        have yes : row i = aIn (aHold V x1 i) → pc (lp_X4_isRow_8 F x1 N 1 (x3 + 1) y) (fun r z => r = b01 (aRT V row x1 n) ∧ ∀ k, ¬ k = 109 → ¬ k = 110 → z k = s k) := fun w => ih (i + 1) _ _ _ (ti_nx h1 (by omega)) (by omega) (by rw [aRT_t w, hb]; rfl) e' b'
        refine pc_ite (fun c1 => ?_) (fun c1 => ?_)
        · have ea : aIn (aHold V x1 i) = aHold V x1 i := if_neg (h0.mp c1)
          exact pc_ite (fun w => yes (w.trans ea.symm)) (fun w => no (aRT_f (fun w' => w (w'.trans ea))))
        · have ea : aIn (aHold V x1 i) = 99 := if_pos (Classical.byContradiction (fun n => c1 (h0.mpr n)))
          exact pc_ite (fun w => yes (w.trans ea.symm)) (fun w => no (aRT_f (fun w' => w (w'.trans ea))))
  rw [f_X4_isRow_e]
  exact pc_bnd (mx_layBrings h) (fun _ z q => key F 0 1 0 z rfl (by omega) rfl (fun k a _ => q.1 k a) q.2)
/-- answers by the row too -/
theorem eqr {σ : Mem} {o1 : Option (Int32 × Mem)} {o2 : Mem → Option (Int32 × Mem)} {A : (Nat → Int32) → Int32 → (Nat → Int32) → Int32} (h : ∃ r1 s1 r2 s2, o1 = some (r1, s1) ∧ o2 s1 = some (r2, s2) ∧ wR 188 s2) (hw : wR 188 σ) (p0 : pc o1 (fun _ s => ∀ k, 101 ≤ k → s k = σ k)) (p1 : ∀ V, vH 1 V σ → (0 ≤ (σ 0 7).toInt ∧ (σ 0 7).toInt ≤ 12) → pc o1 (fun r _ => r = A V (σ 0 7) (σ 85))) (p2 : ∀ V s n row, vM V s → (0 ≤ n.toInt ∧ n.toInt ≤ 12) → s 101 34 = n → (∀ i, i < n.toNatClampNeg → s 121 i = row i) → pc (o2 s) (fun r _ => r = A V n row)) : ∃ r1 s1 r2 s2, o1 = some (r1, s1) ∧ o2 s1 = some (r2, s2) ∧ wR 188 s2 ∧ r1 = r2 := by
  obtain ⟨r1, s1, r2, s2, e1, e2, w⟩ := h
  obtain ⟨hX, hM, hV, hI, hS, hL, hW⟩ := hw
  have a := p1 _ hV (wx_X3_7 hX) r1 s1 e1
  have hs := p0 r1 s1 e1
  have b := p2 (wvM σ) s1 (σ 0 7) (σ 85) ⟨hV.1, eMV hs⟩ (wx_X3_7 hX) (by rw [hs 101 (by decide)]; exact hW.1.symm) (fun i hi => by rw [hs 121 (by decide)]; exact (hW.2 i (by rw [← hW.1]; exact hi)).symm) r2 s2 e2
  exact ⟨r1, s1, r2, s2, e1, e2, w, a.trans b.symm⟩
/-! which law -/
def cLR (n : Int32) : Int32 := if n ≤ 8 then 0 else -3
def aWL (V row : Nat → Int32) (n : Nat) : Nat → Int32
  | 0 => 0
  | k + 1 => aWL V row n k ||| (if aRT (aLaw V (Int32.ofNat k)) row 0 n = true then (1 : Int32) <<< (Int32.ofNat k &&& 31) else 0)
theorem aWL_t {V row : Nat → Int32} {n k : Nat} (e : aRT (aLaw V (Int32.ofNat k)) row 0 n = true) : aWL V row n (k + 1) = aWL V row n k ||| (1 : Int32) <<< (Int32.ofNat k &&& 31) := by
  show aWL V row n k ||| (if aRT (aLaw V (Int32.ofNat k)) row 0 n = true then (1 : Int32) <<< (Int32.ofNat k &&& 31) else 0) = _
  rw [if_pos e]
theorem aWL_f {V row : Nat → Int32} {n k : Nat} (e : aRT (aLaw V (Int32.ofNat k)) row 0 n = false) : aWL V row n (k + 1) = aWL V row n k := by
  show aWL V row n k ||| (if aRT (aLaw V (Int32.ofNat k)) row 0 n = true then (1 : Int32) <<< (Int32.ofNat k &&& 31) else 0) = _
  rw [if_neg (by rw [e]; decide), Int32.or_zero]
def anWhichLaw (V : Nat → Int32) (n : Int32) (row : Nat → Int32) : Int32 := cF (cLR n) (aWL V row n.toNatClampNeg 3)
theorem ax_longRow {F : Nat} {σ : Mem} : f_X3_longRow F σ = some (cLR (σ 0 7), σ) := by
  rw [f_X3_longRow_e]
  unfold cLR
  by_cases c : σ 0 7 ≤ 8
  · rw [if_pos c, if_pos c]
  · rw [if_neg c, if_neg c]
theorem qxr_whichLaw {F : Nat} (hF : 1000 ≤ F) {σ : Mem} {V : Nat → Int32} (h : vH 1 V σ) (hn : 0 ≤ (σ 0 7).toInt ∧ (σ 0 7).toInt ≤ 12) : pc (f_X3_whichLaw F σ) (fun r _ => r = anWhichLaw V (σ 0 7) (σ 85)) := by
  rw [f_X3_whichLaw_e]
  refine pc_be ax_longRow ?_
  unfold anWhichLaw
  refine cq_end (fun e => pc_bnd (qx_take hF h) (fun _ s q => ?_))
  have c8 : σ 0 7 ≤ 8 := by
    by_cases c : σ 0 7 ≤ 8
    · exact c
    · rw [show cLR (σ 0 7) = -3 from if_neg c] at e; exact absurd e (by decide)
  have d8 := ti_le c8
  rw [tz_8] at d8
  have n1 := ti_nat (σ 0 7)
  have key : ∀ (N k : Nat) (x2 x3 y : Int32) (s : Mem), x3.toInt = (k : Int) → k ≤ 3 → x2 = aWL V (σ 85) (σ 0 7).toNatClampNeg k → vH 24 (aLaw V y) s → o24 σ s → pc (lp_X3_whichLaw_30 F N x2 x3 s) (fun r _ => r = aWL V (σ 85) (σ 0 7).toNatClampNeg 3) := by
    intro N
    induction N with
    | zero => intro k x2 x3 y s h1 h2 h3 a o; exact pc_none rfl
    | succ N ih =>
      intro k x2 x3 y s h1 h2 h3 a o
      rw [lp_X3_whichLaw_30_s]
      simp only [j_X3_whichLaw_65_e]
      refine pc_ite (fun c => ?_) (fun c => ?_)
      · have d := ti_le c
        rw [tz_3] at d
        exact pc_ret (by rw [h3, show k = 3 by omega])
      have d := ti_nle c
      rw [tz_3] at d
      have e3 := io_eq h1 (by omega)
      refine pc_bnd (qx_rule24 hF a (by omega)) (fun _ s2 q => ?_)
      rw [aLaw_tw] at q
      refine pc_bnd (qx_reckH q.1) (fun _ s4 q4 => ?_)
      have o4 : o24 σ s4 := o24_tr o (o24_tr (fun j hj => q.2 j (by omega)) (o24_rk q4.2))
      refine pc_bnd (qx_rowTells q4.1 (n := (σ 0 7).toNatClampNeg) (by rw [o4 0 (by decide)]; omega) (by omega)) (fun r s6 q6 => ?_)
      rw [q6.2, q6.1, o4 85 (by decide)]
      rw [e3] at q4
      cases hb : aRT (aLaw V x3) (σ 85) 0 (σ 0 7).toNatClampNeg with
      | false =>
        refine pc_ite (fun _ => ih (k + 1) _ _ _ _ (ti_nx h1 (by omega)) (by omega) ?_ q4.1.1 o4) (fun w => absurd rfl w)
        rw [aWL_f (by rw [← e3]; exact hb)]; exact h3
      | true =>
        refine pc_ite (fun w => absurd w (by decide)) (fun _ => pc_lt (fun z7 hz => ih (k + 1) _ _ _ _ (ti_nx h1 (by omega)) (by omega) ?_ q4.1.1 o4))
        rw [aWL_t (by rw [← e3]; exact hb), hz, h3, e3]
  exact key F 0 0 0 (V 2) s rfl (by omega) rfl (by rw [aLaw_id]; exact q.1) q.2
theorem qmr_whichLaw {F : Nat} {n : Int32} {row : Nat → Int32} {s : Mem} {V : Nat → Int32} (h : vM V s) (hn : 0 ≤ n.toInt ∧ n.toInt ≤ 12) (h34 : s 101 34 = n) (hr : ∀ i, i < n.toNatClampNeg → s 121 i = row i) : pc (f_X4_whichLaw F s) (fun r _ => r = anWhichLaw V n row) := by
  rw [f_X4_whichLaw_e]
  refine pc_lt (fun s5 g5 => ?_)
  have h' : vM V s5 := vM_up h g5
  have e34 : s5 101 34 = n := by rw [g5, up2_i (by decide)]; exact h34
  have er : ∀ i, i < n.toNatClampNeg → s5 121 i = row i := fun i hi => by rw [g5, up2_k (by decide)]; exact hr i hi
  clear g5
  rw [e34]
  unfold anWhichLaw
  have n1 := ti_nat n
  refine pc_ite (fun c8 => ?_) (fun c8 => ?_)
  · have d8 := ti_le c8
    rw [tz_8] at d8
    rw [show cLR n = 0 from if_pos c8, cF_z]
    have key : ∀ (N k : Nat) (x1 x2 x3 y : Int32) (z : Mem), x3.toInt = (k : Int) → k ≤ 3 → x2 = aWL V row n.toNatClampNeg k → vM (aLaw V y) z → z 101 34 = n → z 121 = s5 121 → pc (lp_X4_whichLaw_30 F x1 N x2 x3 z) (fun r _ => r = aWL V row n.toNatClampNeg 3) := by
      intro N
      induction N with
      | zero => intro k x1 x2 x3 y z h1 h2 h3 a e r; exact pc_none rfl
      | succ N ih =>
        intro k x1 x2 x3 y z h1 h2 h3 a e r
        rw [lp_X4_whichLaw_30_s]
        simp only [j_X4_whichLaw_56_e]
        refine pc_ite (fun c => ?_) (fun c => ?_)
        · have d := ti_le c
          rw [tz_3] at d
          exact pc_lt (fun s1 _ => pc_ret (by rw [h3, show k = 3 by omega]))
        have d := ti_nle c
        rw [tz_3] at d
        have e3 := io_eq h1 (by omega)
        refine pc_lt (fun s2 g2 => ?_)
        have a2 : vM (aLaw V x3) s2 := by
          have w := vM_law (x := x3) a (by omega)
          rw [aLaw_tw] at w
          rw [g2]; exact w
        have e2 : s2 101 34 = n := by rw [g2, up2_i (by decide)]; exact e
        have r2 : s2 121 = s5 121 := by rw [g2, up2_k (by decide)]; exact r
        clear g2
        refine pc_bnd (qm_isRow (x1 := 0) (row := row) (by decide) a2 (n := n.toNatClampNeg) (by rw [e2]; omega) (by omega) (fun i hi => by rw [r2]; exact er i hi)) (fun r4 s4 q => ?_)
        have a4 : vM (aLaw V x3) s4 := vM_109 a2 q.2
        have e4 : s4 101 34 = n := by rw [q.2 101 (by decide) (by decide)]; exact e2
        have r5 : s4 121 = s5 121 := by rw [q.2 121 (by decide) (by decide)]; exact r2
        rw [q.1]
        cases hb : aRT (aLaw V x3) row 0 n.toNatClampNeg with
        | false =>
          refine pc_ite (fun _ => ih (k + 1) _ _ _ _ _ (ti_nx h1 (by omega)) (by omega) ?_ a4 e4 r5) (fun w => absurd rfl w)
          rw [aWL_f (by rw [← e3]; exact hb), Int32.or_zero]; exact h3
        | true =>
          refine pc_ite (fun w => absurd w (by decide)) (fun _ => ih (k + 1) _ _ _ _ _ (ti_nx h1 (by omega)) (by omega) ?_ a4 e4 r5)
          rw [aWL_t (by rw [← e3]; exact hb), h3, e3]
    exact key F 0 _ 0 0 (V 2) s5 rfl (by omega) rfl (by rw [aLaw_id]; exact h') e34 rfl
  · rw [show cLR n = -3 from if_neg c8]
    exact mq_ref (cF_n (by decide))
/-! the best law -/
def aBL (V : Nat → Int32) (x1 x2 : Int32) : Nat → Int32 × Int32
  | 0 => (0, -1)
  | k + 1 => if aWealth (aLaw V (Int32.ofNat k)) x1 x2 8 ≤ (aBL V x1 x2 k).2 then aBL V x1 x2 k else (Int32.ofNat k, aWealth (aLaw V (Int32.ofNat k)) x1 x2 8)
theorem aBL_s {V : Nat → Int32} {x1 x2 : Int32} {k : Nat} : aBL V x1 x2 (k + 1) = if aWealth (aLaw V (Int32.ofNat k)) x1 x2 8 ≤ (aBL V x1 x2 k).2 then aBL V x1 x2 k else (Int32.ofNat k, aWealth (aLaw V (Int32.ofNat k)) x1 x2 8) := rfl
def anBestLaw (V : Nat → Int32) (x1 x2 : Int32) : Int32 := cF (cF (cB (0 ≤ x1.toInt ∧ x1.toInt < (V 1).toInt)) (cN x2 0 999)) (aBL V x1 x2 3).1
theorem vG_law {h : Nat} {V : Nat → Int32} {x : Int32} {s : Mem} (g : vG h V s) : vG h (aLaw V x) s := fun m hm v hv => by
  rw [aLaw_n (by decide)] at hm
  rw [aGain_law]; exact g m hm v hv
theorem vB_law {V : Nat → Int32} {x : Int32} {s : Mem} (g : vB V s) : vB (aLaw V x) s := fun m hm v hv => by
  rw [aLaw_n (by decide)] at hm
  rw [aGain_law]; exact g m hm v hv
theorem qx_bestLaw {F : Nat} (hF : 1000 ≤ F) {x1 x2 : Int32} {σ : Mem} {V : Nat → Int32} (h : vH 1 V σ) : pc (f_X3_bestLaw F x1 x2 σ) (fun r _ => r = anBestLaw V x1 x2) := by
  rw [f_X3_bestLaw_e, f_X3_noLookerFar_e]
  refine pc_be (by rw [wt_bnd_eq (ax_noLooker (by rw [vH_2 h]; exact h.1.2.1.2)), wt_bnd_eq ax_outside, wt_bnd_eq ax_firstOf]) ?_
  rw [vH_2 h]
  unfold anBestLaw
  refine cq_end (fun e => pc_bnd (qx_take hF h) (fun _ s q => pc_bnd (qx_reckH q.1) (fun _ s2 q2 => ?_)))
  have h5 := h.1.2.1.2
  have key : ∀ (N k : Nat) (x4 x5 x6 y : Int32) (s : Mem), x6.toInt = (k : Int) → k ≤ 3 → (x4, x5) = aBL V x1 x2 k → vH 24 (aLaw V y) s → vG 24 V s → pc (lp_X3_bestLaw_44 F x1 x2 N x4 x5 x6 s) (fun r _ => r = (aBL V x1 x2 3).1) := by
    intro N
    induction N with
    | zero => intro k x4 x5 x6 y s h1 h2 h3 a g; exact pc_none rfl
    | succ N ih =>
      intro k x4 x5 x6 y s h1 h2 h3 a g
      have e4 : x4 = (aBL V x1 x2 k).1 := congrArg Prod.fst h3
      have e5 : x5 = (aBL V x1 x2 k).2 := congrArg Prod.snd h3
      rw [lp_X3_bestLaw_44_s]
      simp only [j_X3_bestLaw_86_e]
      refine pc_ite (fun c => ?_) (fun c => ?_)
      · have d := ti_le c
        rw [tz_3] at d
        exact pc_ret (by rw [e4, show k = 3 by omega])
      have d := ti_nle c
      rw [tz_3] at d
      have e6 := io_eq h1 (by omega)
      refine pc_bnd (qx_rule24 hF a (by omega)) (fun _ s2 q => ?_)
      rw [aLaw_tw] at q
      have g2 : vG 24 V s2 := vG_e h5 g (fun j _ _ => q.2 j (by omega))
      refine pc_bnd (qx_wealth ⟨q.1, vG_law g2⟩) (fun r s4 q4 => ?_)
      rw [q4.2, q4.1, e5, e6]
      rw [e6] at q
      refine pc_ite (fun w => ih (k + 1) _ _ _ _ _ (by rw [← e6]; exact ti_nx h1 (by omega)) (by omega) ?_ q.1 g2) (fun w => ih (k + 1) _ _ _ _ _ (by rw [← e6]; exact ti_nx h1 (by omega)) (by omega) ?_ q.1 g2)
      · rw [aBL_s, if_pos w, ← e5]; exact h3
      · rw [aBL_s, if_neg w]
  exact key F 0 0 (-1) 0 (V 2) s2 rfl (by omega) rfl (by rw [aLaw_id]; exact q2.1.1) q2.1.2
theorem qm_bestLaw {F : Nat} {x1 x2 : Int32} {s : Mem} {V : Nat → Int32} (h : vM V s) : pc (f_X4_bestLaw F x1 x2 s) (fun r _ => r = anBestLaw V x1 x2) := by
  rw [f_X4_bestLaw_e]
  refine pc_lt (fun s6 h6 => ?_)
  have h' : vM V s6 := vM_up h h6
  clear h6
  simp only [j_X4_bestLaw_25_e]
  refine pc_be (mx_isLooker (by rw [vM_L h']; exact h.1.2.1.1)) ?_
  rw [vM_L h']
  unfold anBestLaw
  by_cases c : 0 ≤ x1.toInt ∧ x1.toInt < (V 1).toInt
  · rw [if_pos c, if_neg (by decide), cB_t c, cF_z]
    refine pc_be mx_wrongN ?_
    refine mq_end sg_cN (fun e => pc_bnd (qm_lay h') (fun _ z q => ?_))
    have d2 := cN_0 e
    rw [tz_0, tz_999'] at d2
    have hx : 0 ≤ x2.toInt ∧ x2.toInt ≤ 9999 := ⟨d2.1, by omega⟩
    have key : ∀ (N k : Nat) (x0 x5 x6 x7 y : Int32) (s : Mem), x7.toInt = (k : Int) → k ≤ 3 → (x5, x6) = aBL V x1 x2 k → mRdy (aLaw V y) s → pc (lp_X4_bestLaw_55 F x1 x2 x0 N x5 x6 x7 s) (fun r _ => r = (aBL V x1 x2 3).1) := by
      intro N
      induction N with
      | zero => intro k x0 x5 x6 x7 y s h1 h2 h3 a; exact pc_none rfl
      | succ N ih =>
        intro k x0 x5 x6 x7 y s h1 h2 h3 a
        have e5 : x5 = (aBL V x1 x2 k).1 := congrArg Prod.fst h3
        have e6 : x6 = (aBL V x1 x2 k).2 := congrArg Prod.snd h3
        rw [lp_X4_bestLaw_55_s]
        simp only [j_X4_bestLaw_89_e, j_X4_bestLaw_105_e]
        refine pc_ite (fun c => ?_) (fun c => ?_)
        · have d := ti_le c
          rw [tz_3] at d
          exact pc_lt (fun s1 _ => pc_ret (by rw [e5, show k = 3 by omega]))
        have d := ti_nle c
        rw [tz_3] at d
        have e7 := io_eq h1 (by omega)
        refine pc_lt (fun s2 g2 => ?_)
        have a2 : mRdy (aLaw V x7) s2 := by
          have w := vM_law (x := x7) a.1 (by omega)
          rw [aLaw_tw] at w
          have b := vB_law (x := x7) a.2
          rw [aLaw_tw] at b
          rw [g2]
          exact ⟨w, fun m hm v hv => by rw [up2_k (by decide)]; exact b m hm v hv⟩
        clear g2
        refine pc_bnd (qm_worthIn hx a2) (fun r3 s4 q => ?_)
        rw [q.1, e6, e7]
        have q2 := q.2
        rw [e7] at q2
        refine pc_ite (fun w => ?_) (fun w => ?_)
        · rw [if_pos w]
          exact ih (k + 1) _ _ _ _ _ _ (by rw [← e7]; exact ti_nx h1 (by omega)) (by omega) (by rw [aBL_s, if_pos w, ← e6]; exact h3) q2
        · rw [if_neg w]
          exact ih (k + 1) _ _ _ _ _ _ (by rw [← e7]; exact ti_nx h1 (by omega)) (by omega) (by rw [aBL_s, if_neg w]) q2
    exact key F 0 _ 0 (-1) 0 (V 2) z rfl (by omega) rfl (by rw [aLaw_id]; exact q)
  · rw [if_neg c, if_pos rfl, cB_f c, cF_n (a := -1) (by decide), if_neg (by decide)]
    exact mq_ref (cF_n (by decide))
end
section
/-! worth within bounds; who leads -/
theorem aWealth_b {V : Nat → Int32} (hv : wvV V) {who n : Int32} : ∀ v, v ≤ 8 → 0 ≤ (aWealth V who n v).toInt ∧ (aWealth V who n v).toInt ≤ 9 * (v : Int) := fun v => by
  induction v with
  | zero => intro _; exact ⟨Int.le_refl 0, Int.le_refl 0⟩
  | succ v ih =>
    intro h
    have b := ih (by omega)
    have w := hv.2.2.2.1 (4 + v) (by omega) (by omega)
    show 0 ≤ (aWealth V who n v + (if aHold V n v = who then V (4 + v) else 0)).toInt ∧ (aWealth V who n v + (if aHold V n v = who then V (4 + v) else 0)).toInt ≤ 9 * ((v + 1 : Nat) : Int)
    by_cases c : aHold V n v = who
    · rw [if_pos c, ti_add (by omega) (by omega)]; omega
    · rw [if_neg c, Int32.add_zero]; omega
theorem aWealth_t {V : Nat → Int32} (hv : wvV V) {who n : Int32} {v : Nat} (h8 : v < 8) (c : aHold V n v = who) : (aWealth V who n (v + 1)).toInt = (aWealth V who n v).toInt + (V (4 + v)).toInt := by
  have b := aWealth_b hv (who := who) (n := n) v (by omega)
  have w := hv.2.2.2.1 (4 + v) (by omega) (by omega)
  show (aWealth V who n v + (if aHold V n v = who then V (4 + v) else 0)).toInt = _
  rw [if_pos c, ti_add (by omega) (by omega)]
theorem aWealth_f {V : Nat → Int32} {who n : Int32} {v : Nat} (c : ¬ aHold V n v = who) : aWealth V who n (v + 1) = aWealth V who n v := by
  show aWealth V who n v + (if aHold V n v = who then V (4 + v) else 0) = _
  rw [if_neg c, Int32.add_zero]
theorem qx_lead {F : Nat} {x1 x2 x3 : Int32} (hne : ¬ x1 = x2) {σ : Mem} {V : Nat → Int32} (a : cRdy V σ) : pc (f_X0_lead F 1 x1 x2 x3 σ) (fun r s => r.toInt = (aWealth V x1 x3 8).toInt - (aWealth V x2 x3 8).toInt ∧ s = σ) := by
  have key : ∀ (N v : Nat) (x4 x5 : Int32), x5.toInt = (v : Int) → v ≤ 8 → x4.toInt = (aWealth V x1 x3 v).toInt - (aWealth V x2 x3 v).toInt → pc (lp_X0_lead_6 F 1 x1 x2 x3 N x4 x5 σ) (fun r s => r.toInt = (aWealth V x1 x3 8).toInt - (aWealth V x2 x3 8).toInt ∧ s = σ) := by
    intro N
    induction N with
    | zero => intro v x4 x5 h1 h2 h3; exact pc_none rfl
    | succ N ih =>
      intro v x4 x5 h1 h2 h3
      rw [lp_X0_lead_6_s]
      simp only [j_X0_lead_61_e]
      refine pc_ite (fun c => ?_) (fun c => ?_)
      · have d := ti_le c
        rw [tz_8] at d
        have e8 : v = 8 := by omega
        subst e8
        exact pc_ret ⟨h3, rfl⟩
      have d := ti_nle c
      rw [tz_8] at d
      have b1 := aWealth_b a.1.1 (who := x1) (n := x3) v (by omega)
      have b2 := aWealth_b a.1.1 (who := x2) (n := x3) v (by omega)
      have w := a.1.1.2.2.2.1 (4 + v) (by omega) (by omega)
      refine pc_bnd (qx_hold a h1 (by omega)) (fun r s q => ?_)
      rw [q.2, q.1]
      refine pc_ite (fun e => pc_chk (fun _ => pc_lt (fun z6 hz => ih (v + 1) _ _ (ti_nx h1 (by omega)) (by omega) ?_))) (fun e => pc_ite (fun e2 => pc_chk (fun _ => pc_lt (fun z4 hz => ih (v + 1) _ _ (ti_nx h1 (by omega)) (by omega) ?_))) (fun e2 => ih (v + 1) _ _ (ti_nx h1 (by omega)) (by omega) ?_))
      · rw [tn_int h1, vH_w a.1 (by omega)] at hz
        rw [hz, ti_add (by omega) (by omega), aWealth_t a.1.1 (by omega) e, aWealth_f (fun q => hne (e.symm.trans q))]
        omega
      · rw [tn_int h1, vH_w a.1 (by omega)] at hz
        rw [hz, ti_sub (by omega) (by omega), aWealth_t a.1.1 (by omega) e2, aWealth_f e]
        omega
      · rw [aWealth_f e, aWealth_f e2]; exact h3
  rw [f_X0_lead_e]
  exact key F 0 0 0 rfl (by omega) rfl
/-! staredOut -/
def anStaredOut (V : Nat → Int32) (x1 x2 x3 : Int32) : Int32 := cF (cF (cB ((0 ≤ x1.toInt ∧ x1.toInt < (V 1).toInt) ∧ (0 ≤ x2.toInt ∧ x2.toInt < (V 1).toInt) ∧ ¬ x1 = x2)) (cN x3 0 999)) (aBits V x1 0 8 &&& aBits V x2 x3 8)
theorem vX_H {V : Nat → Int32} {σ : Mem} (a : vH 1 V σ) : vX V σ := ⟨a.1, fun p hp => vH_lo a hp, fun l t hl ht => vH_c a hl ht⟩
theorem qx_staredOut {F : Nat} {x1 x2 x3 : Int32} {σ : Mem} {V : Nat → Int32} (h : vH 1 V σ) : pc (f_X3_staredOut F x1 x2 x3 σ) (fun r _ => r = anStaredOut V x1 x2 x3) := by
  rw [f_X3_staredOut_e, f_X3_noPairFar_e]
  refine pc_be (by rw [wt_bnd_eq (qx_noPair (vX_H h)), wt_bnd_eq ax_outside, wt_bnd_eq ax_firstOf]) ?_
  unfold anStaredOut
  refine cq_end (fun e => pc_bnd (qx_reckon h) (fun _ s q => pc_bnd (qx_holdings q) (fun r z w => ?_)))
  rw [w.2]
  exact pc_bnd (qx_holdings q) (fun r' y u => pc_ret (by rw [w.1, u.1]))
theorem qm_staredOut {F : Nat} {x1 x2 x3 : Int32} {s : Mem} {V : Nat → Int32} (h : vM V s) : pc (f_X4_staredOut F x1 x2 x3 s) (fun r _ => r = anStaredOut V x1 x2 x3) := by
  rw [f_X4_staredOut_e]
  refine pc_lt (fun s6 h6 => ?_)
  have h' : vM V s6 := vM_up h h6
  clear h6
  simp only [j_X4_staredOut_26_e]
  refine pc_be (qm_areTwo h') ?_
  unfold anStaredOut
  by_cases c : (0 ≤ x1.toInt ∧ x1.toInt < (V 1).toInt) ∧ (0 ≤ x2.toInt ∧ x2.toInt < (V 1).toInt) ∧ ¬ x1 = x2
  · rw [if_pos c, if_neg (by decide), cB_t c, cF_z]
    refine pc_be mx_wrongN (mq_end sg_cN (fun e => pc_bnd (qm_lay h') (fun _ z q => pc_bnd (qm_viewsIn (x2 := 0) (by decide) q) (fun r y w => ?_))))
    have d2 := cN_0 e
    rw [tz_0, tz_999'] at d2
    exact pc_bnd (qm_viewsIn ⟨d2.1, by omega⟩ w.2) (fun r' y u => pc_ret (by rw [w.1, u.1]))
  · rw [if_neg c, if_pos rfl, cB_f c, cF_n (a := -1) (by decide)]
    exact mq_end (Or.inr (by decide)) (fun q => absurd q (by decide))
/-! ahead -/
def anAhead1 (V : Nat → Int32) (x1 x2 : Int32) : Nat → Int32 → Int32
  | 0, _ => -9
  | k + 1, x => if aWealth V x1 x 8 ≤ aWealth V x2 x 8 then anAhead1 V x1 x2 k (x + 1) else x
def anAhead (V : Nat → Int32) (x1 x2 : Int32) : Int32 := cF (cB ((0 ≤ x1.toInt ∧ x1.toInt < (V 1).toInt) ∧ (0 ≤ x2.toInt ∧ x2.toInt < (V 1).toInt) ∧ ¬ x1 = x2)) (anAhead1 V x1 x2 1000 0)
theorem qx_ahead_27 {F : Nat} {x1 x2 : Int32} (hne : ¬ x1 = x2) {σ : Mem} {V : Nat → Int32} (a : cRdy V σ) : ∀ (N k i : Nat) (x4 : Int32), x4.toInt = (i : Int) → i + k = 1000 → pc (lp_X3_ahead_27 F x1 x2 N x4 σ) (fun r _ => r = anAhead1 V x1 x2 k x4) := by
  intro N
  induction N with
  | zero => intro k i x4 h1 h2; exact pc_none rfl
  | succ N ih =>
    intro k i x4 h1 h2
    rw [lp_X3_ahead_27_s]
    refine pc_ite (fun c => ?_) (fun c => pc_bnd (qx_lead hne a) (fun r s q => ?_))
    · have d := ti_lt c
      rw [tz_999'] at d
      rw [show k = 0 by omega]
      exact pc_ret rfl
    · have d := ti_nlt c
      rw [tz_999'] at d
      obtain ⟨k', rfl⟩ : ∃ k', k = k' + 1 := ⟨k - 1, by omega⟩
      rw [q.2]
      have q1 := q.1
      refine pc_ite (fun e => pc_mono (ih k' (i + 1) _ (ti_nx h1 (by omega)) (by omega)) (fun r s w => ?_)) (fun e => pc_ret ?_)
      · have e' := ti_le e
        rw [tz_0] at e'
        show r = if aWealth V x1 x4 8 ≤ aWealth V x2 x4 8 then _ else x4
        rw [if_pos (Int32.le_iff_toInt_le.mpr (by omega))]; exact w
      · have e' := ti_nle e
        rw [tz_0] at e'
        show x4 = if aWealth V x1 x4 8 ≤ aWealth V x2 x4 8 then _ else x4
        rw [if_neg (fun w => by have := ti_le w; omega)]
theorem qx_ahead {F : Nat} {x1 x2 : Int32} {σ : Mem} {V : Nat → Int32} (h : vH 1 V σ) : pc (f_X3_ahead F x1 x2 σ) (fun r _ => r = anAhead V x1 x2) := by
  rw [f_X3_ahead_e]
  refine pc_be (qx_noPair (vX_H h)) ?_
  unfold anAhead
  exact cq_end (fun e => pc_bnd (qx_reckon h) (fun _ s q => qx_ahead_27 (cB_0 e).2.2 q F 1000 0 0 rfl rfl))
theorem qm_ahead_26 {F : Nat} {x1 x2 : Int32} {V : Nat → Int32} : ∀ (N k i : Nat) (x4 : Int32) (s : Mem), mRdy V s → x4.toInt = (i : Int) → i + k = 1000 → pc (lp_X4_ahead_26 F x1 x2 N x4 s) (fun r _ => r = anAhead1 V x1 x2 k x4) := by
  intro N
  induction N with
  | zero => intro k i x4 s a h1 h2; exact pc_none rfl
  | succ N ih =>
    intro k i x4 s a h1 h2
    rw [lp_X4_ahead_26_s]
    refine pc_ite (fun c => ?_) (fun c => ?_)
    · have d := ti_lt c
      rw [tz_999'] at d
      rw [show k = 0 by omega]
      exact pc_ret rfl
    · have d := ti_nlt c
      rw [tz_999'] at d
      obtain ⟨k', rfl⟩ : ∃ k', k = k' + 1 := ⟨k - 1, by omega⟩
      refine pc_bnd (qm_worthIn ⟨by omega, by omega⟩ a) (fun r1 s2 q => pc_bnd (qm_worthIn ⟨by omega, by omega⟩ q.2) (fun r3 s4 q3 => ?_))
      rw [q.1, q3.1]
      refine pc_ite (fun e => pc_mono (ih k' (i + 1) _ _ q3.2 (ti_nx h1 (by omega)) (by omega)) (fun r s w => ?_)) (fun e => pc_ret ?_)
      · show r = if aWealth V x1 x4 8 ≤ aWealth V x2 x4 8 then _ else x4
        rw [if_pos e]; exact w
      · show x4 = if aWealth V x1 x4 8 ≤ aWealth V x2 x4 8 then _ else x4
        rw [if_neg e]
theorem qm_ahead {F : Nat} {x1 x2 : Int32} {s : Mem} {V : Nat → Int32} (h : vM V s) : pc (f_X4_ahead F x1 x2 s) (fun r _ => r = anAhead V x1 x2) := by
  rw [f_X4_ahead_e]
  refine pc_lt (fun s6 h6 => ?_)
  have h' : vM V s6 := vM_up h h6
  clear h6
  refine pc_be (qm_areTwo h') ?_
  unfold anAhead
  by_cases c : (0 ≤ x1.toInt ∧ x1.toInt < (V 1).toInt) ∧ (0 ≤ x2.toInt ∧ x2.toInt < (V 1).toInt) ∧ ¬ x1 = x2
  · rw [if_pos c, if_neg (by decide), cB_t c, cF_z]
    exact pc_bnd (qm_lay h') (fun _ z q => qm_ahead_26 F 1000 0 0 z q rfl rfl)
  · rw [if_neg c, if_pos rfl, cB_f c]
    exact mq_ref (cF_n (by decide))
/-! gap -/
def aTwoTop (V : Nat → Int32) (n : Int32) (v : Nat) : Nat → Int32 × Int32
  | 0 => (0, 0)
  | l + 1 => if aBehind V n l v ≤ (aTwoTop V n v l).1 then (if aBehind V n l v ≤ (aTwoTop V n v l).2 then aTwoTop V n v l else ((aTwoTop V n v l).1, aBehind V n l v)) else (aBehind V n l v, (aTwoTop V n v l).1)
theorem aTwoTop_s {V : Nat → Int32} {n : Int32} {v l : Nat} : aTwoTop V n v (l + 1) = if aBehind V n l v ≤ (aTwoTop V n v l).1 then (if aBehind V n l v ≤ (aTwoTop V n v l).2 then aTwoTop V n v l else ((aTwoTop V n v l).1, aBehind V n l v)) else (aBehind V n l v, (aTwoTop V n v l).1) := rfl
def anGap (V : Nat → Int32) (x1 x2 : Int32) : Int32 := cF (cF (cB (0 ≤ x1.toInt ∧ x1.toInt ≤ 7)) (cN x2 0 999)) ((aTwoTop V x2 x1.toNatClampNeg (V 1).toNatClampNeg).1 - (aTwoTop V x2 x1.toNatClampNeg (V 1).toNatClampNeg).2)
theorem qx_gap_42 {F : Nat} {x1 x2 : Int32} {v : Nat} {σ : Mem} {V : Nat → Int32} (a : cRdy V σ) (hv : x1.toInt = (v : Int)) (hv8 : v < 8) : ∀ (N l : Nat) (x4 x5 x6 : Int32), x6.toInt = (l : Int) → (l : Int) ≤ (V 1).toInt → (x4, x5) = aTwoTop V x2 v l → pc (lp_X3_gap_42 F x1 x2 N x4 x5 x6 σ) (fun r _ => r = (aTwoTop V x2 v (V 1).toNatClampNeg).1 - (aTwoTop V x2 v (V 1).toNatClampNeg).2) := by
  have h5 := a.1.1.2.1.2
  have n1 := ti_nat (V 1)
  intro N
  induction N with
  | zero => intro l x4 x5 x6 h1 h2 h3; exact pc_none rfl
  | succ N ih =>
    intro l x4 x5 x6 h1 h2 h3
    have e4 : x4 = (aTwoTop V x2 v l).1 := congrArg Prod.fst h3
    have e5 : x5 = (aTwoTop V x2 v l).2 := congrArg Prod.snd h3
    rw [lp_X3_gap_42_s, vH_2 a.1]
    simp only [j_X3_gap_96_e]
    refine pc_ite (fun c => ?_) (fun c => pc_bnd (qx_behind a.1 a.2 h1 (by have d := ti_nle c; omega) hv hv8) (fun r s q => ?_))
    · have d := ti_le c
      exact pc_ret (by rw [e4, e5, show (V 1).toNatClampNeg = l by omega])
    · have d := ti_nle c
      rw [q.2, q.1]
      refine pc_ite (fun c1 => pc_ite (fun c2 => ih (l + 1) _ _ _ (ti_nx h1 (by omega)) (by omega) ?_) (fun c2 => ih (l + 1) _ _ _ (ti_nx h1 (by omega)) (by omega) ?_)) (fun c1 => ih (l + 1) _ _ _ (ti_nx h1 (by omega)) (by omega) ?_)
      · rw [e4] at c1
        rw [e5] at c2
        rw [aTwoTop_s, if_pos c1, if_pos c2]; exact h3
      · rw [e4] at c1
        rw [e5] at c2
        rw [aTwoTop_s, if_pos c1, if_neg c2, e4]
      · rw [e4] at c1
        rw [aTwoTop_s, if_neg c1, e4]
theorem qx_gap {F : Nat} {x1 x2 : Int32} {σ : Mem} {V : Nat → Int32} (h : vH 1 V σ) : pc (f_X3_gap F x1 x2 σ) (fun r _ => r = anGap V x1 x2) := by
  rw [f_X3_gap_e]
  refine pc_be ax_noView (pc_be ax_outside (pc_be ax_firstOf ?_))
  unfold anGap
  refine cq_end (fun e => pc_bnd (qx_reckon h) (fun _ s q => ?_))
  have d1 := cB_0 (cF_0 e).1
  have n1 := ti_nat x1
  exact qx_gap_42 q (by omega) (by omega) F 0 0 0 0 rfl h.1.2.1.1 rfl
theorem qm_countIn {F : Nat} {x1 x2 x3 : Int32} {l v : Nat} {s : Mem} {V : Nat → Int32} (a : mRdy V s) (hl : x1.toInt = (l : Int)) (hl5 : (l : Int) < (V 1).toInt) (hv : x2.toInt = (v : Int)) (hv8 : v < 8) : pc (f_X4_countIn F x1 x2 x3 s) (fun r z => r = aBehind V x3 l v ∧ z = s) := by
  have h5 := a.1.1.2.1.2
  rw [f_X4_countIn_e]
  refine pc_chk (fun _ => pc_be mx_held (pc_ret ⟨?_, rfl⟩))
  rw [tn_8 hl hv (by omega) hv8, vM_107 a.1 (by omega), a.2 l hl5 v hv8, show 148 + (8 * l + v) = 148 + 8 * l + v by omega]
  rfl
theorem qm_gap_48 {F : Nat} {x1 x2 : Int32} {v : Nat} {s : Mem} {V : Nat → Int32} (a : mRdy V s) (hv : x1.toInt = (v : Int)) (hv8 : v < 8) : ∀ (N l : Nat) (x4 x5 x6 : Int32), x6.toInt = (l : Int) → (l : Int) ≤ (V 1).toInt → (x4, x5) = aTwoTop V x2 v l → pc (lp_X4_gap_48 F x1 x2 N x4 x5 x6 s) (fun r _ => r = (aTwoTop V x2 v (V 1).toNatClampNeg).1 - (aTwoTop V x2 v (V 1).toNatClampNeg).2) := by
  have h5 := a.1.1.2.1.2
  have n1 := ti_nat (V 1)
  intro N
  induction N with
  | zero => intro l x4 x5 x6 h1 h2 h3; exact pc_none rfl
  | succ N ih =>
    intro l x4 x5 x6 h1 h2 h3
    have e4 : x4 = (aTwoTop V x2 v l).1 := congrArg Prod.fst h3
    have e5 : x5 = (aTwoTop V x2 v l).2 := congrArg Prod.snd h3
    rw [lp_X4_gap_48_s, vM_L a.1]
    simp only [j_X4_gap_93_e, j_X4_gap_109_e]
    refine pc_ite (fun c => ?_) (fun c => pc_bnd (qm_countIn a h1 (by have d := ti_nle c; omega) hv hv8) (fun r z q => ?_))
    · have d := ti_le c
      exact pc_ret (by rw [e4, e5, show (V 1).toNatClampNeg = l by omega])
    · have d := ti_nle c
      rw [q.2, q.1]
      refine pc_ite (fun c1 => pc_ite (fun c2 => ?_) (fun c2 => ?_)) (fun c1 => ?_)
      · rw [if_pos c1]
        refine ih (l + 1) _ _ _ (ti_nx h1 (by omega)) (by omega) ?_
        rw [e4] at c1
        rw [e5] at c2
        rw [aTwoTop_s, if_pos c1, if_pos c2]; exact h3
      · rw [if_pos c1]
        refine ih (l + 1) _ _ _ (ti_nx h1 (by omega)) (by omega) ?_
        rw [e4] at c1
        rw [e5] at c2
        rw [aTwoTop_s, if_pos c1, if_neg c2, e4]
      · rw [if_neg c1]
        refine ih (l + 1) _ _ _ (ti_nx h1 (by omega)) (by omega) ?_
        rw [e4] at c1
        rw [aTwoTop_s, if_neg c1, e4]
theorem qm_gap {F : Nat} {x1 x2 : Int32} {s : Mem} {V : Nat → Int32} (h : vM V s) : pc (f_X4_gap F x1 x2 s) (fun r _ => r = anGap V x1 x2) := by
  rw [f_X4_gap_e]
  refine pc_lt (fun s6 h6 => ?_)
  have h' : vM V s6 := vM_up h h6
  clear h6
  simp only [j_X4_gap_24_e]
  refine pc_be mx_isView ?_
  unfold anGap
  by_cases c : 0 ≤ x1.toInt ∧ x1.toInt ≤ 7
  · rw [if_pos c, if_neg (by decide), cB_t c, cF_z]
    have n1 := ti_nat x1
    refine pc_be mx_wrongN (mq_end sg_cN (fun e => pc_bnd (qm_lay h') (fun _ z q => ?_)))
    exact qm_gap_48 q (by omega) (by omega) F 0 0 0 0 rfl h.1.2.1.1 rfl
  · rw [if_neg c, if_pos rfl, cB_f c, cF_n (a := -1) (by decide)]
    exact mq_end (Or.inr (by decide)) (fun q => absurd q (by decide))
end
section
/-! rosters changed for a question -/
theorem wvN_n {x : Int32} (h : ¬ x = 9) (h2 : ¬ x = -9) : wvN x = x := by unfold wvN; rw [if_neg h, if_neg h2]
theorem aStand_o {V : Nat → Int32} {l a b p : Nat} {x : Int32} (h : ¬ (28 + 24 * l + a ≤ p ∧ p ≤ 28 + 24 * l + b)) : aStand V l a b x p = V p := if_neg h
theorem aStand_i {V : Nat → Int32} {l a b p : Nat} {x : Int32} (h : 28 + 24 * l + a ≤ p ∧ p ≤ 28 + 24 * l + b) : aStand V l a b x p = wvN x := if_pos h
theorem aStand_tw {V : Nat → Int32} {l a b : Nat} {x y : Int32} : aStand (aStand V l a b x) l a b y = aStand V l a b y := funext (fun p => by
  by_cases c : 28 + 24 * l + a ≤ p ∧ p ≤ 28 + 24 * l + b
  · rw [aStand_i c, aStand_i c]
  · rw [aStand_o c, aStand_o c, aStand_o c])
theorem aStand_cg {A B : Nat → Int32} {l a b p : Nat} {x : Int32} (e : A p = B p) : aStand A l a b x p = aStand B l a b x p := by
  by_cases c : 28 + 24 * l + a ≤ p ∧ p ≤ 28 + 24 * l + b
  · rw [aStand_i c, aStand_i c]
  · rw [aStand_o c, aStand_o c]; exact e
/-- one hour put back -/
theorem aStand_bk {V : Nat → Int32} {l t : Nat} {x y : Int32} (hy : wvN y = V (28 + 24 * l + t)) : aStand (aStand V l t t x) l t t y = V := funext (fun p => by
  by_cases c : 28 + 24 * l + t ≤ p ∧ p ≤ 28 + 24 * l + t
  · rw [aStand_i c, hy, show p = 28 + 24 * l + t by omega]
  · rw [aStand_o c, aStand_o c])
theorem aStand_sf {V : Nat → Int32} {l t : Nat} {y : Int32} (hy : wvN y = V (28 + 24 * l + t)) : aStand V l t t y = V := funext (fun p => by
  by_cases c : 28 + 24 * l + t ≤ p ∧ p ≤ 28 + 24 * l + t
  · rw [aStand_i c, hy, show p = 28 + 24 * l + t by omega]
  · rw [aStand_o c])
theorem aStand_0 {V : Nat → Int32} {l a b p : Nat} {x : Int32} (h : p < 28) : aStand V l a b x p = V p := aStand_o (by omega)
theorem qx_post24 {F : Nat} (hF : 1000 ≤ F) {x1 x2 x3 x4 : Int32} {σ : Mem} {V : Nat → Int32} (a : vH 24 V σ) (hc : cPost (V 0).toInt (V 1).toInt x1 x2 x3 x4) : pc (f_X0_post F 24 x1 x2 x3 x4 σ) (fun _ s => vH 24 (aStand V x1.toNatClampNeg x2.toNatClampNeg x3.toNatClampNeg x4) s ∧ o24 σ s) := pc_mono (pc_and (ax_post (by rw [vH_0 a]; exact a.1.1.2) (by rw [vH_2 a]; exact a.1.2.1.2)) (pc_pf (fr_X0_post hF wt_h24))) (fun _ s q => ⟨⟨wvV_aPost a.1 hc, fun p hp hl => by rw [(q.1.1 (by rw [vH_0 a, vH_2 a]; exact hc)).2 p hp]; exact weq_aStand (lim := 188) a.2 p hp hl⟩, o24_fr q.2 (fun c w => by unfold wf_4 at w; omega)⟩)
theorem vM_up106 {V : Nat → Int32} {s : Mem} {l t : Nat} {x y : Int32} (h : vM V s) (hl : l < 5) (ht : t < 24) (hx : x.toInt = 9 ∨ (0 ≤ x.toInt ∧ x.toInt < (V 0).toInt)) (hy : wvN x = y) : vM (aStand V l t t x) (up2 s 106 (24 * l + t) y) := ⟨wvV_aStand h.1 ⟨hl, ht⟩ hx, fun p hp => by
  have hj := wtJI_106 (24 * l + t) (by omega)
  rw [wvM_at (q := 28 + (24 * l + t)) (by omega) hj.1.symm hj.2.symm hp]
  by_cases c : p = 28 + (24 * l + t)
  · subst c; rw [wv_us, aStand_i (by omega), hy]
  · rw [wv_un c, aStand_o (by omega)]; exact h.2 p hp⟩
/-! heir -/
def aZ (V : Nat → Int32) (l k : Nat) (p : Nat) : Int32 := if 148 + 8 * l ≤ p ∧ p < 148 + 8 * l + k then 0 else V p
theorem aZ_o {V : Nat → Int32} {l k p : Nat} (h : ¬ (148 + 8 * l ≤ p ∧ p < 148 + 8 * l + k)) : aZ V l k p = V p := if_neg h
theorem aZ_i {V : Nat → Int32} {l k p : Nat} (h : 148 + 8 * l ≤ p ∧ p < 148 + 8 * l + k) : aZ V l k p = 0 := if_pos h
theorem aZ_lo {V : Nat → Int32} {l k p : Nat} (h : p < 148) : aZ V l k p = V p := if_neg (by omega)
theorem aZ_0 {V : Nat → Int32} {l : Nat} : aZ V l 0 = V := funext (fun p => aZ_o (by omega))
theorem wvV_aZ {V : Nat → Int32} {l k : Nat} (h : wvV V) : wvV (aZ V l k) := by
  obtain ⟨h0, h1, h2, h3, h4, h5, h6⟩ := h
  have lv : ∀ p, live (aZ V l k) p → live V p := fun p c => live_1 (aZ_lo (by decide)) c
  refine ⟨by rw [aZ_lo (by decide)]; exact h0, by rw [aZ_lo (by decide)]; exact h1, by rw [aZ_lo (by decide)]; exact h2, fun p a b => by rw [aZ_lo (by omega)]; exact h3 p a b, fun p a b c => ?_, fun m hm => ?_, fun p a b c => ?_⟩
  · rw [aZ_lo b, aZ_lo (p := 0) (by decide)]; exact h4 p a b (lv p c)
  · rw [aZ_lo (p := 1) (by decide)] at hm
    have := h1.2
    rw [aZ_lo (p := 18 + 2 * m) (by omega), aZ_lo (p := 19 + 2 * m) (by omega)]
    exact h5 m hm
  · by_cases q : 148 + 8 * l ≤ p ∧ p < 148 + 8 * l + k
    · rw [aZ_i q]; exact ⟨Int.le_refl 0, by decide⟩
    · rw [aZ_o q]; exact h6 p a b (lv p c)
theorem aZ_s {V : Nat → Int32} {l k p : Nat} (h : ¬ p = 148 + 8 * l + k) : aZ V l (k + 1) p = aZ V l k p := by
  by_cases q : 148 + 8 * l ≤ p ∧ p < 148 + 8 * l + k
  · rw [aZ_i q, aZ_i (by omega)]
  · rw [aZ_o q, aZ_o (by omega)]
theorem vH_z {h : Nat} {V : Nat → Int32} {s : Mem} {l k : Nat} (a : vH h (aZ V l k) s) (hV : wvV V) (hl : l < 5) (hk : k < 8) : vH h (aZ V l (k + 1)) (up2 s (h + 11 + l) k 0) := ⟨wvV_aZ hV, fun p hp hv => by
  have hj := wvJI_11 l hl k hk
  rw [wvX_at (h := h) (q := 148 + 8 * l + k) (by omega) (by rw [← hj.1]; omega) hj.2 hp]
  by_cases c : p = 148 + 8 * l + k
  · subst c; rw [wv_us, aZ_i (by omega), wvE_o (Or.inr (by omega))]
  · rw [wv_un c, aZ_s c]
    exact a.2 p hp (live_1 (by rw [aZ_lo (by decide), aZ_lo (by decide)]) hv)⟩
theorem vM_z {V : Nat → Int32} {s : Mem} {l k : Nat} (a : vM (aZ V l k) s) (hV : wvV V) (hl : l < 5) (hk : k < 8) : vM (aZ V l (k + 1)) (up2 s 107 (8 * l + k) 0) := ⟨wvV_aZ hV, fun p hp => by
  have hj := wtJI_107 (8 * l + k) (by omega)
  rw [wvM_at (q := 148 + (8 * l + k)) (by omega) hj.1.symm hj.2.symm hp]
  by_cases c : p = 148 + (8 * l + k)
  · subst c; rw [wv_us, aZ_i (by omega)]
  · rw [wv_un c, aZ_s (by omega)]
    exact a.2 p hp⟩
def anHeir (V : Nat → Int32) (x1 x2 x3 : Int32) : Int32 := cF (cF (cF (cB (0 ≤ x1.toInt ∧ x1.toInt < (V 1).toInt)) (cB (0 ≤ x2.toInt ∧ x2.toInt ≤ 7))) (cN x3 0 999)) (aHold (aZ (aStand V x1.toNatClampNeg 0 23 9) x1.toNatClampNeg 8) x3 x2.toNatClampNeg)
theorem qx_heir {F : Nat} (hF : 1000 ≤ F) {x1 x2 x3 : Int32} {σ : Mem} {V : Nat → Int32} (h : vH 1 V σ) : pc (f_X3_heir F x1 x2 x3 σ) (fun r _ => r = anHeir V x1 x2 x3) := by
  have h5 := h.1.2.1.2
  rw [f_X3_heir_e]
  refine pc_be (ax_noLooker (by rw [vH_2 h]; exact h5)) (pc_be ax_noView (pc_be ax_firstOf (pc_be ax_outside (pc_be ax_firstOf ?_))))
  rw [vH_2 h]
  unfold anHeir
  refine cq_end (fun e => pc_bnd (qx_take hF h) (fun _ s q => ?_))
  have d1 := cB_0 (cF_0 (cF_0 e).1).1
  have d2 := cB_0 (cF_0 (cF_0 e).1).2
  have n1 := ti_nat x1
  have n2 := ti_nat x2
  have t23 : (23 : Int32).toInt = 23 := rfl
  have t9 : (9 : Int32).toInt = 9 := rfl
  refine pc_bnd (qx_post24 hF q.1 ⟨d1, by rw [tz_0]; omega, by rw [t23]; omega, by rw [tz_0, t23]; omega, Or.inl t9⟩) (fun _ s2 q2 => ?_)
  have hW := q2.1.1
  have key : ∀ (N k : Nat) (x5 : Int32) (s : Mem), x5.toInt = (k : Int) → k ≤ 8 → vH 24 (aZ (aStand V x1.toNatClampNeg 0 23 9) x1.toNatClampNeg k) s → pc (lp_X3_heir_65 F x1 x2 x3 N x5 s) (fun r _ => r = aHold (aZ (aStand V x1.toNatClampNeg 0 23 9) x1.toNatClampNeg 8) x3 x2.toNatClampNeg) := by
    intro N
    induction N with
    | zero => intro k x5 s h1 h2 a; exact pc_none rfl
    | succ N ih =>
      intro k x5 s h1 h2 a
      rw [lp_X3_heir_65_s]
      refine pc_ite (fun c => ?_) (fun c => pc_chk (fun _ => pc_chk (fun _ => pc_lt (fun s7 g7 => ?_))))
      · have d := ti_le c
        rw [tz_8] at d
        rw [show k = 8 by omega] at a
        refine pc_bnd (qx_reckH a) (fun _ s2 q2 => pc_bnd (qx_holder q2.1.1 q2.1.2 (v := x2.toNatClampNeg) (by omega) (by omega)) (fun r z w => pc_ret w.1))
      · have d := ti_nle c
        rw [tz_8] at d
        refine ih (k + 1) _ _ (ti_nx h1 (by omega)) (by omega) ?_
        rw [g7, tn_int h1]
        exact vH_z a hW (by omega) (by omega)
  exact key F 0 0 s2 rfl (by omega) (by rw [aZ_0]; exact q2.1)
theorem vM_think {F : Nat} (hF : 1000 ≤ F) {s : Mem} {V : Nat → Int32} (h : vM V s) : pc (f_X4_think F s) (fun _ z => vM V z ∧ z 101 34 = s 101 34 ∧ z 121 = s 121 ∧ z 101 35 = s 101 35) := pc_mono (pc_pf (fr_X4_think hF)) (fun _ z f => ⟨⟨h.1, VE_fr h.2 f (by intro c hc; unfold cM2 at hc; show ¬ _; unfold wf_57; first | exact id | omega)⟩, f 101 34 (by rw [show wcid 101 34 = 1034 from rfl]; show ¬ _; unfold wf_57; omega), funext (fun i => f 121 i (by rw [wcid_M (by decide)]; show ¬ _; unfold wf_57; omega)), f 101 35 (by rw [show wcid 101 35 = 1035 from rfl]; show ¬ _; unfold wf_57; omega)⟩)
theorem vM_stand {F : Nat} {x1 x2 x3 x4 : Int32} {l a b : Nat} {s : Mem} {V : Nat → Int32} (h : vM V s) (hx4 : x4.toInt = 9 ∨ (0 ≤ x4.toInt ∧ x4.toInt < (V 0).toInt)) (hl : x1.toInt = (l : Int)) (hl5 : l < 5) (ha : x2.toInt = (a : Int)) (hb : x3.toInt = (b : Int)) (hab : a ≤ b + 1) (hb24 : b < 24) : pc (f_X4_stand F x1 x2 x3 x4 s) (fun _ z => vM (aStand V l a b x4) z ∧ ∀ j, ¬ j = 106 → z j = s j) := pc_mono (mx_stand (hx4.imp id (fun q => q.1)) hl hl5 ha hb hab hb24) (fun _ z q => ⟨⟨wvV_aStand h.1 ⟨hl5, hb24⟩ hx4, fun p hp => by rw [q.1 p hp]; exact aStand_cg (h.2 p hp)⟩, fun j hj => q.2.1 j hj⟩)
theorem qm_heir {F : Nat} (hF : 1000 ≤ F) {x1 x2 x3 : Int32} {s : Mem} {V : Nat → Int32} (h : vM V s) : pc (f_X4_heir F x1 x2 x3 s) (fun r _ => r = anHeir V x1 x2 x3) := by
  rw [f_X4_heir_e]
  refine pc_lt (fun s5 g5 => ?_)
  have h' : vM V s5 := vM_up h g5
  clear g5
  have h5 := h.1.2.1.2
  simp only [j_X4_heir_31_e, j_X4_heir_32_e]
  refine pc_be (mx_isLooker (by rw [vM_L h']; exact h.1.2.1.1)) ?_
  rw [vM_L h']
  unfold anHeir
  by_cases c : 0 ≤ x1.toInt ∧ x1.toInt < (V 1).toInt
  · rw [if_pos c, if_neg (by decide), cB_t c, cF_z]
    refine pc_be mx_isView ?_
    by_cases c2 : 0 ≤ x2.toInt ∧ x2.toInt ≤ 7
    · rw [if_pos c2, if_neg (by decide), cB_t c2, cF_z]
      have n1 := ti_nat x1
      have n2 := ti_nat x2
      refine pc_be mx_wrongN ?_
      refine mq_end sg_cN (fun e => pc_bnd (vM_think hF h') (fun _ s10 q10 => ?_))
      have d2 := cN_0 e
      rw [tz_0, tz_999'] at d2
      have hx : 0 ≤ x3.toInt ∧ x3.toInt ≤ 9999 := ⟨d2.1, by omega⟩
      refine pc_bnd (vM_stand q10.1 (x4 := 9) (Or.inl rfl) (l := x1.toNatClampNeg) (a := 0) (b := 23) (by omega) (by omega) rfl rfl (by omega) (by omega)) (fun _ s12 q12 => ?_)
      have hW := q12.1.1
      have key : ∀ (N k : Nat) (x5 : Int32) (s : Mem), x5.toInt = (k : Int) → k ≤ 8 → vM (aZ (aStand V x1.toNatClampNeg 0 23 9) x1.toNatClampNeg k) s → pc (lp_X4_heir_63 F x1 x2 x3 N x5 s) (fun r _ => r = aHold (aZ (aStand V x1.toNatClampNeg 0 23 9) x1.toNatClampNeg 8) x3 x2.toNatClampNeg) := by
        intro N
        induction N with
        | zero => intro k x5 s h1 h2 a; exact pc_none rfl
        | succ N ih =>
          intro k x5 s h1 h2 a
          rw [lp_X4_heir_63_s]
          refine pc_ite (fun c => ?_) (fun c => pc_chk (fun _ => pc_lt (fun s7 g7 => ?_)))
          · have d := ti_le c
            rw [tz_8] at d
            rw [show k = 8 by omega] at a
            refine pc_bnd (qm_lay a) (fun _ s2 q2 => pc_bnd (qm_own hx (v := x2.toNatClampNeg) (by omega) (by omega) q2) (fun r z w => pc_bnd pc_true (fun _ y _ => pc_ret w.1)))
          · have d := ti_nle c
            rw [tz_8] at d
            refine ih (k + 1) _ _ (ti_nx h1 (by omega)) (by omega) ?_
            rw [g7, tn_8 (l := x1.toNatClampNeg) (by omega) h1 (by omega) (by omega)]
            exact vM_z a hW (by omega) (by omega)
      exact key F 0 0 s12 rfl (by omega) (by rw [aZ_0]; exact q12.1)
    · rw [if_neg c2, if_pos rfl, cB_f c2, cF_n (a := -1) (by decide), if_neg (by decide)]
      exact mq_ref (cF_n (by decide))
  · rw [if_neg c, if_pos rfl, cB_f c, cF_n (a := -1) (by decide), cF_n (a := -1) (by decide), if_neg (by decide)]
    exact mq_ref (cF_n (by decide))
/-! which kind -/
theorem wvV_kf {V : Nat → Int32} (h : wvV V) {q : Nat} {x : Int32} (hq : 18 ≤ q ∧ q < 28) (hx : ∀ m : Nat, (q = 18 + 2 * m → 0 ≤ x.toInt ∧ x.toInt ≤ 5) ∧ (q = 19 + 2 * m → 0 ≤ x.toInt ∧ x.toInt ≤ 9)) : wvV (upd V q x) := by
  obtain ⟨h0, h1, h2, h3, h4, h5, h6⟩ := h
  have e : ∀ p, (p < 18 ∨ 28 ≤ p) → upd V q x p = V p := fun p hp => wv_un (by omega)
  have lv : ∀ p, live (upd V q x) p → live V p := fun p c => live_1 (e 1 (by omega)) c
  refine ⟨by rw [e 0 (by omega)]; exact h0, by rw [e 1 (by omega)]; exact h1, by rw [e 2 (by omega)]; exact h2, fun p a b => by rw [e p (by omega)]; exact h3 p a b, fun p a b c => by rw [e p (by omega), e 0 (by omega)]; exact h4 p a b (lv p c), fun m hm => ?_, fun p a b c => by rw [e p (by omega)]; exact h6 p a b (lv p c)⟩
  rw [e 1 (by omega)] at hm
  have w := h5 m hm
  refine ⟨?_, ?_⟩
  · by_cases c : 18 + 2 * m = q
    · rw [← c, wv_us]; exact (hx m).1 c.symm
    · rw [wv_un c]; exact w.1
  · by_cases c : 19 + 2 * m = q
    · rw [← c, wv_us]; exact (hx m).2 c.symm
    · rw [wv_un c]; exact w.2
theorem upd_tw {V : Nat → Int32} {q : Nat} {x y : Int32} : upd (upd V q x) q y = upd V q y := funext (fun p => by
  by_cases c : p = q
  · rw [c, wv_us, wv_us]
  · rw [wv_un c, wv_un c, wv_un c])
theorem upd_id {V : Nat → Int32} {q : Nat} : upd V q (V q) = V := funext (fun p => by
  by_cases c : p = q
  · rw [c, wv_us]
  · rw [wv_un c])
theorem up2_id {s : Mem} {k i : Nat} : up2 s k i (s k i) = s := funext (fun q => funext (fun j => by
  by_cases c : q = k
  · subst c
    by_cases d : j = i
    · subst d; rw [up2_s]
    · rw [up2_i d]
  · rw [up2_k c]))
theorem vH_kf {V : Nat → Int32} {s : Mem} {q k i : Nat} {x : Int32} (a : vH 24 V s) (hv : wvV (upd V q x)) (hq : 18 ≤ q ∧ q < 28) (hk : k = 24 + wvJ q) (hi : i = wvI q) : vH 24 (upd V q x) (up2 s k i x) := ⟨hv, fun p hp hl => by
  rw [wvX_at (q := q) (by omega) hk hi hp, wvE_o (Or.inl hq.2)]
  exact upd_cg (a.2 p hp (live_1 (wv_un (by omega)) hl)) rfl⟩
theorem vM_kf {V : Nat → Int32} {s : Mem} {q k i : Nat} {x : Int32} (a : vM V s) (hv : wvV (upd V q x)) (hq : q < 188) (hk : k = wtJ q) (hi : i = wtI q) : vM (upd V q x) (up2 s k i x) := ⟨hv, fun p hp => by
  rw [wvM_at hq hk hi hp]
  exact upd_cg (a.2 p hp) rfl⟩
def aWK (V row : Nat → Int32) (n q : Nat) (x : Int32) : Nat → Int32
  | 0 => 0
  | k + 1 => aWK V row n q x k ||| (if aRT (upd V q (Int32.ofNat k)) row x n = true then (1 : Int32) <<< (Int32.ofNat k &&& 31) else 0)
theorem aWK_t {V row : Nat → Int32} {n q k : Nat} {x : Int32} (e : aRT (upd V q (Int32.ofNat k)) row x n = true) : aWK V row n q x (k + 1) = aWK V row n q x k ||| (1 : Int32) <<< (Int32.ofNat k &&& 31) := by
  show aWK V row n q x k ||| (if aRT (upd V q (Int32.ofNat k)) row x n = true then (1 : Int32) <<< (Int32.ofNat k &&& 31) else 0) = _
  rw [if_pos e]
theorem aWK_f {V row : Nat → Int32} {n q k : Nat} {x : Int32} (e : aRT (upd V q (Int32.ofNat k)) row x n = false) : aWK V row n q x (k + 1) = aWK V row n q x k := by
  show aWK V row n q x k ||| (if aRT (upd V q (Int32.ofNat k)) row x n = true then (1 : Int32) <<< (Int32.ofNat k &&& 31) else 0) = _
  rw [if_neg (by rw [e]; decide), Int32.or_zero]
def anWhichKind (V : Nat → Int32) (x1 x2 x3 n : Int32) (row : Nat → Int32) : Int32 := cF (cF (cF (cB (0 ≤ x1.toInt ∧ x1.toInt < (V 1).toInt)) (cN x2 0 999)) (cF (cO x3 2) (cLR n))) (if x3 = 0 then aWK V row n.toNatClampNeg (18 + 2 * x1.toNatClampNeg) x2 6 else aWK V row n.toNatClampNeg (19 + 2 * x1.toNatClampNeg) x2 10)
theorem kf_ok {V : Nat → Int32} (h : wvV V) {l k m : Nat} (hl : l < 5) (hk : k < m) (hm : m = 6) : wvV (upd V (18 + 2 * l) (Int32.ofNat k)) := wvV_kf h (by omega) (fun j => ⟨fun _ => by rw [io_nat k (by omega)]; omega, fun _ => by omega⟩)
theorem kf_ok2 {V : Nat → Int32} (h : wvV V) {l k m : Nat} (hl : l < 5) (hk : k < m) (hm : m = 10) : wvV (upd V (19 + 2 * l) (Int32.ofNat k)) := wvV_kf h (by omega) (fun j => ⟨fun _ => by omega, fun _ => by rw [io_nat k (by omega)]; omega⟩)
theorem qxr_whichKind {F : Nat} (hF : 1000 ≤ F) {x1 x2 x3 : Int32} {σ : Mem} {V : Nat → Int32} (h : vH 1 V σ) (hn : 0 ≤ (σ 0 7).toInt ∧ (σ 0 7).toInt ≤ 12) : pc (f_X3_whichKind F x1 x2 x3 σ) (fun r _ => r = anWhichKind V x1 x2 x3 (σ 0 7) (σ 85)) := by
  have h5 := h.1.2.1.2
  rw [f_X3_whichKind_e, f_X3_noLookerFar_e]
  refine pc_be (by rw [wt_bnd_eq (ax_noLooker (by rw [vH_2 h]; exact h5)), wt_bnd_eq ax_outside, wt_bnd_eq ax_firstOf]) (pc_be ax_notBelow (pc_be ax_longRow (pc_be ax_firstOf (pc_be ax_firstOf ?_))))
  rw [vH_2 h]
  unfold anWhichKind
  refine cq_end (fun e => pc_bnd (qx_take hF h) (fun _ s q => ?_))
  have d1 := cB_0 (cF_0 (cF_0 e).1).1
  have e8 := (cF_0 (cF_0 e).2).2
  have c8 : σ 0 7 ≤ 8 := by
    by_cases c : σ 0 7 ≤ 8
    · exact c
    · rw [show cLR (σ 0 7) = -3 from if_neg c] at e8; exact absurd e8 (by decide)
  have d8 := ti_le c8
  rw [tz_8] at d8
  have n1 := ti_nat (σ 0 7)
  have m1 := ti_nat x1
  have hl5 : x1.toNatClampNeg < 5 := by omega
  have hV := h.1
  simp only [j_X3_whichKind_59_e]
  have key : ∀ (q0 top : Nat) (x6 : Int32), 18 ≤ q0 ∧ q0 < 28 → x6.toInt = (top : Int) → top < 10 → (∀ k : Nat, k ≤ top → wvV (upd V q0 (Int32.ofNat k))) → (∀ (s : Mem) (k : Nat) (x7 : Int32) (N : Nat) (x5 : Int32) (Q : Int32 → Mem → Prop), (∀ s7, s7 = up2 s (24 + wvJ q0) (wvI q0) x7 → pc (wt_bnd (f_X0_reckon F 24 s7) fun _ s2 => wt_bnd (f_X3_rowTells F x2 s2) fun r3 s4 => if r3 = 0 then lp_X3_whichKind_64 F x1 x2 x3 x6 N x5 (x7 + 1) s4 else wt_lt (x5 ||| ((1 : Int32) <<< (x7 &&& 31))) fun z5 => lp_X3_whichKind_64 F x1 x2 x3 x6 N z5 (x7 + 1) s4) Q) → pc (if x6 < x7 then some (x5, s) else if x3 = 0 then (wt_chk x1 5 <| wt_lt (up2 s (24 + 2) (Int32.toNatClampNeg x1) x7) fun s9 => j_X3_whichKind_100 F (lp_X3_whichKind_64 F x1 x2 x3 x6 N) x1 x2 x3 x5 x6 x7 s9) else (wt_chk x1 5 <| wt_lt (up2 s (24 + 3) (Int32.toNatClampNeg x1) x7) fun s7 => j_X3_whichKind_100 F (lp_X3_whichKind_64 F x1 x2 x3 x6 N) x1 x2 x3 x5 x6 x7 s7)) (fun r z => (x6 < x7 ∧ r = x5) ∨ Q r z)) → ∀ (N k : Nat) (x5 x7 y : Int32) (s : Mem), x7.toInt = (k : Int) → k ≤ top + 1 → x5 = aWK V (σ 85) (σ 0 7).toNatClampNeg q0 x2 k → vH 24 (upd V q0 y) s → o24 σ s → pc (lp_X3_whichKind_64 F x1 x2 x3 x6 N x5 x7 s) (fun r _ => r = aWK V (σ 85) (σ 0 7).toNatClampNeg q0 x2 (top + 1)) := by
    intro q0 top x6 hq0 h6 ht hw hs N
    induction N with
    | zero => intro k x5 x7 y s h1 h2 h3 a o; exact pc_none rfl
    | succ N ih =>
      intro k x5 x7 y s h1 h2 h3 a o
      rw [lp_X3_whichKind_64_s]
      by_cases c6 : x6 < x7
      · rw [if_pos c6]
        have d := ti_lt c6
        exact pc_ret (by rw [h3, show k = top + 1 by omega])
      have d := ti_nlt c6
      have e7 := io_eq h1 (by omega)
      refine pc_mono (hs s k x7 N x5 (fun r _ => r = aWK V (σ 85) (σ 0 7).toNatClampNeg q0 x2 (top + 1)) (fun s7 g7 => ?_)) (fun r z w => w.elim (fun w => absurd w.1 c6) id)
      have a7 : vH 24 (upd V q0 x7) s7 := by
        have w := vH_kf (q := q0) (x := x7) a (by rw [upd_tw, e7]; exact hw k (by omega)) hq0 rfl rfl
        rw [upd_tw] at w
        rw [g7]; exact w
      have o7 : o24 σ s7 := by rw [g7]; exact o24_tr o (o24_up (by have := wvJ_le q0 (by omega); omega))
      refine pc_bnd (qx_reckH a7) (fun _ s4 q4 => ?_)
      have o4 : o24 σ s4 := o24_tr o7 (o24_rk q4.2)
      refine pc_bnd (qx_rowTells q4.1 (n := (σ 0 7).toNatClampNeg) (by rw [o4 0 (by decide)]; omega) (by omega)) (fun r s6 q6 => ?_)
      rw [q6.2, q6.1, o4 85 (by decide)]
      cases hb : aRT (upd V q0 x7) (σ 85) x2 (σ 0 7).toNatClampNeg with
      | false =>
        refine pc_ite (fun _ => ih (k + 1) _ _ _ _ (ti_nx h1 (by omega)) (by omega) ?_ q4.1.1 o4) (fun w => absurd rfl w)
        rw [aWK_f (by rw [← e7]; exact hb)]; exact h3
      | true =>
        refine pc_ite (fun w => absurd w (by decide)) (fun _ => pc_lt (fun z7 hz => ih (k + 1) _ _ _ _ (ti_nx h1 (by omega)) (by omega) ?_ q4.1.1 o4))
        rw [aWK_t (by rw [← e7]; exact hb), hz, h3, e7]
  refine pc_ite (fun c0 => ?_) (fun c0 => ?_)
  · rw [if_pos c0]
    have hj := wvJI_2 x1.toNatClampNeg hl5
    refine key (18 + 2 * x1.toNatClampNeg) 5 5 (by omega) rfl (by omega) (fun k hk => kf_ok hV hl5 (m := 6) (by omega) rfl) (fun s k x7 N x5 Q hh => ?_) F 0 0 0 (V (18 + 2 * x1.toNatClampNeg)) s rfl (by omega) rfl (by rw [upd_id]; exact q.1) q.2
    rw [← hj.1, ← hj.2] at hh
    refine pc_ite (fun c => pc_ret (Or.inl ⟨c, rfl⟩)) (fun _ => ?_)
    rw [if_pos c0]
    refine pc_chk (fun _ => pc_lt (fun s9 g9 => ?_))
    simp only [j_X3_whichKind_100_e, j_X3_whichKind_124_e]
    exact pc_mono (hh s9 g9) (fun r z w => Or.inr w)
  · rw [if_neg c0]
    have hj := wvJI_3 x1.toNatClampNeg hl5
    refine key (19 + 2 * x1.toNatClampNeg) 9 9 (by omega) rfl (by omega) (fun k hk => kf_ok2 hV hl5 (m := 10) (by omega) rfl) (fun s k x7 N x5 Q hh => ?_) F 0 0 0 (V (19 + 2 * x1.toNatClampNeg)) s rfl (by omega) rfl (by rw [upd_id]; exact q.1) q.2
    rw [← hj.1, ← hj.2] at hh
    refine pc_ite (fun c => pc_ret (Or.inl ⟨c, rfl⟩)) (fun _ => ?_)
    rw [if_neg c0]
    refine pc_chk (fun _ => pc_lt (fun s9 g9 => ?_))
    simp only [j_X3_whichKind_100_e, j_X3_whichKind_124_e]
    exact pc_mono (hh s9 g9) (fun r z w => Or.inr w)
theorem cF_as {a b c : Int32} : cF (cF a b) c = cF a (cF b c) := by
  by_cases h : a = 0
  · subst h; rw [cF_z, cF_z]
  · rw [cF_n h, cF_n h, cF_n h]
theorem qmr_whichKind {F : Nat} (hF : 1000 ≤ F) {x1 x2 x3 : Int32} {n : Int32} {row : Nat → Int32} {s : Mem} {V : Nat → Int32} (h : vM V s) (hn : 0 ≤ n.toInt ∧ n.toInt ≤ 12) (h34 : s 101 34 = n) (hr : ∀ i, i < n.toNatClampNeg → s 121 i = row i) : pc (f_X4_whichKind F x1 x2 x3 s) (fun r _ => r = anWhichKind V x1 x2 x3 n row) := by
  rw [f_X4_whichKind_e]
  refine pc_lt (fun s5 g5 => ?_)
  have h' : vM V s5 := vM_up h g5
  have e34 : s5 101 34 = n := by rw [g5, up2_i (by decide)]; exact h34
  have er : ∀ i, i < n.toNatClampNeg → s5 121 i = row i := fun i hi => by rw [g5, up2_k (by decide)]; exact hr i hi
  clear g5
  have h5 := h.1.2.1.2
  have n1 := ti_nat n
  have m1 := ti_nat x1
  simp only [j_X4_whichKind_25_e, j_X4_whichKind_51_e]
  have J : ∀ t : Int32, t = cF (cF (cB (0 ≤ x1.toInt ∧ x1.toInt < (V 1).toInt)) (cN x2 0 999)) (cF (cO x3 2) (cLR n)) → pc (j_X4_whichKind_53 F x1 x2 x3 t s5) (fun r _ => r = anWhichKind V x1 x2 x3 n row) := fun t ht => by
    rw [j_X4_whichKind_53_e]
    unfold anWhichKind
    rw [← ht]
    refine pc_ite (fun c => ?_) (fun c => mq_ref (cF_n (fun q => c (by rw [q]; decide))))
    have d := ti_le c
    rw [tz_0] at d
    have st : sg t := by rw [ht]; exact sg_cF (sg_cF sg_cB sg_cN) (sg_cF sg_cO (sg_i (by decide)))
    have e0 : t = 0 := by
      rcases st with q | q
      · exact q
      · omega
    have e := ht.symm.trans e0
    rw [e0, cF_z]
    have d1 := cB_0 (cF_0 (cF_0 e).1).1
    have d2 := cN_0 (cF_0 (cF_0 e).1).2
    rw [tz_0, tz_999'] at d2
    have d3 := cO_0 (cF_0 (cF_0 e).2).1
    rw [tz_2] at d3
    have e8 := (cF_0 (cF_0 e).2).2
    have c8 : n ≤ 8 := by
      by_cases c : n ≤ 8
      · exact c
      · rw [show cLR n = -3 from if_neg c] at e8; exact absurd e8 (by decide)
    have d8 := ti_le c8
    rw [tz_8] at d8
    have hx : 0 ≤ x2.toInt ∧ x2.toInt ≤ 9999 := ⟨d2.1, by omega⟩
    have hl5 : x1.toNatClampNeg < 5 := by omega
    refine pc_bnd (vM_think hF h') (fun _ s12 q12 => ?_)
    have step : ∀ (q0 k : Nat) (x5 x6 : Int32) (s4 : Mem), x6.toInt = (k : Int) → k < 10 → x5 = aWK V row n.toNatClampNeg q0 x2 k → vM (upd V q0 x6) s4 → s4 101 34 = n → s4 121 = s5 121 → ∀ (M : Int32 → Int32 → Mem → Option (Int32 × Mem)) (Q : Int32 → Mem → Prop), (∀ z, vM (upd V q0 x6) z → z 101 34 = n → z 121 = s5 121 → pc (M (aWK V row n.toNatClampNeg q0 x2 (k + 1)) (x6 + 1) z) Q) → pc (wt_bnd (f_X4_isRow F x2 s4) fun r3 z4 => if r3 = 0 then M (x5 ||| 0) (x6 + 1) z4 else M (x5 ||| ((1 : Int32) <<< (x6 &&& 31))) (x6 + 1) z4) Q := by
      intro q0 k x5 x6 s4 h1 hk h3 a e r M Q hM
      have e6 := io_eq h1 (by omega)
      refine pc_bnd (qm_isRow (row := row) hx a (n := n.toNatClampNeg) (by rw [e]; omega) (by omega) (fun i hi => by rw [r]; exact er i hi)) (fun r4 z q => ?_)
      have w := hM z (vM_109 a q.2) (by rw [q.2 101 (by decide) (by decide)]; exact e) (by rw [q.2 121 (by decide) (by decide)]; exact r)
      rw [q.1]
      cases hb : aRT (upd V q0 x6) row x2 n.toNatClampNeg with
      | false =>
        refine pc_ite (fun _ => ?_) (fun w => absurd rfl w)
        rw [aWK_f (by rw [← e6]; exact hb), ← h3] at w
        rw [Int32.or_zero]; exact w
      | true =>
        refine pc_ite (fun w => absurd w (by decide)) (fun _ => ?_)
        rw [aWK_t (by rw [← e6]; exact hb), ← h3, ← e6] at w
        exact w
    by_cases c0 : x3 = 0
    · rw [if_pos c0]
      have hj := wtJI_104 x1.toNatClampNeg hl5
      have key : ∀ (N k : Nat) (x5 x6 y : Int32) (z : Mem), x6.toInt = (k : Int) → k ≤ 6 → x5 = aWK V row n.toNatClampNeg (18 + 2 * x1.toNatClampNeg) x2 k → vM (upd V (18 + 2 * x1.toNatClampNeg) y) z → z 101 34 = n → z 121 = s5 121 → pc (lp_X4_whichKind_77 F x1 x2 x3 N x5 x6 z) (fun r _ => r = aWK V row n.toNatClampNeg (18 + 2 * x1.toNatClampNeg) x2 6) := by
        intro N
        induction N with
        | zero => intro k x5 x6 y z h1 h2 h3 a e r; exact pc_none rfl
        | succ N ih =>
          intro k x5 x6 y z h1 h2 h3 a e r
          rw [lp_X4_whichKind_77_s, if_pos c0]
          simp only [j_X4_whichKind_90_e, j_X4_whichKind_113_e, j_X4_whichKind_135_e, j_X4_whichKind_154_e]
          refine pc_ite (fun c => ?_) (fun c => ?_)
          · have d := ti_le c
            have t6 : (6 : Int32).toInt = 6 := rfl
            rw [t6] at d
            exact pc_bnd pc_true (fun _ y _ => pc_ret (by rw [h3, show k = 6 by omega]))
          have d := ti_nle c
          have t6 : (6 : Int32).toInt = 6 := rfl
          rw [t6] at d
          have e6 := io_eq h1 (by omega)
          rw [if_pos c0]
          refine pc_chk (fun _ => pc_lt (fun s6 g6 => ?_))
          rw [if_neg (by rw [c0]; decide)]
          refine pc_chk (fun _ => pc_chk (fun _ => pc_lt (fun s2 g2 => ?_)))
          rw [up2_id] at g2
          rw [g2]
          have a6 : vM (upd V (18 + 2 * x1.toNatClampNeg) x6) s6 := by
            have w := vM_kf (k := 104) (i := x1.toNatClampNeg) (x := x6) a (by rw [upd_tw, e6]; exact kf_ok h.1 hl5 (m := 6) (by omega) rfl) (by omega) hj.1.symm hj.2.symm
            rw [upd_tw] at w
            rw [g6]; exact w
          exact step (18 + 2 * x1.toNatClampNeg) k x5 x6 s6 h1 (by omega) h3 a6 (by rw [g6, up2_k (by decide)]; exact e) (by rw [g6, up2_k (by decide)]; exact r) _ _ (fun y b1 b2 b3 => ih (k + 1) _ _ _ y (ti_nx h1 (by omega)) (by omega) rfl b1 b2 b3)
      exact key F 0 0 0 (V (18 + 2 * x1.toNatClampNeg)) s12 rfl (by omega) rfl (by rw [upd_id]; exact q12.1) (q12.2.1.trans e34) q12.2.2.1
    · rw [if_neg c0]
      have c1 : x3 = 1 := by
        have w' := ti_ne c0
        rw [tz_0] at w'
        exact Int32.toInt_inj.mp (by rw [tz_1]; omega)
      have hj := wtJI_105 x1.toNatClampNeg hl5
      have key : ∀ (N k : Nat) (x5 x6 y : Int32) (z : Mem), x6.toInt = (k : Int) → k ≤ 10 → x5 = aWK V row n.toNatClampNeg (19 + 2 * x1.toNatClampNeg) x2 k → vM (upd V (19 + 2 * x1.toNatClampNeg) y) z → z 101 34 = n → z 121 = s5 121 → pc (lp_X4_whichKind_77 F x1 x2 x3 N x5 x6 z) (fun r _ => r = aWK V row n.toNatClampNeg (19 + 2 * x1.toNatClampNeg) x2 10) := by
        intro N
        induction N with
        | zero => intro k x5 x6 y z h1 h2 h3 a e r; exact pc_none rfl
        | succ N ih =>
          intro k x5 x6 y z h1 h2 h3 a e r
          rw [lp_X4_whichKind_77_s, if_neg c0]
          simp only [j_X4_whichKind_90_e, j_X4_whichKind_113_e, j_X4_whichKind_135_e, j_X4_whichKind_154_e]
          refine pc_ite (fun c => ?_) (fun c => ?_)
          · have d := ti_le c
            have t6 : (10 : Int32).toInt = 10 := rfl
            rw [t6] at d
            exact pc_bnd pc_true (fun _ y _ => pc_ret (by rw [h3, show k = 10 by omega]))
          have d := ti_nle c
          have t6 : (10 : Int32).toInt = 10 := rfl
          rw [t6] at d
          have e6 := io_eq h1 (by omega)
          rw [if_neg c0]
          refine pc_chk (fun _ => pc_chk (fun _ => pc_lt (fun s6 g6 => ?_)))
          rw [up2_id] at g6
          rw [if_pos c1]
          refine pc_chk (fun _ => pc_lt (fun s2 g2 => ?_))
          rw [g6] at g2
          have a6 : vM (upd V (19 + 2 * x1.toNatClampNeg) x6) s2 := by
            have w := vM_kf (q := 19 + 2 * x1.toNatClampNeg) (k := 105) (i := x1.toNatClampNeg) (x := x6) a (by rw [upd_tw, e6]; exact kf_ok2 h.1 hl5 (m := 10) (by omega) rfl) (by omega) (by rw [show 19 + 2 * x1.toNatClampNeg = 18 + 2 * x1.toNatClampNeg + 1 by omega]; exact hj.1.symm) (by rw [show 19 + 2 * x1.toNatClampNeg = 18 + 2 * x1.toNatClampNeg + 1 by omega]; exact hj.2.symm)
            rw [upd_tw] at w
            rw [g2]; exact w
          exact step (19 + 2 * x1.toNatClampNeg) k x5 x6 s2 h1 (by omega) h3 a6 (by rw [g2, up2_k (by decide)]; exact e) (by rw [g2, up2_k (by decide)]; exact r) _ _ (fun y b1 b2 b3 => ih (k + 1) _ _ _ y (ti_nx h1 (by omega)) (by omega) rfl b1 b2 b3)
      exact key F 0 0 0 (V (19 + 2 * x1.toNatClampNeg)) s12 rfl (by omega) rfl (by rw [upd_id]; exact q12.1) (q12.2.1.trans e34) q12.2.2.1
  refine pc_be (mx_isLooker (by rw [vM_L h']; exact h.1.2.1.1)) ?_
  rw [vM_L h']
  have K : ∀ t : Int32, t = cF (cF (cB (0 ≤ x1.toInt ∧ x1.toInt < (V 1).toInt)) (cN x2 0 999)) (cO x3 2) → pc (if t = 0 then (if s5 101 34 ≤ 8 then j_X4_whichKind_53 F x1 x2 x3 t s5 else j_X4_whichKind_53 F x1 x2 x3 (-3) s5) else j_X4_whichKind_53 F x1 x2 x3 t s5) (fun r _ => r = anWhichKind V x1 x2 x3 n row) := fun t ht => by
    rw [e34]
    refine pc_ite (fun c => pc_ite (fun c8 => J t ?_) (fun c8 => J (-3) ?_)) (fun c => J t ?_)
    · rw [← cF_as, ← ht, c, cF_z, show cLR n = 0 from if_pos c8]
    · rw [← cF_as, ← ht, c, cF_z, show cLR n = -3 from if_neg c8]
    · rw [← cF_as, ← ht, cF_n c]
  by_cases c : 0 ≤ x1.toInt ∧ x1.toInt < (V 1).toInt
  · rw [if_pos c, if_neg (by decide)]
    refine pc_be mx_wrongN (pc_be mx_wrongBit ?_)
    exact K _ (by rw [cB_t c, cF_z])
  · rw [if_neg c, if_pos rfl]
    refine pc_be mx_wrongBit ?_
    exact K _ (by rw [cB_f c, cF_n (a := -1) (b := cN x2 0 999) (by decide)])
end
section
/-! the best pane -/
theorem qm_anew {F : Nat} {x1 x2 : Int32} (hx : 0 ≤ x2.toInt ∧ x2.toInt ≤ 9999) {s : Mem} {V : Nat → Int32} (h : vM V s) : pc (f_X4_worthAnew F x1 x2 s) (fun r z => r = aWealth V x1 x2 8 ∧ mRdy V z) := by
  rw [f_X4_worthAnew_e]
  exact pc_bnd (qm_lay h) (fun _ s q => pc_bnd (qm_worthIn hx q) (fun r z w => pc_ret w))
theorem qx_wealthAt {F : Nat} (hF : 1000 ≤ F) {x1 x2 x3 x4 y : Int32} {σ : Mem} {V : Nat → Int32} (a : vH 24 (aStand V x1.toNatClampNeg x2.toNatClampNeg x2.toNatClampNeg y) σ) (hc : cPost (V 0).toInt (V 1).toInt x1 x2 x2 x3) : pc (f_X3_wealthAt F x1 x2 x3 x4 σ) (fun r s => r = aWealth (aStand V x1.toNatClampNeg x2.toNatClampNeg x2.toNatClampNeg x3) x1 x4 8 ∧ vH 24 (aStand V x1.toNatClampNeg x2.toNatClampNeg x2.toNatClampNeg x3) s ∧ o24 σ s) := by
  rw [f_X3_wealthAt_e]
  refine pc_bnd (qx_post24 hF a (by rw [aStand_0 (by decide), aStand_0 (by decide)]; exact hc)) (fun _ s2 q => ?_)
  rw [aStand_tw] at q
  exact pc_bnd (qx_reckH q.1) (fun _ s4 q4 => pc_bnd (qx_wealth q4.1) (fun r s6 q6 => pc_ret ⟨q6.1, by rw [q6.2]; exact q4.1.1, by rw [q6.2]; exact o24_tr q.2 (o24_rk q4.2)⟩))
def aPn (V : Nat → Int32) (i : Nat) : Int32 := if (i : Int) < (V 0).toInt then Int32.ofNat i else 9
theorem aPn_ok {V : Nat → Int32} (h : wvV V) {i : Nat} : (aPn V i).toInt = 9 ∨ (0 ≤ (aPn V i).toInt ∧ (aPn V i).toInt < (V 0).toInt) := by
  have h6 := h.1.2
  unfold aPn
  by_cases c : (i : Int) < (V 0).toInt
  · rw [if_pos c, io_nat i (by omega)]; omega
  · rw [if_neg c]; exact Or.inl rfl
def aBP (V : Nat → Int32) (x1 n : Int32) (l h : Nat) : Nat → Int32 × Int32
  | 0 => (9, -1)
  | i + 1 => if aWealth (aStand V l h h (aPn V i)) x1 n 8 ≤ (aBP V x1 n l h i).2 then aBP V x1 n l h i else (aPn V i, aWealth (aStand V l h h (aPn V i)) x1 n 8)
theorem aBP_t {V : Nat → Int32} {x1 n : Int32} {l h i : Nat} (c : aWealth (aStand V l h h (aPn V i)) x1 n 8 ≤ (aBP V x1 n l h i).2) : aBP V x1 n l h (i + 1) = aBP V x1 n l h i := if_pos c
theorem aBP_f {V : Nat → Int32} {x1 n : Int32} {l h i : Nat} (c : ¬ aWealth (aStand V l h h (aPn V i)) x1 n 8 ≤ (aBP V x1 n l h i).2) : aBP V x1 n l h (i + 1) = (aPn V i, aWealth (aStand V l h h (aPn V i)) x1 n 8) := if_neg c
def anBestPane (V : Nat → Int32) (x1 x2 x3 x4 : Int32) : Int32 := cF (cF (cF (cF (cB (0 ≤ x1.toInt ∧ x1.toInt < (V 1).toInt)) (cB (0 ≤ x2.toInt ∧ x2.toInt ≤ 23))) (cN x3 0 999)) (cO x4 2)) (if x4 = 0 then (aBP V x1 x3 x1.toNatClampNeg x2.toNatClampNeg ((V 0).toNatClampNeg + 1)).1 else (aBP V x1 x3 x1.toNatClampNeg x2.toNatClampNeg ((V 0).toNatClampNeg + 1)).2)
theorem qx_bestPane {F : Nat} (hF : 1000 ≤ F) {x1 x2 x3 x4 : Int32} {σ : Mem} {V : Nat → Int32} (h : vH 1 V σ) : pc (f_X3_bestPane F x1 x2 x3 x4 σ) (fun r _ => r = anBestPane V x1 x2 x3 x4) := by
  have h5 := h.1.2.1.2
  have h6 := h.1.1
  rw [f_X3_bestPane_e]
  refine pc_be (ax_noLooker (by rw [vH_2 h]; exact h5)) (pc_be ax_noHour (pc_be ax_firstOf (pc_be ax_outside (pc_be ax_firstOf (pc_be ax_notBelow (pc_be ax_firstOf ?_))))))
  rw [vH_2 h]
  unfold anBestPane
  refine cq_end (fun e => pc_bnd (qx_take hF h) (fun _ s q => ?_))
  have d1 := cB_0 (cF_0 (cF_0 (cF_0 e).1).1).1
  have d2 := cB_0 (cF_0 (cF_0 (cF_0 e).1).1).2
  have n1 := ti_nat x1
  have n2 := ti_nat x2
  have m0 := ti_nat (V 0)
  have key : ∀ (N i : Nat) (x6 x7 x8 y : Int32) (s : Mem), x8.toInt = (i : Int) → i ≤ (V 0).toNatClampNeg + 1 → (x6, x7) = aBP V x1 x3 x1.toNatClampNeg x2.toNatClampNeg i → vH 24 (aStand V x1.toNatClampNeg x2.toNatClampNeg x2.toNatClampNeg y) s → o24 σ s → pc (lp_X3_bestPane_71 F x1 x2 x3 x4 N x6 x7 x8 s) (fun r _ => r = if x4 = 0 then (aBP V x1 x3 x1.toNatClampNeg x2.toNatClampNeg ((V 0).toNatClampNeg + 1)).1 else (aBP V x1 x3 x1.toNatClampNeg x2.toNatClampNeg ((V 0).toNatClampNeg + 1)).2) := by
    intro N
    induction N with
    | zero => intro i x6 x7 x8 y s h1 h2 h3 a o; exact pc_none rfl
    | succ N ih =>
      intro i x6 x7 x8 y s h1 h2 h3 a o
      have e6 : x6 = (aBP V x1 x3 x1.toNatClampNeg x2.toNatClampNeg i).1 := congrArg Prod.fst h3
      have e7 : x7 = (aBP V x1 x3 x1.toNatClampNeg x2.toNatClampNeg i).2 := congrArg Prod.snd h3
      rw [lp_X3_bestPane_71_s, o 1 (by decide), vH_0 h]
      simp only [j_X3_bestPane_102_e, j_X3_bestPane_130_e]
      have body : ∀ pn, pn = aPn V i → i ≤ (V 0).toNatClampNeg → pc (wt_bnd (f_X3_wealthAt F x1 x2 pn x3 s) fun r1 s2 => if r1 ≤ x7 then lp_X3_bestPane_71 F x1 x2 x3 x4 N x6 x7 (x8 + 1) s2 else lp_X3_bestPane_71 F x1 x2 x3 x4 N pn r1 (x8 + 1) s2) (fun r _ => r = if x4 = 0 then (aBP V x1 x3 x1.toNatClampNeg x2.toNatClampNeg ((V 0).toNatClampNeg + 1)).1 else (aBP V x1 x3 x1.toNatClampNeg x2.toNatClampNeg ((V 0).toNatClampNeg + 1)).2) := fun pn hp hi => by
        subst hp
        refine pc_bnd (qx_wealthAt hF a ⟨d1, d2, d2, Int.le_refl _, aPn_ok h.1⟩) (fun r s2 q => ?_)
        rw [q.1]
        refine pc_ite (fun c => ih (i + 1) _ _ _ _ _ (ti_nx h1 (by omega)) (by omega) ?_ q.2.1 (o24_tr o q.2.2)) (fun c => ih (i + 1) _ _ _ _ _ (ti_nx h1 (by omega)) (by omega) ?_ q.2.1 (o24_tr o q.2.2))
        · rw [e7] at c
          rw [aBP_t c]; exact h3
        · rw [e7] at c
          rw [aBP_f c]
      refine pc_ite (fun c => ?_) (fun c => pc_ite (fun c2 => ?_) (fun c2 => ?_))
      · have d := ti_lt c
        have ei : i = (V 0).toNatClampNeg + 1 := by omega
        rw [ei] at e6 e7
        exact pc_ite (fun c0 => pc_ret (by rw [if_pos c0]; exact e6)) (fun c0 => pc_ret (by rw [if_neg c0]; exact e7))
      · have d := ti_nlt c
        have d2 := ti_le c2
        exact body 9 (if_neg (by omega)).symm (by omega)
      · have d := ti_nlt c
        have d2 := ti_nle c2
        exact body x8 ((io_eq h1 (by omega)).trans (if_pos (by omega)).symm) (by omega)
  refine key F 0 9 (-1) 0 (wvN (V (28 + 24 * x1.toNatClampNeg + x2.toNatClampNeg))) s rfl (by omega) rfl ?_ q.2
  rw [aStand_sf (wvN_N _)]; exact q.1
theorem qm_bestPane {F : Nat} {x1 x2 x3 x4 : Int32} {s : Mem} {V : Nat → Int32} (h : vM V s) : pc (f_X4_bestPane F x1 x2 x3 x4 s) (fun r _ => r = anBestPane V x1 x2 x3 x4) := by
  have h5 := h.1.2.1
  have h6 := h.1.1
  rw [f_X4_bestPane_e]
  refine pc_lt (fun s5 g5 => ?_)
  have h' : vM V s5 := vM_up h g5
  clear g5
  simp only [j_X4_bestPane_31_e]
  have n1 := ti_nat x1
  have n2 := ti_nat x2
  have m0 := ti_nat (V 0)
  have J : ∀ t : Int32, t = cF (cF (cB (0 ≤ x1.toInt ∧ x1.toInt < (V 1).toInt)) (cB (0 ≤ x2.toInt ∧ x2.toInt ≤ 23))) (cN x3 0 999) → pc (j_X4_bestPane_32 F x1 x2 x3 x4 t s5) (fun r _ => r = anBestPane V x1 x2 x3 x4) := fun t ht => by
    rw [j_X4_bestPane_32_e]
    refine pc_be mx_wrongBit ?_
    unfold anBestPane
    rw [← ht]
    refine mq_end (sg_cF (by rw [ht]; exact sg_cF (sg_cF sg_cB sg_cB) sg_cN) sg_cO) (fun e => pc_chk (fun _ => pc_lt (fun z10 _ => ?_)))
    have e' := (cF_0 e).1
    rw [ht] at e'
    have d1 := cB_0 (cF_0 (cF_0 e').1).1
    have d2 := cB_0 (cF_0 (cF_0 e').1).2
    have d3 := cN_0 (cF_0 e').2
    rw [tz_0, tz_999'] at d3
    have hx : 0 ≤ x3.toInt ∧ x3.toInt ≤ 9999 := ⟨d3.1, by omega⟩
    have ei : (((24 : Int32) * x1) + x2).toNatClampNeg = 24 * x1.toNatClampNeg + x2.toNatClampNeg := tn_24 (by omega) (by omega) (by omega) (by omega)
    have key : ∀ (N i : Nat) (x6 x7 x8 x9 y : Int32) (s : Mem), x9.toInt = (i : Int) → i ≤ (V 0).toNatClampNeg + 1 → x8 = (aBP V x1 x3 x1.toNatClampNeg x2.toNatClampNeg i).2 → (1 ≤ i → x7 = (aBP V x1 x3 x1.toNatClampNeg x2.toNatClampNeg i).1) → vM (aStand V x1.toNatClampNeg x2.toNatClampNeg x2.toNatClampNeg y) s → pc (lp_X4_bestPane_74 F x1 x2 x3 x4 x6 N x7 x8 x9 s) (fun r _ => r = if x4 = 0 then (aBP V x1 x3 x1.toNatClampNeg x2.toNatClampNeg ((V 0).toNatClampNeg + 1)).1 else (aBP V x1 x3 x1.toNatClampNeg x2.toNatClampNeg ((V 0).toNatClampNeg + 1)).2) := by
      intro N
      induction N with
      | zero => intro i x6 x7 x8 x9 y s h1 h2 h3 h4 a; exact pc_none rfl
      | succ N ih =>
        intro i x6 x7 x8 x9 y s h1 h2 h3 h4 a
        rw [lp_X4_bestPane_74_s, vM_P a, aStand_0 (by decide)]
        simp only [j_X4_bestPane_109_e, j_X4_bestPane_146_e, j_X4_bestPane_162_e]
        have body : ∀ v, wvN (aPn V i) = v → i ≤ (V 0).toNatClampNeg → pc (wt_chk ((24 : Int32) * x1 + x2) 120 (wt_lt (up2 s 106 (Int32.toNatClampNeg ((24 : Int32) * x1 + x2)) v) fun s2 => wt_bnd (f_X4_worthAnew F x1 x3 s2) fun r3 s4 => if r3 ≤ x8 then (if r3 ≤ x8 then lp_X4_bestPane_74 F x1 x2 x3 x4 x6 N x7 x8 (x9 + 1) s4 else lp_X4_bestPane_74 F x1 x2 x3 x4 x6 N x7 r3 (x9 + 1) s4) else if x9 = s4 101 1 then (if r3 ≤ x8 then lp_X4_bestPane_74 F x1 x2 x3 x4 x6 N 9 x8 (x9 + 1) s4 else lp_X4_bestPane_74 F x1 x2 x3 x4 x6 N 9 r3 (x9 + 1) s4) else (if r3 ≤ x8 then lp_X4_bestPane_74 F x1 x2 x3 x4 x6 N x9 x8 (x9 + 1) s4 else lp_X4_bestPane_74 F x1 x2 x3 x4 x6 N x9 r3 (x9 + 1) s4))) (fun r _ => r = if x4 = 0 then (aBP V x1 x3 x1.toNatClampNeg x2.toNatClampNeg ((V 0).toNatClampNeg + 1)).1 else (aBP V x1 x3 x1.toNatClampNeg x2.toNatClampNeg ((V 0).toNatClampNeg + 1)).2) := fun v hv hi => by
          refine pc_chk (fun _ => pc_lt (fun s2 g2 => ?_))
          have a2 : vM (aStand V x1.toNatClampNeg x2.toNatClampNeg x2.toNatClampNeg (aPn V i)) s2 := by
            have w := vM_up106 (x := aPn V i) (y := v) a (l := x1.toNatClampNeg) (t := x2.toNatClampNeg) (by omega) (by omega) (by rw [aStand_0 (by decide)]; exact aPn_ok h.1) hv
            rw [aStand_tw] at w
            rw [g2, ei]; exact w
          clear g2
          refine pc_bnd (qm_anew hx a2) (fun r3 s4 q => ?_)
          rw [q.1, vM_P q.2.1, aStand_0 (p := 0) (by decide)]
          have wb := aWealth_b q.2.1.1 (who := x1) (n := x3) 8 (by omega)
          refine pc_ite (fun c => ?_) (fun c => ?_)
          · rw [if_pos c]
            have c' := c
            rw [h3] at c'
            have i1 : 1 ≤ i := by
              by_cases z : i = 0
              · subst z
                have := ti_le c'
                have em : (aBP V x1 x3 x1.toNatClampNeg x2.toNatClampNeg 0).2.toInt = -1 := rfl
                omega
              · omega
            exact ih (i + 1) _ _ _ _ _ _ (ti_nx h1 (by omega)) (by omega) (by rw [aBP_t c']; exact h3) (fun _ => by rw [aBP_t c']; exact h4 i1) q.2.1
          · have c' := c
            rw [h3] at c'
            refine pc_ite (fun c2 => ?_) (fun c2 => ?_)
            · rw [if_neg c]
              have d := congrArg Int32.toInt c2
              exact ih (i + 1) _ _ _ _ _ _ (ti_nx h1 (by omega)) (by omega) (by rw [aBP_f c']) (fun _ => by rw [aBP_f c']; exact (if_neg (by omega)).symm) q.2.1
            · rw [if_neg c]
              have d := ti_ne c2
              exact ih (i + 1) _ _ _ _ _ _ (ti_nx h1 (by omega)) (by omega) (by rw [aBP_f c']) (fun _ => by rw [aBP_f c']; exact (io_eq h1 (by omega)).trans (if_pos (by omega)).symm) q.2.1
        refine pc_ite (fun c => pc_chk (fun _ => pc_lt (fun s6 _ => ?_))) (fun c => pc_ite (fun c2 => ?_) (fun c2 => ?_))
        · have d := ti_lt c
          have ej : i = (V 0).toNatClampNeg + 1 := by omega
          rw [ej] at h3 h4
          exact pc_ite (fun c0 => pc_ret (by rw [if_pos c0]; exact h4 (by omega))) (fun c0 => pc_ret (by rw [if_neg c0]; exact h3))
        · have d := ti_nlt c
          have d2 := congrArg Int32.toInt c2
          exact body (-9) (by rw [show aPn V i = 9 from if_neg (by omega)]; decide) (by omega)
        · have d := ti_nlt c
          have d2 := ti_ne c2
          refine body x9 ?_ (by omega)
          rw [show aPn V i = Int32.ofNat i from if_pos (by omega), wvN_s (by rw [io_nat i (by omega)]; omega)]
          exact (io_eq h1 (by omega)).symm
    refine key F 0 _ (-1) (-1) 0 (wvN (V (28 + 24 * x1.toNatClampNeg + x2.toNatClampNeg))) s5 rfl (by omega) rfl (fun q => absurd q (by omega)) ?_
    rw [aStand_sf (wvN_N _)]; exact h'
  refine pc_be (mx_isLooker (by rw [vM_L h']; exact h.1.2.1.1)) ?_
  rw [vM_L h']
  by_cases c : 0 ≤ x1.toInt ∧ x1.toInt < (V 1).toInt
  · rw [if_pos c, if_neg (by decide)]
    refine pc_be mx_isHour ?_
    by_cases c2 : 0 ≤ x2.toInt ∧ x2.toInt ≤ 23
    · rw [if_pos c2, if_neg (by decide)]
      refine pc_be mx_wrongN ?_
      exact J _ (by rw [cB_t c, cB_t c2, cF_z, cF_z])
    · rw [if_neg c2, if_pos rfl]
      exact J _ (by rw [cB_t c, cB_f c2, cF_z, cF_n (a := -1) (by decide)])
  · rw [if_neg c, if_pos rfl]
    exact J _ (by rw [cB_f c, cF_n (a := -1) (by decide), cF_n (a := -1) (by decide)])
/-! free hours -/
def aFr (V : Nat → Int32) (x1 x2 : Int32) (l : Nat) : Nat → Int32
  | 0 => 0
  | t + 1 => aFr V x1 x2 l t ||| (if (V (28 + 24 * l + t)).toInt < 0 then 0 else if aBits (aStand V l t t 9) x1 x2 8 = aBits V x1 x2 8 then (1 : Int32) <<< (Int32.ofNat t &&& 31) else 0)
theorem aFr_s {V : Nat → Int32} {x1 x2 : Int32} {l t : Nat} : aFr V x1 x2 l (t + 1) = aFr V x1 x2 l t ||| (if (V (28 + 24 * l + t)).toInt < 0 then 0 else if aBits (aStand V l t t 9) x1 x2 8 = aBits V x1 x2 8 then (1 : Int32) <<< (Int32.ofNat t &&& 31) else 0) := rfl
def anFreeHours (V : Nat → Int32) (x1 x2 : Int32) : Int32 := cF (cF (cB (0 ≤ x1.toInt ∧ x1.toInt < (V 1).toInt)) (cN x2 0 999)) (aFr V x1 x2 x1.toNatClampNeg 24)
theorem wvN_cl {V : Nat → Int32} (h : wvV V) {l t : Nat} (hl : (l : Int) < (V 1).toInt) (ht : t < 24) : (wvN (V (28 + 24 * l + t))).toInt = 9 ∨ (0 ≤ (wvN (V (28 + 24 * l + t))).toInt ∧ (wvN (V (28 + 24 * l + t))).toInt < (V 0).toInt) := by
  have h6 := h.1.2
  rcases vV_c h hl ht with c | c
  · rw [show V (28 + 24 * l + t) = -9 from Int32.toInt_inj.mp c]; exact Or.inl rfl
  · rw [wvN_s (by omega)]; exact Or.inr c
theorem qx_freeHours {F : Nat} (hF : 1000 ≤ F) {x1 x2 : Int32} {σ : Mem} {V : Nat → Int32} (h : vH 1 V σ) : pc (f_X3_freeHours F x1 x2 σ) (fun r _ => r = anFreeHours V x1 x2) := by
  have h5 := h.1.2.1.2
  rw [f_X3_freeHours_e, f_X3_noLookerFar_e]
  refine pc_be (by rw [wt_bnd_eq (ax_noLooker (by rw [vH_2 h]; exact h5)), wt_bnd_eq ax_outside, wt_bnd_eq ax_firstOf]) ?_
  rw [vH_2 h]
  unfold anFreeHours
  refine cq_end (fun e => pc_bnd (qx_reckon h) (fun _ s16 q16 => pc_bnd (qx_take hF q16.1) (fun _ s18 q18 => ?_)))
  have h18 := vH_o q16.1 q18.2
  have g18 : vG 1 V s18 := vG_e h5 q16.2 (fun k _ _ => q18.2 k (by omega))
  refine pc_bnd (qx_holdings ⟨h18, g18⟩) (fun r s20 q20 => ?_)
  rw [q20.2, q20.1]
  have d1 := cB_0 (cF_0 e).1
  have n1 := ti_nat x1
  have hl : x1.toInt = (x1.toNatClampNeg : Int) := by omega
  have hl5 : (x1.toNatClampNeg : Int) < (V 1).toInt := by omega
  have key : ∀ (N t : Nat) (x5 x6 : Int32) (s : Mem), x6.toInt = (t : Int) → t ≤ 24 → x5 = aFr V x1 x2 x1.toNatClampNeg t → vH 24 V s → o24 s18 s → pc (lp_X3_freeHours_52 F x1 x2 (aBits V x1 x2 8) N x5 x6 s) (fun r _ => r = aFr V x1 x2 x1.toNatClampNeg 24) := by
    intro N
    induction N with
    | zero => intro t x5 x6 s h1 h2 h3 a o; exact pc_none rfl
    | succ N ih =>
      intro t x5 x6 s h1 h2 h3 a o
      rw [lp_X3_freeHours_52_s]
      simp only [j_X3_freeHours_140_e, j_X3_freeHours_125_e]
      refine pc_ite (fun c => ?_) (fun c => pc_chk (fun _ => pc_chk (fun _ => pc_lt (fun z5 g5 => ?_))))
      · have d := ti_le c
        rw [tz_24] at d
        exact pc_ret (by rw [h3, show t = 24 by omega])
      have d := ti_nle c
      rw [tz_24] at d
      rw [tn_int h1, o (1 + 5 + x1.toNatClampNeg) (by omega), vH_c h18 hl5 (by omega)] at g5
      have hv := wvN_9 (vH_b h18 (l := x1.toNatClampNeg) (t := t) hl5 (by omega))
      rw [← g5] at hv
      have t9 : (9 : Int32).toInt = 9 := rfl
      refine pc_ite (fun c9 => ih (t + 1) _ _ _ (ti_nx h1 (by omega)) (by omega) ?_ a o) (fun c9 => ?_)
      · rw [aFr_s, if_pos (hv.mp c9), Int32.or_zero]; exact h3
      have nv : ¬ (V (28 + 24 * x1.toNatClampNeg + t)).toInt < 0 := fun q => c9 (hv.mpr q)
      refine pc_bnd (qx_post24 hF a ⟨d1, by omega, by omega, Int.le_refl _, Or.inl t9⟩) (fun _ s7 q7 => ?_)
      rw [tn_int h1] at q7
      refine pc_bnd (qx_reckH q7.1) (fun _ s9 q9 => pc_bnd (qx_holdings q9.1) (fun r s11 q11 => ?_))
      rw [q11.2, q11.1]
      have o9 : o24 s18 s9 := o24_tr o (o24_tr q7.2 (o24_rk q9.2))
      have back : ∀ x5', x5' = aFr V x1 x2 x1.toNatClampNeg (t + 1) → pc (wt_bnd (f_X0_post F 24 x1 x6 x6 z5 s9) fun r1 s2 => lp_X3_freeHours_52 F x1 x2 (aBits V x1 x2 8) N x5' (x6 + 1) s2) (fun r _ => r = aFr V x1 x2 x1.toNatClampNeg 24) := fun x5' h5' => by
        refine pc_bnd (qx_post24 hF q9.1.1 ⟨by rw [aStand_0 (by decide)]; exact d1, by omega, by omega, Int.le_refl _, by rw [aStand_0 (by decide), g5]; exact wvN_cl h.1 hl5 (by omega)⟩) (fun _ s2 q2 => ?_)
        rw [tn_int h1, aStand_bk (by rw [g5, wvN_N])] at q2
        exact ih (t + 1) _ _ _ (ti_nx h1 (by omega)) (by omega) h5' q2.1 (o24_tr o9 q2.2)
      refine pc_ite (fun c => pc_lt (fun z12 g12 => back _ ?_)) (fun c => back _ ?_)
      · rw [g12, aFr_s, if_neg nv, if_pos c, h3, io_eq h1 (by omega)]
      · rw [aFr_s, if_neg nv, if_neg c, Int32.or_zero]; exact h3
  exact key F 0 0 0 s18 rfl (by omega) rfl q18.1 o24_rf
theorem qm_freeHours {F : Nat} {x1 x2 : Int32} {s : Mem} {V : Nat → Int32} (h : vM V s) : pc (f_X4_freeHours F x1 x2 s) (fun r _ => r = anFreeHours V x1 x2) := by
  have h5 := h.1.2.1
  rw [f_X4_freeHours_e]
  refine pc_lt (fun s6 h6 => ?_)
  have h' : vM V s6 := vM_up h h6
  clear h6
  simp only [j_X4_freeHours_25_e]
  refine pc_be (mx_isLooker (by rw [vM_L h']; exact h.1.2.1.1)) ?_
  rw [vM_L h']
  unfold anFreeHours
  by_cases c : 0 ≤ x1.toInt ∧ x1.toInt < (V 1).toInt
  · rw [if_pos c, if_neg (by decide), cB_t c, cF_z]
    have n1 := ti_nat x1
    have hl : x1.toInt = (x1.toNatClampNeg : Int) := by omega
    have hl5 : (x1.toNatClampNeg : Int) < (V 1).toInt := by omega
    refine pc_be mx_wrongN (mq_end sg_cN (fun e => ?_))
    have d2 := cN_0 e
    rw [tz_0, tz_999'] at d2
    have hx : 0 ≤ x2.toInt ∧ x2.toInt ≤ 9999 := ⟨d2.1, by omega⟩
    refine pc_bnd (qm_lay h') (fun _ s11 q11 => pc_bnd (qm_viewsIn hx q11) (fun r s13 q13 => ?_))
    rw [q13.1]
    have key : ∀ (N t : Nat) (x5 x6 : Int32) (s : Mem), x6.toInt = (t : Int) → t ≤ 24 → x5 = aFr V x1 x2 x1.toNatClampNeg t → vM V s → pc (lp_X4_freeHours_54 F x1 x2 (aBits V x1 x2 8) N x5 x6 s) (fun r _ => r = aFr V x1 x2 x1.toNatClampNeg 24) := by
      intro N
      induction N with
      | zero => intro t x5 x6 s h1 h2 h3 a; exact pc_none rfl
      | succ N ih =>
        intro t x5 x6 s h1 h2 h3 a
        rw [lp_X4_freeHours_54_s]
        simp only [j_X4_freeHours_119_e, j_X4_freeHours_118_e]
        refine pc_ite (fun c => ?_) (fun c => pc_chk (fun _ => pc_lt (fun z4 g4 => pc_lt (fun s5 g5 => ?_))))
        · have d := ti_le c
          rw [tz_24] at d
          exact pc_ret (by rw [h3, show t = 24 by omega])
        have d := ti_nle c
        rw [tz_24] at d
        have ei := tn_24 hl h1 (by omega) (by omega)
        rw [ei, vM_106 a (by omega), show 28 + (24 * x1.toNatClampNeg + t) = 28 + 24 * x1.toNatClampNeg + t by omega] at g4
        have a5 : vM (aStand V x1.toNatClampNeg t t 9) s5 := by
          rw [g5, ei]
          exact vM_up106 a (by omega) (by omega) (Or.inl rfl) (by decide)
        clear g5
        refine pc_bnd (qm_lay a5) (fun _ s7 q7 => ?_)
        have back : ∀ (b : Int32) (z : Mem), vM (aStand V x1.toNatClampNeg t t 9) z → x5 ||| b = aFr V x1 x2 x1.toNatClampNeg (t + 1) → pc (wt_chk ((24 : Int32) * x1 + x6) 120 (wt_lt (up2 z 106 (Int32.toNatClampNeg ((24 : Int32) * x1 + x6)) z4) fun s2 => lp_X4_freeHours_54 F x1 x2 (aBits V x1 x2 8) N (x5 ||| b) (x6 + 1) s2)) (fun r _ => r = aFr V x1 x2 x1.toNatClampNeg 24) := fun b z az hb => by
          refine pc_chk (fun _ => pc_lt (fun s2 g2 => ih (t + 1) _ _ _ (ti_nx h1 (by omega)) (by omega) hb ?_))
          have w := vM_up106 (x := wvN z4) (y := z4) az (l := x1.toNatClampNeg) (t := t) (by omega) (by omega) (by rw [aStand_0 (by decide), g4]; exact wvN_cl h.1 hl5 (by omega)) (wvN_N _)
          rw [aStand_bk (by rw [wvN_N, g4])] at w
          rw [g2, ei]; exact w
        refine pc_ite (fun c9 => back 0 _ q7.1 ?_) (fun c9 => pc_bnd (qm_viewsIn hx q7) (fun r8 s9 q9 => ?_))
        · have d9 := ti_lt c9
          rw [tz_0, g4] at d9
          rw [aFr_s, if_pos d9, h3]
        · have d9 := ti_nlt c9
          rw [tz_0, g4] at d9
          rw [q9.1]
          refine pc_ite (fun c => back _ _ q9.2.1 ?_) (fun c => back 0 _ q9.2.1 ?_)
          · rw [aFr_s, if_neg (by omega), if_pos c, h3, io_eq h1 (by omega)]
          · rw [aFr_s, if_neg (by omega), if_neg c, h3]
    exact key F 0 0 0 s13 rfl (by omega) rfl q13.2.1
  · rw [if_neg c, if_pos rfl, cB_f c, cF_n (a := -1) (by decide), if_neg (by decide)]
    exact mq_ref (cF_n (by decide))
end
