section
/-! the mind's house: what is taken along and changed -/
theorem pc_true {α : Type} {o : Option (α × Mem)} : pc o (fun _ _ => True) := fun _ _ _ => trivial
theorem vH_e {h : Nat} {V : Nat → Int32} {σ s : Mem} (a : vH h V σ) (e : ∀ k, h ≤ k → k ≤ h + 16 → s k = σ k) : vH h V s := ⟨a.1, fun p hp hl => by
  rw [wvX_eq (fun q hq => by rw [e _ (by omega) (by have := wvJ_le q hq; omega)]) hp]
  exact a.2 p hp hl⟩
theorem vG_e {h : Nat} {V : Nat → Int32} {σ s : Mem} (h5 : (V 1).toInt ≤ 5) (g : vG h V σ) (e : ∀ k, h + 18 ≤ k → k ≤ h + 22 → s k = σ k) : vG h V s := fun m hm v hv => by
  rw [e _ (by omega) (by omega)]
  exact g m hm v hv
theorem wcid_24 {k i : Nat} (h : ¬ (24 ≤ k ∧ k ≤ 46)) : ¬ (24 ≤ wcid k i ∧ wcid k i ≤ 46) := by
  unfold wcid
  by_cases c1 : k = 101
  · rw [if_pos c1]; omega
  rw [if_neg c1]
  by_cases c2 : k = 0
  · rw [if_pos c2]; omega
  rw [if_neg c2]
  by_cases c3 : k = 70
  · rw [if_pos c3]; omega
  rw [if_neg c3]
  by_cases c4 : k = 83
  · rw [if_pos c4]; omega
  rw [if_neg c4]
  exact h
/-- all but the mind's house is as it was -/
def o24 (σ s : Mem) : Prop := ∀ k, ¬ (24 ≤ k ∧ k ≤ 46) → s k = σ k
theorem o24_rf {σ : Mem} : o24 σ σ := fun _ _ => rfl
theorem o24_tr {σ s z : Mem} (a : o24 σ s) (b : o24 s z) : o24 σ z := fun k hk => (b k hk).trans (a k hk)
theorem o24_fr {W : Nat → Prop} {σ s : Mem} (f : fr W σ s) (hW : ∀ c, W c → 24 ≤ c ∧ c ≤ 46) : o24 σ s := fun k hk => funext (fun i => f k i (fun w => wcid_24 hk (hW _ w)))
theorem o24_up {σ : Mem} {k i : Nat} {x : Int32} (hk : 24 ≤ k ∧ k ≤ 46) : o24 σ (up2 σ k i x) := fun q hq => up2_k (fun e => hq (by rw [e]; exact hk))
theorem o24_rk {σ s : Mem} (e : ∀ k, ¬ (24 + 18 ≤ k ∧ k ≤ 24 + 22) → s k = σ k) : o24 σ s := fun k hk => e k (by omega)
theorem vH_o {V : Nat → Int32} {σ s : Mem} (a : vH 1 V σ) (o : o24 σ s) : vH 1 V s := vH_e a (fun k _ _ => o k (by omega))
theorem qx_take {F : Nat} (hF : 1000 ≤ F) {σ : Mem} {V : Nat → Int32} (a : vH 1 V σ) : pc (f_X0_takeFrom F 24 1 σ) (fun _ s => vH 24 V s ∧ o24 σ s) := pc_mono (pc_and (ax_takeFrom (by omega)) (pc_pf (fr_X0_takeFrom hF wt_h24 wt_h1))) (fun _ s q => ⟨⟨a.1, fun p hp hl => by rw [q.1 p hp]; exact a.2 p hp hl⟩, o24_fr q.2 (fun c w => by unfold wf_0 at w; omega)⟩)
theorem qx_reckH {F h : Nat} {σ : Mem} {V : Nat → Int32} (a : vH h V σ) : pc (f_X0_reckon F h σ) (fun _ s => (vH h V s ∧ vG h V s) ∧ ∀ k, ¬ (h + 18 ≤ k ∧ k ≤ h + 22) → s k = σ k) := pc_mono (ax_reckon a) (fun _ _ q => ⟨⟨vH_k a q.1, q.2⟩, q.1⟩)
theorem qx_rule24 {F : Nat} (hF : 1000 ≤ F) {x : Int32} {σ : Mem} {V : Nat → Int32} (a : vH 24 V σ) (hx : 0 ≤ x.toInt ∧ x.toInt ≤ 2) : pc (f_X0_rule F 24 x σ) (fun _ s => vH 24 (aLaw V x) s ∧ ∀ k, ¬ k = 24 → s k = σ k) := pc_mono (pc_and ax_rule (pc_pf (fr_X0_rule hF wt_h24))) (fun _ s q => ⟨⟨wvV_aLaw a.1 hx, fun p hp hl => by rw [(q.1.1 hx).2 p hp]; exact weq_aLaw (lim := 188) a.2 p hp hl⟩, fun k hk => funext (fun i => q.2 k i (fun w => by
  unfold wf_7 at w
  by_cases c : 24 ≤ k ∧ k ≤ 46
  · have e := wcid_lo (k := k) (i := i) (by omega) (by omega)
    omega
  · have := wcid_24 (i := i) c
    omega))⟩)
theorem aLaw_n {V : Nat → Int32} {x : Int32} {p : Nat} (h : ¬ p = 2) : aLaw V x p = V p := wv_un h
theorem aLaw_2 {V : Nat → Int32} {x : Int32} : aLaw V x 2 = x := wv_us
theorem aLaw_id {V : Nat → Int32} : aLaw V (V 2) = V := funext (fun p => by
  by_cases c : p = 2
  · rw [c, aLaw_2]
  · exact aLaw_n c)
theorem aLaw_tw {V : Nat → Int32} {x y : Int32} : aLaw (aLaw V x) y = aLaw V y := funext (fun p => by
  by_cases c : p = 2
  · rw [c, aLaw_2, aLaw_2]
  · rw [aLaw_n c, aLaw_n c, aLaw_n c])
theorem aGain_law {V : Nat → Int32} {x : Int32} {l v : Nat} : ∀ t, aGain (aLaw V x) l v t = aGain V l v t := fun t => by
  have eA : aAll (aLaw V x) (V 0).toNatClampNeg = aAll V (V 0).toNatClampNeg := aAll_cg _ (fun i _ => aLaw_n (by omega))
  have eS : ∀ t, aSees (aLaw V x) l t = aSees V l t := fun t => by
    unfold aSees
    rw [aLaw_n (p := 18 + 2 * l) (by omega), aLaw_n (p := 0) (by omega), eA, aLaw_n (p := 28 + 24 * l + t) (by omega), aLaw_n (p := 12 + (V (28 + 24 * l + t)).toNatClampNeg) (by omega)]
  have eP : ∀ t, aPull (aLaw V x) l t = aPull V l t := fun t => by
    unfold aPull
    rw [aLaw_n (p := 18 + 2 * l) (by omega), aLaw_n (p := 19 + 2 * l) (by omega)]
  induction t with
  | zero => rfl
  | succ t ih =>
    show aGain (aLaw V x) l v t + (if (aSees (aLaw V x) l t >>> (Int32.ofNat v &&& 31)) &&& (1 : Int32) = 1 then aPull (aLaw V x) l (Int32.ofNat t) else 0) = aGain V l v t + (if (aSees V l t >>> (Int32.ofNat v &&& 31)) &&& (1 : Int32) = 1 then aPull V l (Int32.ofNat t) else 0)
    rw [ih, eS, eP]
/-- the reference's house with another law -/
theorem vM_law {V : Nat → Int32} {s : Mem} {x : Int32} (h : vM V s) (hx : 0 ≤ x.toInt ∧ x.toInt ≤ 2) : vM (aLaw V x) (up2 s 101 8 x) := ⟨wvV_aLaw h.1 hx, fun p hp => by
  rw [wvM_at (q := 2) (k := 101) (i := 8) (by decide) rfl rfl hp]
  exact upd_cg (h.2 p hp) rfl⟩
theorem io_3 {k : Nat} (h : k < 3) : 0 ≤ (Int32.ofNat k).toInt ∧ (Int32.ofNat k).toInt ≤ 2 := by rw [io_nat k (by omega)]; omega
/-! rows of owners -/
def aIn (y : Int32) : Int32 := if y = -9 then 99 else y
def aRT (V : Nat → Int32) (row : Nat → Int32) (x : Int32) : Nat → Bool
  | 0 => true
  | i + 1 => aRT V row x i && decide (row i = aIn (aHold V x i))
theorem aRT_t {V row : Nat → Int32} {x : Int32} {i : Nat} (e : row i = aIn (aHold V x i)) : aRT V row x (i + 1) = aRT V row x i := by
  show (aRT V row x i && decide (row i = aIn (aHold V x i))) = _
  rw [decide_eq_true e, Bool.and_true]
theorem aRT_f {V row : Nat → Int32} {x : Int32} {i : Nat} (e : ¬ row i = aIn (aHold V x i)) : aRT V row x (i + 1) = false := by
  show (aRT V row x i && decide (row i = aIn (aHold V x i))) = _
  rw [decide_eq_false e, Bool.and_false]
theorem aRT_dn {V row : Nat → Int32} {x : Int32} {i : Nat} (e : aRT V row x i = false) : ∀ k, aRT V row x (i + k) = false := fun k => by
  induction k with
  | zero => exact e
  | succ k ih =>
    show (aRT V row x (i + k) && decide (row (i + k) = aIn (aHold V x (i + k)))) = false
    rw [ih, Bool.false_and]
theorem ax_inRow {F : Nat} {x : Int32} {σ : Mem} : f_X3_inRow F x σ = some (aIn x, σ) := by
  rw [f_X3_inRow_e]
  unfold aIn
  by_cases c : x = -9
  · rw [if_pos c, if_pos c]
  · rw [if_neg c, if_neg c]
def b01 (b : Bool) : Int32 := if b = true then 1 else 0
theorem qx_rowTells {F : Nat} {x1 : Int32} {n : Nat} {σ : Mem} {V : Nat → Int32} (a : vH 24 V σ ∧ vG 24 V σ) (hn : (σ 0 7).toInt = (n : Int)) (hn8 : n ≤ 8) : pc (f_X3_rowTells F x1 σ) (fun r s => r = b01 (aRT V (σ 85) x1 n) ∧ s = σ) := by
  have key : ∀ (N i : Nat) (x2 : Int32), x2.toInt = (i : Int) → i ≤ n → aRT V (σ 85) x1 i = true → pc (lp_X3_rowTells_2 F x1 N x2 σ) (fun r s => r = b01 (aRT V (σ 85) x1 n) ∧ s = σ) := by
    intro N
    induction N with
    | zero => intro i x2 h1 h2 h3; exact pc_none rfl
    | succ N ih =>
      intro i x2 h1 h2 h3
      rw [lp_X3_rowTells_2_s]
      simp only [j_X3_rowTells_45_e]
      refine pc_ite (fun c => ?_) (fun c => pc_ite (fun c8 => ?_) (fun c8 => pc_chk (fun _ => ?_)))
      · have d := ti_le c
        rw [show i = n by omega] at h3
        exact pc_ret ⟨by rw [h3]; rfl, rfl⟩
      · have d := ti_nle c
        have d8 := ti_le c8
        rw [tz_8] at d8
        omega
      · have d := ti_nle c
        have hi : i < n := by omega
        refine pc_bnd (qx_holder a.1 a.2 h1 (by omega)) (fun r s q => ?_)
        rw [q.2, q.1]
        refine pc_be ax_inRow ?_
        rw [tn_int h1]
        refine pc_ite (fun e => ih (i + 1) _ (ti_nx h1 (by omega)) (by omega) (by rw [aRT_t e]; exact h3)) (fun e => pc_ret ⟨?_, rfl⟩)
        have w := aRT_dn (aRT_f e) (n - (i + 1))
        rw [show i + 1 + (n - (i + 1)) = n by omega] at w
        rw [w]
        rfl
  rw [f_X3_rowTells_e]
  exact key F 0 0 rfl (by omega) rfl
theorem qm_isRow {F : Nat} {x1 : Int32} (hx : 0 ≤ x1.toInt ∧ x1.toInt ≤ 9999) {n : Nat} {s : Mem} {V row : Nat → Int32} (h : vM V s) (hn : (s 101 34).toInt = (n : Int)) (hn8 : n ≤ 8) (hr : ∀ i, i < n → s 121 i = row i) : pc (f_X4_isRow F x1 s) (fun r z => r = b01 (aRT V row x1 n) ∧ ∀ k, ¬ k = 109 → ¬ k = 110 → z k = s k) := by
  have h5 := h.1.2.1.2
  have key : ∀ (N i : Nat) (x2 x3 : Int32) (z : Mem), x3.toInt = (i : Int) → i ≤ n → x2 = b01 (aRT V row x1 i) → (∀ k, ¬ k = 109 → ¬ k = 110 → z k = s k) → vB V z → pc (lp_X4_isRow_8 F x1 N x2 x3 z) (fun r z => r = b01 (aRT V row x1 n) ∧ ∀ k, ¬ k = 109 → ¬ k = 110 → z k = s k) := by
    intro N
    induction N with
    | zero => intro i x2 x3 z h1 h2 h3 e b; exact pc_none rfl
    | succ N ih =>
      intro i x2 x3 z h1 h2 h3 e b
      rw [lp_X4_isRow_8_s, e 101 (by decide) (by decide)]
      simp only [j_X4_isRow_54_e, j_X4_isRow_53_e, j_X4_isRow_46_e]
      refine pc_ite (fun c => ?_) (fun c => ?_)
      · have d := ti_le c
        rw [show i = n by omega] at h3
        exact pc_bz (fun _ => pc_ret ⟨h3, e⟩)
      have d := ti_nle c
      have hi : i < n := by omega
      refine pc_bnd (qm_ownerIn hx h1 (by omega) (vM_109 h e) b) (fun r y q => ?_)
      have e' : ∀ k, ¬ k = 109 → ¬ k = 110 → y k = s k := fun k a1 a2 => by rw [q.2 k a2]; exact e k a1 a2
      have b' : vB V y := fun m hm v hv => by rw [q.2 109 (by decide)]; exact b m hm v hv
      have h0 := aHold_0 h.1 hx (v := i) (by omega)
      rw [q.1, tn_int h1, e' 121 (by decide) (by decide), hr i hi]
      have no : aRT V row x1 (i + 1) = false → pc (lp_X4_isRow_8 F x1 N 0 (x3 + 1) y) (fun r z => r = b01 (aRT V row x1 n) ∧ ∀ k, ¬ k = 109 → ¬ k = 110 → z k = s k) := fun w => ih (i + 1) _ _ _ (ti_nx h1 (by omega)) (by omega) (by rw [w]; rfl) e' b'
      cases hb : aRT V row x1 i with
      | false =>
        rw [hb] at h3
        refine pc_ite (fun _ => no (aRT_dn hb 1)) (fun c0 => absurd (h3.trans rfl) c0)
      | true =>
        rw [hb] at h3
        refine pc_ite (fun c0 => absurd (h3.symm.trans c0) (by decide)) (fun _ => pc_chk (fun _ => ?_))
        have yes : row i = aIn (aHold V x1 i) → pc (lp_X4_isRow_8 F x1 N 1 (x3 + 1) y) (fun r z => r = b01 (aRT V row x1 n) ∧ ∀ k, ¬ k = 109 → ¬ k = 110 → z k = s k) := fun w => ih (i + 1) _ _ _ (ti_nx h1 (by omega)) (by omega) (by rw [aRT_t w, hb]; rfl) e' b'
        refine pc_ite (fun c1 => ?_) (fun c1 => ?_)
        · have ea : aIn (aHold V x1 i) = aHold V x1 i := if_neg (h0.mp c1)
          exact pc_ite (fun w => yes (w.trans ea.symm)) (fun w => no (aRT_f (fun w' => w (w'.trans ea))))
        · have ea : aIn (aHold V x1 i) = 99 := if_pos (Classical.byContradiction (fun n => c1 (h0.mpr n)))
          exact pc_ite (fun w => yes (w.trans ea.symm)) (fun w => no (aRT_f (fun w' => w (w'.trans ea))))
  rw [f_X4_isRow_e]
  exact pc_bnd (mx_layBrings h) (fun _ z q => key F 0 1 0 z rfl (by omega) rfl (fun k a _ => q.1 k a) q.2)
/-- answers by the row too -/
theorem eqr {σ : Mem} {o1 : Option (Int32 × Mem)} {o2 : Mem → Option (Int32 × Mem)} {A : (Nat → Int32) → Int32 → (Nat → Int32) → Int32} (h : ∃ r1 s1 r2 s2, o1 = some (r1, s1) ∧ o2 s1 = some (r2, s2) ∧ wR 188 s2) (hw : wR 188 σ) (p0 : pc o1 (fun _ s => ∀ k, 101 ≤ k → s k = σ k)) (p1 : ∀ V, vH 1 V σ → (0 ≤ (σ 0 7).toInt ∧ (σ 0 7).toInt ≤ 12) → pc o1 (fun r _ => r = A V (σ 0 7) (σ 85))) (p2 : ∀ V s n row, vM V s → (0 ≤ n.toInt ∧ n.toInt ≤ 12) → s 101 34 = n → (∀ i, i < n.toNatClampNeg → s 121 i = row i) → pc (o2 s) (fun r _ => r = A V n row)) : ∃ r1 s1 r2 s2, o1 = some (r1, s1) ∧ o2 s1 = some (r2, s2) ∧ wR 188 s2 ∧ r1 = r2 := by
  obtain ⟨r1, s1, r2, s2, e1, e2, w⟩ := h
  obtain ⟨hX, hM, hV, hI, hS, hL, hW⟩ := hw
  have a := p1 _ hV (wx_X3_7 hX) r1 s1 e1
  have hs := p0 r1 s1 e1
  have b := p2 (wvM σ) s1 (σ 0 7) (σ 85) ⟨hV.1, eMV hs⟩ (wx_X3_7 hX) (by rw [hs 101 (by decide)]; exact hW.1.symm) (fun i hi => by rw [hs 121 (by decide)]; exact (hW.2 i (by rw [← hW.1]; exact hi)).symm) r2 s2 e2
  exact ⟨r1, s1, r2, s2, e1, e2, w, a.trans b.symm⟩
/-! which law -/
def cLR (n : Int32) : Int32 := if n ≤ 8 then 0 else -3
def aWL (V row : Nat → Int32) (n : Nat) : Nat → Int32
  | 0 => 0
  | k + 1 => aWL V row n k ||| (if aRT (aLaw V (Int32.ofNat k)) row 0 n = true then (1 : Int32) <<< (Int32.ofNat k &&& 31) else 0)
theorem aWL_t {V row : Nat → Int32} {n k : Nat} (e : aRT (aLaw V (Int32.ofNat k)) row 0 n = true) : aWL V row n (k + 1) = aWL V row n k ||| (1 : Int32) <<< (Int32.ofNat k &&& 31) := by
  show aWL V row n k ||| (if aRT (aLaw V (Int32.ofNat k)) row 0 n = true then (1 : Int32) <<< (Int32.ofNat k &&& 31) else 0) = _
  rw [if_pos e]
theorem aWL_f {V row : Nat → Int32} {n k : Nat} (e : aRT (aLaw V (Int32.ofNat k)) row 0 n = false) : aWL V row n (k + 1) = aWL V row n k := by
  show aWL V row n k ||| (if aRT (aLaw V (Int32.ofNat k)) row 0 n = true then (1 : Int32) <<< (Int32.ofNat k &&& 31) else 0) = _
  rw [if_neg (by rw [e]; decide), Int32.or_zero]
def anWhichLaw (V : Nat → Int32) (n : Int32) (row : Nat → Int32) : Int32 := cF (cLR n) (aWL V row n.toNatClampNeg 3)
theorem ax_longRow {F : Nat} {σ : Mem} : f_X3_longRow F σ = some (cLR (σ 0 7), σ) := by
  rw [f_X3_longRow_e]
  unfold cLR
  by_cases c : σ 0 7 ≤ 8
  · rw [if_pos c, if_pos c]
  · rw [if_neg c, if_neg c]
theorem qxr_whichLaw {F : Nat} (hF : 1000 ≤ F) {σ : Mem} {V : Nat → Int32} (h : vH 1 V σ) (hn : 0 ≤ (σ 0 7).toInt ∧ (σ 0 7).toInt ≤ 12) : pc (f_X3_whichLaw F σ) (fun r _ => r = anWhichLaw V (σ 0 7) (σ 85)) := by
  rw [f_X3_whichLaw_e]
  refine pc_be ax_longRow ?_
  unfold anWhichLaw
  refine cq_end (fun e => pc_bnd (qx_take hF h) (fun _ s q => ?_))
  have c8 : σ 0 7 ≤ 8 := by
    by_cases c : σ 0 7 ≤ 8
    · exact c
    · rw [show cLR (σ 0 7) = -3 from if_neg c] at e; exact absurd e (by decide)
  have d8 := ti_le c8
  rw [tz_8] at d8
  have n1 := ti_nat (σ 0 7)
  have key : ∀ (N k : Nat) (x2 x3 y : Int32) (s : Mem), x3.toInt = (k : Int) → k ≤ 3 → x2 = aWL V (σ 85) (σ 0 7).toNatClampNeg k → vH 24 (aLaw V y) s → o24 σ s → pc (lp_X3_whichLaw_30 F N x2 x3 s) (fun r _ => r = aWL V (σ 85) (σ 0 7).toNatClampNeg 3) := by
    intro N
    induction N with
    | zero => intro k x2 x3 y s h1 h2 h3 a o; exact pc_none rfl
    | succ N ih =>
      intro k x2 x3 y s h1 h2 h3 a o
      rw [lp_X3_whichLaw_30_s]
      simp only [j_X3_whichLaw_65_e]
      refine pc_ite (fun c => ?_) (fun c => ?_)
      · have d := ti_le c
        rw [tz_3] at d
        exact pc_ret (by rw [h3, show k = 3 by omega])
      have d := ti_nle c
      rw [tz_3] at d
      have e3 := io_eq h1 (by omega)
      refine pc_bnd (qx_rule24 hF a (by omega)) (fun _ s2 q => ?_)
      rw [aLaw_tw] at q
      refine pc_bnd (qx_reckH q.1) (fun _ s4 q4 => ?_)
      have o4 : o24 σ s4 := o24_tr o (o24_tr (fun j hj => q.2 j (by omega)) (o24_rk q4.2))
      refine pc_bnd (qx_rowTells q4.1 (n := (σ 0 7).toNatClampNeg) (by rw [o4 0 (by decide)]; omega) (by omega)) (fun r s6 q6 => ?_)
      rw [q6.2, q6.1, o4 85 (by decide)]
      rw [e3] at q4
      cases hb : aRT (aLaw V x3) (σ 85) 0 (σ 0 7).toNatClampNeg with
      | false =>
        refine pc_ite (fun _ => ih (k + 1) _ _ _ _ (ti_nx h1 (by omega)) (by omega) ?_ q4.1.1 o4) (fun w => absurd rfl w)
        rw [aWL_f (by rw [← e3]; exact hb)]; exact h3
      | true =>
        refine pc_ite (fun w => absurd w (by decide)) (fun _ => pc_lt (fun z7 hz => ih (k + 1) _ _ _ _ (ti_nx h1 (by omega)) (by omega) ?_ q4.1.1 o4))
        rw [aWL_t (by rw [← e3]; exact hb), hz, h3, e3]
  exact key F 0 0 0 (V 2) s rfl (by omega) rfl (by rw [aLaw_id]; exact q.1) q.2
theorem qmr_whichLaw {F : Nat} {n : Int32} {row : Nat → Int32} {s : Mem} {V : Nat → Int32} (h : vM V s) (hn : 0 ≤ n.toInt ∧ n.toInt ≤ 12) (h34 : s 101 34 = n) (hr : ∀ i, i < n.toNatClampNeg → s 121 i = row i) : pc (f_X4_whichLaw F s) (fun r _ => r = anWhichLaw V n row) := by
  rw [f_X4_whichLaw_e]
  refine pc_lt (fun s5 g5 => ?_)
  have h' : vM V s5 := vM_up h g5
  have e34 : s5 101 34 = n := by rw [g5, up2_i (by decide)]; exact h34
  have er : ∀ i, i < n.toNatClampNeg → s5 121 i = row i := fun i hi => by rw [g5, up2_k (by decide)]; exact hr i hi
  clear g5
  rw [e34]
  unfold anWhichLaw
  have n1 := ti_nat n
  refine pc_ite (fun c8 => ?_) (fun c8 => ?_)
  · have d8 := ti_le c8
    rw [tz_8] at d8
    rw [show cLR n = 0 from if_pos c8, cF_z]
    have key : ∀ (N k : Nat) (x1 x2 x3 y : Int32) (z : Mem), x3.toInt = (k : Int) → k ≤ 3 → x2 = aWL V row n.toNatClampNeg k → vM (aLaw V y) z → z 101 34 = n → z 121 = s5 121 → pc (lp_X4_whichLaw_30 F x1 N x2 x3 z) (fun r _ => r = aWL V row n.toNatClampNeg 3) := by
      intro N
      induction N with
      | zero => intro k x1 x2 x3 y z h1 h2 h3 a e r; exact pc_none rfl
      | succ N ih =>
        intro k x1 x2 x3 y z h1 h2 h3 a e r
        rw [lp_X4_whichLaw_30_s]
        simp only [j_X4_whichLaw_56_e]
        refine pc_ite (fun c => ?_) (fun c => ?_)
        · have d := ti_le c
          rw [tz_3] at d
          exact pc_lt (fun s1 _ => pc_ret (by rw [h3, show k = 3 by omega]))
        have d := ti_nle c
        rw [tz_3] at d
        have e3 := io_eq h1 (by omega)
        refine pc_lt (fun s2 g2 => ?_)
        have a2 : vM (aLaw V x3) s2 := by
          have w := vM_law (x := x3) a (by omega)
          rw [aLaw_tw] at w
          rw [g2]; exact w
        have e2 : s2 101 34 = n := by rw [g2, up2_i (by decide)]; exact e
        have r2 : s2 121 = s5 121 := by rw [g2, up2_k (by decide)]; exact r
        clear g2
        refine pc_bnd (qm_isRow (x1 := 0) (row := row) (by decide) a2 (n := n.toNatClampNeg) (by rw [e2]; omega) (by omega) (fun i hi => by rw [r2]; exact er i hi)) (fun r4 s4 q => ?_)
        have a4 : vM (aLaw V x3) s4 := vM_109 a2 q.2
        have e4 : s4 101 34 = n := by rw [q.2 101 (by decide) (by decide)]; exact e2
        have r5 : s4 121 = s5 121 := by rw [q.2 121 (by decide) (by decide)]; exact r2
        rw [q.1]
        cases hb : aRT (aLaw V x3) row 0 n.toNatClampNeg with
        | false =>
          refine pc_ite (fun _ => ih (k + 1) _ _ _ _ _ (ti_nx h1 (by omega)) (by omega) ?_ a4 e4 r5) (fun w => absurd rfl w)
          rw [aWL_f (by rw [← e3]; exact hb), Int32.or_zero]; exact h3
        | true =>
          refine pc_ite (fun w => absurd w (by decide)) (fun _ => ih (k + 1) _ _ _ _ _ (ti_nx h1 (by omega)) (by omega) ?_ a4 e4 r5)
          rw [aWL_t (by rw [← e3]; exact hb), h3, e3]
    exact key F 0 _ 0 0 (V 2) s5 rfl (by omega) rfl (by rw [aLaw_id]; exact h') e34 rfl
  · rw [show cLR n = -3 from if_neg c8]
    exact mq_ref (cF_n (by decide))
/-! the best law -/
def aBL (V : Nat → Int32) (x1 x2 : Int32) : Nat → Int32 × Int32
  | 0 => (0, -1)
  | k + 1 => if aWealth (aLaw V (Int32.ofNat k)) x1 x2 8 ≤ (aBL V x1 x2 k).2 then aBL V x1 x2 k else (Int32.ofNat k, aWealth (aLaw V (Int32.ofNat k)) x1 x2 8)
theorem aBL_s {V : Nat → Int32} {x1 x2 : Int32} {k : Nat} : aBL V x1 x2 (k + 1) = if aWealth (aLaw V (Int32.ofNat k)) x1 x2 8 ≤ (aBL V x1 x2 k).2 then aBL V x1 x2 k else (Int32.ofNat k, aWealth (aLaw V (Int32.ofNat k)) x1 x2 8) := rfl
def anBestLaw (V : Nat → Int32) (x1 x2 : Int32) : Int32 := cF (cF (cB (0 ≤ x1.toInt ∧ x1.toInt < (V 1).toInt)) (cN x2 0 999)) (aBL V x1 x2 3).1
theorem vG_law {h : Nat} {V : Nat → Int32} {x : Int32} {s : Mem} (g : vG h V s) : vG h (aLaw V x) s := fun m hm v hv => by
  rw [aLaw_n (by decide)] at hm
  rw [aGain_law]; exact g m hm v hv
theorem vB_law {V : Nat → Int32} {x : Int32} {s : Mem} (g : vB V s) : vB (aLaw V x) s := fun m hm v hv => by
  rw [aLaw_n (by decide)] at hm
  rw [aGain_law]; exact g m hm v hv
theorem qx_bestLaw {F : Nat} (hF : 1000 ≤ F) {x1 x2 : Int32} {σ : Mem} {V : Nat → Int32} (h : vH 1 V σ) : pc (f_X3_bestLaw F x1 x2 σ) (fun r _ => r = anBestLaw V x1 x2) := by
  rw [f_X3_bestLaw_e, f_X3_noLookerFar_e]
  refine pc_be (by rw [wt_bnd_eq (ax_noLooker (by rw [vH_2 h]; exact h.1.2.1.2)), wt_bnd_eq ax_outside, wt_bnd_eq ax_firstOf]) ?_
  rw [vH_2 h]
  unfold anBestLaw
  refine cq_end (fun e => pc_bnd (qx_take hF h) (fun _ s q => pc_bnd (qx_reckH q.1) (fun _ s2 q2 => ?_)))
  have h5 := h.1.2.1.2
  have key : ∀ (N k : Nat) (x4 x5 x6 y : Int32) (s : Mem), x6.toInt = (k : Int) → k ≤ 3 → (x4, x5) = aBL V x1 x2 k → vH 24 (aLaw V y) s → vG 24 V s → pc (lp_X3_bestLaw_44 F x1 x2 N x4 x5 x6 s) (fun r _ => r = (aBL V x1 x2 3).1) := by
    intro N
    induction N with
    | zero => intro k x4 x5 x6 y s h1 h2 h3 a g; exact pc_none rfl
    | succ N ih =>
      intro k x4 x5 x6 y s h1 h2 h3 a g
      have e4 : x4 = (aBL V x1 x2 k).1 := congrArg Prod.fst h3
      have e5 : x5 = (aBL V x1 x2 k).2 := congrArg Prod.snd h3
      rw [lp_X3_bestLaw_44_s]
      simp only [j_X3_bestLaw_86_e]
      refine pc_ite (fun c => ?_) (fun c => ?_)
      · have d := ti_le c
        rw [tz_3] at d
        exact pc_ret (by rw [e4, show k = 3 by omega])
      have d := ti_nle c
      rw [tz_3] at d
      have e6 := io_eq h1 (by omega)
      refine pc_bnd (qx_rule24 hF a (by omega)) (fun _ s2 q => ?_)
      rw [aLaw_tw] at q
      have g2 : vG 24 V s2 := vG_e h5 g (fun j _ _ => q.2 j (by omega))
      refine pc_bnd (qx_wealth ⟨q.1, vG_law g2⟩) (fun r s4 q4 => ?_)
      rw [q4.2, q4.1, e5, e6]
      rw [e6] at q
      refine pc_ite (fun w => ih (k + 1) _ _ _ _ _ (by rw [← e6]; exact ti_nx h1 (by omega)) (by omega) ?_ q.1 g2) (fun w => ih (k + 1) _ _ _ _ _ (by rw [← e6]; exact ti_nx h1 (by omega)) (by omega) ?_ q.1 g2)
      · rw [aBL_s, if_pos w, ← e5]; exact h3
      · rw [aBL_s, if_neg w]
  exact key F 0 0 (-1) 0 (V 2) s2 rfl (by omega) rfl (by rw [aLaw_id]; exact q2.1.1) q2.1.2
theorem qm_bestLaw {F : Nat} {x1 x2 : Int32} {s : Mem} {V : Nat → Int32} (h : vM V s) : pc (f_X4_bestLaw F x1 x2 s) (fun r _ => r = anBestLaw V x1 x2) := by
  rw [f_X4_bestLaw_e]
  refine pc_lt (fun s6 h6 => ?_)
  have h' : vM V s6 := vM_up h h6
  clear h6
  simp only [j_X4_bestLaw_25_e]
  refine pc_be (mx_isLooker (by rw [vM_L h']; exact h.1.2.1.1)) ?_
  rw [vM_L h']
  unfold anBestLaw
  by_cases c : 0 ≤ x1.toInt ∧ x1.toInt < (V 1).toInt
  · rw [if_pos c, if_neg (by decide), cB_t c, cF_z]
    refine pc_be mx_wrongN ?_
    refine mq_end sg_cN (fun e => pc_bnd (qm_lay h') (fun _ z q => ?_))
    have d2 := cN_0 e
    rw [tz_0, tz_999'] at d2
    have hx : 0 ≤ x2.toInt ∧ x2.toInt ≤ 9999 := ⟨d2.1, by omega⟩
    have key : ∀ (N k : Nat) (x0 x5 x6 x7 y : Int32) (s : Mem), x7.toInt = (k : Int) → k ≤ 3 → (x5, x6) = aBL V x1 x2 k → mRdy (aLaw V y) s → pc (lp_X4_bestLaw_55 F x1 x2 x0 N x5 x6 x7 s) (fun r _ => r = (aBL V x1 x2 3).1) := by
      intro N
      induction N with
      | zero => intro k x0 x5 x6 x7 y s h1 h2 h3 a; exact pc_none rfl
      | succ N ih =>
        intro k x0 x5 x6 x7 y s h1 h2 h3 a
        have e5 : x5 = (aBL V x1 x2 k).1 := congrArg Prod.fst h3
        have e6 : x6 = (aBL V x1 x2 k).2 := congrArg Prod.snd h3
        rw [lp_X4_bestLaw_55_s]
        simp only [j_X4_bestLaw_89_e, j_X4_bestLaw_105_e]
        refine pc_ite (fun c => ?_) (fun c => ?_)
        · have d := ti_le c
          rw [tz_3] at d
          exact pc_lt (fun s1 _ => pc_ret (by rw [e5, show k = 3 by omega]))
        have d := ti_nle c
        rw [tz_3] at d
        have e7 := io_eq h1 (by omega)
        refine pc_lt (fun s2 g2 => ?_)
        have a2 : mRdy (aLaw V x7) s2 := by
          have w := vM_law (x := x7) a.1 (by omega)
          rw [aLaw_tw] at w
          have b := vB_law (x := x7) a.2
          rw [aLaw_tw] at b
          rw [g2]
          exact ⟨w, fun m hm v hv => by rw [up2_k (by decide)]; exact b m hm v hv⟩
        clear g2
        refine pc_bnd (qm_worthIn hx a2) (fun r3 s4 q => ?_)
        rw [q.1, e6, e7]
        have q2 := q.2
        rw [e7] at q2
        refine pc_ite (fun w => ?_) (fun w => ?_)
        · rw [if_pos w]
          exact ih (k + 1) _ _ _ _ _ _ (by rw [← e7]; exact ti_nx h1 (by omega)) (by omega) (by rw [aBL_s, if_pos w, ← e6]; exact h3) q2
        · rw [if_neg w]
          exact ih (k + 1) _ _ _ _ _ _ (by rw [← e7]; exact ti_nx h1 (by omega)) (by omega) (by rw [aBL_s, if_neg w]) q2
    exact key F 0 _ 0 (-1) 0 (V 2) z rfl (by omega) rfl (by rw [aLaw_id]; exact q)
  · rw [if_neg c, if_pos rfl, cB_f c, cF_n (a := -1) (by decide), if_neg (by decide)]
    exact mq_ref (cF_n (by decide))
end
section
/-! last -/
def aMx (a b : Int32) : Int32 := if b ≤ a then a else b
def aLs1 (V : Nat → Int32) (v : Nat) (e : Int32) : Nat → Int32 → Int32
  | 0, x => x
  | k + 1, x => if aHold V (x - 1) v = e then aLs1 V v e k (x + (-1)) else x
theorem aLs1_t {V : Nat → Int32} {v k : Nat} {e x : Int32} (c : aHold V (x - 1) v = e) : aLs1 V v e (k + 1) x = aLs1 V v e k (x + (-1)) := by
  show (if aHold V (x - 1) v = e then aLs1 V v e k (x + (-1)) else x) = _
  rw [if_pos c]
theorem aLs1_f {V : Nat → Int32} {v k : Nat} {e x : Int32} (c : ¬ aHold V (x - 1) v = e) : aLs1 V v e (k + 1) x = x := by
  show (if aHold V (x - 1) v = e then aLs1 V v e k (x + (-1)) else x) = _
  rw [if_neg c]
theorem ti_m1' {x : Int32} {k : Nat} (h : x.toInt = ((k + 1 : Nat) : Int)) : (x + (-1 : Int32)).toInt = (k : Int) := by
  rw [ti_m1 (by omega)]
  omega
theorem aLs1_b {V : Nat → Int32} {v : Nat} {e : Int32} : ∀ (k : Nat) (x : Int32), x.toInt = (k : Int) → 0 ≤ (aLs1 V v e k x).toInt ∧ (aLs1 V v e k x).toInt ≤ (k : Int) := fun k => by
  induction k with
  | zero => intro x h; show 0 ≤ x.toInt ∧ x.toInt ≤ _; omega
  | succ k ih =>
    intro x h
    by_cases c : aHold V (x - 1) v = e
    · rw [aLs1_t c]
      have := ih _ (ti_m1' h)
      omega
    · rw [aLs1_f c]; omega
def aLs (V : Nat → Int32) : Nat → Int32
  | 0 => 0
  | v + 1 => aMx (aLs V v) (aLs1 V v (aHold V 999 v) 999 999)
def anLast (V : Nat → Int32) : Int32 := aLs V 8
theorem aMx_b {a b : Int32} (ha : 0 ≤ a.toInt ∧ a.toInt ≤ 999) (hb : 0 ≤ b.toInt ∧ b.toInt ≤ 999) : 0 ≤ (aMx a b).toInt ∧ (aMx a b).toInt ≤ 999 := by
  unfold aMx
  by_cases c : b ≤ a
  · rw [if_pos c]; exact ha
  · rw [if_neg c]; exact hb
theorem aLs_b {V : Nat → Int32} : ∀ v, 0 ≤ (aLs V v).toInt ∧ (aLs V v).toInt ≤ 999 := fun v => by
  induction v with
  | zero => exact ⟨Int.le_refl 0, (by decide : (0 : Int) ≤ 999)⟩
  | succ v ih => exact aMx_b ih (by have := aLs1_b (V := V) (v := v) (e := aHold V 999 v) 999 999 rfl; omega)
theorem qx_last_34 {F : Nat} {x1 x2 x3 : Int32} {v : Nat} {σ : Mem} {V : Nat → Int32} (a : cRdy V σ) (hv : x2.toInt = (v : Int)) (hv8 : v < 8) (h0 : 0 ≤ x1.toInt) {k11 : Int32 → Int32 → Mem → Option (Int32 × Mem)} {Q : Int32 → Mem → Prop} : ∀ (N k : Nat) (x4 : Int32), x4.toInt = (k : Int) → x1.toInt ≤ x4.toInt → pc (k11 (aMx x1 (aLs1 V v x3 k x4)) (x2 + 1) σ) Q → pc (lp_X3_last_34 F k11 x1 x2 x3 N x4 σ) Q := by
  intro N
  induction N with
  | zero => intro k x4 h1 h2 hk; exact pc_none rfl
  | succ N ih =>
    intro k x4 h1 h2 hk
    rw [lp_X3_last_34_s]
    simp only [j_X3_last_62_e]
    refine pc_ite (fun c => ?_) (fun c => ?_)
    · have d := ti_le c
      have e : x4 = x1 := Int32.toInt_inj.mp (by omega)
      have b := aLs1_b (V := V) (v := v) (e := x3) k x4 h1
      rw [show aMx x1 (aLs1 V v x3 k x4) = x1 from if_pos (Int32.le_iff_toInt_le.mpr (by omega))] at hk
      rw [e]; exact hk
    · have d := ti_nle c
      obtain ⟨k', rfl⟩ : ∃ k', k = k' + 1 := ⟨k - 1, by omega⟩
      refine pc_bnd (qx_hold a hv hv8) (fun r s q => ?_)
      rw [q.2, q.1]
      refine pc_ite (fun w => ?_) (fun w => ?_)
      · rw [aLs1_t w] at hk
        exact ih k' _ (ti_m1' h1) (by rw [ti_m1' h1]; omega) hk
      · rw [aLs1_f w, show aMx x1 x4 = x4 from if_neg c] at hk
        exact hk
theorem qx_last {F : Nat} {σ : Mem} {V : Nat → Int32} (h : vH 1 V σ) : pc (f_X3_last F σ) (fun r _ => r = anLast V) := by
  rw [f_X3_last_e]
  refine pc_bnd (qx_reckon h) (fun _ s a => ?_)
  have key : ∀ (N v : Nat) (x1 x2 : Int32), x2.toInt = (v : Int) → v ≤ 8 → x1 = aLs V v → pc (lp_X3_last_11 F N x1 x2 s) (fun r _ => r = anLast V) := by
    intro N
    induction N with
    | zero => intro v x1 x2 h1 h2 h3; exact pc_none rfl
    | succ N ih =>
      intro v x1 x2 h1 h2 h3
      rw [lp_X3_last_11_s]
      refine pc_ite (fun c => ?_) (fun c => ?_)
      · have d := ti_le c
        rw [tz_8] at d
        exact pc_ret (by rw [h3, show v = 8 by omega]; rfl)
      have d := ti_nle c
      rw [tz_8] at d
      refine pc_bnd (qx_hold a h1 (by omega)) (fun r z q => ?_)
      have b := aLs_b (V := V) v
      rw [q.2, q.1]
      exact qx_last_34 a h1 (by omega) (by rw [h3]; exact b.1) F 999 999 rfl (by rw [h3, tz_999']; exact b.2) (ih (v + 1) _ _ (ti_nx h1 (by omega)) (by omega) (by rw [h3]; rfl))
  exact key F 0 0 0 rfl (by omega) rfl
theorem qm_last_33 {F : Nat} {x1 x2 x3 : Int32} {v : Nat} {V : Nat → Int32} (hv : x2.toInt = (v : Int)) (hv8 : v < 8) {k13 : Int32 → Int32 → Mem → Option (Int32 × Mem)} {Q : Int32 → Mem → Prop} : ∀ (N k : Nat) (x4 : Int32) (s : Mem), mRdy V s → x4.toInt = (k : Int) → k ≤ 999 → (∀ z, mRdy V z → pc (k13 (aMx x1 (aLs1 V v x3 k x4)) (x2 + 1) z) Q) → pc (lp_X4_last_33 F k13 x1 x2 x3 N x4 s) Q := by
  intro N
  induction N with
  | zero => intro k x4 s a h1 h2 hk; exact pc_none rfl
  | succ N ih =>
    intro k x4 s a h1 h2 hk
    rw [lp_X4_last_33_s]
    simp only [j_X4_last_57_e, j_X4_last_69_e]
    have fin : ∀ z, mRdy V z → aLs1 V v x3 k x4 = x4 → pc (if x4 ≤ x1 then k13 x1 (x2 + 1) z else k13 x4 (x2 + 1) z) Q := fun z hz e => by
      have w := hk z hz
      rw [e] at w
      refine pc_ite (fun c => ?_) (fun c => ?_)
      · rw [show aMx x1 x4 = x1 from if_pos c] at w; exact w
      · rw [show aMx x1 x4 = x4 from if_neg c] at w; exact w
    refine pc_ite (fun c => ?_) (fun c => ?_)
    · have d := ti_le c
      rw [tz_0] at d
      have k0 : k = 0 := by omega
      subst k0
      exact fin s a rfl
    · have d := ti_nle c
      rw [tz_0] at d
      obtain ⟨k', rfl⟩ : ∃ k', k = k' + 1 := ⟨k - 1, by omega⟩
      have em : (x4 - 1).toInt = (k' : Int) := by rw [ti_pred (by omega)]; omega
      refine pc_bnd (qm_own ⟨by omega, by omega⟩ hv hv8 a) (fun r z q => ?_)
      rw [q.1]
      refine pc_ite (fun w => ?_) (fun w => fin z q.2 (aLs1_f w))
      exact ih k' _ z q.2 (ti_m1' h1) (by omega) (fun y hy => by
        have u := hk y hy
        rw [aLs1_t w] at u
        exact u)
theorem qm_last {F : Nat} {s : Mem} {V : Nat → Int32} (h : vM V s) : pc (f_X4_last F s) (fun r _ => r = anLast V) := by
  rw [f_X4_last_e]
  refine pc_lt (fun s5 h5 => ?_)
  have h' : vM V s5 := vM_up h h5
  clear h5
  refine pc_bnd (qm_lay h') (fun _ s a => ?_)
  have key : ∀ (N v : Nat) (x1 x2 : Int32) (s : Mem), mRdy V s → x2.toInt = (v : Int) → v ≤ 8 → x1 = aLs V v → pc (lp_X4_last_13 F N x1 x2 s) (fun r _ => r = anLast V) := by
    intro N
    induction N with
    | zero => intro v x1 x2 s a h1 h2 h3; exact pc_none rfl
    | succ N ih =>
      intro v x1 x2 s a h1 h2 h3
      rw [lp_X4_last_13_s]
      refine pc_ite (fun c => ?_) (fun c => ?_)
      · have d := ti_le c
        rw [tz_8] at d
        exact pc_ret (by rw [h3, show v = 8 by omega]; rfl)
      have d := ti_nle c
      rw [tz_8] at d
      refine pc_bnd (qm_own (x2 := 999) (by decide) h1 (by omega) a) (fun r z q => ?_)
      rw [q.1]
      exact qm_last_33 h1 (by omega) F 999 999 z q.2 rfl (by omega) (fun y hy => ih (v + 1) _ _ y hy (ti_nx h1 (by omega)) (by omega) (by rw [h3]; rfl))
  exact key F 0 0 0 s a rfl (by omega) rfl
/-! judge -/
def aJ (V row : Nat → Int32) (v : Nat) : Nat → Nat → Int32
  | 0, _ => -9
  | k + 1, i => if row i = aIn (aHold V (Int32.ofNat i) v) then aJ V row v k (i + 1) else Int32.ofNat i
theorem aJ_t {V row : Nat → Int32} {v k i : Nat} (e : row i = aIn (aHold V (Int32.ofNat i) v)) : aJ V row v (k + 1) i = aJ V row v k (i + 1) := by
  show (if row i = aIn (aHold V (Int32.ofNat i) v) then aJ V row v k (i + 1) else Int32.ofNat i) = _
  rw [if_pos e]
theorem aJ_f {V row : Nat → Int32} {v k i : Nat} (e : ¬ row i = aIn (aHold V (Int32.ofNat i) v)) : aJ V row v (k + 1) i = Int32.ofNat i := by
  show (if row i = aIn (aHold V (Int32.ofNat i) v) then aJ V row v k (i + 1) else Int32.ofNat i) = _
  rw [if_neg e]
def anJudge (V : Nat → Int32) (x1 n : Int32) (row : Nat → Int32) : Int32 := cF (cB (0 ≤ x1.toInt ∧ x1.toInt ≤ 7)) (aJ V row x1.toNatClampNeg n.toNatClampNeg 0)
theorem qx_judge_25 {F : Nat} {x1 : Int32} {v n : Nat} {σ : Mem} {V : Nat → Int32} (a : cRdy V σ) (hv : x1.toInt = (v : Int)) (hv8 : v < 8) (hn : (σ 0 7).toInt = (n : Int)) (hn12 : n ≤ 12) : ∀ (N k i : Nat) (x2 x3 : Int32), x3.toInt = (i : Int) → i + k = n → x2 = -9 → pc (lp_X3_judge_25 F x1 N x2 x3 σ) (fun r _ => r = aJ V (σ 85) v k i) := by
  intro N
  induction N with
  | zero => intro k i x2 x3 h1 h2 h3; exact pc_none rfl
  | succ N ih =>
    intro k i x2 x3 h1 h2 h3
    rw [lp_X3_judge_25_s]
    simp only [j_X3_judge_62_e, j_X3_judge_68_e]
    refine pc_ite (fun c => ?_) (fun c => pc_ite (fun c9 => pc_chk (fun _ => ?_)) (fun c9 => absurd h3 c9))
    · have d := ti_le c
      have k0 : k = 0 := by omega
      subst k0
      exact pc_lt (fun s1 _ => pc_ret h3)
    · have d := ti_nle c
      obtain ⟨k', rfl⟩ : ∃ k', k = k' + 1 := ⟨k - 1, by omega⟩
      have e3 := io_eq h1 (by omega)
      refine pc_bnd (qx_hold a hv hv8) (fun r s q => ?_)
      rw [q.2, q.1]
      refine pc_be ax_inRow ?_
      rw [tn_int h1]
      refine pc_ite (fun w => ?_) (fun w => ?_)
      · rw [aJ_t (by rw [← e3]; exact w)]
        exact ih k' (i + 1) _ _ (ti_nx h1 (by omega)) (by omega) h3
      · rw [aJ_f (by rw [← e3]; exact w), ← e3]
        have n9 : ¬ x3 = -9 := fun e => by
          rw [e] at h1
          have : (-9 : Int32).toInt = -9 := rfl
          omega
        cases N with
        | zero => exact pc_none rfl
        | succ N =>
          rw [lp_X3_judge_25_s]
          simp only [j_X3_judge_62_e, j_X3_judge_68_e]
          exact pc_ite (fun _ => pc_lt (fun s1 _ => pc_ret rfl)) (fun _ => pc_ite (fun e => absurd e n9) (fun _ => pc_lt (fun s1 _ => pc_ret rfl)))
theorem qxr_judge {F : Nat} {x1 : Int32} {σ : Mem} {V : Nat → Int32} (h : vH 1 V σ) (hn : 0 ≤ (σ 0 7).toInt ∧ (σ 0 7).toInt ≤ 12) : pc (f_X3_judge F x1 σ) (fun r _ => r = anJudge V x1 (σ 0 7) (σ 85)) := by
  rw [f_X3_judge_e]
  refine pc_be ax_isView ?_
  unfold anJudge
  have m1 := ti_nat (σ 0 7)
  by_cases c : 0 ≤ x1.toInt ∧ x1.toInt ≤ 7
  · rw [if_pos c, if_neg (by decide), cB_t c, cF_z]
    have n1 := ti_nat x1
    refine pc_bnd (ax_reckon h) (fun _ s q => ?_)
    have a : cRdy V s := ⟨vH_k h q.1, q.2⟩
    have w := qx_judge_25 (F := F) (x1 := x1) (v := x1.toNatClampNeg) (n := (σ 0 7).toNatClampNeg) a (by omega) (by omega) (by rw [q.1 0 (by decide)]; omega) (by omega) F (σ 0 7).toNatClampNeg 0 (-9) 0 rfl (by omega) rfl
    rw [q.1 85 (by decide)] at w
    exact w
  · rw [if_neg c, if_pos rfl, cB_f c]
    exact pc_bnd ax_refuse (fun r y u => pc_ret (by rw [u.1, cF_n (by decide)]))
theorem qmr_judge {F : Nat} {x1 : Int32} {n : Int32} {row : Nat → Int32} {s : Mem} {V : Nat → Int32} (h : vM V s) (hn : 0 ≤ n.toInt ∧ n.toInt ≤ 12) (h34 : s 101 34 = n) (hr : ∀ i, i < n.toNatClampNeg → s 121 i = row i) : pc (f_X4_judge F x1 s) (fun r _ => r = anJudge V x1 n row) := by
  rw [f_X4_judge_e]
  refine pc_lt (fun s5 g5 => ?_)
  have h' : vM V s5 := vM_up h g5
  have e34 : s5 101 34 = n := by rw [g5, up2_i (by decide)]; exact h34
  have er : ∀ i, i < n.toNatClampNeg → s5 121 i = row i := fun i hi => by rw [g5, up2_k (by decide)]; exact hr i hi
  clear g5
  refine pc_be mx_isView ?_
  unfold anJudge
  have m1 := ti_nat n
  by_cases c : 0 ≤ x1.toInt ∧ x1.toInt ≤ 7
  · rw [if_pos c, if_neg (by decide), cB_t c, cF_z]
    have n1 := ti_nat x1
    refine pc_lt (fun s7 g7 => ?_)
    have h7 : vM V s7 := ⟨h'.1, fun p hp => by rw [g7, wvM_no (by omega) (by omega) hp]; exact h'.2 p hp⟩
    have r7 : s7 121 = s5 121 := by rw [g7, up2_k (by decide)]
    clear g7
    rw [e34]
    refine pc_bnd (mx_layBrings h7) (fun _ s9 q => ?_)
    have a9 : mRdy V s9 := ⟨vM_109 h7 (fun k b _ => q.1 k b), q.2⟩
    have r9 : s9 121 = s5 121 := by rw [q.1 121 (by decide)]; exact r7
    have key : ∀ (N k i : Nat) (x3 : Int32) (z : Mem), mRdy V z → z 121 = s5 121 → x3.toInt = (i : Int) → i + k = n.toNatClampNeg → pc (lp_X4_judge_34 F x1 n N x3 z) (fun r _ => r = aJ V row x1.toNatClampNeg k i) := by
      intro N
      induction N with
      | zero => intro k i x3 z a r h1 h2; exact pc_none rfl
      | succ N ih =>
        intro k i x3 z a r h1 h2
        rw [lp_X4_judge_34_s]
        simp only [j_X4_judge_65_e]
        refine pc_ite (fun c => ?_) (fun c => ?_)
        · have d := ti_le c
          have k0 : k = 0 := by omega
          subst k0
          exact pc_ret rfl
        · have d := ti_nle c
          obtain ⟨k', rfl⟩ : ∃ k', k = k' + 1 := ⟨k - 1, by omega⟩
          have e3 := io_eq h1 (by omega)
          have hx3 : 0 ≤ x3.toInt ∧ x3.toInt ≤ 9999 := ⟨by omega, by omega⟩
          refine pc_bnd (qm_ownerIn hx3 (v := x1.toNatClampNeg) (by omega) (by omega) a.1 a.2) (fun r1 y u => ?_)
          have ay : mRdy V y := ⟨vM_109 a.1 (fun k _ b => u.2 k b), fun m hm w hw => by rw [u.2 109 (by decide)]; exact a.2 m hm w hw⟩
          have ry : y 121 = s5 121 := by rw [u.2 121 (by decide)]; exact r
          have h0 := aHold_0 h.1 hx3 (v := x1.toNatClampNeg) (by omega)
          rw [u.1, tn_int h1, ry, er i (by omega)]
          refine pc_chk (fun _ => ?_)
          have yes : row i = aIn (aHold V x3 x1.toNatClampNeg) → pc (lp_X4_judge_34 F x1 n N (x3 + 1) y) (fun r _ => r = aJ V row x1.toNatClampNeg (k' + 1) i) := fun w => by
            rw [aJ_t (by rw [← e3]; exact w)]
            exact ih k' (i + 1) _ y ay ry (ti_nx h1 (by omega)) (by omega)
          have no : ¬ row i = aIn (aHold V x3 x1.toNatClampNeg) → x3 = aJ V row x1.toNatClampNeg (k' + 1) i := fun w => by
            rw [aJ_f (by rw [← e3]; exact w)]
            exact e3
          refine pc_ite (fun c1 => ?_) (fun c1 => ?_)
          · have ea : aIn (aHold V x3 x1.toNatClampNeg) = aHold V x3 x1.toNatClampNeg := if_neg (h0.mp c1)
            exact pc_ite (fun w => yes (w.trans ea.symm)) (fun w => pc_ret (no (fun w' => w (w'.trans ea))))
          · have ea : aIn (aHold V x3 x1.toNatClampNeg) = 99 := if_pos (Classical.byContradiction (fun n => c1 (h0.mpr n)))
            exact pc_ite (fun w => yes (w.trans ea.symm)) (fun w => pc_ret (no (fun w' => w (w'.trans ea))))
    exact key F _ 0 0 s9 a9 r9 rfl (by omega)
  · rw [if_neg c, if_pos rfl, cB_f c]
    exact mq_ref (cF_n (by decide))
theorem eqd_judge {F : Nat} {σ : Mem} {x : Int32} (hF : 73786976294838206464 ≤ F) (h : wR 188 σ) : ∃ r1 s1 r2 s2, f_X3_judge F x σ = some (r1, s1) ∧ f_X4_judge F x s1 = some (r2, s2) ∧ wR 188 s2 ∧ r1 = r2 := eqr (A := fun V n row => anJudge V x n row) (mu_judge hF (by omega) h) h (pc_mono (sf_pc (s_X3_judge (F := F) (by omega) h.1)) (fun _ _ q => q.2.1)) (fun V hv hn => qxr_judge hv hn) (fun V s n row hv hn a b => qmr_judge hv hn a b)
end
