/-! count's refusals: what each call does to the rows 86 (class) and 108 (reference) -/
def kW (c : Nat) : Prop := ¬ c = 86 ∧ ¬ c = 108
theorem kW_mk {c : Nat} (h1 : ¬ c = 86) (h2 : ¬ c = 108) : kW c := ⟨h1, h2⟩
theorem kW_n86 {i : Nat} : ¬ kW (wcid 86 i) := fun h => h.1 rfl
theorem kW_n108 {i : Nat} : ¬ kW (wcid 108 i) := fun h => h.2 rfl
theorem kW_fr {τ s : Mem} (h : fr kW τ s) : s 86 = τ 86 ∧ s 108 = τ 108 := ⟨funext fun i => h 86 i kW_n86, funext fun i => h 108 i kW_n108⟩
def wB (f : Nat → Int32) (e : Int32) : Nat → Int32 := if e = 0 then f else if -e < 0 then f else if (7 : Int32) ≤ -e then f else upd f (-e).toNatClampNeg (f (-e).toNatClampNeg + 1)
theorem wB_0 {f : Nat → Int32} : wB f 0 = f := if_pos rfl
theorem up2_r {σ : Mem} {k i : Nat} {x : Int32} : up2 σ k i x k = upd (σ k) i x := if_pos rfl
theorem lt7 {y : Int32} (b : 0 ≤ y.toInt ∧ y.toInt < 7) : ¬ y < 0 ∧ ¬ (7 : Int32) ≤ y := by
  refine ⟨fun q => ?_, fun q => ?_⟩
  · have := ti_lt q; rw [tz_0] at this; omega
  · have := ti_le q; rw [tz_7] at this; omega
theorem ka_refuse {F : Nat} {e : Int32} {σ : Mem} (h : ¬ e = 0) : pc (f_X3_refuse F e σ) (fun r s => r = e ∧ s 86 = wB (σ 86) e) := by
  rw [f_X3_refuse_e]
  simp only [j_X3_refuse_23_e]
  unfold wB
  rw [if_neg h]
  refine pc_ite (fun c => pc_ret ⟨rfl, by rw [if_pos c]⟩) (fun c => pc_ite (fun d => pc_ret ⟨rfl, by rw [if_neg c, if_pos d]⟩) (fun d => pc_chk (fun _ => pc_lt (fun s2 h2 => pc_ret ⟨rfl, ?_⟩))))
  rw [if_neg c, if_neg d, h2, up2_r]
theorem kb_refuse {F : Nat} {e : Int32} {σ : Mem} (h : ¬ e = 0) : pc (f_X4_refuse F e σ) (fun r s => r = e ∧ s 108 = wB (σ 108) e) := by
  rw [f_X4_refuse_e]
  refine pc_chk (fun b => pc_lt (fun s2 h2 => pc_ret ⟨rfl, ?_⟩))
  obtain ⟨c, d⟩ := lt7 ⟨b.1, b.2.1⟩
  unfold wB
  rw [if_neg h, if_neg c, if_neg d, h2, up2_r]
theorem kx_leaf {α : Type} {σ : Mem} {A : Option (α × Mem)} (h : pf kW A σ) : pc A (fun _ z => z 86 = wB (σ 86) 0) := pc_mono (pc_pf h) (fun _ z f => by rw [(kW_fr f).1, wB_0])
theorem kb_leaf {α : Type} {s : Mem} {b : Nat → Int32} {A : Option (α × Mem)} (hb : s 86 = b) (h : pf kW A s) : pc A (fun _ z => z 86 = wB b 0) := pc_mono (pc_pf h) (fun _ z f => by rw [(kW_fr f).1, wB_0, hb])
theorem km_leaf {α : Type} {s : Mem} {b : Nat → Int32} {A : Option (α × Mem)} (hb : s 108 = b) (h : pf kW A s) : pc A (fun _ z => z 108 = wB b 0) := pc_mono (pc_pf h) (fun _ z f => by rw [(kW_fr f).2, wB_0, hb])
theorem kb_ref {F : Nat} {e X : Int32} {s : Mem} {b : Nat → Int32} (hb : s 86 = b) (h : X = e) (he : ¬ e = 0) : pc (wt_bnd (f_X3_refuse F e s) fun r s => some (r, s)) (fun _ z => z 86 = wB b X) := pc_bnd (ka_refuse he) (fun r z q => pc_ret (by rw [q.2, h, hb]))
theorem kx_ref {F : Nat} {e X : Int32} {σ : Mem} (h : X = e) (he : ¬ e = 0) : pc (wt_bnd (f_X3_refuse F e σ) fun r s => some (r, s)) (fun _ z => z 86 = wB (σ 86) X) := kb_ref rfl h he
theorem kR_end {F : Nat} {e : Int32} {σ : Mem} {A : Option (Int32 × Mem)} (h : e = 0 → pf kW A σ) : pc (if e = 0 then A else wt_bnd (f_X3_refuse F e σ) fun r s => some (r, s)) (fun _ z => z 86 = wB (σ 86) e) := pc_ite (fun c => pc_mono (kx_leaf (h c)) (fun _ z q => by rw [q, c])) (fun c => kx_ref rfl c)
theorem kq_end {F : Nat} {e : Int32} {σ : Mem} {A : Option (Int32 × Mem)} (h : e = 0 → pf kW A σ) : pc (if e = 0 then A else wt_bnd (f_X3_refuse F e σ) fun r s => some (r, s)) (fun _ z => z 86 = wB (σ 86) (cF e 0)) := pc_ite (fun c => pc_mono (kx_leaf (h c)) (fun _ z q => by rw [q, c, cF_z])) (fun c => kx_ref (cF_n c) c)
theorem kqL_end {F : Nat} {e : Int32} {σ : Mem} {A : Option (Int64 × Mem)} (h : e = 0 → pf kW A σ) : pc (if e = 0 then A else wt_bnd (f_X3_refuseLong F e σ) fun r s => some (r, s)) (fun _ z => z 86 = wB (σ 86) (cF e 0)) := by
  refine pc_ite (fun c => pc_mono (kx_leaf (h c)) (fun _ z q => by rw [q, c, cF_z])) (fun c => ?_)
  rw [f_X3_refuseLong_e]
  exact pc_bnd (P := fun _ z => z 86 = wB (σ 86) (cF e 0)) (pc_bnd (ka_refuse c) (fun r s q => pc_ret (by rw [q.2, cF_n c]))) (fun r s q => pc_ret q)
theorem nq_ref {F : Nat} {e X : Int32} {s : Mem} {b : Nat → Int32} (hb : s 108 = b) (h : X = e) (he : ¬ e = 0) : pc (wt_bnd (f_X4_refuse F e s) fun r s => some (r, s)) (fun _ z => z 108 = wB b X) := pc_bnd (kb_refuse he) (fun r z q => pc_ret (by rw [q.2, h, hb]))
theorem nqL_ref {F : Nat} {e X : Int32} {s : Mem} {b : Nat → Int32} (hb : s 108 = b) (h : X = e) (he : ¬ e = 0) : pc (wt_bnd (f_X4_refuse F e s) fun r s => some (((4000000000000000000 : Int64) - Int32.toInt64 r), s)) (fun _ z => z 108 = wB b X) := pc_bnd (kb_refuse he) (fun r z q => pc_ret (by rw [q.2, h, hb]))
theorem sg_le {e : Int32} (he : sg e) (c : 0 ≤ e) : e = 0 := by
  have d := ti_le c
  rw [tz_0] at d
  rcases he with q | q
  · exact q
  · omega
theorem sg_ng {e : Int32} (c : ¬ 0 ≤ e) : ¬ e = 0 := fun q => c (by rw [q]; decide)
theorem nR_end {F : Nat} {e : Int32} (he : sg e) {s : Mem} {b : Nat → Int32} (hb : s 108 = b) {A : Option (Int32 × Mem)} (h : e = 0 → pf kW A s) : pc (if 0 ≤ e then A else wt_bnd (f_X4_refuse F e s) fun r z => some (r, z)) (fun _ z => z 108 = wB b e) := pc_ite (fun c => pc_mono (km_leaf hb (h (sg_le he c))) (fun _ z q => by rw [q, sg_le he c])) (fun c => nq_ref hb rfl (sg_ng c))
theorem nq_end {F : Nat} {s : Mem} {b : Nat → Int32} (hb : s 108 = b) {e : Int32} (he : sg e) {A : Option (Int32 × Mem)} (h : e = 0 → pf kW A s) : pc (if 0 ≤ e then A else wt_bnd (f_X4_refuse F e s) fun r z => some (r, z)) (fun _ z => z 108 = wB b (cF e 0)) := pc_ite (fun c => pc_mono (km_leaf hb (h (sg_le he c))) (fun _ z q => by rw [q, sg_le he c, cF_z])) (fun c => nq_ref hb (cF_n (sg_ng c)) (sg_ng c))
def kRk (x : Int32) : Int32 := if 0 ≤ x then 0 else -4
def kLR (n : Int32) : Int32 := if n ≤ 8 then 0 else -3
def kS5 (V : Nat → Int32) : Int32 := if (V 1).toInt < 5 then 0 else -3
def kIL (n t : Int32) : Int32 := if n < 0 ∨ ¬ 2 ≤ t then -4 else if 8 < n ∨ ¬ t ≤ 20 then -6 else 0
theorem kx_longRow {F : Nat} {σ : Mem} : f_X3_longRow F σ = some (kLR (σ 0 7), σ) := by
  rw [f_X3_longRow_e]
  unfold kLR
  by_cases c : σ 0 7 ≤ 8
  · rw [if_pos c, if_pos c]
  · rw [if_neg c, if_neg c]
theorem kF_as {a b c : Int32} : cF (cF a b) c = cF a (cF b c) := by
  by_cases h : a = 0
  · subst h; rw [cF_z, cF_z]
  · rw [cF_n h, cF_n h, cF_n h]
theorem kX_H {V : Nat → Int32} {σ : Mem} (a : vH 1 V σ) : vX V σ := ⟨a.1, fun p hp => vH_lo a hp, fun l t hl ht => vH_c a hl ht⟩
theorem kw_X0_reckon_1 : ∀ c, wf_8 1 c → kW c := fun c h => by
  unfold wf_8 at h
  exact kW_mk (by omega) (by omega)
theorem kw_X2_undoLatest_1 : ∀ c, wf_16 1 c → kW c := fun c h => by
  unfold wf_16 at h
  exact kW_mk (by omega) (by omega)
theorem kw_X0_takeFrom_24 : ∀ c, wf_0 24 c → kW c := fun c h => by
  unfold wf_0 at h
  exact kW_mk (by omega) (by omega)
theorem kw_X0_reckon_24 : ∀ c, wf_8 24 c → kW c := fun c h => by
  unfold wf_8 at h
  exact kW_mk (by omega) (by omega)
theorem kw_X0_rule_24 : ∀ c, wf_7 24 c → kW c := fun c h => by
  unfold wf_7 at h
  exact kW_mk (by omega) (by omega)
theorem kw_X3_wealthAt : ∀ c, wf_32 c → kW c := fun c h => by
  unfold wf_32 at h
  exact kW_mk (by omega) (by omega)
theorem kw_X0_pass_1 : ∀ c, wf_9 1 c → kW c := fun c h => by
  unfold wf_9 at h
  exact kW_mk (by omega) (by omega)
theorem kw_X2_forget : ∀ c, wf_12 c → kW c := fun c h => by
  unfold wf_12 at h
  exact kW_mk (by omega) (by omega)
theorem kw_X1_add : ∀ c, wf_10 c → kW c := fun c h => by
  unfold wf_10 at h
  exact kW_mk (by omega) (by omega)
theorem kw_X0_post_24 : ∀ c, wf_4 24 c → kW c := fun c h => by
  unfold wf_4 at h
  exact kW_mk (by omega) (by omega)
theorem kw_X3_ownsWell : ∀ c, wf_37 c → kW c := fun c h => by
  unfold wf_37 at h
  exact kW_mk (by omega) (by omega)
theorem kw_X2_keep : ∀ c, wf_14 c → kW c := fun c h => by
  unfold wf_14 at h
  exact kW_mk (by omega) (by omega)
theorem kw_X0_rule_1 : ∀ c, wf_7 1 c → kW c := fun c h => by
  unfold wf_7 at h
  exact kW_mk (by omega) (by omega)
theorem kw_X0_addLooker_1 : ∀ c, wf_3 1 c → kW c := fun c h => by
  unfold wf_3 at h
  exact kW_mk (by omega) (by omega)
theorem kw_X3_castRosters : ∀ c, wf_42 c → kW c := fun c h => by
  unfold wf_42 at h
  exact kW_mk (by omega) (by omega)
theorem kw_X3_hoursUntilOwned : ∀ c, wf_30 c → kW c := fun c h => by
  unfold wf_30 at h
  exact kW_mk (by omega) (by omega)
theorem kw_X0_addLooker_24 : ∀ c, wf_3 24 c → kW c := fun c h => by
  unfold wf_3 at h
  exact kW_mk (by omega) (by omega)
theorem kw_X0_addPane_1 : ∀ c, wf_2 1 c → kW c := fun c h => by
  unfold wf_2 at h
  exact kW_mk (by omega) (by omega)
theorem kw_X0_takeFrom_1 : ∀ c, wf_0 1 c → kW c := fun c h => by
  unfold wf_0 at h
  exact kW_mk (by omega) (by omega)
theorem kw_X2_keepRoster : ∀ c, wf_15 c → kW c := fun c h => by
  unfold wf_15 at h
  exact kW_mk (by omega) (by omega)
theorem kw_X0_post_1 : ∀ c, wf_4 1 c → kW c := fun c h => by
  unfold wf_4 at h
  exact kW_mk (by omega) (by omega)
theorem kw_X3_wealthSwapped : ∀ c, wf_32 c → kW c := fun c h => by
  unfold wf_32 at h
  exact kW_mk (by omega) (by omega)
theorem kw_X3_fillPays : ∀ c, wf_35 c → kW c := fun c h => by
  unfold wf_35 at h
  exact kW_mk (by omega) (by omega)
theorem kw_X0_flip_1 : ∀ c, wf_5 1 c → kW c := fun c h => by
  unfold wf_5 at h
  exact kW_mk (by omega) (by omega)
theorem kw_X3_wealthWalled : ∀ c, wf_34 c → kW c := fun c h => by
  unfold wf_34 at h
  exact kW_mk (by omega) (by omega)
theorem kw_X0_price_1 : ∀ c, wf_6 1 c → kW c := fun c h => by
  unfold wf_6 at h
  exact kW_mk (by omega) (by omega)
theorem kw_X4_layBrings : ∀ c, wf_46 c → kW c := fun c h => by
  unfold wf_46 at h
  exact kW_mk (by omega) (by omega)
theorem kw_X4_worthIn : ∀ c, wf_47 c → kW c := fun c h => by
  unfold wf_47 at h
  exact kW_mk (by omega) (by omega)
theorem kw_X4_worthAnew : ∀ c, wf_48 c → kW c := fun c h => by
  unfold wf_48 at h
  exact kW_mk (by omega) (by omega)
theorem kw_X4_goDays : ∀ c, wf_49 c → kW c := fun c h => by
  unfold wf_49 at h
  exact kW_mk (by omega) (by omega)
theorem kw_X4_owned : ∀ c, wf_48 c → kW c := fun c h => by
  unfold wf_48 at h
  exact kW_mk (by omega) (by omega)
theorem kw_X4_viewsIn : ∀ c, wf_47 c → kW c := fun c h => by
  unfold wf_47 at h
  exact kW_mk (by omega) (by omega)
theorem kw_X4_ownerIn : ∀ c, wf_47 c → kW c := fun c h => by
  unfold wf_47 at h
  exact kW_mk (by omega) (by omega)
theorem kw_X4_think : ∀ c, wf_57 c → kW c := fun c h => by
  unfold wf_57 at h
  exact kW_mk (by omega) (by omega)
theorem kw_X4_stand : ∀ c, wf_55 c → kW c := fun c h => by
  unfold wf_55 at h
  exact kW_mk (by omega) (by omega)
theorem kw_X4_again : ∀ c, wf_58 c → kW c := fun c h => by
  unfold wf_58 at h
  exact kW_mk (by omega) (by omega)
theorem kw_X4_lookerComes : ∀ c, wf_54 c → kW c := fun c h => by
  unfold wf_54 at h
  exact kW_mk (by omega) (by omega)
theorem kw_X4_richestIn : ∀ c, wf_47 c → kW c := fun c h => by
  unfold wf_47 at h
  exact kW_mk (by omega) (by omega)
theorem kw_X4_drawBelow : ∀ c, wf_76 c → kW c := fun c h => by
  unfold wf_76 at h
  exact kW_mk (by omega) (by omega)
theorem kw_X4_swapRosters : ∀ c, wf_55 c → kW c := fun c h => by
  unfold wf_55 at h
  exact kW_mk (by omega) (by omega)
theorem kw_X4_isRow : ∀ c, wf_48 c → kW c := fun c h => by
  unfold wf_48 at h
  exact kW_mk (by omega) (by omega)
def akAhead (V : Nat → Int32) (x1 x2 : Int32) : Int32 := cF (cB ((0 ≤ x1.toInt ∧ x1.toInt < (V 1).toInt) ∧ (0 ≤ x2.toInt ∧ x2.toInt < (V 1).toInt) ∧ ¬ x1 = x2)) 0
def akBestLaw (V : Nat → Int32) (x1 x2 : Int32) : Int32 := cF (cF (cB (0 ≤ x1.toInt ∧ x1.toInt < (V 1).toInt)) (cN x2 0 999)) 0
def akBestPane (V : Nat → Int32) (x1 x2 x3 x4 : Int32) : Int32 := cF (cF (cF (cF (cB (0 ≤ x1.toInt ∧ x1.toInt < (V 1).toInt)) (cB (0 ≤ x2.toInt ∧ x2.toInt ≤ 23))) (cN x3 0 999)) (cO x4 2)) 0
def akBusy (V : Nat → Int32) (x1 : Int32) : Int32 := cF (cO x1 2) 0
def akCounts (V : Nat → Int32) (x1 x2 x3 : Int32) : Int32 := cF (cF (cF (cB (0 ≤ x1.toInt ∧ x1.toInt < (V 1).toInt)) (cB (0 ≤ x2.toInt ∧ x2.toInt ≤ 7))) (cO x3 2)) 0
def akDays (V : Nat → Int32) (x : Int32) : Int32 := cF (eDays (V 3) x) 0
def akDuels (V : Nat → Int32) (x1 x2 : Int32) : Int32 := cF (cB ((0 ≤ x1.toInt ∧ x1.toInt < (V 1).toInt) ∧ (0 ≤ x2.toInt ∧ x2.toInt < (V 1).toInt) ∧ ¬ x1 = x2)) 0
def akEven (V : Nat → Int32) (x1 : Int32) : Int32 := cF (cN x1 0 999) 0
def akFreeHours (V : Nat → Int32) (x1 x2 : Int32) : Int32 := cF (cF (cB (0 ≤ x1.toInt ∧ x1.toInt < (V 1).toInt)) (cN x2 0 999)) 0
def akFrom (V : Nat → Int32) (x1 x2 : Int32) : Int32 := cF (cF (cB (0 ≤ x1.toInt ∧ x1.toInt < (V 1).toInt)) (cB (0 ≤ x2.toInt ∧ x2.toInt ≤ 7))) 0
def akGap (V : Nat → Int32) (x1 x2 : Int32) : Int32 := cF (cF (cB (0 ≤ x1.toInt ∧ x1.toInt ≤ 7)) (cN x2 0 999)) 0
def akHeir (V : Nat → Int32) (x1 x2 x3 : Int32) : Int32 := cF (cF (cF (cB (0 ≤ x1.toInt ∧ x1.toInt < (V 1).toInt)) (cB (0 ≤ x2.toInt ∧ x2.toInt ≤ 7))) (cN x3 0 999)) 0
def akIll (V : Nat → Int32) (x1 x2 x3 x4 x5 : Int32) : Int32 := cF (cF (cF (cF (cB (0 ≤ x1.toInt ∧ x1.toInt < (V 1).toInt)) (cB (0 ≤ x2.toInt ∧ x2.toInt ≤ 7))) (kIL x3 x4)) (cO x5 2)) 0
def akJudge (V : Nat → Int32) (x1 n : Int32) (row : Nat → Int32) : Int32 := cF (cB (0 ≤ x1.toInt ∧ x1.toInt ≤ 7)) 0
def akLookerOf (V : Nat → Int32) (x1 x2 : Int32) : Int32 := cF (cF (cB (0 ≤ x1.toInt ∧ x1.toInt < (V 1).toInt)) (cO x2 4)) 0
def akLost (V : Nat → Int32) (x1 : Int32) : Int32 := cF (cB (0 ≤ x1.toInt ∧ x1.toInt ≤ 7)) (if aHold V 0 x1.toNatClampNeg = -9 then -3 else 0)
def akLots (V : Nat → Int32) (x1 x2 x3 : Int32) : Int32 := cF (cF (cN x1 1 20) (cO x3 2)) 0
def akMoreHours (V : Nat → Int32) (x1 x2 x3 : Int32) : Int32 := cF (cF (cF (cB (0 ≤ x1.toInt ∧ x1.toInt < (V 1).toInt)) (cB (0 ≤ x2.toInt ∧ x2.toInt ≤ 7))) (cN x3 1 999)) 0
def akMostSeen (V : Nat → Int32) (x1 : Int32) : Int32 := cF (cO x1 2) 0
def akNewcomer (V : Nat → Int32) (x1 x2 x3 : Int32) : Int32 := cF (cF (cF (cB (0 ≤ x2.toInt ∧ x2.toInt < (V 0).toInt)) (cF (cO x1 6) (cO x3 2))) (kS5 V)) 0
def akNobodys (V : Nat → Int32) (x1 : Int32) : Int32 := cF (cN x1 0 999) 0
def akOwner (V : Nat → Int32) (x1 x2 : Int32) : Int32 := cF (cF (cB (0 ≤ x1.toInt ∧ x1.toInt ≤ 7)) (cN x2 0 999)) 0
def akOwns (V : Nat → Int32) (x1 x2 x3 : Int32) : Int32 := cF (cF (cF (cB (0 ≤ x1.toInt ∧ x1.toInt < (V 1).toInt)) (cN x2 0 999)) (cO x3 2)) 0
def akPaneOf (V : Nat → Int32) (x1 x2 : Int32) : Int32 := cF (cF (cB (0 ≤ x1.toInt ∧ x1.toInt < (V 0).toInt)) (cO x2 2)) 0
def akRank (V : Nat → Int32) (x1 x2 : Int32) : Int32 := cF (cF (cB (0 ≤ x1.toInt ∧ x1.toInt ≤ 7)) (kRk x2)) 0
def akRichest (V : Nat → Int32) (x1 x2 : Int32) : Int32 := cF (cF (cN x1 0 999) (cO x2 2)) 0
def akRoster (V : Nat → Int32) (x1 x2 : Int32) : Int32 := cF (cF (cB (0 ≤ x1.toInt ∧ x1.toInt < (V 1).toInt)) (cB (0 ≤ x2.toInt ∧ x2.toInt ≤ 23))) 0
def akShare (V : Nat → Int32) (x1 x2 x3 : Int32) : Int32 := cF (cF (cF (cB (0 ≤ x1.toInt ∧ x1.toInt < (V 1).toInt)) (cB (0 ≤ x2.toInt ∧ x2.toInt ≤ 7))) (cO x3 2)) 0
def akShown (V : Nat → Int32) (x1 : Int32) : Int32 := cF (cB (0 ≤ x1.toInt ∧ x1.toInt ≤ 7)) 0
def akStaredOut (V : Nat → Int32) (x1 x2 x3 : Int32) : Int32 := cF (cF (cB ((0 ≤ x1.toInt ∧ x1.toInt < (V 1).toInt) ∧ (0 ≤ x2.toInt ∧ x2.toInt < (V 1).toInt) ∧ ¬ x1 = x2)) (cN x3 0 999)) 0
def akSwap (V : Nat → Int32) (x1 : Int32) : Int32 := cF (cN x1 0 999) 0
def akTogether (V : Nat → Int32) (x1 x2 : Int32) : Int32 := cF (cB ((0 ≤ x1.toInt ∧ x1.toInt < (V 1).toInt) ∧ (0 ≤ x2.toInt ∧ x2.toInt < (V 1).toInt) ∧ ¬ x1 = x2)) 0
def akTwo (V : Nat → Int32) (x1 x2 x3 x4 : Int32) : Int32 := cF (cF (cF (cB ((0 ≤ x1.toInt ∧ x1.toInt < (V 1).toInt) ∧ (0 ≤ x2.toInt ∧ x2.toInt < (V 1).toInt) ∧ ¬ x1 = x2)) (cB (0 ≤ x3.toInt ∧ x3.toInt ≤ 23))) (cN x4 0 999)) 0
def akWalls (V : Nat → Int32) (x1 x2 x3 : Int32) : Int32 := cF (cF (cF (cB (0 ≤ x1.toInt ∧ x1.toInt < (V 1).toInt)) (cN x2 0 999)) (cO x3 2)) 0
def akWasted (V : Nat → Int32) (x1 x2 : Int32) : Int32 := cF (cF (cB (0 ≤ x1.toInt ∧ x1.toInt < (V 1).toInt)) (cO x2 2)) 0
def akWhichKind (V : Nat → Int32) (x1 x2 x3 n : Int32) (row : Nat → Int32) : Int32 := cF (cF (cF (cB (0 ≤ x1.toInt ∧ x1.toInt < (V 1).toInt)) (cN x2 0 999)) (cF (cO x3 2) (kLR n))) 0
def akWhichLaw (V : Nat → Int32) (n : Int32) (row : Nat → Int32) : Int32 := cF (kLR n) 0
