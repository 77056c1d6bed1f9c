section
theorem wtI_106 : ∀ p, p < 188 → wtJ p = 106 → wtI p < 120 := by decide +kernel
theorem rst_two {F : Nat} (hF : 1000 ≤ F) {x1 x2 x3 x4 : Int32} {σ : Mem} : pc (f_X4_two F x1 x2 x3 x4 σ) (fun _ z => VE (wvM σ) z) := by
  have rest : ∀ (N : Nat) (x8 : Int32) (m : Mem), VE (wvM σ) m → pc (lp_X4_two_205 F N x8 m) (fun _ z => VE (wvM σ) z) := by
    intro N
    induction N with
    | zero => intro x8 m _; exact pc_none rfl
    | succ N ih =>
      intro x8 m hm
      rw [lp_X4_two_205_s]
      refine pc_ite (fun _ => pc_ret hm) (fun _ => pc_bnd (pc_pf (fr_X4_areResting hF)) (fun r s f => ?_))
      have h := VE_fr hm f (by intro c hc; unfold cM2 at hc; show ¬ _; unfold wf_1; first | exact id | omega)
      exact pc_ite (fun _ => ih _ _ h) (fun _ => pc_ret h)
  have inner : ∀ (k77 : Int32 → Mem → Option (Int32 × Mem)), (∀ a m, VN2 (28 + ((24 : Int32) * x1 + x3).toNatClampNeg) (28 + ((24 : Int32) * x2 + x3).toNatClampNeg) (wvM σ) m → pc (k77 a m) (fun _ z => VE (wvM σ) z)) → ∀ (N : Nat) (x6 x7 x8 x9 : Int32) (m : Mem), VN2 (28 + ((24 : Int32) * x1 + x3).toNatClampNeg) (28 + ((24 : Int32) * x2 + x3).toNatClampNeg) (wvM σ) m → pc (lp_X4_two_89 F k77 x1 x2 x3 x4 x6 x7 x8 N x9 m) (fun _ z => VE (wvM σ) z) := by
    intro k77 hk N
    induction N with
    | zero => intro x6 x7 x8 x9 m _; exact pc_none rfl
    | succ N ih =>
      intro x6 x7 x8 x9 m hm
      rw [lp_X4_two_89_s]
      refine pc_ite (fun _ => hk _ _ hm) (fun _ => pc_chk (fun w1 => pc_lt (fun s2 g2 => pc_chk (fun w2 => pc_lt (fun s4 g4 => pc_bnd (pc_pf (fr_X4_worthAnew hF)) (fun r5 s6 f6 => pc_chk (fun _ => pc_lt (fun s8 g8 => pc_bnd (pc_pf (fr_X4_worthIn hF)) (fun r9 s10 f10 => pc_lt (fun s11 g11 => ih _ _ _ _ _ ?_))))))))))
      obtain ⟨q1, q2, q3⟩ := q106 w1
      obtain ⟨p1, p2, p3⟩ := q106 w2
      have h4 : VN2 (28 + ((24 : Int32) * x1 + x3).toNatClampNeg) (28 + ((24 : Int32) * x2 + x3).toNatClampNeg) (wvM σ) s4 := by rw [g4]; refine VN2_2 ?_ p1 p2 p3; rw [g2]; exact VN2_1 hm q1 q2 q3
      have h6 := VN2_fr h4 f6 (by intro c hc; unfold cM2 at hc; show ¬ _; unfold wf_48; first | exact id | omega)
      have h8 : VN2 (28 + ((24 : Int32) * x1 + x3).toNatClampNeg) (28 + ((24 : Int32) * x2 + x3).toNatClampNeg) (wvM σ) s8 := by rw [g8]; exact VN2_up h6 (by omega) (by omega)
      have h10 := VN2_fr h8 f10 (by intro c hc; unfold cM2 at hc; show ¬ _; unfold wf_47; first | exact id | omega)
      rw [g11]
      exact VN2_up h10 (by omega) (by omega)
  have outer : ∀ (N : Nat) (x6 x7 x8 : Int32) (m : Mem), VN2 (28 + ((24 : Int32) * x1 + x3).toNatClampNeg) (28 + ((24 : Int32) * x2 + x3).toNatClampNeg) (wvM σ) m → x6 = wvM σ (28 + ((24 : Int32) * x1 + x3).toNatClampNeg) → x7 = wvM σ (28 + ((24 : Int32) * x2 + x3).toNatClampNeg) → pc (lp_X4_two_77 F x1 x2 x3 x4 x6 x7 N x8 m) (fun _ z => VE (wvM σ) z) := by
    intro N
    induction N with
    | zero => intro x6 x7 x8 m _ _ _; exact pc_none rfl
    | succ N ih =>
      intro x6 x7 x8 m hm e6 e7
      rw [lp_X4_two_77_s]
      refine pc_ite (fun _ => pc_chk (fun w1 => pc_lt (fun s15 g15 => pc_chk (fun w2 => pc_lt (fun s17 g17 => rest F _ _ ?_))))) (fun _ => inner _ (fun a m h => ih _ _ _ _ h e6 e7) F _ _ _ _ _ hm)
      obtain ⟨q1, q2, q3⟩ := q106 w1
      obtain ⟨p1, p2, p3⟩ := q106 w2
      rw [g17]
      refine VN_back ?_ p1 p2 p3 e7
      rw [g15]
      exact VN2_b1 hm q1 q2 q3 e6
  have h0 : VE (wvM σ) σ := fun _ _ => rfl
  have J : ∀ (t : Int32) (m : Mem), VE (wvM σ) m → pc (j_X4_two_34 F x1 x2 x3 x4 t m) (fun _ z => VE (wvM σ) z) := fun t m hm => by
    rw [j_X4_two_34_e]
    refine pc_ite (fun _ => pc_chk (fun w1 => pc_lt (fun z19 g19 => pc_chk (fun w2 => pc_lt (fun z21 g21 => ?_))))) (fun _ => VE_ref hm)
    obtain ⟨q1, q2, q3⟩ := q106 w1
    obtain ⟨p1, p2, p3⟩ := q106 w2
    refine outer F _ _ _ _ (fun p hp _ _ => hm p hp) ?_ ?_
    · rw [g19, ← hm _ q1]; unfold wvM; rw [← q2, ← q3]
    · rw [g21, ← hm _ p1]; unfold wvM; rw [← p2, ← p3]
  rw [f_X4_two_e]
  simp only [j_X4_two_33_e]
  refine pc_lt (fun s5 g => ?_)
  have h5 : VE (wvM σ) s5 := by rw [g]; exact VE_th h0
  refine pc_bnd (pc_pf (fr_X4_areTwo hF)) (fun r s f => ?_)
  have h6 := VE_fr h5 f (by intro c hc; unfold cM2 at hc; show ¬ _; unfold wf_1; first | exact id | omega)
  refine pc_ite (fun _ => J _ _ h6) (fun _ => pc_bnd (pc_pf (fr_X4_isHour hF)) (fun r s f => ?_))
  have h7 := VE_fr h6 f (by intro c hc; unfold cM2 at hc; show ¬ _; unfold wf_1; first | exact id | omega)
  refine pc_ite (fun _ => J _ _ h7) (fun _ => pc_bnd (pc_pf (fr_X4_wrongNumber hF)) (fun r s f => J _ _ (VE_fr h7 f (by intro c hc; unfold cM2 at hc; show ¬ _; unfold wf_1; first | exact id | omega))))
/-- two rows changed for each other, k hours of them -/
def swp (a b k : Nat) (f g : Nat → Int32) : Prop := ∀ i, i < 120 → g i = if 24 * a ≤ i ∧ i < 24 * a + k then f (24 * b + (i - 24 * a)) else if 24 * b ≤ i ∧ i < 24 * b + k then f (24 * a + (i - 24 * b)) else f i
theorem mx_swapRosters {F : Nat} {x1 x2 : Int32} {a b : Nat} (ha : x1.toInt = (a : Int)) (hb : x2.toInt = (b : Int)) (ha5 : a < 5) (hb5 : b < 5) (hab : a ≠ b) {σ : Mem} : pc (f_X4_swapRosters F x1 x2 σ) (fun _ s => swp a b 24 (σ 106) (s 106) ∧ ∀ k, k ≠ 106 → s k = σ k) := by
  have loop : ∀ (N k : Nat) (x3 : Int32) (m : Mem), x3.toInt = (k : Int) → k ≤ 24 → swp a b k (σ 106) (m 106) → (∀ k, k ≠ 106 → m k = σ k) → pc (lp_X4_swapRosters_2 F x1 x2 N x3 m) (fun _ s => swp a b 24 (σ 106) (s 106) ∧ ∀ k, k ≠ 106 → s k = σ k) := by
    intro N
    induction N with
    | zero => intro k x3 m h1 h2 h3 h4; exact pc_none rfl
    | succ N ih =>
      intro k x3 m h1 h2 h3 h4
      rw [lp_X4_swapRosters_2_s]
      refine pc_ite (fun c => ?_) (fun c => ?_)
      · have := ti_le c
        rw [tz_24] at this
        have e : k = 24 := by omega
        subst e
        exact pc_ret ⟨h3, h4⟩
      have hc := ti_nle c
      rw [tz_24] at hc
      have i1 := tn_24 ha h1 ha5 (by omega)
      have i2 := tn_24 hb h1 hb5 (by omega)
      refine pc_chk (fun _ => pc_lt (fun z2 g2 => pc_chk (fun _ => pc_lt (fun s4 g4 => pc_lt (fun s5 g5 => ih (k + 1) _ s5 (ti_nx h1 (by omega)) (by omega) (fun i hi => ?_) (fun j hj => by rw [g5, up2_k hj, g4, up2_k hj]; exact h4 j hj))))))
      rw [i1] at g2
      rw [i1, i2] at g4
      rw [i2] at g5
      have ea : m 106 (24 * a + k) = σ 106 (24 * a + k) := by rw [h3 _ (by omega), if_neg (by omega), if_neg (by omega)]
      have eb : m 106 (24 * b + k) = σ 106 (24 * b + k) := by rw [h3 _ (by omega), if_neg (by omega), if_neg (by omega)]
      rw [g5]
      by_cases c1 : i = 24 * b + k
      · subst c1
        rw [up2_s, g2, ea, if_neg (by omega), if_pos (by omega), show 24 * b + k - 24 * b = k by omega]
      · rw [up2_i c1, g4]
        by_cases c2 : i = 24 * a + k
        · subst c2
          rw [up2_s, eb, if_pos (by omega), show 24 * a + k - 24 * a = k by omega]
        · rw [up2_i c2, h3 i hi]
          by_cases d1 : 24 * a ≤ i ∧ i < 24 * a + k
          · rw [if_pos d1, if_pos (by omega)]
          · rw [if_neg d1, if_neg (show ¬ (24 * a ≤ i ∧ i < 24 * a + (k + 1)) by omega)]
            by_cases d2 : 24 * b ≤ i ∧ i < 24 * b + k
            · rw [if_pos d2, if_pos (by omega)]
            · rw [if_neg d2, if_neg (by omega)]
  rw [f_X4_swapRosters_e]
  exact loop F 0 0 σ rfl (by omega) (fun i hi => by rw [if_neg (by omega), if_neg (by omega)]) (fun _ _ => rfl)
theorem swp_swp {a b : Nat} (ha5 : a < 5) (hb5 : b < 5) (hab : a ≠ b) {f g h : Nat → Int32} (h1 : swp a b 24 f g) (h2 : swp a b 24 g h) : ∀ i, i < 120 → h i = f i := fun i hi => by
  rw [h2 i hi]
  by_cases d1 : 24 * a ≤ i ∧ i < 24 * a + 24
  · rw [if_pos d1, h1 _ (by omega), if_neg (by omega), if_pos (by omega)]; congr 1; omega
  · rw [if_neg d1]
    by_cases d2 : 24 * b ≤ i ∧ i < 24 * b + 24
    · rw [if_pos d2, h1 _ (by omega), if_pos (by omega)]; congr 1; omega
    · rw [if_neg d2, h1 i hi, if_neg d1, if_neg d2]
theorem rst_swap {F : Nat} (hF : 1000 ≤ F) {x1 : Int32} {σ : Mem} (b3 : 0 ≤ (σ 101 3).toInt ∧ (σ 101 3).toInt ≤ 5) : pc (f_X4_swap F x1 σ) (fun _ z => VE (wvM σ) z) := by
  have hb : ∀ m, VE (wvM σ) m → (m 101 3).toInt = (σ 101 3).toInt := fun m hm => by have : wvM m 1 = wvM σ 1 := hm 1 (by decide); exact congrArg Int32.toInt this
  have inner : ∀ (k37 : Int32 → Int32 → Int32 → Mem → Option (Int32 × Mem)) (x4 : Int32) (a : Nat), x4.toInt = (a : Int) → a < 5 → (∀ c d m, VE (wvM σ) m → pc (k37 c d (x4 + 1) m) (fun _ z => VE (wvM σ) z)) → ∀ (N b : Nat) (x2 x3 x5 : Int32) (m : Mem), x5.toInt = (b : Int) → a < b → VE (wvM σ) m → pc (lp_X4_swap_52 F k37 x1 x4 N x2 x3 x5 m) (fun _ z => VE (wvM σ) z) := by
    intro k37 x4 a ha ha5 hk N
    induction N with
    | zero => intro b x2 x3 x5 m _ _ _; exact pc_none rfl
    | succ N ih =>
      intro b x2 x3 x5 m hbx hab hm
      rw [lp_X4_swap_52_s]
      simp only [j_X4_swap_128_e, j_X4_swap_129_e, j_X4_swap_148_e, j_X4_swap_160_e]
      refine pc_ite (fun _ => hk _ _ _ hm) (fun c => ?_)
      have hc := ti_nle c
      rw [hb m hm] at hc
      have hb5 : b < 5 := by omega
      refine pc_bnd (pc_pf (fr_X4_worthAnew hF)) (fun r1 s2 f2 => pc_bnd (pc_pf (fr_X4_worthIn hF)) (fun r3 s4 f4 => pc_bnd (mx_swapRosters ha hbx ha5 hb5 (by omega)) (fun _ s6 g6 => pc_bnd (pc_pf (fr_X4_worthAnew hF)) (fun r7 s8 f8 => pc_bnd (pc_pf (fr_X4_worthIn hF)) (fun r9 s10 f10 => pc_bnd (mx_swapRosters ha hbx ha5 hb5 (by omega)) (fun _ s12 g12 => ?_))))))
      have h4 := VE_fr (VE_fr hm f2 (by intro c hc; unfold cM2 at hc; show ¬ _; unfold wf_48; first | exact id | omega)) f4 (by intro c hc; unfold cM2 at hc; show ¬ _; unfold wf_47; first | exact id | omega)
      have f610 : ∀ k i, ¬ (k = 109 ∨ k = 110) → s10 k i = s6 k i := fun k i h => by
        have hw : ¬ (109 ≤ wcid k i ∧ wcid k i ≤ 110) := by rcases wcid_or k i with e | e <;> omega
        rw [f10 k i (by show ¬ _; unfold wf_47; omega), f8 k i (by show ¬ _; unfold wf_48; omega)]
      have h12 : VE (wvM σ) s12 := fun p hp => by
        rw [← h4 p hp]
        unfold wvM
        have hj := wtJ_101 p hp
        by_cases e : wtJ p = 106
        · have hi : wtI p < 120 := wtI_106 p hp e
          have e610 : s10 106 = s6 106 := funext fun i => f610 106 i (by omega)
          rw [e]
          have g6' := g6.1
          have g12' := g12.1
          rw [e610] at g12'
          exact swp_swp ha5 hb5 (by omega) g6' g12' _ hi
        · rw [g12.2 _ e, f610 _ _ (by omega), g6.2 _ e]
      have nx : (x5 + 1).toInt = ((b + 1 : Nat) : Int) := ti_nx hbx (by omega)
      have go : ∀ u v, pc (lp_X4_swap_52 F k37 x1 x4 N u v (x5 + 1) s12) (fun _ z => VE (wvM σ) z) := fun u v => ih (b + 1) u v _ s12 nx (by omega) h12
      exact pc_ite (fun _ => pc_ite (fun _ => pc_ite (fun _ => go _ _) (fun _ => go _ _)) (fun _ => pc_ite (fun _ => go _ _) (fun _ => go _ _))) (fun _ => pc_ite (fun _ => pc_ite (fun _ => pc_ite (fun _ => go _ _) (fun _ => go _ _)) (fun _ => pc_ite (fun _ => go _ _) (fun _ => go _ _))) (fun _ => pc_ite (fun _ => pc_ite (fun _ => go _ _) (fun _ => go _ _)) (fun _ => pc_ite (fun _ => go _ _) (fun _ => go _ _))))
  have outer : ∀ (N a : Nat) (x2 x3 x4 : Int32) (m : Mem), x4.toInt = (a : Int) → VE (wvM σ) m → pc (lp_X4_swap_37 F x1 N x2 x3 x4 m) (fun _ z => VE (wvM σ) z) := by
    intro N
    induction N with
    | zero => intro a x2 x3 x4 m _ _; exact pc_none rfl
    | succ N ih =>
      intro a x2 x3 x4 m ha hm
      rw [lp_X4_swap_37_s]
      refine pc_ite (fun _ => pc_ret hm) (fun c => ?_)
      have hc := ti_nle c
      rw [hb m hm] at hc
      exact inner _ x4 a ha (by omega) (fun c d m h => ih (a + 1) _ _ _ _ (ti_nx ha (by omega)) h) F (a + 1) _ _ _ _ (ti_nx ha (by omega)) (by omega) hm
  have h0 : VE (wvM σ) σ := fun _ _ => rfl
  rw [f_X4_swap_e]
  refine pc_lt (fun s5 g => ?_)
  have h5 : VE (wvM σ) s5 := by rw [g]; exact VE_th h0
  refine pc_bnd (pc_pf (fr_X4_wrongNumber hF)) (fun r s f => ?_)
  have h6 := VE_fr h5 f (by intro c hc; unfold cM2 at hc; show ¬ _; unfold wf_1; first | exact id | omega)
  refine pc_ite (fun _ => outer F 0 _ _ _ _ rfl h6) (fun _ => pc_bnd (pc_pf (fr_X4_wrongNumber hF)) (fun r s f => VE_ref (VE_fr h6 f (by intro c hc; unfold cM2 at hc; show ¬ _; unfold wf_1; first | exact id | omega))))
theorem rst_whichKind {F : Nat} (hF : 1000 ≤ F) {x1 x2 x3 : Int32} {σ : Mem} : pc (f_X4_whichKind F x1 x2 x3 σ) (fun _ z => VE (wvM σ) z) := by
  have loop : ∀ (N : Nat) (x5 x6 : Int32) (m : Mem), VK (wvM σ) m → pc (lp_X4_whichKind_77 F x1 x2 x3 N x5 x6 m) (fun _ z => VE (wvM σ) z) := by
    intro N
    induction N with
    | zero => intro x5 x6 m _; exact pc_none rfl
    | succ N ih =>
      intro x5 x6 m hm
      rw [lp_X4_whichKind_77_s]
      have b135 : ∀ (t1 t2 : Int32) (m : Mem), VK (wvM σ) m → pc (j_X4_whichKind_135 F (lp_X4_whichKind_77 F x1 x2 x3 N) x1 x2 x3 x5 x6 t1 t2 m) (fun _ z => VE (wvM σ) z) := fun t1 t2 m hm => by
        rw [j_X4_whichKind_135_e]
        simp only [j_X4_whichKind_154_e]
        refine pc_chk (fun _ => pc_lt (fun s2 g => pc_bnd (pc_pf (fr_X4_isRow hF)) (fun r s4 f => ?_)))
        have h4 : VK (wvM σ) s4 := VK_fr (by rw [g]; exact VK_up hm (by decide)) f (by show ¬ _; unfold wf_48; omega)
        exact pc_ite (fun _ => ih _ _ _ h4) (fun _ => ih _ _ _ h4)
      have b113 : ∀ (t1 t2 : Int32) (m : Mem), VK (wvM σ) m → pc (j_X4_whichKind_113 F (lp_X4_whichKind_77 F x1 x2 x3 N) x1 x2 x3 x5 x6 t1 t2 m) (fun _ z => VE (wvM σ) z) := fun t1 t2 m hm => by
        rw [j_X4_whichKind_113_e]
        refine pc_chk (fun _ => pc_lt (fun s6 g => ?_))
        have h6 : VK (wvM σ) s6 := by rw [g]; exact VK_up hm (by decide)
        exact pc_ite (fun _ => b135 _ _ _ h6) (fun _ => pc_chk (fun _ => b135 _ _ _ h6))
      have b90 : ∀ (t0 t1 : Int32) (m : Mem), VK (wvM σ) m → pc (j_X4_whichKind_90 F (lp_X4_whichKind_77 F x1 x2 x3 N) x1 x2 x3 x5 x6 t0 t1 m) (fun _ z => VE (wvM σ) z) := fun t0 t1 m hm => by
        rw [j_X4_whichKind_90_e]
        exact pc_ite (fun _ => pc_bnd (th_again hF hm) (fun _ s h => pc_ret h)) (fun _ => pc_ite (fun _ => b113 _ _ _ hm) (fun _ => pc_chk (fun _ => b113 _ _ _ hm)))
      exact pc_ite (fun _ => b90 _ _ _ hm) (fun _ => b90 _ _ _ hm)
  have h0 : VE (wvM σ) σ := fun _ _ => rfl
  have J53 : ∀ (t : Int32) (m : Mem), VE (wvM σ) m → pc (j_X4_whichKind_53 F x1 x2 x3 t m) (fun _ z => VE (wvM σ) z) := fun t m hm => by
    rw [j_X4_whichKind_53_e]
    exact pc_ite (fun _ => pc_bnd (th_think hF) (fun _ s h => loop F _ _ _ (fun p hp => (h p hp).trans (hm p hp)))) (fun _ => VE_ref hm)
  have J : ∀ (t : Int32) (m : Mem), VE (wvM σ) m → pc (j_X4_whichKind_25 F x1 x2 x3 t m) (fun _ z => VE (wvM σ) z) := fun t m hm => by
    rw [j_X4_whichKind_25_e]
    simp only [j_X4_whichKind_51_e]
    refine pc_bnd (pc_pf (fr_X4_wrongBit hF)) (fun _ s8 f => ?_)
    have h8 := VE_fr hm f (by intro c hc; unfold cM2 at hc; show ¬ _; unfold wf_1; first | exact id | omega)
    exact pc_ite (fun _ => pc_ite (fun _ => J53 _ _ h8) (fun _ => J53 _ _ h8)) (fun _ => J53 _ _ h8)
  rw [f_X4_whichKind_e]
  refine pc_lt (fun s5 g => ?_)
  have h5 : VE (wvM σ) s5 := by rw [g]; exact VE_th h0
  refine pc_bnd (pc_pf (fr_X4_isLooker hF)) (fun r s f => ?_)
  have h6 := VE_fr h5 f (by intro c hc; unfold cM2 at hc; show ¬ _; unfold wf_1; first | exact id | omega)
  refine pc_ite (fun _ => J _ _ h6) (fun _ => pc_bnd (pc_pf (fr_X4_wrongNumber hF)) (fun r s f => J _ _ (VE_fr h6 f (by intro c hc; unfold cM2 at hc; show ¬ _; unfold wf_1; first | exact id | omega))))
theorem rst_heir {F : Nat} (hF : 1000 ≤ F) {x1 x2 x3 : Int32} {σ : Mem} : pc (f_X4_heir F x1 x2 x3 σ) (fun _ z => VE (wvM σ) z) := by
  have loop : ∀ (N : Nat) (x5 : Int32) (m : Mem), VK (wvM σ) m → pc (lp_X4_heir_63 F x1 x2 x3 N x5 m) (fun _ z => VE (wvM σ) z) := by
    intro N
    induction N with
    | zero => intro x5 m _; exact pc_none rfl
    | succ N ih =>
      intro x5 m hm
      rw [lp_X4_heir_63_s]
      refine pc_ite (fun _ => pc_bnd (pc_pf (fr_X4_layBrings hF)) (fun _ s2 f2 => pc_bnd (pc_pf (fr_X4_ownerIn hF)) (fun _ s4 f4 => ?_))) (fun _ => pc_chk (fun _ => pc_lt (fun s8 g => ih _ _ (by rw [g]; exact VK_up hm (by decide)))))
      have h4 := VK_fr (VK_fr hm f2 (by show ¬ _; unfold wf_46; omega)) f4 (by show ¬ _; unfold wf_47; omega)
      exact pc_bnd (th_again hF h4) (fun _ s h => pc_ret h)
  have h0 : VE (wvM σ) σ := fun _ _ => rfl
  have J : ∀ (t : Int32) (m : Mem), VE (wvM σ) m → pc (j_X4_heir_32 F x1 x2 x3 t m) (fun _ z => VE (wvM σ) z) := fun t m hm => by
    rw [j_X4_heir_32_e]
    refine pc_ite (fun _ => pc_bnd (th_think hF) (fun _ s h => pc_bnd (pc_pf (fr_X4_stand hF)) (fun _ s2 f2 => loop F _ _ (VK_fr (fun p hp => (h p hp).trans (hm p hp)) f2 (by show ¬ _; unfold wf_55; omega))))) (fun _ => VE_ref hm)
  rw [f_X4_heir_e]
  simp only [j_X4_heir_31_e]
  refine pc_lt (fun s5 g => ?_)
  have h5 : VE (wvM σ) s5 := by rw [g]; exact VE_th h0
  refine pc_bnd (pc_pf (fr_X4_isLooker hF)) (fun r s f => ?_)
  have h6 := VE_fr h5 f (by intro c hc; unfold cM2 at hc; show ¬ _; unfold wf_1; first | exact id | omega)
  refine pc_ite (fun _ => J _ _ h6) (fun _ => pc_bnd (pc_pf (fr_X4_isView hF)) (fun r s f => ?_))
  have h7 := VE_fr h6 f (by intro c hc; unfold cM2 at hc; show ¬ _; unfold wf_1; first | exact id | omega)
  refine pc_ite (fun _ => J _ _ h7) (fun _ => pc_bnd (pc_pf (fr_X4_wrongNumber hF)) (fun r s f => J _ _ (VE_fr h7 f (by intro c hc; unfold cM2 at hc; show ¬ _; unfold wf_1; first | exact id | omega))))
theorem rst_newcomer {F : Nat} (hF : 1000 ≤ F) {x1 x2 x3 : Int32} {σ : Mem} : pc (f_X4_newcomer F x1 x2 x3 σ) (fun _ z => VE (wvM σ) z) := by
  have e195 : ∀ (x5 x6 x7 : Int32) (m : Mem), VK (wvM σ) m → pc (j_X4_newcomer_195 F x3 x5 x6 x7 m) (fun _ z => VE (wvM σ) z) := fun x5 x6 x7 m hm => by
    rw [j_X4_newcomer_195_e]
    refine pc_bnd (pc_pf (fr_X4_stand hF)) (fun _ s2 f2 => pc_bnd (th_again hF (VK_fr hm f2 (by show ¬ _; unfold wf_55; omega))) (fun _ s h => pc_ite (fun _ => pc_ret h) (fun _ => pc_ret h)))
  have inner : ∀ (k113 : Int32 → Int32 → Int32 → Mem → Option (Int32 × Mem)), (∀ a b c m, VK (wvM σ) m → pc (k113 a b c m) (fun _ z => VE (wvM σ) z)) → ∀ (N : Nat) (x5 x8 x6 x7 x9 : Int32) (m : Mem), VK (wvM σ) m → pc (lp_X4_newcomer_130 F k113 x3 x5 x8 N x6 x7 x9 m) (fun _ z => VE (wvM σ) z) := by
    intro k113 hk N
    induction N with
    | zero => intro x5 x8 x6 x7 x9 m _; exact pc_none rfl
    | succ N ih =>
      intro x5 x8 x6 x7 x9 m hm
      rw [lp_X4_newcomer_130_s]
      simp only [j_X4_newcomer_153_e, j_X4_newcomer_167_e, j_X4_newcomer_181_e]
      refine pc_ite (fun _ => hk _ _ _ _ hm) (fun _ => pc_bnd (pc_pf (fr_X4_ownerIn hF)) (fun r s2 f => ?_))
      have h2 := VK_fr hm f (by show ¬ _; unfold wf_47; omega)
      exact pc_ite (fun _ => pc_ite (fun _ => pc_ite (fun _ => ih _ _ _ _ _ _ h2) (fun _ => ih _ _ _ _ _ _ h2)) (fun _ => pc_ite (fun _ => ih _ _ _ _ _ _ h2) (fun _ => ih _ _ _ _ _ _ h2))) (fun _ => pc_ite (fun _ => pc_ite (fun _ => ih _ _ _ _ _ _ h2) (fun _ => ih _ _ _ _ _ _ h2)) (fun _ => pc_ite (fun _ => ih _ _ _ _ _ _ h2) (fun _ => ih _ _ _ _ _ _ h2)))
  have outer : ∀ (N : Nat) (x5 x6 x7 x8 : Int32) (m : Mem), VK (wvM σ) m → pc (lp_X4_newcomer_113 F x3 x5 N x6 x7 x8 m) (fun _ z => VE (wvM σ) z) := by
    intro N
    induction N with
    | zero => intro x5 x6 x7 x8 m _; exact pc_none rfl
    | succ N ih =>
      intro x5 x6 x7 x8 m hm
      rw [lp_X4_newcomer_113_s]
      exact pc_ite (fun _ => e195 _ _ _ _ hm) (fun _ => pc_ite (fun _ => e195 _ _ _ _ hm) (fun _ => inner _ (fun a b c m h => ih _ _ _ _ _ h) F _ _ _ _ _ _ hm))
  have h0 : VE (wvM σ) σ := fun _ _ => rfl
  have J : ∀ (t : Int32) (m : Mem), VE (wvM σ) m → pc (j_X4_newcomer_58 F x1 x2 x3 t m) (fun _ z => VE (wvM σ) z) := fun t m hm => by
    rw [j_X4_newcomer_58_e]
    refine pc_ite (fun _ => pc_bnd (th_think hF) (fun _ s h => pc_bnd (pc_pf (fr_X4_lookerComes hF)) (fun _ s1 f1 => pc_bnd (pc_pf (fr_X4_stand hF)) (fun _ s2 f2 => pc_bnd (pc_pf (fr_X4_layBrings hF)) (fun _ s3 f3 => outer F _ _ _ _ _ (VK_fr (VK_fr (VK_fr (fun p hp => (h p hp).trans (hm p hp)) f1 (by show ¬ _; unfold wf_54; omega)) f2 (by show ¬ _; unfold wf_55; omega)) f3 (by show ¬ _; unfold wf_46; omega))))))) (fun _ => VE_ref hm)
  rw [f_X4_newcomer_e]
  simp only [j_X4_newcomer_39_e]
  refine pc_lt (fun s5 g => ?_)
  have h5 : VE (wvM σ) s5 := by rw [g]; exact VE_th h0
  refine pc_bnd (pc_pf (fr_X4_isPane hF)) (fun r s f => ?_)
  have h6 := VE_fr h5 f (by intro c hc; unfold cM2 at hc; show ¬ _; unfold wf_1; first | exact id | omega)
  refine pc_ite (fun _ => J _ _ h6) (fun _ => pc_bnd (pc_pf (fr_X4_in hF)) (fun r s f => ?_))
  have h7 := VE_fr h6 f (by intro c hc; unfold cM2 at hc; show ¬ _; unfold wf_1; first | exact id | omega)
  refine pc_ite (fun _ => J _ _ h7) (fun _ => pc_bnd (pc_pf (fr_X4_in hF)) (fun r s f => ?_))
  have h8 := VE_fr h7 f (by intro c hc; unfold cM2 at hc; show ¬ _; unfold wf_1; first | exact id | omega)
  exact pc_ite (fun _ => J _ _ h8) (fun _ => pc_ite (fun _ => J _ _ h8) (fun _ => J _ _ h8))
theorem rst_lots {F : Nat} (hF : 1000 ≤ F) {x1 x2 x3 : Int32} {σ : Mem} : pc (f_X4_lots F x1 x2 x3 σ) (fun _ z => VE (wvM σ) z) := by
  have l85 : ∀ (k46 : Int32 → Int32 → Mem → Option (Int32 × Mem)) (k62 : Int32 → Mem → Option (Int32 × Mem)), (∀ a m, VK (wvM σ) m → pc (k62 a m) (fun _ z => VE (wvM σ) z)) → ∀ (N : Nat) (x5 x6 x7 x8 : Int32) (m : Mem), VK (wvM σ) m → pc (lp_X4_lots_85 F k46 k62 x1 x3 x5 x6 x7 N x8 m) (fun _ z => VE (wvM σ) z) := by
    intro k46 k62 hk N
    induction N with
    | zero => intro x5 x6 x7 x8 m _; exact pc_none rfl
    | succ N ih =>
      intro x5 x6 x7 x8 m hm
      rw [lp_X4_lots_85_s]
      have j120 : ∀ (t1 t2 t3 : Int32) (m : Mem), VK (wvM σ) m → pc (j_X4_lots_120 F k46 k62 (lp_X4_lots_85 F k46 k62 x1 x3 x5 x6 x7 N) x1 x3 x5 x6 x7 x8 t1 t2 t3 m) (fun _ z => VE (wvM σ) z) := fun t1 t2 t3 m hm => by
        rw [j_X4_lots_120_e]
        refine pc_bnd (pc_pf (fr_X4_drawBelow hF)) (fun _ s2 f2 => pc_bnd (pc_pf (fr_X4_stand hF)) (fun _ s4 f4 => ih _ _ _ _ _ (VK_fr (VK_fr hm f2 (by show ¬ _; unfold wf_76; omega)) f4 (by show ¬ _; unfold wf_55; omega))))
      refine pc_ite (fun _ => hk _ _ hm) (fun _ => pc_bnd (pc_pf (fr_X4_drawBelow hF)) (fun r s6 f => ?_))
      have h6 := VK_fr hm f (by show ¬ _; unfold wf_76; omega)
      exact pc_ite (fun _ => j120 _ _ _ _ h6) (fun _ => j120 _ _ _ _ h6)
  have l62 : ∀ (k46 : Int32 → Int32 → Mem → Option (Int32 × Mem)), (∀ a b m, VK (wvM σ) m → pc (k46 a b m) (fun _ z => VE (wvM σ) z)) → ∀ (N : Nat) (x5 x6 x7 : Int32) (m : Mem), VK (wvM σ) m → pc (lp_X4_lots_62 F k46 x1 x3 x5 x6 N x7 m) (fun _ z => VE (wvM σ) z) := by
    intro k46 hk N
    induction N with
    | zero => intro x5 x6 x7 m _; exact pc_none rfl
    | succ N ih =>
      intro x5 x6 x7 m hm
      rw [lp_X4_lots_62_s]
      simp only [j_X4_lots_195_e]
      refine pc_ite (fun _ => pc_bnd (pc_pf (fr_X4_layBrings hF)) (fun _ s8 f8 => pc_bnd (pc_pf (fr_X4_richestIn hF)) (fun r9 s10 f10 => ?_))) (fun _ => pc_bnd (pc_pf (fr_X4_stand hF)) (fun _ s18 f => l85 _ _ (fun a m h => ih _ _ _ _ h) F _ _ _ _ _ (VK_fr hm f (by show ¬ _; unfold wf_55; omega))))
      have h10 := VK_fr (VK_fr hm f8 (by show ¬ _; unfold wf_46; omega)) f10 (by show ¬ _; unfold wf_47; omega)
      refine pc_ite (fun _ => pc_bnd (pc_pf (fr_X4_viewsIn hF)) (fun r13 s14 f14 => pc_bnd (pc_pf (fr_X4_onesOf hF)) (fun r15 s16 f16 => hk _ _ _ ?_))) (fun _ => pc_ite (fun _ => pc_bnd (pc_pf (fr_X4_worthIn hF)) (fun r11 s12 f12 => hk _ _ _ (VK_fr h10 f12 (by show ¬ _; unfold wf_47; omega)))) (fun _ => hk _ _ _ h10))
      exact VK_fr (VK_fr h10 f14 (by show ¬ _; unfold wf_47; omega)) f16 (by show ¬ _; unfold wf_1; exact id)
  have e204 : ∀ (x5 : Int32) (m : Mem), VK (wvM σ) m → pc (j_X4_lots_204 F x5 m) (fun _ z => VE (wvM σ) z) := fun x5 m hm => by
    rw [j_X4_lots_204_e]
    exact pc_bnd (th_again hF hm) (fun _ s h => pc_ret h)
  have l46 : ∀ (N : Nat) (x5 x6 : Int32) (m : Mem), VK (wvM σ) m → pc (lp_X4_lots_46 F x1 x3 N x5 x6 m) (fun _ z => VE (wvM σ) z) := by
    intro N
    induction N with
    | zero => intro x5 x6 m _; exact pc_none rfl
    | succ N ih =>
      intro x5 x6 m hm
      rw [lp_X4_lots_46_s]
      exact pc_ite (fun _ => e204 _ _ hm) (fun _ => pc_ite (fun _ => e204 _ _ hm) (fun _ => l62 _ (fun a b m h => ih _ _ _ h) F _ _ _ _ hm))
  have h0 : VE (wvM σ) σ := fun _ _ => rfl
  rw [f_X4_lots_e]
  refine pc_lt (fun s5 g => ?_)
  have h5 : VE (wvM σ) s5 := by rw [g]; exact VE_th h0
  refine pc_bnd (pc_pf (fr_X4_wrongNumber hF)) (fun r s f => ?_)
  have h6 := VE_fr h5 f (by intro c hc; unfold cM2 at hc; show ¬ _; unfold wf_1; first | exact id | omega)
  refine pc_bnd (pc_pf (fr_X4_wrongBit hF)) (fun r s f => ?_)
  have h7 := VE_fr h6 f (by intro c hc; unfold cM2 at hc; show ¬ _; unfold wf_1; first | exact id | omega)
  refine pc_ite (fun _ => pc_lt (fun s26 g26 => pc_bnd (th_think hF) (fun _ s28 h => l46 F _ _ _ (fun p hp => (h p hp).trans ?_)))) (fun _ => VE_ref h7)
  rw [g26]
  exact VE_up h7 (by omega) (by omega) p hp
end
section
/-! questions: both sides stay alike -/
def cRest (c : Nat) : Prop := cX c ∨ cI c ∨ (71 ≤ c ∧ c ≤ 82) ∨ c = 117 ∨ c = 3004 ∨ c = 3005 ∨ c = 1030 ∨ cL c ∨ cW c
theorem rS_ve {σ z : Mem} (hV : wvV (wvM σ)) (h : rS σ) (e : ag cRest σ z) (v : VE (wvM σ) z) : rS z := by
  have e1 : z 70 4 = σ 70 4 := e 70 4 (Or.inr (Or.inr (Or.inr (Or.inr (Or.inl rfl)))))
  have e2 : z 70 5 = σ 70 5 := e 70 5 (Or.inr (Or.inr (Or.inr (Or.inr (Or.inr (Or.inl rfl))))))
  have e3 : z 101 30 = σ 101 30 := e 101 30 (Or.inr (Or.inr (Or.inr (Or.inr (Or.inr (Or.inr (Or.inl rfl)))))))
  have e4 : ∀ i, z 117 i = σ 117 i := fun i => e 117 i (Or.inr (Or.inr (Or.inr (Or.inl rfl))))
  have e5 : ∀ k, 71 ≤ k → k ≤ 82 → ∀ i, z k i = σ k i := fun k a b i => e k i (Or.inr (Or.inr (Or.inl (by rw [wcid_hi (by omega)]; exact ⟨a, b⟩))))
  have eT : ∀ j p, p < 188 → wsT z (σ 101 30).toNatClampNeg j p = wsT σ (σ 101 30).toNatClampNeg j p := fun j p hp => by
    unfold wsT
    rw [v p hp, e4]
  refine ⟨by rw [e2, e3]; exact h.1, fun j hj => ?_⟩
  rw [e3] at hj ⊢
  rw [e1]
  have b := wvV_b (rS_V hV h (j := j + 1) (by omega))
  have hm : ((σ 70 4).toNatClampNeg + j) % 8 < 8 := Nat.mod_lt _ (by decide)
  exact ⟨wvV_cg (h.2 j hj).1 (fun p hp => eT j p hp), wsU_cg (h.2 j hj).2 b.1 b.2 (e5 71 (by omega) (by omega) _) (e5 72 (by omega) (by omega) _) (e5 73 (by omega) (by omega) _) (funext fun i => e5 _ (by omega) (by omega) i) (fun p hp => eT j p hp) (fun p hp => eT _ p hp)⟩
theorem wR_ve {lim : Nat} {σ s z : Mem} (hl : 28 ≤ lim ∧ lim ≤ 188) (h : wR lim σ) (xs : wiX s) (mz : wiM z) (m2 : ∀ k, k < 101 → z k = s k) (e : ag cRest σ z) (v : VE (wvM σ) z) : wR lim z := by
  obtain ⟨hX, hM, hV, hI, hS, hL, hW⟩ := h
  refine ⟨wx_congr xs m2, mz, ⟨wvV_cg hV.1 v, weq_cg hV.2 hl.1 (fun p hp => v p (by omega)) (fun p hp => ag_wvX wt_h1 (ag_mono e (fun c hc => Or.inl (by unfold cX; omega))) (by omega))⟩, rI_ag hl hI (ag_mono e (fun c hc => Or.inr (Or.inl hc))), rS_ve hV.1 hS e v, rL_ag hL (ag_mono e (fun c hc => ?_)), rW_ag hW (ag_mono e (fun c hc => ?_))⟩
  · exact Or.inr (Or.inr (Or.inr (Or.inr (Or.inr (Or.inr (Or.inr (Or.inl hc)))))))
  · exact Or.inr (Or.inr (Or.inr (Or.inr (Or.inr (Or.inr (Or.inr (Or.inr hc)))))))
theorem VE_s {σ s z : Mem} (x2 : ∀ k, 101 ≤ k → s k = σ k) (v : VE (wvM s) z) : VE (wvM σ) z := fun p hp => (v p hp).trans (eMV x2 p hp)
theorem wR_m0 : wR 148 wt_m0 := by
  have h0 : ∀ i, (wt_m0 101 i) = 0 := fun _ => rfl
  refine ⟨⟨fun h hh => ?_, by decide, by decide, by decide, by decide⟩, fun k i hk => ?_, ⟨⟨by decide, by decide, by decide, fun p a b => ?_, fun p a b c => ?_⟩, fun p hp hv => ?_⟩, ⟨rfl, fun n => absurd rfl n⟩, rS_0 rfl rfl, ⟨rfl, fun i hi => absurd hi (Nat.not_lt_zero i)⟩, ⟨rfl, fun i hi => absurd hi (Nat.not_lt_zero i)⟩⟩
  · rcases wt_Hcs hh with e | e | e <;> subst e <;> decide
  · have hb : wiB i 0 := ⟨fun _ => by decide, fun _ => by decide, fun _ _ => by decide⟩
    have hb2 : wiB (i % 188) 0 := ⟨fun _ => by decide, fun _ => by decide, fun _ _ => by decide⟩
    by_cases e : k = 106
    · subst e
      exact wm_106 (by show -9 ≤ (-9 : Int32).toInt ∧ (-9 : Int32).toInt ≤ 5; decide)
    by_cases e2 : k = 102
    · subst e2; exact wm_free (by decide) (by decide) (by decide) (by decide)
    have h0 : wt_m0 k i = 0 := by
      unfold wt_m0
      rw [if_neg (by omega), if_neg e]
    rw [h0]
    exact ⟨fun _ => ⟨fun _ => by decide, fun _ => by decide, fun _ => by decide, fun _ => by decide, fun _ => by decide, fun _ => by decide, fun _ => by decide⟩, fun h => absurd h e, fun _ => by decide, fun _ => hb, fun _ => hb2⟩
  · have q : ∀ p, p < 12 → 4 ≤ p → 0 ≤ (wvM wt_m0 p).toInt ∧ (wvM wt_m0 p).toInt ≤ 9 := by decide +kernel
    exact q p b a
  · exfalso
    have := c.1 a b
    exact absurd this (Nat.not_lt_zero _)
  · have q : ∀ p, p < 28 → wvX 1 wt_m0 p = wvM wt_m0 p := by decide +kernel
    by_cases e : p < 28
    · exact q p e
    · exfalso
      have := hv.1 (by omega) hp
      exact absurd this (Nat.not_lt_zero _)
end
