section
theorem wtI_106 : ∀ p, p < 188 → wtJ p = 106 → wtI p < 120 := by decide +kernel
theorem rst_two {F : Nat} (hF : 1000 ≤ F) {x1 x2 x3 x4 : Int32} {σ : Mem} : pc (f_X4_two F x1 x2 x3 x4 σ) (fun _ z => VE (wvM σ) z) := by
  have rest : ∀ (N : Nat) (x8 : Int32) (m : Mem), VE (wvM σ) m → pc (lp_X4_two_205 F N x8 m) (fun _ z => VE (wvM σ) z) := by
    intro N
    induction N with
    | zero => intro x8 m _; exact pc_none rfl
    | succ N ih =>
      intro x8 m hm
      rw [lp_X4_two_205_s]
      refine pc_ite (fun _ => pc_ret hm) (fun _ => pc_bnd (pc_pf (fr_X4_areResting hF)) (fun r s f => ?_))
      have h := VE_fr hm f (by intro c hc; unfold cM2 at hc; show ¬ _; unfold wf_1; first | exact id | omega)
      exact pc_ite (fun _ => ih _ _ h) (fun _ => pc_ret h)
  have inner : ∀ (k77 : Int32 → Mem → Option (Int32 × Mem)), (∀ a m, VN2 (28 + ((24 : Int32) * x1 + x3).toNatClampNeg) (28 + ((24 : Int32) * x2 + x3).toNatClampNeg) (wvM σ) m → pc (k77 a m) (fun _ z => VE (wvM σ) z)) → ∀ (N : Nat) (x6 x7 x8 x9 : Int32) (m : Mem), VN2 (28 + ((24 : Int32) * x1 + x3).toNatClampNeg) (28 + ((24 : Int32) * x2 + x3).toNatClampNeg) (wvM σ) m → pc (lp_X4_two_89 F k77 x1 x2 x3 x4 x6 x7 x8 N x9 m) (fun _ z => VE (wvM σ) z) := by
    intro k77 hk N
    induction N with
    | zero => intro x6 x7 x8 x9 m _; exact pc_none rfl
    | succ N ih =>
      intro x6 x7 x8 x9 m hm
      rw [lp_X4_two_89_s]
      refine pc_ite (fun _ => hk _ _ hm) (fun _ => pc_chk (fun w1 => pc_lt (fun s2 g2 => pc_chk (fun w2 => pc_lt (fun s4 g4 => pc_bnd (pc_pf (fr_X4_worthAnew hF)) (fun r5 s6 f6 => pc_chk (fun _ => pc_lt (fun s8 g8 => pc_bnd (pc_pf (fr_X4_worthIn hF)) (fun r9 s10 f10 => pc_lt (fun s11 g11 => ih _ _ _ _ _ ?_))))))))))
      obtain ⟨q1, q2, q3⟩ := q106 w1
      obtain ⟨p1, p2, p3⟩ := q106 w2
      have h4 : VN2 (28 + ((24 : Int32) * x1 + x3).toNatClampNeg) (28 + ((24 : Int32) * x2 + x3).toNatClampNeg) (wvM σ) s4 := by rw [g4]; refine VN2_2 ?_ p1 p2 p3; rw [g2]; exact VN2_1 hm q1 q2 q3
      have h6 := VN2_fr h4 f6 (by intro c hc; unfold cM2 at hc; show ¬ _; unfold wf_48; first | exact id | omega)
      have h8 : VN2 (28 + ((24 : Int32) * x1 + x3).toNatClampNeg) (28 + ((24 : Int32) * x2 + x3).toNatClampNeg) (wvM σ) s8 := by rw [g8]; exact VN2_up h6 (by omega) (by omega)
      have h10 := VN2_fr h8 f10 (by intro c hc; unfold cM2 at hc; show ¬ _; unfold wf_47; first | exact id | omega)
      rw [g11]
      exact VN2_up h10 (by omega) (by omega)
  have outer : ∀ (N : Nat) (x6 x7 x8 : Int32) (m : Mem), VN2 (28 + ((24 : Int32) * x1 + x3).toNatClampNeg) (28 + ((24 : Int32) * x2 + x3).toNatClampNeg) (wvM σ) m → x6 = wvM σ (28 + ((24 : Int32) * x1 + x3).toNatClampNeg) → x7 = wvM σ (28 + ((24 : Int32) * x2 + x3).toNatClampNeg) → pc (lp_X4_two_77 F x1 x2 x3 x4 x6 x7 N x8 m) (fun _ z => VE (wvM σ) z) := by
    intro N
    induction N with
    | zero => intro x6 x7 x8 m _ _ _; exact pc_none rfl
    | succ N ih =>
      intro x6 x7 x8 m hm e6 e7
      rw [lp_X4_two_77_s]
      refine pc_ite (fun _ => pc_chk (fun w1 => pc_lt (fun s15 g15 => pc_chk (fun w2 => pc_lt (fun s17 g17 => rest F _ _ ?_))))) (fun _ => inner _ (fun a m h => ih _ _ _ _ h e6 e7) F _ _ _ _ _ hm)
      obtain ⟨q1, q2, q3⟩ := q106 w1
      obtain ⟨p1, p2, p3⟩ := q106 w2
      rw [g17]
      refine VN_back ?_ p1 p2 p3 e7
      rw [g15]
      exact VN2_b1 hm q1 q2 q3 e6
  have h0 : VE (wvM σ) σ := fun _ _ => rfl
  have J : ∀ (t : Int32) (m : Mem), VE (wvM σ) m → pc (j_X4_two_34 F x1 x2 x3 x4 t m) (fun _ z => VE (wvM σ) z) := fun t m hm => by
    rw [j_X4_two_34_e]
    refine pc_ite (fun _ => pc_chk (fun w1 => pc_lt (fun z19 g19 => pc_chk (fun w2 => pc_lt (fun z21 g21 => ?_))))) (fun _ => VE_ref hm)
    obtain ⟨q1, q2, q3⟩ := q106 w1
    obtain ⟨p1, p2, p3⟩ := q106 w2
    refine outer F _ _ _ _ (fun p hp _ _ => hm p hp) ?_ ?_
    · rw [g19, ← hm _ q1]; unfold wvM; rw [← q2, ← q3]
    · rw [g21, ← hm _ p1]; unfold wvM; rw [← p2, ← p3]
  rw [f_X4_two_e]
  simp only [j_X4_two_33_e]
  refine pc_lt (fun s5 g => ?_)
  have h5 : VE (wvM σ) s5 := by rw [g]; exact VE_th h0
  refine pc_bnd (pc_pf (fr_X4_areTwo hF)) (fun r s f => ?_)
  have h6 := VE_fr h5 f (by intro c hc; unfold cM2 at hc; show ¬ _; unfold wf_1; first | exact id | omega)
  refine pc_ite (fun _ => J _ _ h6) (fun _ => pc_bnd (pc_pf (fr_X4_isHour hF)) (fun r s f => ?_))
  have h7 := VE_fr h6 f (by intro c hc; unfold cM2 at hc; show ¬ _; unfold wf_1; first | exact id | omega)
  refine pc_ite (fun _ => J _ _ h7) (fun _ => pc_bnd (pc_pf (fr_X4_wrongNumber hF)) (fun r s f => J _ _ (VE_fr h7 f (by intro c hc; unfold cM2 at hc; show ¬ _; unfold wf_1; first | exact id | omega))))
/-- two rows changed for each other, k hours of them -/
def swp (a b k : Nat) (f g : Nat → Int32) : Prop := ∀ i, i < 120 → g i = if 24 * a ≤ i ∧ i < 24 * a + k then f (24 * b + (i - 24 * a)) else if 24 * b ≤ i ∧ i < 24 * b + k then f (24 * a + (i - 24 * b)) else f i
theorem mx_swapRosters {F : Nat} {x1 x2 : Int32} {a b : Nat} (ha : x1.toInt = (a : Int)) (hb : x2.toInt = (b : Int)) (ha5 : a < 5) (hb5 : b < 5) (hab : a ≠ b) {σ : Mem} : pc (f_X4_swapRosters F x1 x2 σ) (fun _ s => swp a b 24 (σ 106) (s 106) ∧ ∀ k, k ≠ 106 → s k = σ k) := by
  have loop : ∀ (N k : Nat) (x3 : Int32) (m : Mem), x3.toInt = (k : Int) → k ≤ 24 → swp a b k (σ 106) (m 106) → (∀ k, k ≠ 106 → m k = σ k) → pc (lp_X4_swapRosters_2 F x1 x2 N x3 m) (fun _ s => swp a b 24 (σ 106) (s 106) ∧ ∀ k, k ≠ 106 → s k = σ k) := by
    intro N
    induction N with
    | zero => intro k x3 m h1 h2 h3 h4; exact pc_none rfl
    | succ N ih =>
      intro k x3 m h1 h2 h3 h4
      rw [lp_X4_swapRosters_2_s]
      refine pc_ite (fun c => ?_) (fun c => ?_)
      · have := ti_le c
        rw [tz_24] at this
        have e : k = 24 := by omega
        subst e
        exact pc_ret ⟨h3, h4⟩
      have hc := ti_nle c
      rw [tz_24] at hc
      have i1 := tn_24 ha h1 ha5 (by omega)
      have i2 := tn_24 hb h1 hb5 (by omega)
      refine pc_chk (fun _ => pc_lt (fun z2 g2 => pc_chk (fun _ => pc_lt (fun s4 g4 => pc_lt (fun s5 g5 => ih (k + 1) _ s5 (ti_nx h1 (by omega)) (by omega) (fun i hi => ?_) (fun j hj => by rw [g5, up2_k hj, g4, up2_k hj]; exact h4 j hj))))))
      rw [i1] at g2
      rw [i1, i2] at g4
      rw [i2] at g5
      have ea : m 106 (24 * a + k) = σ 106 (24 * a + k) := by rw [h3 _ (by omega), if_neg (by omega), if_neg (by omega)]
      have eb : m 106 (24 * b + k) = σ 106 (24 * b + k) := by rw [h3 _ (by omega), if_neg (by omega), if_neg (by omega)]
      rw [g5]
      by_cases c1 : i = 24 * b + k
      · subst c1
        rw [up2_s, g2, ea, if_neg (by omega), if_pos (by omega), show 24 * b + k - 24 * b = k by omega]
      · rw [up2_i c1, g4]
        by_cases c2 : i = 24 * a + k
        · subst c2
          rw [up2_s, eb, if_pos (by omega), show 24 * a + k - 24 * a = k by omega]
        · rw [up2_i c2, h3 i hi]
          by_cases d1 : 24 * a ≤ i ∧ i < 24 * a + k
          · rw [if_pos d1, if_pos (by omega)]
          · rw [if_neg d1, if_neg (show ¬ (24 * a ≤ i ∧ i < 24 * a + (k + 1)) by omega)]
            by_cases d2 : 24 * b ≤ i ∧ i < 24 * b + k
            · rw [if_pos d2, if_pos (by omega)]
            · rw [if_neg d2, if_neg (by omega)]
  rw [f_X4_swapRosters_e]
  exact loop F 0 0 σ rfl (by omega) (fun i hi => by rw [if_neg (by omega), if_neg (by omega)]) (fun _ _ => rfl)
theorem swp_swp {a b : Nat} (ha5 : a < 5) (hb5 : b < 5) (hab : a ≠ b) {f g h : Nat → Int32} (h1 : swp a b 24 f g) (h2 : swp a b 24 g h) : ∀ i, i < 120 → h i = f i := fun i hi => by
  rw [h2 i hi]
  by_cases d1 : 24 * a ≤ i ∧ i < 24 * a + 24
  · rw [if_pos d1, h1 _ (by omega), if_neg (by omega), if_pos (by omega)]; congr 1; omega
  · rw [if_neg d1]
    by_cases d2 : 24 * b ≤ i ∧ i < 24 * b + 24
    · rw [if_pos d2, h1 _ (by omega), if_pos (by omega)]; congr 1; omega
    · rw [if_neg d2, h1 i hi, if_neg d1, if_neg d2]
theorem rst_swap {F : Nat} (hF : 1000 ≤ F) {x1 : Int32} {σ : Mem} (b3 : 0 ≤ (σ 101 3).toInt ∧ (σ 101 3).toInt ≤ 5) : pc (f_X4_swap F x1 σ) (fun _ z => VE (wvM σ) z) := by
  have hb : ∀ m, VE (wvM σ) m → (m 101 3).toInt = (σ 101 3).toInt := fun m hm => by have : wvM m 1 = wvM σ 1 := hm 1 (by decide); exact congrArg Int32.toInt this
  have inner : ∀ (k37 : Int32 → Int32 → Int32 → Mem → Option (Int32 × Mem)) (x4 : Int32) (a : Nat), x4.toInt = (a : Int) → a < 5 → (∀ c d m, VE (wvM σ) m → pc (k37 c d (x4 + 1) m) (fun _ z => VE (wvM σ) z)) → ∀ (N b : Nat) (x2 x3 x5 : Int32) (m : Mem), x5.toInt = (b : Int) → a < b → VE (wvM σ) m → pc (lp_X4_swap_52 F k37 x1 x4 N x2 x3 x5 m) (fun _ z => VE (wvM σ) z) := by
    intro k37 x4 a ha ha5 hk N
    induction N with
    | zero => intro b x2 x3 x5 m _ _ _; exact pc_none rfl
    | succ N ih =>
      intro b x2 x3 x5 m hbx hab hm
      rw [lp_X4_swap_52_s]
      simp only [j_X4_swap_128_e, j_X4_swap_129_e, j_X4_swap_148_e, j_X4_swap_160_e]
      refine pc_ite (fun _ => hk _ _ _ hm) (fun c => ?_)
      have hc := ti_nle c
      rw [hb m hm] at hc
      have hb5 : b < 5 := by omega
      refine pc_bnd (pc_pf (fr_X4_worthAnew hF)) (fun r1 s2 f2 => pc_bnd (pc_pf (fr_X4_worthIn hF)) (fun r3 s4 f4 => pc_bnd (mx_swapRosters ha hbx ha5 hb5 (by omega)) (fun _ s6 g6 => pc_bnd (pc_pf (fr_X4_worthAnew hF)) (fun r7 s8 f8 => pc_bnd (pc_pf (fr_X4_worthIn hF)) (fun r9 s10 f10 => pc_bnd (mx_swapRosters ha hbx ha5 hb5 (by omega)) (fun _ s12 g12 => ?_))))))
      have h4 := VE_fr (VE_fr hm f2 (by intro c hc; unfold cM2 at hc; show ¬ _; unfold wf_48; first | exact id | omega)) f4 (by intro c hc; unfold cM2 at hc; show ¬ _; unfold wf_47; first | exact id | omega)
      have f610 : ∀ k i, ¬ (k = 109 ∨ k = 110) → s10 k i = s6 k i := fun k i h => by
        have hw : ¬ (109 ≤ wcid k i ∧ wcid k i ≤ 110) := by rcases wcid_or k i with e | e <;> omega
        rw [f10 k i (by show ¬ _; unfold wf_47; omega), f8 k i (by show ¬ _; unfold wf_48; omega)]
      have h12 : VE (wvM σ) s12 := fun p hp => by
        rw [← h4 p hp]
        unfold wvM
        have hj := wtJ_101 p hp
        by_cases e : wtJ p = 106
        · have hi : wtI p < 120 := wtI_106 p hp e
          have e610 : s10 106 = s6 106 := funext fun i => f610 106 i (by omega)
          rw [e]
          have g6' := g6.1
          have g12' := g12.1
          rw [e610] at g12'
          exact swp_swp ha5 hb5 (by omega) g6' g12' _ hi
        · rw [g12.2 _ e, f610 _ _ (by omega), g6.2 _ e]
      have nx : (x5 + 1).toInt = ((b + 1 : Nat) : Int) := ti_nx hbx (by omega)
      have go : ∀ u v, pc (lp_X4_swap_52 F k37 x1 x4 N u v (x5 + 1) s12) (fun _ z => VE (wvM σ) z) := fun u v => ih (b + 1) u v _ s12 nx (by omega) h12
      exact pc_ite (fun _ => pc_ite (fun _ => pc_ite (fun _ => go _ _) (fun _ => go _ _)) (fun _ => pc_ite (fun _ => go _ _) (fun _ => go _ _))) (fun _ => pc_ite (fun _ => pc_ite (fun _ => pc_ite (fun _ => go _ _) (fun _ => go _ _)) (fun _ => pc_ite (fun _ => go _ _) (fun _ => go _ _))) (fun _ => pc_ite (fun _ => pc_ite (fun _ => go _ _) (fun _ => go _ _)) (fun _ => pc_ite (fun _ => go _ _) (fun _ => go _ _))))
  have outer : ∀ (N a : Nat) (x2 x3 x4 : Int32) (m : Mem), x4.toInt = (a : Int) → VE (wvM σ) m → pc (lp_X4_swap_37 F x1 N x2 x3 x4 m) (fun _ z => VE (wvM σ) z) := by
    intro N
    induction N with
    | zero => intro a x2 x3 x4 m _ _; exact pc_none rfl
    | succ N ih =>
      intro a x2 x3 x4 m ha hm
      rw [lp_X4_swap_37_s]
      refine pc_ite (fun _ => pc_ret hm) (fun c => ?_)
      have hc := ti_nle c
      rw [hb m hm] at hc
      exact inner _ x4 a ha (by omega) (fun c d m h => ih (a + 1) _ _ _ _ (ti_nx ha (by omega)) h) F (a + 1) _ _ _ _ (ti_nx ha (by omega)) (by omega) hm
  have h0 : VE (wvM σ) σ := fun _ _ => rfl
  rw [f_X4_swap_e]
  refine pc_lt (fun s5 g => ?_)
  have h5 : VE (wvM σ) s5 := by rw [g]; exact VE_th h0
  refine pc_bnd (pc_pf (fr_X4_wrongNumber hF)) (fun r s f => ?_)
  have h6 := VE_fr h5 f (by intro c hc; unfold cM2 at hc; show ¬ _; unfold wf_1; first | exact id | omega)
  refine pc_ite (fun _ => outer F 0 _ _ _ _ rfl h6) (fun _ => pc_bnd (pc_pf (fr_X4_wrongNumber hF)) (fun r s f => VE_ref (VE_fr h6 f (by intro c hc; unfold cM2 at hc; show ¬ _; unfold wf_1; first | exact id | omega))))
theorem rst_whichKind {F : Nat} (hF : 1000 ≤ F) {x1 x2 x3 : Int32} {σ : Mem} : pc (f_X4_whichKind F x1 x2 x3 σ) (fun _ z => VE (wvM σ) z) := by
  have loop : ∀ (N : Nat) (x5 x6 : Int32) (m : Mem), VK (wvM σ) m → pc (lp_X4_whichKind_77 F x1 x2 x3 N x5 x6 m) (fun _ z => VE (wvM σ) z) := by
    intro N
    induction N with
    | zero => intro x5 x6 m _; exact pc_none rfl
    | succ N ih =>
      intro x5 x6 m hm
      rw [lp_X4_whichKind_77_s]
      have b135 : ∀ (t1 t2 : Int32) (m : Mem), VK (wvM σ) m → pc (j_X4_whichKind_135 F (lp_X4_whichKind_77 F x1 x2 x3 N) x1 x2 x3 x5 x6 t1 t2 m) (fun _ z => VE (wvM σ) z) := fun t1 t2 m hm => by
        rw [j_X4_whichKind_135_e]
        simp only [j_X4_whichKind_154_e]
        refine pc_chk (fun _ => pc_lt (fun s2 g => pc_bnd (pc_pf (fr_X4_isRow hF)) (fun r s4 f => ?_)))
        have h4 : VK (wvM σ) s4 := VK_fr (by rw [g]; exact VK_up hm (by decide)) f (by show ¬ _; unfold wf_48; omega)
        exact pc_ite (fun _ => ih _ _ _ h4) (fun _ => ih _ _ _ h4)
      have b113 : ∀ (t1 t2 : Int32) (m : Mem), VK (wvM σ) m → pc (j_X4_whichKind_113 F (lp_X4_whichKind_77 F x1 x2 x3 N) x1 x2 x3 x5 x6 t1 t2 m) (fun _ z => VE (wvM σ) z) := fun t1 t2 m hm => by
        rw [j_X4_whichKind_113_e]
        refine pc_chk (fun _ => pc_lt (fun s6 g => ?_))
        have h6 : VK (wvM σ) s6 := by rw [g]; exact VK_up hm (by decide)
        exact pc_ite (fun _ => b135 _ _ _ h6) (fun _ => pc_chk (fun _ => b135 _ _ _ h6))
      have b90 : ∀ (t0 t1 : Int32) (m : Mem), VK (wvM σ) m → pc (j_X4_whichKind_90 F (lp_X4_whichKind_77 F x1 x2 x3 N) x1 x2 x3 x5 x6 t0 t1 m) (fun _ z => VE (wvM σ) z) := fun t0 t1 m hm => by
        rw [j_X4_whichKind_90_e]
        exact pc_ite (fun _ => pc_bnd (th_again hF hm) (fun _ s h => pc_ret h)) (fun _ => pc_ite (fun _ => b113 _ _ _ hm) (fun _ => pc_chk (fun _ => b113 _ _ _ hm)))
      exact pc_ite (fun _ => b90 _ _ _ hm) (fun _ => b90 _ _ _ hm)
  have h0 : VE (wvM σ) σ := fun _ _ => rfl
  have J53 : ∀ (t : Int32) (m : Mem), VE (wvM σ) m → pc (j_X4_whichKind_53 F x1 x2 x3 t m) (fun _ z => VE (wvM σ) z) := fun t m hm => by
    rw [j_X4_whichKind_53_e]
    exact pc_ite (fun _ => pc_bnd (th_think hF) (fun _ s h => loop F _ _ _ (fun p hp => (h p hp).trans (hm p hp)))) (fun _ => VE_ref hm)
  have J : ∀ (t : Int32) (m : Mem), VE (wvM σ) m → pc (j_X4_whichKind_25 F x1 x2 x3 t m) (fun _ z => VE (wvM σ) z) := fun t m hm => by
    rw [j_X4_whichKind_25_e]
    simp only [j_X4_whichKind_51_e]
    refine pc_bnd (pc_pf (fr_X4_wrongBit hF)) (fun _ s8 f => ?_)
    have h8 := VE_fr hm f (by intro c hc; unfold cM2 at hc; show ¬ _; unfold wf_1; first | exact id | omega)
    exact pc_ite (fun _ => pc_ite (fun _ => J53 _ _ h8) (fun _ => J53 _ _ h8)) (fun _ => J53 _ _ h8)
  rw [f_X4_whichKind_e]
  refine pc_lt (fun s5 g => ?_)
  have h5 : VE (wvM σ) s5 := by rw [g]; exact VE_th h0
  refine pc_bnd (pc_pf (fr_X4_isLooker hF)) (fun r s f => ?_)
  have h6 := VE_fr h5 f (by intro c hc; unfold cM2 at hc; show ¬ _; unfold wf_1; first | exact id | omega)
  refine pc_ite (fun _ => J _ _ h6) (fun _ => pc_bnd (pc_pf (fr_X4_wrongNumber hF)) (fun r s f => J _ _ (VE_fr h6 f (by intro c hc; unfold cM2 at hc; show ¬ _; unfold wf_1; first | exact id | omega))))
theorem rst_heir {F : Nat} (hF : 1000 ≤ F) {x1 x2 x3 : Int32} {σ : Mem} : pc (f_X4_heir F x1 x2 x3 σ) (fun _ z => VE (wvM σ) z) := by
  have loop : ∀ (N : Nat) (x5 : Int32) (m : Mem), VK (wvM σ) m → pc (lp_X4_heir_63 F x1 x2 x3 N x5 m) (fun _ z => VE (wvM σ) z) := by
    intro N
    induction N with
    | zero => intro x5 m _; exact pc_none rfl
    | succ N ih =>
      intro x5 m hm
      rw [lp_X4_heir_63_s]
      refine pc_ite (fun _ => pc_bnd (pc_pf (fr_X4_layBrings hF)) (fun _ s2 f2 => pc_bnd (pc_pf (fr_X4_ownerIn hF)) (fun _ s4 f4 => ?_))) (fun _ => pc_chk (fun _ => pc_lt (fun s8 g => ih _ _ (by rw [g]; exact VK_up hm (by decide)))))
      have h4 := VK_fr (VK_fr hm f2 (by show ¬ _; unfold wf_46; omega)) f4 (by show ¬ _; unfold wf_47; omega)
      exact pc_bnd (th_again hF h4) (fun _ s h => pc_ret h)
  have h0 : VE (wvM σ) σ := fun _ _ => rfl
  have J : ∀ (t : Int32) (m : Mem), VE (wvM σ) m → pc (j_X4_heir_32 F x1 x2 x3 t m) (fun _ z => VE (wvM σ) z) := fun t m hm => by
    rw [j_X4_heir_32_e]
    refine pc_ite (fun _ => pc_bnd (th_think hF) (fun _ s h => pc_bnd (pc_pf (fr_X4_stand hF)) (fun _ s2 f2 => loop F _ _ (VK_fr (fun p hp => (h p hp).trans (hm p hp)) f2 (by show ¬ _; unfold wf_55; omega))))) (fun _ => VE_ref hm)
  rw [f_X4_heir_e]
  simp only [j_X4_heir_31_e]
  refine pc_lt (fun s5 g => ?_)
  have h5 : VE (wvM σ) s5 := by rw [g]; exact VE_th h0
  refine pc_bnd (pc_pf (fr_X4_isLooker hF)) (fun r s f => ?_)
  have h6 := VE_fr h5 f (by intro c hc; unfold cM2 at hc; show ¬ _; unfold wf_1; first | exact id | omega)
  refine pc_ite (fun _ => J _ _ h6) (fun _ => pc_bnd (pc_pf (fr_X4_isView hF)) (fun r s f => ?_))
  have h7 := VE_fr h6 f (by intro c hc; unfold cM2 at hc; show ¬ _; unfold wf_1; first | exact id | omega)
  refine pc_ite (fun _ => J _ _ h7) (fun _ => pc_bnd (pc_pf (fr_X4_wrongNumber hF)) (fun r s f => J _ _ (VE_fr h7 f (by intro c hc; unfold cM2 at hc; show ¬ _; unfold wf_1; first | exact id | omega))))
theorem rst_newcomer {F : Nat} (hF : 1000 ≤ F) {x1 x2 x3 : Int32} {σ : Mem} : pc (f_X4_newcomer F x1 x2 x3 σ) (fun _ z => VE (wvM σ) z) := by
  have e195 : ∀ (x5 x6 x7 : Int32) (m : Mem), VK (wvM σ) m → pc (j_X4_newcomer_195 F x3 x5 x6 x7 m) (fun _ z => VE (wvM σ) z) := fun x5 x6 x7 m hm => by
    rw [j_X4_newcomer_195_e]
    refine pc_bnd (pc_pf (fr_X4_stand hF)) (fun _ s2 f2 => pc_bnd (th_again hF (VK_fr hm f2 (by show ¬ _; unfold wf_55; omega))) (fun _ s h => pc_ite (fun _ => pc_ret h) (fun _ => pc_ret h)))
  have inner : ∀ (k113 : Int32 → Int32 → Int32 → Mem → Option (Int32 × Mem)), (∀ a b c m, VK (wvM σ) m → pc (k113 a b c m) (fun _ z => VE (wvM σ) z)) → ∀ (N : Nat) (x5 x8 x6 x7 x9 : Int32) (m : Mem), VK (wvM σ) m → pc (lp_X4_newcomer_130 F k113 x3 x5 x8 N x6 x7 x9 m) (fun _ z => VE (wvM σ) z) := by
    intro k113 hk N
    induction N with
    | zero => intro x5 x8 x6 x7 x9 m _; exact pc_none rfl
    | succ N ih =>
      intro x5 x8 x6 x7 x9 m hm
      rw [lp_X4_newcomer_130_s]
      simp only [j_X4_newcomer_153_e, j_X4_newcomer_167_e, j_X4_newcomer_181_e]
      refine pc_ite (fun _ => hk _ _ _ _ hm) (fun _ => pc_bnd (pc_pf (fr_X4_ownerIn hF)) (fun r s2 f => ?_))
      have h2 := VK_fr hm f (by show ¬ _; unfold wf_47; omega)
      exact pc_ite (fun _ => pc_ite (fun _ => pc_ite (fun _ => ih _ _ _ _ _ _ h2) (fun _ => ih _ _ _ _ _ _ h2)) (fun _ => pc_ite (fun _ => ih _ _ _ _ _ _ h2) (fun _ => ih _ _ _ _ _ _ h2))) (fun _ => pc_ite (fun _ => pc_ite (fun _ => ih _ _ _ _ _ _ h2) (fun _ => ih _ _ _ _ _ _ h2)) (fun _ => pc_ite (fun _ => ih _ _ _ _ _ _ h2) (fun _ => ih _ _ _ _ _ _ h2)))
  have outer : ∀ (N : Nat) (x5 x6 x7 x8 : Int32) (m : Mem), VK (wvM σ) m → pc (lp_X4_newcomer_113 F x3 x5 N x6 x7 x8 m) (fun _ z => VE (wvM σ) z) := by
    intro N
    induction N with
    | zero => intro x5 x6 x7 x8 m _; exact pc_none rfl
    | succ N ih =>
      intro x5 x6 x7 x8 m hm
      rw [lp_X4_newcomer_113_s]
      exact pc_ite (fun _ => e195 _ _ _ _ hm) (fun _ => pc_ite (fun _ => e195 _ _ _ _ hm) (fun _ => inner _ (fun a b c m h => ih _ _ _ _ _ h) F _ _ _ _ _ _ hm))
  have h0 : VE (wvM σ) σ := fun _ _ => rfl
  have J : ∀ (t : Int32) (m : Mem), VE (wvM σ) m → pc (j_X4_newcomer_58 F x1 x2 x3 t m) (fun _ z => VE (wvM σ) z) := fun t m hm => by
    rw [j_X4_newcomer_58_e]
    refine pc_ite (fun _ => pc_bnd (th_think hF) (fun _ s h => pc_bnd (pc_pf (fr_X4_lookerComes hF)) (fun _ s1 f1 => pc_bnd (pc_pf (fr_X4_stand hF)) (fun _ s2 f2 => pc_bnd (pc_pf (fr_X4_layBrings hF)) (fun _ s3 f3 => outer F _ _ _ _ _ (VK_fr (VK_fr (VK_fr (fun p hp => (h p hp).trans (hm p hp)) f1 (by show ¬ _; unfold wf_54; omega)) f2 (by show ¬ _; unfold wf_55; omega)) f3 (by show ¬ _; unfold wf_46; omega))))))) (fun _ => VE_ref hm)
  rw [f_X4_newcomer_e]
  simp only [j_X4_newcomer_39_e]
  refine pc_lt (fun s5 g => ?_)
  have h5 : VE (wvM σ) s5 := by rw [g]; exact VE_th h0
  refine pc_bnd (pc_pf (fr_X4_isPane hF)) (fun r s f => ?_)
  have h6 := VE_fr h5 f (by intro c hc; unfold cM2 at hc; show ¬ _; unfold wf_1; first | exact id | omega)
  refine pc_ite (fun _ => J _ _ h6) (fun _ => pc_bnd (pc_pf (fr_X4_in hF)) (fun r s f => ?_))
  have h7 := VE_fr h6 f (by intro c hc; unfold cM2 at hc; show ¬ _; unfold wf_1; first | exact id | omega)
  refine pc_ite (fun _ => J _ _ h7) (fun _ => pc_bnd (pc_pf (fr_X4_in hF)) (fun r s f => ?_))
  have h8 := VE_fr h7 f (by intro c hc; unfold cM2 at hc; show ¬ _; unfold wf_1; first | exact id | omega)
  exact pc_ite (fun _ => J _ _ h8) (fun _ => pc_ite (fun _ => J _ _ h8) (fun _ => J _ _ h8))
theorem rst_lots {F : Nat} (hF : 1000 ≤ F) {x1 x2 x3 : Int32} {σ : Mem} : pc (f_X4_lots F x1 x2 x3 σ) (fun _ z => VE (wvM σ) z) := by
  have l85 : ∀ (k46 : Int32 → Int32 → Mem → Option (Int32 × Mem)) (k62 : Int32 → Mem → Option (Int32 × Mem)), (∀ a m, VK (wvM σ) m → pc (k62 a m) (fun _ z => VE (wvM σ) z)) → ∀ (N : Nat) (x5 x6 x7 x8 : Int32) (m : Mem), VK (wvM σ) m → pc (lp_X4_lots_85 F k46 k62 x1 x3 x5 x6 x7 N x8 m) (fun _ z => VE (wvM σ) z) := by
    intro k46 k62 hk N
    induction N with
    | zero => intro x5 x6 x7 x8 m _; exact pc_none rfl
    | succ N ih =>
      intro x5 x6 x7 x8 m hm
      rw [lp_X4_lots_85_s]
      have j120 : ∀ (t1 t2 t3 : Int32) (m : Mem), VK (wvM σ) m → pc (j_X4_lots_120 F k46 k62 (lp_X4_lots_85 F k46 k62 x1 x3 x5 x6 x7 N) x1 x3 x5 x6 x7 x8 t1 t2 t3 m) (fun _ z => VE (wvM σ) z) := fun t1 t2 t3 m hm => by
        rw [j_X4_lots_120_e]
        refine pc_bnd (pc_pf (fr_X4_drawBelow hF)) (fun _ s2 f2 => pc_bnd (pc_pf (fr_X4_stand hF)) (fun _ s4 f4 => ih _ _ _ _ _ (VK_fr (VK_fr hm f2 (by show ¬ _; unfold wf_76; omega)) f4 (by show ¬ _; unfold wf_55; omega))))
      refine pc_ite (fun _ => hk _ _ hm) (fun _ => pc_bnd (pc_pf (fr_X4_drawBelow hF)) (fun r s6 f => ?_))
      have h6 := VK_fr hm f (by show ¬ _; unfold wf_76; omega)
      exact pc_ite (fun _ => j120 _ _ _ _ h6) (fun _ => j120 _ _ _ _ h6)
  have l62 : ∀ (k46 : Int32 → Int32 → Mem → Option (Int32 × Mem)), (∀ a b m, VK (wvM σ) m → pc (k46 a b m) (fun _ z => VE (wvM σ) z)) → ∀ (N : Nat) (x5 x6 x7 : Int32) (m : Mem), VK (wvM σ) m → pc (lp_X4_lots_62 F k46 x1 x3 x5 x6 N x7 m) (fun _ z => VE (wvM σ) z) := by
    intro k46 hk N
    induction N with
    | zero => intro x5 x6 x7 m _; exact pc_none rfl
    | succ N ih =>
      intro x5 x6 x7 m hm
      rw [lp_X4_lots_62_s]
      simp only [j_X4_lots_195_e]
      refine pc_ite (fun _ => pc_bnd (pc_pf (fr_X4_layBrings hF)) (fun _ s8 f8 => pc_bnd (pc_pf (fr_X4_richestIn hF)) (fun r9 s10 f10 => ?_))) (fun _ => pc_bnd (pc_pf (fr_X4_stand hF)) (fun _ s18 f => l85 _ _ (fun a m h => ih _ _ _ _ h) F _ _ _ _ _ (VK_fr hm f (by show ¬ _; unfold wf_55; omega))))
      have h10 := VK_fr (VK_fr hm f8 (by show ¬ _; unfold wf_46; omega)) f10 (by show ¬ _; unfold wf_47; omega)
      refine pc_ite (fun _ => pc_bnd (pc_pf (fr_X4_viewsIn hF)) (fun r13 s14 f14 => pc_bnd (pc_pf (fr_X4_onesOf hF)) (fun r15 s16 f16 => hk _ _ _ ?_))) (fun _ => pc_ite (fun _ => pc_bnd (pc_pf (fr_X4_worthIn hF)) (fun r11 s12 f12 => hk _ _ _ (VK_fr h10 f12 (by show ¬ _; unfold wf_47; omega)))) (fun _ => hk _ _ _ h10))
      exact VK_fr (VK_fr h10 f14 (by show ¬ _; unfold wf_47; omega)) f16 (by show ¬ _; unfold wf_1; exact id)
  have e204 : ∀ (x5 : Int32) (m : Mem), VK (wvM σ) m → pc (j_X4_lots_204 F x5 m) (fun _ z => VE (wvM σ) z) := fun x5 m hm => by
    rw [j_X4_lots_204_e]
    exact pc_bnd (th_again hF hm) (fun _ s h => pc_ret h)
  have l46 : ∀ (N : Nat) (x5 x6 : Int32) (m : Mem), VK (wvM σ) m → pc (lp_X4_lots_46 F x1 x3 N x5 x6 m) (fun _ z => VE (wvM σ) z) := by
    intro N
    induction N with
    | zero => intro x5 x6 m _; exact pc_none rfl
    | succ N ih =>
      intro x5 x6 m hm
      rw [lp_X4_lots_46_s]
      exact pc_ite (fun _ => e204 _ _ hm) (fun _ => pc_ite (fun _ => e204 _ _ hm) (fun _ => l62 _ (fun a b m h => ih _ _ _ h) F _ _ _ _ hm))
  have h0 : VE (wvM σ) σ := fun _ _ => rfl
  rw [f_X4_lots_e]
  refine pc_lt (fun s5 g => ?_)
  have h5 : VE (wvM σ) s5 := by rw [g]; exact VE_th h0
  refine pc_bnd (pc_pf (fr_X4_wrongNumber hF)) (fun r s f => ?_)
  have h6 := VE_fr h5 f (by intro c hc; unfold cM2 at hc; show ¬ _; unfold wf_1; first | exact id | omega)
  refine pc_bnd (pc_pf (fr_X4_wrongBit hF)) (fun r s f => ?_)
  have h7 := VE_fr h6 f (by intro c hc; unfold cM2 at hc; show ¬ _; unfold wf_1; first | exact id | omega)
  refine pc_ite (fun _ => pc_lt (fun s26 g26 => pc_bnd (th_think hF) (fun _ s28 h => l46 F _ _ _ (fun p hp => (h p hp).trans ?_)))) (fun _ => VE_ref h7)
  rw [g26]
  exact VE_up h7 (by omega) (by omega) p hp
end
section
/-! questions: both sides stay alike -/
def cRest (c : Nat) : Prop := cX c ∨ cI c ∨ (71 ≤ c ∧ c ≤ 82) ∨ c = 117 ∨ c = 3004 ∨ c = 3005 ∨ c = 1030 ∨ cL c ∨ cW c
theorem rS_ve {σ z : Mem} (hV : wvV (wvM σ)) (h : rS σ) (e : ag cRest σ z) (v : VE (wvM σ) z) : rS z := by
  have e1 : z 70 4 = σ 70 4 := e 70 4 (Or.inr (Or.inr (Or.inr (Or.inr (Or.inl rfl)))))
  have e2 : z 70 5 = σ 70 5 := e 70 5 (Or.inr (Or.inr (Or.inr (Or.inr (Or.inr (Or.inl rfl))))))
  have e3 : z 101 30 = σ 101 30 := e 101 30 (Or.inr (Or.inr (Or.inr (Or.inr (Or.inr (Or.inr (Or.inl rfl)))))))
  have e4 : ∀ i, z 117 i = σ 117 i := fun i => e 117 i (Or.inr (Or.inr (Or.inr (Or.inl rfl))))
  have e5 : ∀ k, 71 ≤ k → k ≤ 82 → ∀ i, z k i = σ k i := fun k a b i => e k i (Or.inr (Or.inr (Or.inl (by rw [wcid_hi (by omega)]; exact ⟨a, b⟩))))
  have eT : ∀ j p, p < 188 → wsT z (σ 101 30).toNatClampNeg j p = wsT σ (σ 101 30).toNatClampNeg j p := fun j p hp => by
    unfold wsT
    rw [v p hp, e4]
  refine ⟨by rw [e2, e3]; exact h.1, fun j hj => ?_⟩
  rw [e3] at hj ⊢
  rw [e1]
  have b := wvV_b (rS_V hV h (j := j + 1) (by omega))
  have hm : ((σ 70 4).toNatClampNeg + j) % 8 < 8 := Nat.mod_lt _ (by decide)
  exact ⟨wvV_cg (h.2 j hj).1 (fun p hp => eT j p hp), wsU_cg (h.2 j hj).2 b.1 b.2 (e5 71 (by omega) (by omega) _) (e5 72 (by omega) (by omega) _) (e5 73 (by omega) (by omega) _) (funext fun i => e5 _ (by omega) (by omega) i) (fun p hp => eT j p hp) (fun p hp => eT _ p hp)⟩
theorem wR_ve {lim : Nat} {σ s z : Mem} (hl : 28 ≤ lim ∧ lim ≤ 188) (h : wR lim σ) (xs : wiX s) (mz : wiM z) (m2 : ∀ k, k < 101 → z k = s k) (e : ag cRest σ z) (v : VE (wvM σ) z) : wR lim z := by
  obtain ⟨hX, hM, hV, hI, hS, hL, hW⟩ := h
  refine ⟨wx_congr xs m2, mz, ⟨wvV_cg hV.1 v, weq_cg hV.2 hl.1 (fun p hp => v p (by omega)) (fun p hp => ag_wvX wt_h1 (ag_mono e (fun c hc => Or.inl (by unfold cX; omega))) (by omega))⟩, rI_ag hl hI (ag_mono e (fun c hc => Or.inr (Or.inl hc))), rS_ve hV.1 hS e v, rL_ag hL (ag_mono e (fun c hc => ?_)), rW_ag hW (ag_mono e (fun c hc => ?_))⟩
  · exact Or.inr (Or.inr (Or.inr (Or.inr (Or.inr (Or.inr (Or.inr (Or.inl hc)))))))
  · exact Or.inr (Or.inr (Or.inr (Or.inr (Or.inr (Or.inr (Or.inr (Or.inr hc)))))))
theorem VE_s {σ s z : Mem} (x2 : ∀ k, 101 ≤ k → s k = σ k) (v : VE (wvM s) z) : VE (wvM σ) z := fun p hp => (v p hp).trans (eMV x2 p hp)
theorem wR_m0 : wR 148 wt_m0 := by
  have h0 : ∀ i, (wt_m0 101 i) = 0 := fun _ => rfl
  refine ⟨⟨fun h hh => ?_, by decide, by decide, by decide, by decide⟩, fun k i hk => ?_, ⟨⟨by decide, by decide, by decide, fun p a b => ?_, fun p a b c => ?_⟩, fun p hp hv => ?_⟩, ⟨rfl, fun n => absurd rfl n⟩, rS_0 rfl rfl, ⟨rfl, fun i hi => absurd hi (Nat.not_lt_zero i)⟩, ⟨rfl, fun i hi => absurd hi (Nat.not_lt_zero i)⟩⟩
  · rcases wt_Hcs hh with e | e | e <;> subst e <;> decide
  · have hb : wiB i 0 := ⟨fun _ => by decide, fun _ => by decide, fun _ _ => by decide⟩
    have hb2 : wiB (i % 188) 0 := ⟨fun _ => by decide, fun _ => by decide, fun _ _ => by decide⟩
    by_cases e : k = 106
    · subst e
      exact wm_106 (by show -9 ≤ (-9 : Int32).toInt ∧ (-9 : Int32).toInt ≤ 5; decide)
    by_cases e2 : k = 102
    · subst e2; exact wm_free (by decide) (by decide) (by decide) (by decide)
    have h0 : wt_m0 k i = 0 := by
      unfold wt_m0
      rw [if_neg (by omega), if_neg e]
    rw [h0]
    exact ⟨fun _ => ⟨fun _ => by decide, fun _ => by decide, fun _ => by decide, fun _ => by decide, fun _ => by decide, fun _ => by decide, fun _ => by decide⟩, fun h => absurd h e, fun _ => by decide, fun _ => hb, fun _ => hb2⟩
  · have q : ∀ p, p < 12 → 4 ≤ p → 0 ≤ (wvM wt_m0 p).toInt ∧ (wvM wt_m0 p).toInt ≤ 9 := by decide +kernel
    exact q p b a
  · exfalso
    have := c.1 a b
    exact absurd this (Nat.not_lt_zero _)
  · have q : ∀ p, p < 28 → wvX 1 wt_m0 p = wvM wt_m0 p := by decide +kernel
    by_cases e : p < 28
    · exact q p e
    · exfalso
      have := hv.1 (by omega) hp
      exact absurd this (Nat.not_lt_zero _)
end
section
/-! questions that both sides answer from the same vector -/
def vX (V : Nat → Int32) (σ : Mem) : Prop := wvV V ∧ (∀ p, p < 28 → wvX 1 σ p = V p) ∧ ∀ l t : Nat, (l : Int) < (V 1).toInt → t < 24 → σ (1 + 5 + l) t = wvN (V (28 + 24 * l + t))
def vM (V : Nat → Int32) (s : Mem) : Prop := wvV V ∧ ∀ p, p < 188 → wvM s p = V p
theorem wvN_N (x : Int32) : wvN (wvN x) = x := by
  by_cases a : x = 9
  · subst a; decide
  by_cases b : x = -9
  · subst b; decide
  have e : wvN x = x := by unfold wvN; rw [if_neg a, if_neg b]
  rw [e, e]
theorem wvN_s {x : Int32} (h : 0 ≤ x.toInt ∧ x.toInt ≤ 5) : wvN x = x := wvN_o h.1 (fun q => by rw [q] at h; exact absurd h.2 (by decide))
theorem wvN_x {v x : Int32} (h : 0 ≤ x.toInt ∧ x.toInt ≤ 5) : wvN v = x ↔ v = x :=
  ⟨fun q => by rw [← wvN_N v, q]; exact wvN_s h, fun q => by rw [q]; exact wvN_s h⟩
theorem wvN_9 {v : Int32} (h : v.toInt = -9 ∨ (0 ≤ v.toInt ∧ v.toInt ≤ 5)) : wvN v = 9 ↔ v.toInt < 0 := by
  rcases h with h | h
  · have e : v = -9 := Int32.toInt_inj.mp (by rw [h]; rfl)
    exact ⟨fun _ => by omega, fun _ => by rw [e]; decide⟩
  · rw [wvN_s h]
    exact ⟨fun q => by rw [q] at h; exact absurd h.2 (by decide), fun q => by omega⟩
theorem vV_c {V : Nat → Int32} (h : wvV V) {l t : Nat} (hl : (l : Int) < (V 1).toInt) (ht : t < 24) : (V (28 + 24 * l + t)).toInt = -9 ∨ (0 ≤ (V (28 + 24 * l + t)).toInt ∧ (V (28 + 24 * l + t)).toInt ≤ 5) := by
  have h5 := h.2.1.2
  have h6 := h.1.2
  have n1 := ti_nat (V 1)
  have q := h.2.2.2.2 (28 + 24 * l + t) (by omega) (by omega) ⟨fun _ _ => by omega, fun _ => by omega⟩
  rcases q with q | q
  · exact Or.inl q
  · exact Or.inr ⟨q.1, by omega⟩
theorem vX_of {lim : Nat} {σ : Mem} (hl : 148 ≤ lim) (h : rV lim σ) : vX (wvM σ) σ := by
  refine ⟨h.1, fun p hp => weq_lo h.2 (by omega) hp, fun l t hl1 ht => ?_⟩
  have h5 := h.1.2.1.2
  have n1 := ti_nat (wvM σ 1)
  have hj := wvJI_5 l (by omega) t ht
  have e := h.2 (28 + 24 * l + t) (by omega) ⟨fun _ _ => by omega, fun _ => by omega⟩
  unfold wvX at e
  rw [wvE_i (by omega), ← hj.1, ← hj.2, show 1 + (5 + l) = 1 + 5 + l by omega] at e
  rw [← e, wvN_N]
theorem vX_12 {V : Nat → Int32} {σ : Mem} (h : vX V σ) {i : Nat} (hi : i < 6) : σ (1 + 1) i = V (12 + i) := by
  have e := h.2.1 (12 + i) (by omega)
  have hj := wvJI_1 i hi
  unfold wvX at e
  rw [wvE_o (by omega), ← hj.1, ← hj.2] at e
  exact e
theorem vM_106 {V : Nat → Int32} {s : Mem} (h : vM V s) {i : Nat} (hi : i < 120) : s 106 i = V (28 + i) := by
  have e := h.2 (28 + i) (by omega)
  have hj := wtJI_106 i hi
  unfold wvM at e
  rw [hj.1, hj.2] at e
  exact e
theorem vM_103 {V : Nat → Int32} {s : Mem} (h : vM V s) {i : Nat} (hi : i < 6) : s 103 i = V (12 + i) := by
  have e := h.2 (12 + i) (by omega)
  have hj := wtJI_103 i hi
  unfold wvM at e
  rw [hj.1, hj.2] at e
  exact e
theorem vM_up {V : Nat → Int32} {s z : Mem} (h : vM V s) (hz : z = up2 s 101 10 0) : vM V z := ⟨h.1, fun p hp => by rw [hz, th_V hp]; exact h.2 p hp⟩
theorem eqq {lim : Nat} {σ : Mem} {o1 : Option (Int32 × Mem)} {o2 : Mem → Option (Int32 × Mem)} {A : (Nat → Int32) → Int32} (h : ∃ r1 s1 r2 s2, o1 = some (r1, s1) ∧ o2 s1 = some (r2, s2) ∧ wR lim s2) (hl : 148 ≤ lim) (hV : rV lim σ) (p0 : pc o1 (fun _ s => ∀ k, 101 ≤ k → s k = σ k)) (p1 : ∀ V, vX V σ → pc o1 (fun r _ => r = A V)) (p2 : ∀ V s, vM V s → pc (o2 s) (fun r _ => r = A V)) : ∃ r1 s1 r2 s2, o1 = some (r1, s1) ∧ o2 s1 = some (r2, s2) ∧ wR lim s2 ∧ r1 = r2 := by
  obtain ⟨r1, s1, r2, s2, e1, e2, w⟩ := h
  have a := p1 _ (vX_of hl hV) r1 s1 e1
  have hs := p0 r1 s1 e1
  have b := p2 (wvM σ) s1 ⟨hV.1, eMV hs⟩ r2 s2 e2
  exact ⟨r1, s1, r2, s2, e1, e2, w, a.trans b.symm⟩
theorem cF_z {b : Int32} : cF 0 b = b := if_pos rfl
theorem cF_n {a b : Int32} (h : ¬ a = 0) : cF a b = a := if_neg h
theorem cq_end {F : Nat} {e val : Int32} {σ : Mem} {A : Option (Int32 × Mem)} (h : e = 0 → pc A (fun r _ => r = val)) : pc (if e = 0 then A else wt_bnd (f_X3_refuse F e σ) fun r s => some (r, s)) (fun r _ => r = cF e val) :=
  pc_ite (fun c => pc_mono (h c) (fun a s g => by rw [g, c, cF_z])) (fun c => pc_bnd ax_refuse (fun r s q => pc_ret (by rw [q.1, cF_n c])))
theorem mq_ref {F : Nat} {e X : Int32} {σ : Mem} (h : X = e) : pc (wt_bnd (f_X4_refuse F e σ) fun r s => some (r, s)) (fun r _ => r = X) := pc_bnd mx_refuse (fun r s q => pc_ret (q.1.trans h.symm))
theorem io_nat : ∀ n, n < 24 → (Int32.ofNat n).toInt = (n : Int) := by decide +kernel
theorem io_eq {x : Int32} {n : Nat} (h : x.toInt = (n : Int)) (hn : n < 24) : x = Int32.ofNat n := Int32.toInt_inj.mp (by rw [h, io_nat n hn])
/-! roster -/
def anRoster (V : Nat → Int32) (x1 x2 : Int32) : Int32 := cF (cF (cB (0 ≤ x1.toInt ∧ x1.toInt < (V 1).toInt)) (cB (0 ≤ x2.toInt ∧ x2.toInt ≤ 23))) (V (28 + 24 * x1.toNatClampNeg + x2.toNatClampNeg))
theorem qx_roster {F : Nat} {x1 x2 : Int32} {σ : Mem} {V : Nat → Int32} (h : vX V σ) : pc (f_X3_roster F x1 x2 σ) (fun r _ => r = anRoster V x1 x2) := by
  have e1 : σ 1 2 = V 1 := h.2.1 1 (by decide)
  rw [f_X3_roster_e]
  refine pc_be (ax_noLooker (by rw [e1]; exact h.1.2.1.2)) (pc_be ax_noHour (pc_be ax_firstOf ?_))
  rw [e1]
  unfold anRoster
  refine cq_end (fun e => pc_chk (fun b1 => pc_chk (fun b2 => pc_lt (fun z9 h9 => ?_))))
  obtain ⟨c1, c2⟩ := cF_0 e
  have d1 := cB_0 c1
  have d2 := cB_0 c2
  have n1 := ti_nat x1
  have n2 := ti_nat x2
  rw [h.2.2 x1.toNatClampNeg x2.toNatClampNeg (by omega) (by omega)] at h9
  have hb := vV_c h.1 (l := x1.toNatClampNeg) (t := x2.toNatClampNeg) (by omega) (by omega)
  generalize V (28 + 24 * x1.toNatClampNeg + x2.toNatClampNeg) = v at *
  refine pc_ite (fun c => pc_ret ?_) (fun c => pc_ret ?_)
  · have q := (wvN_9 hb).mp (h9.symm.trans c)
    rcases hb with b | b
    · exact Int32.toInt_inj.mp (by rw [b]; rfl)
    · omega
  · rw [h9] at c ⊢
    rcases hb with b | b
    · exact absurd ((wvN_9 (Or.inl b)).mpr (by omega)) c
    · exact wvN_s b
theorem qm_roster {F : Nat} {x1 x2 : Int32} {s : Mem} {V : Nat → Int32} (h : vM V s) : pc (f_X4_roster F x1 x2 s) (fun r _ => r = anRoster V x1 x2) := by
  rw [f_X4_roster_e]
  refine pc_lt (fun s3 h3 => ?_)
  have h' : vM V s3 := vM_up h h3
  clear h3
  have e1 : s3 101 3 = V 1 := h'.2 1 (by decide)
  have h5 := h.1.2.1.2
  simp only [j_X4_roster_34_e]
  refine pc_be (mx_isLooker (by rw [e1]; exact h.1.2.1.1)) ?_
  rw [e1]
  unfold anRoster
  by_cases c : 0 ≤ x1.toInt ∧ x1.toInt < (V 1).toInt
  · rw [if_pos c, if_neg (by decide), cB_t c]
    refine pc_be mx_isHour ?_
    by_cases c2 : 0 ≤ x2.toInt ∧ x2.toInt ≤ 23
    · rw [if_pos c2, if_neg (by decide), cB_t c2, cF_z, cF_z]
      have n1 := ti_nat x1
      have n2 := ti_nat x2
      refine pc_chk (fun _ => pc_ret ?_)
      rw [tn_24 (l := x1.toNatClampNeg) (k := x2.toNatClampNeg) (by omega) (by omega) (by omega) (by omega), vM_106 h' (by omega), show 28 + (24 * x1.toNatClampNeg + x2.toNatClampNeg) = 28 + 24 * x1.toNatClampNeg + x2.toNatClampNeg by omega]
    · rw [if_neg c2, if_pos rfl, cB_f c2, cF_z]
      exact mq_ref (cF_n (by decide))
  · rw [if_neg c, if_pos rfl, cB_f c]
    exact mq_ref (by rw [cF_n (a := -1) (by decide), cF_n (by decide)])
/-! paneOf -/
def anCount (V : Nat → Int32) (x : Int32) : Nat → Int32
  | 0 => 0
  | n + 1 => anCount V x n + (if V (28 + n) = x then 1 else 0)
def anPaneOf (V : Nat → Int32) (x1 x2 : Int32) : Int32 := cF (cF (cB (0 ≤ x1.toInt ∧ x1.toInt < (V 0).toInt)) (cO x2 2)) (if x2 = 0 then V (12 + x1.toNatClampNeg) else anCount V x1 (24 * (V 1).toNatClampNeg))
theorem anCount_s {V : Nat → Int32} {x : Int32} {l t : Nat} : anCount V x (24 * l + (t + 1)) = anCount V x (24 * l + t) + (if V (28 + 24 * l + t) = x then 1 else 0) := by
  rw [show 28 + 24 * l + t = 28 + (24 * l + t) by omega]; rfl
theorem qx_hoursAt_15 {F : Nat} {x1 x3 : Int32} {σ : Mem} {V : Nat → Int32} (h : vX V σ) (hx : 0 ≤ x1.toInt ∧ x1.toInt ≤ 5) {k4 : Int32 → Int32 → Mem → Option (Int32 × Mem)} {Q : Int32 → Mem → Prop} {l : Nat} (hl : x3.toInt = (l : Int)) (hl5 : (l : Int) < (V 1).toInt) (hk : ∀ x2, x2 = anCount V x1 (24 * (l + 1)) → pc (k4 x2 (x3 + 1) σ) Q) : ∀ (N t : Nat) (x2 x4 : Int32), x4.toInt = (t : Int) → t ≤ 24 → x2 = anCount V x1 (24 * l + t) → pc (lp_X0_hoursAt_15 F k4 1 x1 x3 N x2 x4 σ) Q := by
  intro N
  induction N with
  | zero => intro t x2 x4 h1 h2 h3; exact pc_none rfl
  | succ N ih =>
    intro t x2 x4 h1 h2 h3
    rw [lp_X0_hoursAt_15_s]
    simp only [j_X0_hoursAt_38_e]
    refine pc_ite (fun c => ?_) (fun c => pc_chk (fun _ => pc_chk (fun _ => ?_)))
    · have d := ti_le c
      rw [tz_24] at d
      exact hk _ (by rw [h3, show 24 * l + t = 24 * (l + 1) by omega])
    have d := ti_nle c
    rw [tz_24] at d
    rw [tn_int hl, tn_int h1, h.2.2 l t hl5 (by omega)]
    refine pc_ite (fun c9 => ih (t + 1) _ _ (ti_nx h1 (by omega)) (by omega) ?_) (fun c9 => ih (t + 1) _ _ (ti_nx h1 (by omega)) (by omega) ?_)
    · rw [anCount_s, if_pos ((wvN_x hx).mp c9), h3]
    · rw [anCount_s, if_neg (fun q => c9 ((wvN_x hx).mpr q)), h3, Int32.add_zero]
theorem qx_hoursAt {F : Nat} {x1 : Int32} {σ : Mem} {V : Nat → Int32} (h : vX V σ) (hx : 0 ≤ x1.toInt ∧ x1.toInt ≤ 5) : pc (f_X0_hoursAt F 1 x1 σ) (fun r s => r = anCount V x1 (24 * (V 1).toNatClampNeg) ∧ s = σ) := by
  have e1 : σ 1 2 = V 1 := h.2.1 1 (by decide)
  have n1 := ti_nat (V 1)
  have h5 := h.1.2.1.2
  have key : ∀ (N l : Nat) (x2 x3 : Int32), x3.toInt = (l : Int) → (l : Int) ≤ (V 1).toInt → x2 = anCount V x1 (24 * l) → pc (lp_X0_hoursAt_4 F 1 x1 N x2 x3 σ) (fun r s => r = anCount V x1 (24 * (V 1).toNatClampNeg) ∧ s = σ) := by
    intro N
    induction N with
    | zero => intro l x2 x3 h1 h2 h3; exact pc_none rfl
    | succ N ih =>
      intro l x2 x3 h1 h2 h3
      rw [lp_X0_hoursAt_4_s, e1]
      refine pc_ite (fun c => ?_) (fun c => ?_)
      · have d := ti_le c
        exact pc_ret ⟨by rw [h3, show l = (V 1).toNatClampNeg by omega], rfl⟩
      · have d := ti_nle c
        exact qx_hoursAt_15 h hx h1 (by omega) (fun y hy => ih (l + 1) y (x3 + 1) (ti_nx h1 (by omega)) (by omega) hy) F 0 x2 0 rfl (by omega) h3
  rw [f_X0_hoursAt_e]
  exact key F 0 0 0 rfl h.1.2.1.1 rfl
theorem qx_paneOf {F : Nat} {x1 x2 : Int32} {σ : Mem} {V : Nat → Int32} (h : vX V σ) : pc (f_X3_paneOf F x1 x2 σ) (fun r _ => r = anPaneOf V x1 x2) := by
  have e0 : σ 1 0 = V 0 := h.2.1 0 (by decide)
  rw [f_X3_paneOf_e]
  refine pc_be (ax_noPane (by rw [e0]; exact h.1.1.2)) (pc_be ax_notBelow (pc_be ax_firstOf ?_))
  rw [e0]
  unfold anPaneOf
  refine cq_end (fun e => ?_)
  obtain ⟨c1, c2⟩ := cF_0 e
  have d1 := cB_0 c1
  have h6 := h.1.1.2
  refine pc_ite (fun c => pc_chk (fun b => pc_ret ?_)) (fun c => pc_bnd (qx_hoursAt h ⟨d1.1, by omega⟩) (fun r s q => pc_ret ?_))
  · rw [if_pos c]; exact vX_12 h b.2.2
  · rw [if_neg c]; exact q.1
theorem ti_24 {x : Int32} (h : 0 ≤ x.toInt ∧ x.toInt ≤ 5) : ((24 : Int32) * x).toInt = 24 * x.toInt := by rw [ti_mul (by rw [tz_24]; omega) (by rw [tz_24]; omega), tz_24]
theorem qm_paneOf_47 {F : Nat} {x1 x2 : Int32} {s : Mem} {V : Nat → Int32} (h : vM V s) : ∀ (N i : Nat) (x3 x4 : Int32), x4.toInt = (i : Int) → (i : Int) ≤ 24 * (V 1).toInt → x3 = anCount V x1 i → pc (lp_X4_paneOf_47 F x1 x2 N x3 x4 s) (fun r _ => r = if x2 = 0 then V (12 + x1.toNatClampNeg) else anCount V x1 (24 * (V 1).toNatClampNeg)) := by
  have e1 : s 101 3 = V 1 := h.2 1 (by decide)
  have n1 := ti_nat (V 1)
  have h5 := h.1.2.1
  have t24 := ti_24 h5
  intro N
  induction N with
  | zero => intro i x3 x4 h1 h2 h3; exact pc_none rfl
  | succ N ih =>
    intro i x3 x4 h1 h2 h3
    rw [lp_X4_paneOf_47_s, e1]
    simp only [j_X4_paneOf_76_e]
    refine pc_ite (fun c => ?_) (fun c => pc_chk (fun _ => ?_))
    · have d := ti_le c
      rw [t24] at d
      refine pc_ite (fun c0 => pc_chk (fun b => pc_ret ?_)) (fun c0 => pc_ret ?_)
      · rw [if_pos c0]; exact vM_103 h b.2.2
      · rw [if_neg c0, h3, show i = 24 * (V 1).toNatClampNeg by omega]
    have d := ti_nle c
    rw [t24] at d
    rw [tn_int h1, vM_106 h (by omega)]
    refine pc_ite (fun c9 => ih (i + 1) _ _ (ti_nx h1 (by omega)) (by omega) ?_) (fun c9 => ih (i + 1) _ _ (ti_nx h1 (by omega)) (by omega) ?_)
    · show x3 + 1 = anCount V x1 i + _
      rw [if_pos c9, h3]
    · show x3 + 0 = anCount V x1 i + _
      rw [if_neg c9, h3]
theorem qm_paneOf {F : Nat} {x1 x2 : Int32} {s : Mem} {V : Nat → Int32} (h : vM V s) : pc (f_X4_paneOf F x1 x2 s) (fun r _ => r = anPaneOf V x1 x2) := by
  rw [f_X4_paneOf_e]
  refine pc_lt (fun s7 h7 => ?_)
  have h' : vM V s7 := vM_up h h7
  clear h7
  have e0 : s7 101 1 = V 0 := h'.2 0 (by decide)
  have hP : f_X4_isPane F x1 s7 = some (if 0 ≤ x1.toInt ∧ x1.toInt < (V 0).toInt then 1 else 0, s7) := by
    rw [mx_isPane (by rw [e0]; exact h.1.1.1), e0]
  simp only [j_X4_paneOf_23_e, j_X4_paneOf_38_e]
  refine pc_be hP ?_
  unfold anPaneOf
  by_cases c : 0 ≤ x1.toInt ∧ x1.toInt < (V 0).toInt
  · rw [if_pos c, if_neg (by decide), cB_t c, cF_z]
    refine pc_be (mx_in32 (lo := 0) (hi := 1) rfl rfl) ?_
    by_cases c2 : 0 ≤ x2.toInt ∧ x2.toInt ≤ 1
    · have hO : cO x2 2 = 0 := if_pos ⟨c2.1, by rw [tz_2]; omega⟩
      rw [if_pos c2, if_neg (by decide), hO, cF_z]
      exact qm_paneOf_47 h' F 0 0 0 rfl (by have := h.1.2.1.1; omega) rfl
    · have hO : cO x2 2 = -2 := if_neg (fun q => c2 ⟨q.1, by have := q.2; rw [tz_2] at this; omega⟩)
      rw [if_neg c2, if_pos rfl, hO]
      refine pc_be hP ?_
      rw [if_pos c, if_neg (by decide)]
      exact mq_ref (cF_n (by decide))
  · rw [if_neg c, if_pos rfl, cB_f c]
    refine pc_be hP ?_
    rw [if_neg c, if_pos rfl]
    exact mq_ref (by rw [cF_n (a := -1) (by decide), cF_n (by decide)])
/-! shown -/
def anBit (w v : Int32) : Int32 := (w >>> (v &&& 31)) &&& 1
def anShown1 (V : Nat → Int32) (v : Int32) : Nat → Int32
  | 0 => 0
  | n + 1 => anShown1 V v n + anBit (V (12 + n)) v
def anShown (V : Nat → Int32) (x1 : Int32) : Int32 := cF (cB (0 ≤ x1.toInt ∧ x1.toInt ≤ 7)) (anShown1 V x1 (V 0).toNatClampNeg)
theorem qx_timesShown {F : Nat} {x1 : Int32} {σ : Mem} {V : Nat → Int32} (h : vX V σ) (hx : 0 ≤ x1.toInt ∧ x1.toInt ≤ 7) : pc (f_X0_timesShown F 1 x1 σ) (fun r s => r = anShown1 V x1 (V 0).toNatClampNeg ∧ s = σ) := by
  have e0 : σ 1 0 = V 0 := h.2.1 0 (by decide)
  have n0 := ti_nat (V 0)
  have h6 := h.1.1.2
  have key : ∀ (N i : Nat) (x2 x3 : Int32), x3.toInt = (i : Int) → (i : Int) ≤ (V 0).toInt → x2 = anShown1 V x1 i → pc (lp_X0_timesShown_4 F 1 x1 N x2 x3 σ) (fun r s => r = anShown1 V x1 (V 0).toNatClampNeg ∧ s = σ) := by
    intro N
    induction N with
    | zero => intro i x2 x3 h1 h2 h3; exact pc_none rfl
    | succ N ih =>
      intro i x2 x3 h1 h2 h3
      rw [lp_X0_timesShown_4_s, e0]
      simp only [j_X0_timesShown_24_e]
      refine pc_ite (fun c => ?_) (fun c => ?_)
      · have d := ti_le c
        exact pc_ret ⟨by rw [h3, show i = (V 0).toNatClampNeg by omega], rfl⟩
      · have d := ti_nle c
        refine pc_bnd (ax_shows (by rw [e0]; exact h6) ⟨by omega, by rw [e0]; omega⟩ hx) (fun r s q => ?_)
        obtain ⟨q1, q2⟩ := q
        rw [q1]
        rw [tn_int h1, vX_12 h (by omega)] at q2
        have hs : anShown1 V x1 (i + 1) = x2 + r := by rw [q2, h3]; rfl
        refine pc_ite (fun c9 => ih (i + 1) _ _ (ti_nx h1 (by omega)) (by omega) ?_) (fun c9 => ih (i + 1) _ _ (ti_nx h1 (by omega)) (by omega) ?_)
        · rw [hs, c9, Int32.add_zero]
        · have hr : r = 1 := by
            rcases ax_and1 ((V (12 + i)) >>> (x1 &&& 31)) with e | e
            · exact absurd (q2.trans e) c9
            · exact q2.trans e
          rw [hs, hr]
  rw [f_X0_timesShown_e]
  exact key F 0 0 0 rfl h.1.1.1 rfl
theorem qx_shown {F : Nat} {x1 : Int32} {σ : Mem} {V : Nat → Int32} (h : vX V σ) : pc (f_X3_shown F x1 σ) (fun r _ => r = anShown V x1) := by
  rw [f_X3_shown_e]
  refine pc_be ax_isView ?_
  unfold anShown
  by_cases c : 0 ≤ x1.toInt ∧ x1.toInt ≤ 7
  · rw [if_pos c, if_neg (by decide), cB_t c, cF_z]
    exact pc_bnd (qx_timesShown h c) (fun r s q => pc_ret q.1)
  · rw [if_neg c, if_pos rfl, cB_f c]
    exact pc_bnd ax_refuse (fun r s q => pc_ret (by rw [q.1, cF_n (by decide)]))
theorem qm_shown_22 {F : Nat} {x1 : Int32} {s : Mem} {V : Nat → Int32} (h : vM V s) : ∀ (N i : Nat) (x2 x3 : Int32), x3.toInt = (i : Int) → (i : Int) ≤ (V 0).toInt → x2 = anShown1 V x1 i → pc (lp_X4_shown_22 F x1 N x2 x3 s) (fun r _ => r = anShown1 V x1 (V 0).toNatClampNeg) := by
  have e0 : s 101 1 = V 0 := h.2 0 (by decide)
  have n0 := ti_nat (V 0)
  have h6 := h.1.1.2
  intro N
  induction N with
  | zero => intro i x2 x3 h1 h2 h3; exact pc_none rfl
  | succ N ih =>
    intro i x2 x3 h1 h2 h3
    rw [lp_X4_shown_22_s, e0]
    simp only [j_X4_shown_49_e]
    refine pc_ite (fun c => ?_) (fun c => pc_chk (fun _ => ?_))
    · have d := ti_le c
      exact pc_ret (by rw [h3, show i = (V 0).toNatClampNeg by omega])
    · have d := ti_nle c
      rw [tn_int h1, vM_103 h (by omega), f_X4_hasBit_e]
      have hs : anShown1 V x1 (i + 1) = x2 + anBit (V (12 + i)) x1 := by rw [h3]; rfl
      have hb : anBit (V (12 + i)) x1 = 0 ∨ anBit (V (12 + i)) x1 = 1 := ax_and1 ((V (12 + i)) >>> (x1 &&& 31))
      by_cases c9 : ((V (12 + i)) >>> (x1 &&& 31)) &&& (1 : Int32) = 1
      · rw [if_pos c9]
        refine pc_be rfl ?_
        rw [if_neg (by decide)]
        refine ih (i + 1) _ _ (ti_nx h1 (by omega)) (by omega) ?_
        rw [hs, show anBit (V (12 + i)) x1 = 1 from c9]
      · rw [if_neg c9]
        refine pc_be rfl ?_
        rw [if_pos rfl]
        refine ih (i + 1) _ _ (ti_nx h1 (by omega)) (by omega) ?_
        rw [hs, hb.resolve_right c9]
theorem qm_shown {F : Nat} {x1 : Int32} {s : Mem} {V : Nat → Int32} (h : vM V s) : pc (f_X4_shown F x1 s) (fun r _ => r = anShown V x1) := by
  rw [f_X4_shown_e]
  refine pc_lt (fun s4 h4 => ?_)
  have h' : vM V s4 := vM_up h h4
  clear h4
  refine pc_be mx_isView ?_
  unfold anShown
  by_cases c : 0 ≤ x1.toInt ∧ x1.toInt ≤ 7
  · rw [if_pos c, if_neg (by decide), cB_t c, cF_z]
    exact qm_shown_22 h' F 0 0 0 rfl h.1.1.1 rfl
  · rw [if_neg c, if_pos rfl, cB_f c]
    exact mq_ref (cF_n (by decide))
/-! busy -/
def anStd1 (V : Nat → Int32) (t : Nat) : Nat → Int32
  | 0 => 0
  | l + 1 => anStd1 V t l + (if (V (28 + 24 * l + t)).toInt < 0 then 0 else 1)
def anStd (V : Nat → Int32) (t : Nat) : Int32 := anStd1 V t (V 1).toNatClampNeg
def anBest (V : Nat → Int32) : Nat → Nat
  | 0 => 0
  | n + 1 => if anStd V (n + 1) ≤ anStd V (anBest V n) then anBest V n else n + 1
theorem anBest_le {V : Nat → Int32} : ∀ n, anBest V n ≤ n := fun n => by
  induction n with
  | zero => exact Nat.le_refl _
  | succ n ih =>
    show (if anStd V (n + 1) ≤ anStd V (anBest V n) then anBest V n else n + 1) ≤ n + 1
    by_cases c : anStd V (n + 1) ≤ anStd V (anBest V n)
    · rw [if_pos c]; omega
    · rw [if_neg c]; omega
def anBusy (V : Nat → Int32) (x1 : Int32) : Int32 := cF (cO x1 2) (if x1 = 0 then Int32.ofNat (anBest V 23) else anStd V (anBest V 23))
theorem qx_standingIn {F : Nat} {x1 : Int32} {t : Nat} {σ : Mem} {V : Nat → Int32} (h : vX V σ) (ht : x1.toInt = (t : Int)) (h24 : t < 24) : pc (f_X0_standingIn F 1 x1 σ) (fun r s => r = anStd V t ∧ s = σ) := by
  have e1 : σ 1 2 = V 1 := h.2.1 1 (by decide)
  have n1 := ti_nat (V 1)
  have h5 := h.1.2.1.2
  have key : ∀ (N l : Nat) (x2 x3 : Int32), x3.toInt = (l : Int) → (l : Int) ≤ (V 1).toInt → x2 = anStd1 V t l → pc (lp_X0_standingIn_4 F 1 x1 N x2 x3 σ) (fun r s => r = anStd V t ∧ s = σ) := by
    intro N
    induction N with
    | zero => intro l x2 x3 h1 h2 h3; exact pc_none rfl
    | succ N ih =>
      intro l x2 x3 h1 h2 h3
      rw [lp_X0_standingIn_4_s, e1]
      simp only [j_X0_standingIn_28_e]
      refine pc_ite (fun c => ?_) (fun c => pc_chk (fun _ => pc_chk (fun _ => ?_)))
      · have d := ti_le c
        exact pc_ret ⟨by rw [h3, show l = (V 1).toNatClampNeg by omega]; rfl, rfl⟩
      · have d := ti_nle c
        rw [tn_int h1, tn_int ht, h.2.2 l t (by omega) h24]
        have hb := wvN_9 (vV_c h.1 (l := l) (t := t) (by omega) h24)
        refine pc_ite (fun c9 => ih (l + 1) _ _ (ti_nx h1 (by omega)) (by omega) ?_) (fun c9 => ih (l + 1) _ _ (ti_nx h1 (by omega)) (by omega) ?_)
        · show x2 = anStd1 V t l + _
          rw [if_pos (hb.mp c9), h3, Int32.add_zero]
        · show x2 + 1 = anStd1 V t l + _
          rw [if_neg (fun q => c9 (hb.mpr q)), h3]
  rw [f_X0_standingIn_e]
  exact key F 0 0 0 rfl h.1.2.1.1 rfl
theorem qx_busy_24 {F : Nat} {x1 : Int32} {σ : Mem} {V : Nat → Int32} (h : vX V σ) : ∀ (N t : Nat) (x3 x4 x5 : Int32), x5.toInt = (t : Int) → t ≤ 24 → ((t = 0 ∧ x3 = 0 ∧ x4 = 0) ∨ (1 ≤ t ∧ x3 = Int32.ofNat (anBest V (t - 1)) ∧ x4 = anStd V (anBest V (t - 1)))) → pc (lp_X3_busy_24 F x1 N x3 x4 x5 σ) (fun r _ => r = if x1 = 0 then Int32.ofNat (anBest V 23) else anStd V (anBest V 23)) := by
  intro N
  induction N with
  | zero => intro t x3 x4 x5 h1 h2 h3; exact pc_none rfl
  | succ N ih =>
    intro t x3 x4 x5 h1 h2 h3
    rw [lp_X3_busy_24_s]
    simp only [j_X3_busy_56_e]
    refine pc_ite (fun c => ?_) (fun c => ?_)
    · have d := ti_le c
      rw [tz_24] at d
      have t24 : t = 24 := by omega
      subst t24
      rcases h3 with h3 | ⟨-, g3, g4⟩
      · exact absurd h3.1 (by decide)
      · exact pc_ite (fun c0 => pc_ret (by rw [if_pos c0]; exact g3)) (fun c0 => pc_ret (by rw [if_neg c0]; exact g4))
    · have d := ti_nle c
      rw [tz_24] at d
      refine pc_bnd (qx_standingIn h h1 (by omega)) (fun r s q => ?_)
      obtain ⟨q1, q2⟩ := q
      rw [q2]
      rcases h3 with ⟨g0, g3, g4⟩ | ⟨g0, g3, g4⟩
      · subst g0
        have hn : 0 ≤ (anStd V 0).toInt := by
          have : ∀ l, l ≤ 5 → 0 ≤ (anStd1 V 0 l).toInt ∧ (anStd1 V 0 l).toInt ≤ l := fun l => by
            induction l with
            | zero => intro _; exact ⟨Int.le_refl 0, Int.le_refl 0⟩
            | succ l ihl =>
              intro hl
              have b := ihl (by omega)
              show 0 ≤ (anStd1 V 0 l + (if (V (28 + 24 * l + 0)).toInt < 0 then (0 : Int32) else 1)).toInt ∧ (anStd1 V 0 l + (if (V (28 + 24 * l + 0)).toInt < 0 then (0 : Int32) else 1)).toInt ≤ ((l + 1 : Nat) : Int)
              by_cases cv : (V (28 + 24 * l + 0)).toInt < 0
              · rw [if_pos cv, Int32.add_zero]; omega
              · rw [if_neg cv, ti_add (by rw [tz_1]; omega) (by rw [tz_1]; omega), tz_1]; omega
          have n1 := ti_nat (V 1)
          have h5 := h.1.2.1.2
          exact (this (V 1).toNatClampNeg (by omega)).1
        refine pc_ite (fun c9 => ih 1 _ _ _ (ti_nx h1 (by omega)) (by omega) (Or.inr ⟨by omega, g3, ?_⟩)) (fun c9 => ih 1 _ _ _ (ti_nx h1 (by omega)) (by omega) (Or.inr ⟨by omega, ?_, q1⟩))
        · have e := ti_le c9
          rw [g4, tz_0, q1] at e
          rw [g4]
          exact Int32.toInt_inj.mp (by rw [tz_0]; show 0 = (anStd V 0).toInt; omega)
        · exact Int32.toInt_inj.mp (by rw [h1]; rfl)
      · have hb : anBest V (t + 1 - 1) = if anStd V t ≤ anStd V (anBest V (t - 1)) then anBest V (t - 1) else t := by
          obtain ⟨u, rfl⟩ : ∃ u, t = u + 1 := ⟨t - 1, by omega⟩
          rfl
        rw [q1, g4]
        refine pc_ite (fun c9 => ih (t + 1) _ _ _ (ti_nx h1 (by omega)) (by omega) (Or.inr ⟨by omega, ?_, ?_⟩)) (fun c9 => ih (t + 1) _ _ _ (ti_nx h1 (by omega)) (by omega) (Or.inr ⟨by omega, ?_, ?_⟩))
        · rw [hb, if_pos c9]; exact g3
        · rw [hb, if_pos c9]
        · rw [hb, if_neg c9]; exact io_eq h1 (by omega)
        · rw [hb, if_neg c9]
theorem qx_busy {F : Nat} {x1 : Int32} {σ : Mem} {V : Nat → Int32} (h : vX V σ) : pc (f_X3_busy F x1 σ) (fun r _ => r = anBusy V x1) := by
  rw [f_X3_busy_e]
  refine pc_be ax_notBelow ?_
  unfold anBusy
  exact cq_end (fun _ => qx_busy_24 h F 0 0 0 0 rfl (by omega) (Or.inl ⟨rfl, rfl, rfl⟩))
theorem qm_standing {F : Nat} {x1 : Int32} {t : Nat} {s : Mem} {V : Nat → Int32} (h : vM V s) (ht : x1.toInt = (t : Int)) (h24 : t < 24) : pc (f_X4_standing F x1 s) (fun r z => r = anStd V t ∧ z = s) := by
  have e1 : s 101 3 = V 1 := h.2 1 (by decide)
  have n1 := ti_nat (V 1)
  have h5 := h.1.2.1.2
  have key : ∀ (N l : Nat) (x2 x3 : Int32), x3.toInt = (l : Int) → (l : Int) ≤ (V 1).toInt → x2 = anStd1 V t l → pc (lp_X4_standing_4 F x1 N x2 x3 s) (fun r z => r = anStd V t ∧ z = s) := by
    intro N
    induction N with
    | zero => intro l x2 x3 h1 h2 h3; exact pc_none rfl
    | succ N ih =>
      intro l x2 x3 h1 h2 h3
      rw [lp_X4_standing_4_s, e1]
      simp only [j_X4_standing_32_e]
      refine pc_ite (fun c => ?_) (fun c => pc_chk (fun _ => ?_))
      · have d := ti_le c
        exact pc_ret ⟨by rw [h3, show l = (V 1).toNatClampNeg by omega]; rfl, rfl⟩
      · have d := ti_nle c
        rw [tn_24 h1 ht (by omega) h24, vM_106 h (by omega), show 28 + (24 * l + t) = 28 + 24 * l + t by omega]
        refine pc_ite (fun c9 => ih (l + 1) _ _ (ti_nx h1 (by omega)) (by omega) ?_) (fun c9 => ih (l + 1) _ _ (ti_nx h1 (by omega)) (by omega) ?_)
        · show x2 + 0 = anStd1 V t l + _
          have := ti_lt c9
          rw [tz_0] at this
          rw [if_pos this, h3]
        · show x2 + 1 = anStd1 V t l + _
          have := ti_nlt c9
          rw [tz_0] at this
          rw [if_neg (by omega), h3]
  rw [f_X4_standing_e]
  exact key F 0 0 0 rfl h.1.2.1.1 rfl
theorem qm_busy_26 {F : Nat} {x1 : Int32} {s : Mem} {V : Nat → Int32} (h : vM V s) : ∀ (N t : Nat) (x2 x3 : Int32), x3.toInt = ((t + 1 : Nat) : Int) → t + 1 ≤ 24 → x2 = Int32.ofNat (anBest V t) → pc (lp_X4_busy_26 F x1 N x2 x3 s) (fun r _ => r = if x1 = 0 then Int32.ofNat (anBest V 23) else anStd V (anBest V 23)) := by
  intro N
  induction N with
  | zero => intro t x2 x3 h1 h2 h3; exact pc_none rfl
  | succ N ih =>
    intro t x2 x3 h1 h2 h3
    have hle := anBest_le (V := V) t
    have hx2 : x2.toInt = (anBest V t : Int) := by rw [h3]; exact io_nat _ (by omega)
    rw [lp_X4_busy_26_s]
    simp only [j_X4_busy_50_e]
    refine pc_ite (fun c => ?_) (fun c => ?_)
    · have d := ti_le c
      rw [tz_24] at d
      have t24 : t = 23 := by omega
      subst t24
      refine pc_ite (fun c0 => pc_ret (by rw [if_pos c0]; exact h3)) (fun c0 => pc_bnd (qm_standing h hx2 (by omega)) (fun r z q => pc_ret ?_))
      rw [if_neg c0]
      exact q.1
    · have d := ti_nle c
      rw [tz_24] at d
      refine pc_bnd (qm_standing h h1 (by omega)) (fun r z q => ?_)
      obtain ⟨q1, q2⟩ := q
      rw [q2]
      refine pc_bnd (qm_standing h hx2 (by omega)) (fun r' z' q' => ?_)
      obtain ⟨q3, q4⟩ := q'
      rw [q4, q1, q3]
      have hb : anBest V (t + 1) = if anStd V (t + 1) ≤ anStd V (anBest V t) then anBest V t else t + 1 := rfl
      refine pc_ite (fun c9 => ih (t + 1) _ _ (ti_nx h1 (by omega)) (by omega) ?_) (fun c9 => ih (t + 1) _ _ (ti_nx h1 (by omega)) (by omega) ?_)
      · rw [hb, if_pos c9]; exact h3
      · rw [hb, if_neg c9]; exact io_eq h1 (by omega)
theorem qm_busy {F : Nat} {x1 : Int32} {s : Mem} {V : Nat → Int32} (h : vM V s) : pc (f_X4_busy F x1 s) (fun r _ => r = anBusy V x1) := by
  rw [f_X4_busy_e]
  refine pc_lt (fun s7 h7 => ?_)
  have h' : vM V s7 := vM_up h h7
  clear h7
  refine pc_be (mx_in32 (lo := 0) (hi := 1) rfl rfl) ?_
  unfold anBusy
  by_cases c2 : 0 ≤ x1.toInt ∧ x1.toInt ≤ 1
  · have hO : cO x1 2 = 0 := if_pos ⟨c2.1, by rw [tz_2]; omega⟩
    rw [if_pos c2, if_neg (by decide), hO, cF_z]
    exact qm_busy_26 h' F 0 0 1 rfl (by omega) rfl
  · have hO : cO x1 2 = -2 := if_neg (fun q => c2 ⟨q.1, by have := q.2; rw [tz_2] at this; omega⟩)
    rw [if_neg c2, if_pos rfl, hO]
    exact mq_ref (cF_n (by decide))
/-! together -/
def anTog1 (V : Nat → Int32) (a b : Nat) : Nat → Int32
  | 0 => 0
  | t + 1 => anTog1 V a b t ||| (if (V (28 + 24 * a + t)).toInt < 0 then 0 else if V (28 + 24 * a + t) = V (28 + 24 * b + t) then (1 : Int32) <<< (Int32.ofNat t &&& 31) else 0)
def anTogether (V : Nat → Int32) (x1 x2 : Int32) : Int32 := cF (cB ((0 ≤ x1.toInt ∧ x1.toInt < (V 1).toInt) ∧ (0 ≤ x2.toInt ∧ x2.toInt < (V 1).toInt) ∧ ¬ x1 = x2)) (anTog1 V x1.toNatClampNeg x2.toNatClampNeg 24)
theorem qx_noPair {F : Nat} {x1 x2 : Int32} {σ : Mem} {V : Nat → Int32} (h : vX V σ) : f_X3_noPair F x1 x2 σ = some (cB ((0 ≤ x1.toInt ∧ x1.toInt < (V 1).toInt) ∧ (0 ≤ x2.toInt ∧ x2.toInt < (V 1).toInt) ∧ ¬ x1 = x2), σ) := by
  have e1 : σ 1 2 = V 1 := h.2.1 1 (by decide)
  have h5 := h.1.2.1.2
  rw [f_X3_noPair_e]
  simp only [j_X3_noPair_31_e]
  rw [wt_bnd_eq (ax_isLooker (by rw [e1]; exact h5)), e1]
  by_cases c1 : 0 ≤ x1.toInt ∧ x1.toInt < (V 1).toInt
  · rw [if_pos c1, if_neg (by decide), wt_bnd_eq (ax_isLooker (by rw [e1]; exact h5)), e1]
    by_cases c2 : 0 ≤ x2.toInt ∧ x2.toInt < (V 1).toInt
    · rw [if_pos c2, if_neg (by decide)]
      by_cases c3 : x1 = x2
      · rw [if_pos c3, cB_f (fun q => q.2.2 c3)]
      · rw [if_neg c3, cB_t ⟨c1, c2, c3⟩]
    · rw [if_neg c2, if_pos rfl, cB_f (fun q => c2 q.2.1)]
  · rw [if_neg c1, if_pos rfl, cB_f (fun q => c1 q.1)]
theorem qm_areTwo {F : Nat} {x1 x2 : Int32} {s : Mem} {V : Nat → Int32} (h : vM V s) : f_X4_areTwo F x1 x2 s = some (if ((0 ≤ x1.toInt ∧ x1.toInt < (V 1).toInt) ∧ (0 ≤ x2.toInt ∧ x2.toInt < (V 1).toInt) ∧ ¬ x1 = x2) then 1 else 0, s) := by
  have e1 : s 101 3 = V 1 := h.2 1 (by decide)
  have h5 := h.1.2.1.1
  rw [f_X4_areTwo_e]
  simp only [j_X4_areTwo_25_e]
  rw [wt_bnd_eq (mx_isLooker (by rw [e1]; exact h5)), e1]
  by_cases c1 : 0 ≤ x1.toInt ∧ x1.toInt < (V 1).toInt
  · rw [if_pos c1, if_neg (by decide), wt_bnd_eq (mx_isLooker (by rw [e1]; exact h5)), e1]
    by_cases c2 : 0 ≤ x2.toInt ∧ x2.toInt < (V 1).toInt
    · rw [if_pos c2, if_neg (by decide)]
      by_cases c3 : x1 = x2
      · rw [if_pos c3, if_neg (fun q : ((0 ≤ x1.toInt ∧ x1.toInt < (V 1).toInt) ∧ (0 ≤ x2.toInt ∧ x2.toInt < (V 1).toInt) ∧ ¬ x1 = x2) => q.2.2 c3)]
      · rw [if_neg c3, if_pos (show ((0 ≤ x1.toInt ∧ x1.toInt < (V 1).toInt) ∧ (0 ≤ x2.toInt ∧ x2.toInt < (V 1).toInt) ∧ ¬ x1 = x2) from ⟨c1, c2, c3⟩)]
    · rw [if_neg c2, if_pos rfl, if_neg (fun q : ((0 ≤ x1.toInt ∧ x1.toInt < (V 1).toInt) ∧ (0 ≤ x2.toInt ∧ x2.toInt < (V 1).toInt) ∧ ¬ x1 = x2) => c2 q.2.1)]
  · rw [if_neg c1, if_pos rfl, if_neg (fun q : ((0 ≤ x1.toInt ∧ x1.toInt < (V 1).toInt) ∧ (0 ≤ x2.toInt ∧ x2.toInt < (V 1).toInt) ∧ ¬ x1 = x2) => c1 q.1)]
theorem wvN_inj {a b : Int32} : wvN a = wvN b ↔ a = b := ⟨fun q => by rw [← wvN_N a, q, wvN_N], fun q => by rw [q]⟩
theorem qx_together_23 {F : Nat} {x1 x2 : Int32} {a b : Nat} {σ : Mem} {V : Nat → Int32} (h : vX V σ) (ha : x1.toInt = (a : Int)) (hb : x2.toInt = (b : Int)) (ha5 : (a : Int) < (V 1).toInt) (hb5 : (b : Int) < (V 1).toInt) : ∀ (N t : Nat) (x4 x5 : Int32), x5.toInt = (t : Int) → t ≤ 24 → x4 = anTog1 V a b t → pc (lp_X3_together_23 F x1 x2 N x4 x5 σ) (fun r _ => r = anTog1 V a b 24) := by
  intro N
  induction N with
  | zero => intro t x4 x5 h1 h2 h3; exact pc_none rfl
  | succ N ih =>
    intro t x4 x5 h1 h2 h3
    rw [lp_X3_together_23_s]
    simp only [j_X3_together_77_e]
    refine pc_ite (fun c => ?_) (fun c => pc_chk (fun _ => pc_chk (fun _ => pc_lt (fun z3 hz => ?_))))
    · have d := ti_le c
      rw [tz_24] at d
      exact pc_ret (by rw [h3, show t = 24 by omega])
    · have d := ti_nle c
      rw [tz_24] at d
      rw [tn_int ha, tn_int h1, h.2.2 a t ha5 (by omega)] at hz
      have hv := wvN_9 (vV_c h.1 (l := a) (t := t) ha5 (by omega))
      rw [← hz] at hv
      have hs : anTog1 V a b (t + 1) = anTog1 V a b t ||| (if (V (28 + 24 * a + t)).toInt < 0 then 0 else if V (28 + 24 * a + t) = V (28 + 24 * b + t) then (1 : Int32) <<< (Int32.ofNat t &&& 31) else 0) := rfl
      refine pc_ite (fun c9 => ih (t + 1) _ _ (ti_nx h1 (by omega)) (by omega) ?_) (fun c9 => pc_chk (fun _ => ?_))
      · rw [hs, if_pos (hv.mp c9), Int32.or_zero, h3]
      · rw [tn_int hb, tn_int h1, h.2.2 b t hb5 (by omega), hz]
        rw [if_neg (fun q => c9 (hv.mpr q))] at hs
        refine pc_ite (fun c8 => pc_lt (fun z5 hz5 => ih (t + 1) _ _ (ti_nx h1 (by omega)) (by omega) ?_)) (fun c8 => ih (t + 1) _ _ (ti_nx h1 (by omega)) (by omega) ?_)
        · rw [hz5, hs, if_pos (wvN_inj.mp c8).symm, h3, io_eq h1 (by omega)]
        · rw [hs, if_neg (fun q => c8 (wvN_inj.mpr q.symm)), Int32.or_zero, h3]
theorem qx_together {F : Nat} {x1 x2 : Int32} {σ : Mem} {V : Nat → Int32} (h : vX V σ) : pc (f_X3_together F x1 x2 σ) (fun r _ => r = anTogether V x1 x2) := by
  rw [f_X3_together_e]
  refine pc_be (qx_noPair h) ?_
  unfold anTogether
  refine cq_end (fun e => ?_)
  obtain ⟨c1, c2, c3⟩ := cB_0 e
  have n1 := ti_nat x1
  have n2 := ti_nat x2
  exact qx_together_23 h (by omega) (by omega) (by omega) (by omega) F 0 0 0 rfl (by omega) rfl
theorem qm_together_25 {F : Nat} {x1 x2 : Int32} {a b : Nat} {s : Mem} {V : Nat → Int32} (h : vM V s) (ha : x1.toInt = (a : Int)) (hb : x2.toInt = (b : Int)) (ha5 : a < 5) (hb5 : b < 5) : ∀ (N t : Nat) (x3 x4 : Int32), x4.toInt = (t : Int) → t ≤ 24 → x3 = anTog1 V a b t → pc (lp_X4_together_25 F x1 x2 N x3 x4 s) (fun r _ => r = anTog1 V a b 24) := by
  intro N
  induction N with
  | zero => intro t x3 x4 h1 h2 h3; exact pc_none rfl
  | succ N ih =>
    intro t x3 x4 h1 h2 h3
    rw [lp_X4_together_25_s]
    simp only [j_X4_together_76_e, j_X4_together_77_e]
    refine pc_ite (fun c => ?_) (fun c => pc_chk (fun _ => pc_lt (fun z2 hz => ?_)))
    · have d := ti_le c
      rw [tz_24] at d
      exact pc_ret (by rw [h3, show t = 24 by omega])
    · have d := ti_nle c
      rw [tz_24] at d
      rw [tn_24 ha h1 ha5 (by omega), vM_106 h (by omega), show 28 + (24 * a + t) = 28 + 24 * a + t by omega] at hz
      have hs : anTog1 V a b (t + 1) = anTog1 V a b t ||| (if (V (28 + 24 * a + t)).toInt < 0 then 0 else if V (28 + 24 * a + t) = V (28 + 24 * b + t) then (1 : Int32) <<< (Int32.ofNat t &&& 31) else 0) := rfl
      rw [← hz] at hs
      refine pc_ite (fun c9 => ih (t + 1) _ _ (ti_nx h1 (by omega)) (by omega) ?_) (fun c9 => pc_chk (fun _ => ?_))
      · have := ti_lt c9
        rw [tz_0] at this
        rw [hs, if_pos this, h3]
      · have := ti_nlt c9
        rw [tz_0] at this
        rw [if_neg (by omega)] at hs
        rw [tn_24 hb h1 hb5 (by omega), vM_106 h (by omega), show 28 + (24 * b + t) = 28 + 24 * b + t by omega]
        refine pc_ite (fun c8 => ih (t + 1) _ _ (ti_nx h1 (by omega)) (by omega) ?_) (fun c8 => ih (t + 1) _ _ (ti_nx h1 (by omega)) (by omega) ?_)
        · rw [hs, if_pos c8, h3, io_eq h1 (by omega)]
        · rw [hs, if_neg c8, h3]
theorem qm_together {F : Nat} {x1 x2 : Int32} {s : Mem} {V : Nat → Int32} (h : vM V s) : pc (f_X4_together F x1 x2 s) (fun r _ => r = anTogether V x1 x2) := by
  rw [f_X4_together_e]
  refine pc_lt (fun s4 h4 => ?_)
  have h' : vM V s4 := vM_up h h4
  clear h4
  refine pc_be (qm_areTwo h') ?_
  unfold anTogether
  by_cases c : ((0 ≤ x1.toInt ∧ x1.toInt < (V 1).toInt) ∧ (0 ≤ x2.toInt ∧ x2.toInt < (V 1).toInt) ∧ ¬ x1 = x2)
  · rw [if_pos c, if_neg (by decide), cB_t c, cF_z]
    obtain ⟨c1, c2, c3⟩ := c
    have n1 := ti_nat x1
    have n2 := ti_nat x2
    have h5 := h.1.2.1.2
    exact qm_together_25 h' (a := x1.toNatClampNeg) (b := x2.toNatClampNeg) (by omega) (by omega) (by omega) (by omega) F 0 0 0 rfl (by omega) rfl
  · rw [if_neg c, if_pos rfl, cB_f c]
    exact mq_ref (cF_n (by decide))
end
