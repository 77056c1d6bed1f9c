/-! the reference reads a terrace -/
theorem wfd_s {S : Nat → Int32} {n d i : Nat} : wfd S n (d + 1) i = if wdg S n i then wfd S n d (i + 1) else (i, false) := rfl
theorem wfd_ok {S : Nat → Int32} {n : Nat} : ∀ (d i : Nat), (∀ k, k < d → wdg S n (i + k)) → wfd S n d i = wfd S n 0 (i + d) := by
  intro d
  induction d with
  | zero => intro i _; rfl
  | succ d ih =>
    intro i h
    have h0 : wdg S n i := h 0 (by omega)
    rw [wfd_s, if_pos h0, ih (i + 1) (fun k hk => by have := h (k + 1) (by omega); rw [show i + 1 + k = i + (k + 1) by omega]; exact this), show i + 1 + d = i + (d + 1) by omega]
theorem wfd_no {S : Nat → Int32} {n : Nat} : ∀ (d i k : Nat), k < d → (∀ k', k' < k → wdg S n (i + k')) → ¬ wdg S n (i + k) → wfd S n d i = (i + k, false) := by
  intro d
  induction d with
  | zero => intro i k h; omega
  | succ d ih =>
    intro i k h1 h2 h3
    cases k with
    | zero =>
      have h3' : ¬ wdg S n i := h3
      rw [wfd_s, if_neg h3']; rfl
    | succ k =>
      have h0 : wdg S n i := h2 0 (by omega)
      rw [wfd_s, if_pos h0, ih (i + 1) k (by omega) (fun k' hk => by have := h2 (k' + 1) (by omega); rw [show i + 1 + k' = i + (k' + 1) by omega]; exact this) (by rw [show i + 1 + k = i + (k + 1) by omega]; exact h3), show i + 1 + k = i + (k + 1) by omega]
theorem mx_here {F : Nat} {σ : Mem} {n i : Nat} (hn : (σ 101 15).toInt = (n : Int)) (hi : (σ 101 16).toInt = (i : Int)) : pc (f_X4_here F σ) (fun r s => s = σ ∧ (i < n → r = σ 111 i) ∧ (¬ i < n → r = -1)) := by
  rw [f_X4_here_e]
  refine pc_ite (fun c => pc_ret ⟨rfl, fun h => ?_, fun _ => rfl⟩) (fun c => pc_chk (fun _ => pc_ret ⟨rfl, fun _ => by rw [tn_int hi], fun h => ?_⟩))
  · have := ti_le c; omega
  · have := ti_nle c; omega
/-- e digits read from q on: all are, or the first that isn't stands -/
def RA (S : Nat → Int32) (n q e : Nat) (σ : Mem) : Prop :=
  ((∀ k, k < e → wdg S n (q + k)) → (σ 101 16).toInt = ((q + e : Nat) : Int) ∧ σ 101 17 = 0) ∧
  ((¬ ∀ k, k < e → wdg S n (q + k)) → ∃ k, k < e ∧ (∀ k', k' < k → wdg S n (q + k')) ∧ ¬ wdg S n (q + k) ∧ (σ 101 16).toInt = ((q + k : Nat) : Int) ∧ σ 101 17 = 1)
def rdO (σ s : Mem) : Prop := ∀ k i, ¬ (k = 101 ∧ (i = 16 ∨ i = 17)) → s k i = σ k i
theorem mx_rd_bad {F : Nat} {x1 : Int32} {i : Nat} : ∀ (N : Nat) (x2 x3 : Int32) (σ : Mem), (σ 101 16).toInt = (i : Int) → σ 101 17 = 1 → pc (lp_X4_readDigits_4 F x1 N x2 x3 σ) (fun _ s => (s 101 16).toInt = (i : Int) ∧ s 101 17 = 1 ∧ rdO σ s) := by
  intro N
  induction N with
  | zero => intro x2 x3 σ h1 h2; exact pc_none rfl
  | succ N ih =>
    intro x2 x3 σ h1 h2
    rw [lp_X4_readDigits_4_s]
    simp only [j_X4_readDigits_34_e, j_X4_readDigits_39_e, j_X4_readDigits_70_e, j_X4_readDigits_88_e]
    refine pc_ite (fun _ => pc_ret ⟨h1, h2, fun _ _ _ => rfl⟩) (fun _ => ?_)
    refine pc_ite (fun c => absurd (h2.symm.trans c) (by decide)) (fun _ => pc_bz (fun _ => pc_lt (fun s2 g2 => ?_)))
    have e17 : s2 101 17 = 1 := by rw [g2, up2_s]
    rw [e17, if_neg (by decide), if_neg (by decide)]
    refine pc_lt (fun s3 g3 => ?_)
    have e16 : s2 101 16 = σ 101 16 := by rw [g2, up2_i (by decide)]
    refine pc_mono (ih _ _ s3 (by rw [g3, up2_s, e16, Int32.add_zero]; exact h1) (by rw [g3, up2_i (by decide)]; exact e17)) (fun _ s q => ⟨q.1, q.2.1, fun k j h => ?_⟩)
    rw [q.2.2 k j h, g3, wm_key, if_neg (by omega), g2, wm_key, if_neg (by omega)]
theorem mx_rd_ok {F : Nat} {x1 : Int32} {S : Nat → Int32} {n i d : Nat} (hd : x1.toInt = (d : Int)) (hb : i + d < 1000) (hn96 : n ≤ 96) : ∀ (N k : Nat) (x2 x3 : Int32) (σ : Mem), x3.toInt = (k : Int) → k ≤ d → x2 = wnum S i k → (σ 101 16).toInt = ((i + k : Nat) : Int) → σ 101 17 = 0 → (∀ k', k' < k → wdg S n (i + k')) → σ 111 = S → (σ 101 15).toInt = (n : Int) → pc (lp_X4_readDigits_4 F x1 N x2 x3 σ) (fun r s => ((∀ k, k < d → wdg S n (i + k)) → r = wnum S i d ∧ (s 101 16).toInt = ((i + d : Nat) : Int) ∧ s 101 17 = 0) ∧ ((¬ ∀ k, k < d → wdg S n (i + k)) → ∃ k, k < d ∧ (∀ k', k' < k → wdg S n (i + k')) ∧ ¬ wdg S n (i + k) ∧ (s 101 16).toInt = ((i + k : Nat) : Int) ∧ s 101 17 = 1) ∧ rdO σ s) := by
  intro N
  induction N with
  | zero => intro k x2 x3 σ h1 h2 h3 h4 h5 h6 h7 h8; exact pc_none rfl
  | succ N ih =>
    intro k x2 x3 σ h1 h2 h3 h4 h5 h6 h7 h8
    rw [lp_X4_readDigits_4_s]
    simp only [j_X4_readDigits_34_e, j_X4_readDigits_39_e, j_X4_readDigits_70_e, j_X4_readDigits_88_e]
    refine pc_ite (fun c => ?_) (fun c => ?_)
    · have := ti_le c
      have hk : k = d := by omega
      subst hk
      exact pc_ret ⟨fun _ => ⟨h3, h4, h5⟩, fun q => absurd h6 q, fun _ _ _ => rfl⟩
    have hc := ti_nle c
    rw [h5, if_pos rfl]
    refine pc_bnd (mx_here h8 h4) (fun r s w => ?_)
    obtain ⟨rfl, w1, w2⟩ := w
    rw [h7] at w1
    refine pc_be (mx_in32 (lo := 48) (hi := 57) rfl rfl) ?_
    have hdg : (48 ≤ r.toInt ∧ r.toInt ≤ 57) ↔ wdg S n (i + k) := by
      by_cases c2 : i + k < n
      · rw [w1 c2]; exact ⟨fun q => ⟨c2, q⟩, fun q => q.2⟩
      · rw [w2 c2]; exact ⟨fun q => absurd q.1 (by decide), fun q => absurd q.1 c2⟩
    have e16 : ∀ b : Int32, (up2 s 101 17 b) 101 16 = s 101 16 := fun b => up2_i (by decide)
    by_cases c3 : wdg S n (i + k)
    · rw [if_pos (hdg.mpr c3), if_neg (by decide)]
      refine pc_bz (fun _ => pc_lt (fun s2 g2 => ?_))
      have e17 : s2 101 17 = 0 := by rw [g2, up2_s]
      rw [e17, if_pos rfl]
      refine pc_chk (fun _ => ?_)
      rw [if_pos rfl]
      have e162 : s2 101 16 = s 101 16 := by rw [g2]; exact e16 _
      have e111 : s2 111 = S := by rw [g2, up2_k (by decide)]; exact h7
      refine pc_lt (fun s3 g3 => ?_)
      refine pc_mono (ih (k + 1) _ _ s3 (ti_nx h1 (by omega)) (by omega) ?_ ?_ (by rw [g3, up2_i (by decide)]; exact e17) (fun k' hk' => ?_) (by rw [g3, up2_k (by decide)]; exact e111) (by rw [g3, up2_i (by decide), g2, up2_i (by decide)]; exact h8)) (fun r s q => ⟨q.1, q.2.1, fun k j h => ?_⟩)
      · rw [e111, e162, tn_int h4, h3]
        show (10 : Int32) * wnum S i k + S (i + k) - 48 = wnum S i k * 10 + (S (i + k) - 48)
        rw [Int32.sub_eq_add_neg, Int32.sub_eq_add_neg, Int32.add_assoc, Int32.mul_comm]
      · rw [g3, up2_s, e162]
        exact ti_pl (p := i + k) (k := 1) h4 (by omega) rfl (by decide)
      · by_cases e : k' = k
        · subst e; exact c3
        · exact h6 k' (by omega)
      · rw [q.2.2 k j h, g3, wm_key, if_neg (by omega), g2, wm_key, if_neg (by omega)]
    · rw [if_neg (fun q => c3 (hdg.mp q)), if_pos rfl]
      refine pc_bz (fun _ => pc_lt (fun s2 g2 => ?_))
      have e17 : s2 101 17 = 1 := by rw [g2, up2_s]
      rw [e17, if_neg (by decide), if_neg (by decide)]
      refine pc_lt (fun s3 g3 => ?_)
      refine pc_mono (mx_rd_bad N _ _ s3 (by rw [g3, up2_s, g2, e16, Int32.add_zero]; exact h4) (by rw [g3, up2_i (by decide)]; exact e17)) (fun r s q => ⟨fun w => absurd (w k (by omega)) c3, fun _ => ⟨k, by omega, h6, c3, q.1, q.2.1⟩, fun k j h => ?_⟩)
      rw [q.2.2 k j h, g3, wm_key, if_neg (by omega), g2, wm_key, if_neg (by omega)]
theorem mx_rd {F : Nat} {x : Int32} {σ : Mem} {S : Nat → Int32} {n q e d : Nat} (hx : x.toInt = (d : Int)) (hb : q + e + d < 1000) (hn96 : n ≤ 96) (hA : RA S n q e σ) (h7 : σ 111 = S) (h8 : (σ 101 15).toInt = (n : Int)) : pc (f_X4_readDigits F x σ) (fun r s => RA S n q (e + d) s ∧ ((∀ k, k < e + d → wdg S n (q + k)) → r = wnum S (q + e) d) ∧ rdO σ s) := by
  rw [f_X4_readDigits_e]
  by_cases c : ∀ k, k < e → wdg S n (q + k)
  · obtain ⟨a1, a2⟩ := hA.1 c
    refine pc_mono (mx_rd_ok (i := q + e) hx (by omega) hn96 F 0 0 0 σ rfl (by omega) rfl a1 a2 (fun k' h => by omega) h7 h8) (fun r s w => ?_)
    obtain ⟨w1, w2, w3⟩ := w
    have cv : (∀ k, k < e + d → wdg S n (q + k)) ↔ (∀ k, k < d → wdg S n (q + e + k)) := ⟨fun h k hk => by have := h (e + k) (by omega); rw [show q + e + k = q + (e + k) by omega]; exact this, fun h k hk => by
      by_cases ce : k < e
      · exact c k ce
      · have := h (k - e) (by omega); rw [show q + e + (k - e) = q + k by omega] at this; exact this⟩
    refine ⟨⟨fun h => ?_, fun h => ?_⟩, fun h => (w1 (cv.mp h)).1, w3⟩
    · obtain ⟨-, g1, g2⟩ := w1 (cv.mp h)
      exact ⟨by rw [g1, Nat.add_assoc], g2⟩
    · obtain ⟨k, g1, g2, g3, g4, g5⟩ := w2 (fun w => h (cv.mpr w))
      refine ⟨e + k, by omega, fun k' hk' => ?_, by rw [← Nat.add_assoc]; exact g3, by rw [g4, Nat.add_assoc], g5⟩
      by_cases ce : k' < e
      · exact c k' ce
      · have := g2 (k' - e) (by omega); rw [show q + e + (k' - e) = q + k' by omega] at this; exact this
  · obtain ⟨k, g1, g2, g3, g4, g5⟩ := hA.2 c
    refine pc_mono (mx_rd_bad F 0 0 σ g4 g5) (fun r s w => ⟨⟨fun h => absurd (h k (by omega)) g3, fun _ => ⟨k, by omega, g2, g3, w.1, w.2.1⟩⟩, fun h => absurd (h k (by omega)) g3, w.2.2⟩)
theorem RA_k {S : Nat → Int32} {n q e : Nat} {σ s : Mem} (h : RA S n q e σ) (e1 : s 101 16 = σ 101 16) (e2 : s 101 17 = σ 101 17) : RA S n q e s := by
  unfold RA at h ⊢
  rw [e1, e2]
  exact h
/-- the numbers of a statement as they are told -/
def wtold (S : Nat → Int32) (p : Nat) (f : Nat → Int32) (b : Nat) : Prop :=
  (S p = 100 → f b = wnum S (p + 1) 2) ∧ (S p = 112 → f b = wnum S (p + 1) 3) ∧
  (S p = 115 → f b = wnum S (p + 1) 1 ∧ f (b + 1) = wnum S (p + 2) 2 ∧ f (b + 2) = wnum S (p + 4) 2 ∧ f (b + 3) = wnum S (p + 6) 1) ∧
  (S p = 117 → f b = wnum S (p + 1) 1) ∧ (S p = 108 ∨ S p = 118 ∨ S p = 119 → f b = wnum S (p + 1) 1 ∧ f (b + 1) = wnum S (p + 2) 1)
def rnO (b : Nat) (σ s : Mem) : Prop := ∀ k i, ¬ (k = 101 ∧ (i = 16 ∨ i = 17)) → ¬ (k = 114 ∧ b ≤ i ∧ i < b + 4) → s k i = σ k i
theorem ti_ix {x : Int32} {b k : Nat} {c : Int32} (h : x.toInt = (b : Int)) (hb : b < 1000) (hc : c.toInt = (k : Int)) (hk : k < 10) : (x + c).toNatClampNeg = b + k := tn_int (ti_pl h hb hc (by omega))
theorem mx_readNumbers {F : Nat} {c x2 : Int32} {σ : Mem} {S : Nat → Int32} {n p b : Nat} (hc : S p = c) (hx2 : x2.toInt = (b : Int)) (hb : b ≤ 192) (hp : p < n) (hn96 : n ≤ 96) (hD : wD c ≠ 0) (h16 : (σ 101 16).toInt = ((p + 1 : Nat) : Int)) (h17 : σ 101 17 = 0) (h7 : σ 111 = S) (h8 : (σ 101 15).toInt = (n : Int)) : pc (f_X4_readNumbers F c x2 σ) (fun _ s => RA S n (p + 1) (wD c) s ∧ ((∀ k, k < wD c → wdg S n (p + 1 + k)) → wtold S p (s 114) b) ∧ rnO b σ s) := by
  have hA0 : RA S n (p + 1) 0 σ := ⟨fun _ => ⟨h16, h17⟩, fun h => absurd (fun k hk => absurd hk (Nat.not_lt_zero k)) h⟩
  have i0 : x2.toNatClampNeg = b := tn_int hx2
  have i1 : (x2 + (1 : Int32)).toNatClampNeg = b + 1 := ti_ix hx2 (by omega) rfl (by decide)
  have i2 : (x2 + (2 : Int32)).toNatClampNeg = b + 2 := ti_ix hx2 (by omega) rfl (by decide)
  have i3 : (x2 + (3 : Int32)).toNatClampNeg = b + 3 := ti_ix hx2 (by omega) rfl (by decide)
  have one : ∀ (d : Nat) (x : Int32), x.toInt = (d : Int) → d ≤ 3 → pc (wt_bnd (f_X4_readDigits F x σ) fun r s3 => wt_chk x2 196 <| wt_lt (up2 s3 114 (Int32.toNatClampNeg x2) r) fun s5 => some ((), s5)) (fun _ s => RA S n (p + 1) d s ∧ ((∀ k, k < d → wdg S n (p + 1 + k)) → s 114 b = wnum S (p + 1) d) ∧ rnO b σ s) := fun d x hx hd => by
    refine pc_bnd (mx_rd hx (by omega) hn96 hA0 h7 h8) (fun r s3 q => pc_chk (fun _ => pc_lt (fun s5 g => pc_ret ?_)))
    rw [i0] at g
    rw [Nat.zero_add] at q
    refine ⟨RA_k q.1 (by rw [g, up2_k (by decide)]) (by rw [g, up2_k (by decide)]), fun h => by rw [g, up2_s]; exact q.2.1 h, fun k i h1 h2 => ?_⟩
    rw [g, wm_key, if_neg (by omega)]
    exact q.2.2 k i h1
  rw [f_X4_readNumbers_e]
  refine pc_ite (fun e => ?_) (fun e1 => ?_)
  · have hD2 : wD c = 2 := by rw [e]; rfl
    rw [hD2]
    refine pc_mono (one 2 2 rfl (by decide)) (fun _ s q => ⟨q.1, fun h => ⟨fun _ => q.2.1 h, fun w => ?_, fun w => ?_, fun w => ?_, fun w => ?_⟩, q.2.2⟩)
    all_goals (rw [hc, e] at w; exact absurd w (by decide))
  refine pc_ite (fun e => ?_) (fun e2 => ?_)
  · have hD2 : wD c = 3 := by rw [e]; rfl
    rw [hD2]
    refine pc_mono (one 3 3 rfl (by decide)) (fun _ s q => ⟨q.1, fun h => ⟨fun w => ?_, fun _ => q.2.1 h, fun w => ?_, fun w => ?_, fun w => ?_⟩, q.2.2⟩)
    all_goals (rw [hc, e] at w; exact absurd w (by decide))
  refine pc_ite (fun e => ?_) (fun e3 => ?_)
  · have hD2 : wD c = 6 := by rw [e]; rfl
    rw [hD2]
    refine pc_bnd (mx_rd (d := 1) rfl (by omega) hn96 hA0 h7 h8) (fun r1 s1 q1 => pc_chk (fun _ => pc_lt (fun t1 g1 => ?_)))
    rw [i0] at g1
    have o1 : rnO b σ t1 := fun k i h1 h2 => by rw [g1, wm_key, if_neg (by omega)]; exact q1.2.2 k i h1
    refine pc_bnd (mx_rd (e := 1) (d := 2) rfl (by omega) hn96 (RA_k q1.1 (by rw [g1, up2_k (by decide)]) (by rw [g1, up2_k (by decide)])) ((funext fun i => o1 111 i (by omega) (by omega)).trans h7) (by rw [o1 101 15 (by omega) (by omega)]; exact h8)) (fun r2 s2 q2 => pc_chk (fun _ => pc_lt (fun t2 g2 => ?_)))
    rw [i1] at g2
    have o2 : rnO b σ t2 := fun k i h1 h2 => by rw [g2, wm_key, if_neg (by omega), q2.2.2 k i h1]; exact o1 k i h1 h2
    refine pc_bnd (mx_rd (e := 3) (d := 2) rfl (by omega) hn96 (RA_k q2.1 (by rw [g2, up2_k (by decide)]) (by rw [g2, up2_k (by decide)])) ((funext fun i => o2 111 i (by omega) (by omega)).trans h7) (by rw [o2 101 15 (by omega) (by omega)]; exact h8)) (fun r3 s3 q3 => pc_chk (fun _ => pc_lt (fun t3 g3 => ?_)))
    rw [i2] at g3
    have o3 : rnO b σ t3 := fun k i h1 h2 => by rw [g3, wm_key, if_neg (by omega), q3.2.2 k i h1]; exact o2 k i h1 h2
    refine pc_bnd (mx_rd (e := 5) (d := 1) rfl (by omega) hn96 (RA_k q3.1 (by rw [g3, up2_k (by decide)]) (by rw [g3, up2_k (by decide)])) ((funext fun i => o3 111 i (by omega) (by omega)).trans h7) (by rw [o3 101 15 (by omega) (by omega)]; exact h8)) (fun r4 s4 q4 => pc_chk (fun _ => pc_lt (fun t4 g4 => pc_ret ?_)))
    rw [i3] at g4
    refine ⟨RA_k q4.1 (by rw [g4, up2_k (by decide)]) (by rw [g4, up2_k (by decide)]), fun h => ⟨fun w => ?_, fun w => ?_, fun _ => ⟨?_, ?_, ?_, ?_⟩, fun w => ?_, fun w => ?_⟩, fun k i h1 h2 => by rw [g4, wm_key, if_neg (by omega), q4.2.2 k i h1]; exact o3 k i h1 h2⟩
    · rw [hc, e] at w; exact absurd w (by decide)
    · rw [hc, e] at w; exact absurd w (by decide)
    · rw [g4, up2_i (by omega), q4.2.2 114 b (by omega), g3, up2_i (by omega), q3.2.2 114 b (by omega), g2, up2_i (by omega), q2.2.2 114 b (by omega), g1, up2_s]
      exact q1.2.1 (fun k hk => h k (by omega))
    · rw [g4, up2_i (by omega), q4.2.2 114 _ (by omega), g3, up2_i (by omega), q3.2.2 114 _ (by omega), g2, up2_s]
      exact q2.2.1 (fun k hk => h k (by omega))
    · rw [g4, up2_i (by omega), q4.2.2 114 _ (by omega), g3, up2_s]
      exact q3.2.1 (fun k hk => h k (by omega))
    · rw [g4, up2_s]
      exact q4.2.1 h
    · rw [hc, e] at w; exact absurd w (by decide)
    · rw [hc, e] at w; exact absurd w (by decide)
  refine pc_ite (fun e => ?_) (fun e4 => ?_)
  · have hD2 : wD c = 1 := by rw [e]; rfl
    rw [hD2]
    refine pc_mono (one 1 1 rfl (by decide)) (fun _ s q => ⟨q.1, fun h => ⟨fun w => ?_, fun w => ?_, fun w => ?_, fun _ => q.2.1 h, fun w => ?_⟩, q.2.2⟩)
    all_goals (rw [hc, e] at w; exact absurd w (by decide))
  · have hc3 : c = 108 ∨ c = 118 ∨ c = 119 := by
      rcases wD_cs c with ⟨-, h0, -⟩ | ⟨-, -, -, -, h⟩
      · exact absurd h0 hD
      · rcases h with h | h | h | h | h | h | h
        · exact absurd h e1
        · exact Or.inl h
        · exact absurd h e2
        · exact absurd h e3
        · exact absurd h e4
        · exact Or.inr (Or.inl h)
        · exact Or.inr (Or.inr h)
    have hD2 : wD c = 2 := by rcases hc3 with h | h | h <;> (rw [h]; rfl)
    rw [hD2]
    refine pc_bnd (mx_rd (d := 1) rfl (by omega) hn96 hA0 h7 h8) (fun r1 s1 q1 => pc_chk (fun _ => pc_lt (fun t1 g1 => ?_)))
    rw [i0] at g1
    have o1 : rnO b σ t1 := fun k i h1 h2 => by rw [g1, wm_key, if_neg (by omega)]; exact q1.2.2 k i h1
    refine pc_bnd (mx_rd (e := 1) (d := 1) rfl (by omega) hn96 (RA_k q1.1 (by rw [g1, up2_k (by decide)]) (by rw [g1, up2_k (by decide)])) ((funext fun i => o1 111 i (by omega) (by omega)).trans h7) (by rw [o1 101 15 (by omega) (by omega)]; exact h8)) (fun r2 s2 q2 => pc_chk (fun _ => pc_lt (fun t2 g2 => pc_ret ?_)))
    rw [i1] at g2
    refine ⟨RA_k q2.1 (by rw [g2, up2_k (by decide)]) (by rw [g2, up2_k (by decide)]), fun h => ⟨fun w => absurd (hc.symm.trans w) e1, fun w => absurd (hc.symm.trans w) e2, fun w => absurd (hc.symm.trans w) e3, fun w => absurd (hc.symm.trans w) e4, fun _ => ⟨?_, ?_⟩⟩, fun k i h1 h2 => by rw [g2, wm_key, if_neg (by omega), q2.2.2 k i h1]; exact o1 k i h1 h2⟩
    · rw [g2, up2_i (by omega), q2.2.2 114 b (by omega), g1, up2_s]
      exact q1.2.1 (fun k hk => h k (by omega))
    · rw [g2, up2_s]
      exact q2.2.1 h
