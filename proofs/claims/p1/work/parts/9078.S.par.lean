/-! a terrace's letters: what must stand where -/
def wD (c : Int32) : Nat := if c = 100 then 2 else if c = 108 then 2 else if c = 112 then 3 else if c = 115 then 6 else if c = 117 then 1 else if c = 118 then 2 else if c = 119 then 2 else 0
def wDi (c : Int32) : Int32 := if c = 100 then 2 else if c = 108 then 2 else if c = 112 then 3 else if c = 115 then 6 else if c = 117 then 1 else if c = 118 then 2 else if c = 119 then 2 else -9
theorem wD_cs (c : Int32) : (wDi c = -9 ∧ wD c = 0 ∧ ¬ c = 100 ∧ ¬ c = 108 ∧ ¬ c = 112 ∧ ¬ c = 115 ∧ ¬ c = 117 ∧ ¬ c = 118 ∧ ¬ c = 119) ∨ (¬ wDi c = -9 ∧ (wDi c).toInt = (wD c : Int) ∧ 1 ≤ wD c ∧ wD c ≤ 6 ∧ (c = 100 ∨ c = 108 ∨ c = 112 ∨ c = 115 ∨ c = 117 ∨ c = 118 ∨ c = 119)) := by
  unfold wDi wD
  by_cases h1 : c = 100
  · rw [if_pos h1, if_pos h1]; exact Or.inr ⟨by decide, by decide, by decide, by decide, Or.inl h1⟩
  rw [if_neg h1, if_neg h1]
  by_cases h2 : c = 108
  · rw [if_pos h2, if_pos h2]; exact Or.inr ⟨by decide, by decide, by decide, by decide, Or.inr (Or.inl h2)⟩
  rw [if_neg h2, if_neg h2]
  by_cases h3 : c = 112
  · rw [if_pos h3, if_pos h3]; exact Or.inr ⟨by decide, by decide, by decide, by decide, Or.inr (Or.inr (Or.inl h3))⟩
  rw [if_neg h3, if_neg h3]
  by_cases h4 : c = 115
  · rw [if_pos h4, if_pos h4]; exact Or.inr ⟨by decide, by decide, by decide, by decide, Or.inr (Or.inr (Or.inr (Or.inl h4)))⟩
  rw [if_neg h4, if_neg h4]
  by_cases h5 : c = 117
  · rw [if_pos h5, if_pos h5]; exact Or.inr ⟨by decide, by decide, by decide, by decide, Or.inr (Or.inr (Or.inr (Or.inr (Or.inl h5))))⟩
  rw [if_neg h5, if_neg h5]
  by_cases h6 : c = 118
  · rw [if_pos h6, if_pos h6]; exact Or.inr ⟨by decide, by decide, by decide, by decide, Or.inr (Or.inr (Or.inr (Or.inr (Or.inr (Or.inl h6)))))⟩
  rw [if_neg h6, if_neg h6]
  by_cases h7 : c = 119
  · rw [if_pos h7, if_pos h7]; exact Or.inr ⟨by decide, by decide, by decide, by decide, Or.inr (Or.inr (Or.inr (Or.inr (Or.inr (Or.inr h7)))))⟩
  rw [if_neg h7, if_neg h7]
  exact Or.inl ⟨rfl, rfl, h1, h2, h3, h4, h5, h6, h7⟩
theorem ax_digitsOf {F : Nat} {c : Int32} {σ : Mem} : f_X1_digitsOf F c σ = some (wDi c, σ) := by
  rw [f_X1_digitsOf_e]
  unfold wDi
  by_cases h1 : c = 100
  · rw [if_pos h1, if_pos h1]
  rw [if_neg h1, if_neg h1]
  by_cases h2 : c = 108
  · rw [if_pos h2, if_pos h2]
  rw [if_neg h2, if_neg h2]
  by_cases h3 : c = 112
  · rw [if_pos h3, if_pos h3]
  rw [if_neg h3, if_neg h3]
  by_cases h4 : c = 115
  · rw [if_pos h4, if_pos h4]
  rw [if_neg h4, if_neg h4]
  by_cases h5 : c = 117
  · rw [if_pos h5, if_pos h5]
  rw [if_neg h5, if_neg h5]
  by_cases h6 : c = 118
  · rw [if_pos h6, if_pos h6]
  rw [if_neg h6, if_neg h6]
  by_cases h7 : c = 119
  · rw [if_pos h7, if_pos h7]
  rw [if_neg h7, if_neg h7]
theorem mx_isLetter {F : Nat} {c : Int32} {σ : Mem} : f_X4_isLetter F c σ = some (if wD c = 0 then 0 else 1, σ) := by
  rw [f_X4_isLetter_e]
  simp only [j_X4_isLetter_42_e]
  rcases wD_cs c with ⟨-, h0, h1, h2, h3, h4, h5, h6, h7⟩ | ⟨-, -, h0, -, h⟩
  · rw [if_neg h3, if_neg h2, if_neg h4, if_neg h6, if_neg h7, if_neg h5, if_neg h1, if_pos h0]
  · rw [if_neg (show ¬ wD c = 0 by omega)]
    rcases h with rfl | rfl | rfl | rfl | rfl | rfl | rfl <;> rfl
theorem bft : ¬ (false = true) := by decide
theorem btf : ¬ (true = false) := by decide
abbrev wdg (S : Nat → Int32) (n i : Nat) : Prop := i < n ∧ 48 ≤ (S i).toInt ∧ (S i).toInt ≤ 57
/-- d digits and ";" from i on: the place behind, or the first place that can't be -/
def wfd (S : Nat → Int32) (n : Nat) : Nat → Nat → Nat × Bool
  | 0, i => if i < n ∧ S i = 59 then (i + 1, true) else (i, false)
  | d + 1, i => if wdg S n i then wfd S n d (i + 1) else (i, false)
def wst (S : Nat → Int32) (n p : Nat) : Nat × Bool := if p < n ∧ wD (S p) ≠ 0 then wfd S n (wD (S p)) (p + 1) else (p, false)
def wpar (S : Nat → Int32) (n : Nat) : Nat → Nat → Nat × Bool
  | 0, p => (p, true)
  | N + 1, p => if (wst S n p).2 then (if (wst S n p).1 < n then wpar S n N (wst S n p).1 else ((wst S n p).1, true)) else ((wst S n p).1, false)
theorem wfd_t {S : Nat → Int32} {n : Nat} : ∀ (d i : Nat), (wfd S n d i).2 = true → (wfd S n d i).1 = i + d + 1 ∧ (∀ k, k < d → wdg S n (i + k)) ∧ i + d < n ∧ S (i + d) = 59 := by
  intro d
  induction d with
  | zero =>
    intro i h
    unfold wfd at h ⊢
    by_cases c : i < n ∧ S i = 59
    · rw [if_pos c]; exact ⟨rfl, fun k hk => absurd hk (Nat.not_lt_zero k), c.1, c.2⟩
    · rw [if_neg c] at h; exact absurd h bft
  | succ d ih =>
    intro i h
    unfold wfd at h ⊢
    by_cases c : wdg S n i
    · rw [if_pos c] at h ⊢
      obtain ⟨h1, h2, h3, h4⟩ := ih (i + 1) h
      refine ⟨by omega, fun k hk => ?_, by omega, by rw [show i + (d + 1) = i + 1 + d by omega]; exact h4⟩
      cases k with
      | zero => exact c
      | succ k => have := h2 k (by omega); rw [show i + (k + 1) = i + 1 + k by omega]; exact this
    · rw [if_neg c] at h; exact absurd h bft
theorem wst_t {S : Nat → Int32} {n p : Nat} (h : (wst S n p).2 = true) : (wst S n p).1 = p + wD (S p) + 2 ∧ p < n ∧ wD (S p) ≠ 0 ∧ (∀ k, k < wD (S p) → wdg S n (p + 1 + k)) ∧ p + 1 + wD (S p) < n := by
  unfold wst at h ⊢
  by_cases c : p < n ∧ wD (S p) ≠ 0
  · rw [if_pos c] at h ⊢
    obtain ⟨h1, h2, h3, -⟩ := wfd_t _ _ h
    exact ⟨by omega, c.1, c.2, h2, h3⟩
  · rw [if_neg c] at h; exact absurd h bft
/-! the class: the place of the fault of form -/
theorem ax_isDigit {F : Nat} {x : Int32} {σ : Mem} {n i : Nat} (hn : (σ 83 1).toInt = (n : Int)) (hi : x.toInt = (i : Int)) : pc (f_X1_isDigit F x σ) (fun r s => s = σ ∧ r = if wdg (σ 84) n i then 1 else 0) := by
  rw [f_X1_isDigit_e]
  simp only [j_X1_isDigit_38_e]
  refine pc_ite (fun c => by have := ti_lt c; rw [tz_0] at this; omega) (fun _ => pc_ite (fun c => pc_ret ⟨rfl, ?_⟩) (fun c => pc_chk (fun _ => ?_)))
  · have := ti_le c
    rw [if_neg (fun q => by have := q.1; omega)]
  have d := ti_nle c
  rw [tn_int hi]
  refine pc_ite (fun c2 => pc_ret ⟨rfl, ?_⟩) (fun c2 => pc_ite (fun c3 => pc_ret ⟨rfl, ?_⟩) (fun c3 => pc_ret ⟨rfl, ?_⟩))
  · have := ti_lt c2; rw [tz_48] at this
    rw [if_neg (fun q => by have := q.2.1; omega)]
  · have := ti_lt c3; rw [tz_57] at this
    rw [if_neg (fun q => by have := q.2.2; omega)]
  · have h2 := ti_nlt c2; have h3 := ti_nlt c3; rw [tz_48] at h2; rw [tz_57] at h3
    rw [if_pos ⟨by omega, h2, h3⟩]
def wres (q : Nat × Bool) (r : Int32) : Prop := (q.2 = true → r = -9) ∧ (q.2 = false → r.toInt = (q.1 : Int))
theorem ax_fault {F : Nat} {σ : Mem} {n : Nat} (hn : (σ 83 1).toInt = (n : Int)) (hn96 : n ≤ 96) : ∀ N : Nat,
    (∀ (K p : Nat) (x1 x3 : Int32), x3.toInt = (p : Int) → p < n → n < p + K → pc (lp_X1_faultOfForm_15 F N x1 0 x3 σ) (fun r s => s = σ ∧ wres (wpar (σ 84) n K p) r)) ∧
    (∀ (K d i : Nat) (x1 x3 : Int32), x1.toInt = (d : Int) → x3.toInt = (i : Int) → i ≤ n → n < i + K → pc (lp_X1_faultOfForm_15 F N x1 1 x3 σ) (fun r s => s = σ ∧ ((wfd (σ 84) n d i).2 = false → r.toInt = ((wfd (σ 84) n d i).1 : Int)) ∧ ((wfd (σ 84) n d i).2 = true → ((wfd (σ 84) n d i).1 < n → wres (wpar (σ 84) n K (wfd (σ 84) n d i).1) r) ∧ (¬ (wfd (σ 84) n d i).1 < n → r = -9)))) := by
  intro N
  induction N with
  | zero => exact ⟨fun K p x1 x3 h1 h2 h3 => pc_none rfl, fun K d i x1 x3 h1 h2 h3 h4 => pc_none rfl⟩
  | succ N ih =>
    obtain ⟨ihP, ihQ⟩ := ih
    refine ⟨fun K p x1 x3 h1 h2 h3 => ?_, fun K d i x1 x3 h1 h2 h3 h4 => ?_⟩
    · rw [lp_X1_faultOfForm_15_s]
      simp only [j_X1_faultOfForm_48_e, j_X1_faultOfForm_90_e]
      refine pc_ite (fun c => by have := ti_le c; omega) (fun _ => ?_)
      rw [if_pos True.intro]
      refine pc_chk (fun _ => pc_be ax_digitsOf ?_)
      rw [tn_int h1]
      obtain ⟨K, rfl⟩ : ∃ K', K = K' + 1 := ⟨K - 1, by omega⟩
      have hw : wpar (σ 84) n (K + 1) p = if (wst (σ 84) n p).2 then (if (wst (σ 84) n p).1 < n then wpar (σ 84) n K (wst (σ 84) n p).1 else ((wst (σ 84) n p).1, true)) else ((wst (σ 84) n p).1, false) := rfl
      rw [hw]
      rcases wD_cs (σ 84 p) with ⟨w1, w2, -⟩ | ⟨w1, w2, w3, w4, -⟩
      · rw [if_pos w1, if_pos True.intro]
        have hs : wst (σ 84) n p = (p, false) := by unfold wst; rw [if_neg (fun q => q.2 w2)]
        rw [hs]
        exact pc_ret ⟨rfl, fun q => absurd q bft, fun _ => h1⟩
      · rw [if_neg w1, if_neg (by decide)]
        have hs : wst (σ 84) n p = wfd (σ 84) n (wD (σ 84 p)) (p + 1) := by unfold wst; rw [if_pos ⟨h2, by omega⟩]
        rw [hs]
        refine pc_mono (ihQ K (wD (σ 84 p)) (p + 1) _ _ w2 (ti_nx h1 (by omega)) (by omega) (by omega)) (fun r s q => ⟨q.1, ?_⟩)
        obtain ⟨-, q1, q2⟩ := q
        cases hb : (wfd (σ 84) n (wD (σ 84 p)) (p + 1)).2 with
        | false => rw [if_neg (by decide)]; exact ⟨fun q => absurd q bft, fun _ => q1 hb⟩
        | true =>
          rw [if_pos rfl]
          obtain ⟨q3, q4⟩ := q2 hb
          by_cases c : (wfd (σ 84) n (wD (σ 84 p)) (p + 1)).1 < n
          · rw [if_pos c]; exact q3 c
          · rw [if_neg c]; exact ⟨fun _ => q4 c, fun q => absurd q btf⟩
    · rw [lp_X1_faultOfForm_15_s]
      simp only [j_X1_faultOfForm_48_e, j_X1_faultOfForm_90_e]
      refine pc_ite (fun c => ?_) (fun c => ?_)
      · have hc := ti_le c
        have hin : i = n := by omega
        rw [if_neg (by decide)]
        have hf : wfd (σ 84) n d i = (i, false) := by
          cases d with
          | zero => unfold wfd; rw [if_neg (fun q => by have := q.1; omega)]
          | succ d => unfold wfd; rw [if_neg (fun q => by have := q.1; omega)]
        rw [hf]
        exact pc_ret ⟨rfl, fun _ => by rw [hn, hin], fun q => absurd q bft⟩
      · have hc := ti_nle c
        rw [if_neg (by decide)]
        cases d with
        | zero =>
          refine pc_ite (fun _ => ?_) (fun c2 => by have := ti_nle c2; rw [tz_0] at this; omega)
          refine pc_chk (fun _ => ?_)
          rw [tn_int h2]
          refine pc_ite (fun c3 => ?_) (fun c3 => ?_)
          · have hf : wfd (σ 84) n 0 i = (i + 1, true) := by unfold wfd; rw [if_pos ⟨by omega, c3⟩]
            rw [hf]
            by_cases e : i + 1 < n
            · refine pc_mono (ihP K (i + 1) _ _ (ti_nx h2 (by omega)) e (by omega)) (fun r s q => ⟨q.1, fun q => absurd q btf, fun _ => ⟨fun _ => q.2, fun n => absurd e n⟩⟩)
            · cases N with
              | zero => exact pc_none rfl
              | succ N =>
                rw [lp_X1_faultOfForm_15_s]
                refine pc_ite (fun _ => ?_) (fun c4 => by have := ti_nle c4; rw [ti_nx h2 (by omega)] at this; omega)
                rw [if_pos rfl]
                exact pc_ret ⟨rfl, fun q => absurd q btf, fun _ => ⟨fun q => absurd q e, fun _ => rfl⟩⟩
          · have hf : wfd (σ 84) n 0 i = (i, false) := by unfold wfd; rw [if_neg (fun q => c3 q.2)]
            rw [hf]
            exact pc_ret ⟨rfl, fun _ => h2, fun q => absurd q bft⟩
        | succ d =>
          refine pc_ite (fun c2 => by have := ti_le c2; rw [tz_0] at this; omega) (fun _ => ?_)
          refine pc_bnd (ax_isDigit hn h2) (fun r s q => ?_)
          obtain ⟨rfl, rfl⟩ := q
          by_cases c3 : wdg (s 84) n i
          · rw [if_pos c3, if_neg (by decide)]
            have hf : wfd (s 84) n (d + 1) i = wfd (s 84) n d (i + 1) := by rw [wfd, if_pos c3]
            rw [hf]
            refine ihQ K d (i + 1) _ _ ?_ (ti_nx h2 (by omega)) (by omega) (by omega)
            have e : (-1 : Int32).toInt = -1 := rfl
            have := ti_hi x1
            rw [ti_add (by rw [e]; omega) (by rw [e]; omega), e]; omega
          · rw [if_neg c3, if_pos rfl]
            have hf : wfd (s 84) n (d + 1) i = (i, false) := by rw [wfd, if_neg c3]
            rw [hf]
            exact pc_ret ⟨rfl, fun _ => h2, fun q => absurd q bft⟩
theorem ax_faultOfForm {F : Nat} {σ : Mem} {n : Nat} (hn : (σ 83 1).toInt = (n : Int)) (hn96 : n ≤ 96) : pc (f_X1_faultOfForm F σ) (fun r s => s = σ ∧ wres (wpar (σ 84) n (n + 1) 0) r) := by
  rw [f_X1_faultOfForm_e]
  refine pc_ite (fun c => pc_ret ⟨rfl, ?_⟩) (fun c => ?_)
  · have := ti_eq c
    rw [tz_0] at this
    have h0 : n = 0 := by omega
    subst h0
    have hs : wst (σ 84) 0 0 = (0, false) := by unfold wst; rw [if_neg (fun q => by have := q.1; omega)]
    have hw : wpar (σ 84) 0 (0 + 1) 0 = (0, false) := by
      show (if (wst (σ 84) 0 0).2 then (if (wst (σ 84) 0 0).1 < 0 then wpar (σ 84) 0 0 (wst (σ 84) 0 0).1 else ((wst (σ 84) 0 0).1, true)) else ((wst (σ 84) 0 0).1, false)) = _
      rw [hs]; rfl
    rw [hw]
    exact ⟨fun q => absurd q bft, fun _ => rfl⟩
  · have := ti_ne c; rw [tz_0] at this
    exact (ax_fault hn hn96 F).1 (n + 1) 0 0 0 rfl (by omega) (by omega)
/-! numbers -/
def wnum (S : Nat → Int32) (i : Nat) : Nat → Int32
  | 0 => 0
  | d + 1 => wnum S i d * (10 : Int32) + (S (i + d) - (48 : Int32))
theorem wnum_b {S : Nat → Int32} {n i : Nat} : ∀ d, d ≤ 3 → (∀ k, k < d → wdg S n (i + k)) → 0 ≤ (wnum S i d).toInt ∧ (wnum S i d).toInt < (10 : Int) ^ d := by
  intro d
  induction d with
  | zero => intro _ _; exact ⟨show (0 : Int) ≤ (0 : Int32).toInt by decide, show (0 : Int32).toInt < (10 : Int) ^ 0 by decide⟩
  | succ d ih =>
    intro hd h
    obtain ⟨h1, h2⟩ := ih (by omega) (fun k hk => h k (by omega))
    obtain ⟨-, g1, g2⟩ := h d (by omega)
    have hp : (10 : Int) ^ d ≤ 100 := by
      rcases (show d = 0 ∨ d = 1 ∨ d = 2 by omega) with rfl | rfl | rfl <;> decide
    have e1 : (wnum S i d * (10 : Int32)).toInt = (wnum S i d).toInt * 10 := by rw [ti_mul (by rw [tz_10]; omega) (by rw [tz_10]; omega), tz_10]
    have e2 : (S (i + d) - (48 : Int32)).toInt = (S (i + d)).toInt - 48 := by rw [ti_sub (by rw [tz_48]; omega) (by rw [tz_48]; omega), tz_48]
    have e3 : (wnum S i (d + 1)).toInt = (wnum S i d).toInt * 10 + ((S (i + d)).toInt - 48) := by
      show (wnum S i d * (10 : Int32) + (S (i + d) - (48 : Int32))).toInt = _
      rw [ti_add (by rw [e1, e2]; omega) (by rw [e1, e2]; omega), e1, e2]
    rw [e3, Int.pow_succ]
    omega
theorem ax_number {F : Nat} {σ : Mem} {n i d : Nat} {x1 x2 : Int32} (hn : (σ 83 1).toInt = (n : Int)) (hn96 : n ≤ 96) (h1 : x1.toInt = (i : Int)) (h2 : x2.toInt = (d : Int)) (hd : i + d ≤ n) (hg : ∀ k, k < d → wdg (σ 84) n (i + k)) : f_X1_number F x1 x2 σ = none ∨ f_X1_number F x1 x2 σ = some (wnum (σ 84) i d, σ) := by
  have key : ∀ (N k : Nat) (x3 x4 : Int32), x4.toInt = ((i + k : Nat) : Int) → k ≤ d → x3 = wnum (σ 84) i k → pc (lp_X1_number_5 F x1 x2 N x3 x4 σ) (fun r s => r = wnum (σ 84) i d ∧ s = σ) := by
    intro N
    induction N with
    | zero => intro k x3 x4 g1 g2 g3; exact pc_none rfl
    | succ N ih =>
      intro k x3 x4 g1 g2 g3
      rw [lp_X1_number_5_s]
      simp only [j_X1_number_40_e]
      have es : (x1 + x2).toInt = (i : Int) + (d : Int) := by rw [ti_add (by omega) (by omega), h1, h2]
      refine pc_ite (fun c => ?_) (fun c => ?_)
      · have := ti_le c
        refine pc_ret ⟨?_, rfl⟩
        rw [g3, show k = d by omega]
      · have := ti_nle c
        refine pc_bnd (ax_isDigit hn g1) (fun r s q => ?_)
        obtain ⟨rfl, rfl⟩ := q
        rw [if_pos (hg k (by omega)), if_neg (by decide)]
        refine pc_chk (fun _ => ih (k + 1) _ _ ?_ (by omega) ?_)
        · rw [ti_nx g1 (by omega)]; congr 1
        · rw [tn_int g1, g3]; rfl
  rw [f_X1_number_e]
  have h := key F 0 0 x1 (by rw [h1]; rfl) (by omega) rfl
  cases ho : lp_X1_number_5 F x1 x2 F 0 x1 σ with
  | none => exact Or.inl rfl
  | some q =>
    obtain ⟨e1, e2⟩ := h q.1 q.2 ho
    right
    rw [← e1]
    conv => rhs; rw [← e2]
theorem pc_num {β : Type} {o : Option (Int32 × Mem)} {a : Int32} {s : Mem} {K : Int32 → Mem → Option (β × Mem)} {Q : β → Mem → Prop} (h : o = none ∨ o = some (a, s)) (k : pc (K a s) Q) : pc (wt_bnd o K) Q := by
  rcases h with h | h
  · rw [h]; exact pc_none rfl
  · rw [h]; exact k
