section
/-! a terrace's letters: what must stand where -/
def wD (c : Int32) : Nat := if c = 100 then 2 else if c = 108 then 2 else if c = 112 then 3 else if c = 115 then 6 else if c = 117 then 1 else if c = 118 then 2 else if c = 119 then 2 else 0
def wDi (c : Int32) : Int32 := if c = 100 then 2 else if c = 108 then 2 else if c = 112 then 3 else if c = 115 then 6 else if c = 117 then 1 else if c = 118 then 2 else if c = 119 then 2 else -9
theorem wD_cs (c : Int32) : (wDi c = -9 ∧ wD c = 0 ∧ ¬ c = 100 ∧ ¬ c = 108 ∧ ¬ c = 112 ∧ ¬ c = 115 ∧ ¬ c = 117 ∧ ¬ c = 118 ∧ ¬ c = 119) ∨ (¬ wDi c = -9 ∧ (wDi c).toInt = (wD c : Int) ∧ 1 ≤ wD c ∧ wD c ≤ 6 ∧ (c = 100 ∨ c = 108 ∨ c = 112 ∨ c = 115 ∨ c = 117 ∨ c = 118 ∨ c = 119)) := by
  unfold wDi wD
  by_cases h1 : c = 100
  · rw [if_pos h1, if_pos h1]; exact Or.inr ⟨by decide, by decide, by decide, by decide, Or.inl h1⟩
  rw [if_neg h1, if_neg h1]
  by_cases h2 : c = 108
  · rw [if_pos h2, if_pos h2]; exact Or.inr ⟨by decide, by decide, by decide, by decide, Or.inr (Or.inl h2)⟩
  rw [if_neg h2, if_neg h2]
  by_cases h3 : c = 112
  · rw [if_pos h3, if_pos h3]; exact Or.inr ⟨by decide, by decide, by decide, by decide, Or.inr (Or.inr (Or.inl h3))⟩
  rw [if_neg h3, if_neg h3]
  by_cases h4 : c = 115
  · rw [if_pos h4, if_pos h4]; exact Or.inr ⟨by decide, by decide, by decide, by decide, Or.inr (Or.inr (Or.inr (Or.inl h4)))⟩
  rw [if_neg h4, if_neg h4]
  by_cases h5 : c = 117
  · rw [if_pos h5, if_pos h5]; exact Or.inr ⟨by decide, by decide, by decide, by decide, Or.inr (Or.inr (Or.inr (Or.inr (Or.inl h5))))⟩
  rw [if_neg h5, if_neg h5]
  by_cases h6 : c = 118
  · rw [if_pos h6, if_pos h6]; exact Or.inr ⟨by decide, by decide, by decide, by decide, Or.inr (Or.inr (Or.inr (Or.inr (Or.inr (Or.inl h6)))))⟩
  rw [if_neg h6, if_neg h6]
  by_cases h7 : c = 119
  · rw [if_pos h7, if_pos h7]; exact Or.inr ⟨by decide, by decide, by decide, by decide, Or.inr (Or.inr (Or.inr (Or.inr (Or.inr (Or.inr h7)))))⟩
  rw [if_neg h7, if_neg h7]
  exact Or.inl ⟨rfl, rfl, h1, h2, h3, h4, h5, h6, h7⟩
theorem ax_digitsOf {F : Nat} {c : Int32} {σ : Mem} : f_X1_digitsOf F c σ = some (wDi c, σ) := by
  rw [f_X1_digitsOf_e]
  unfold wDi
  by_cases h1 : c = 100
  · rw [if_pos h1, if_pos h1]
  rw [if_neg h1, if_neg h1]
  by_cases h2 : c = 108
  · rw [if_pos h2, if_pos h2]
  rw [if_neg h2, if_neg h2]
  by_cases h3 : c = 112
  · rw [if_pos h3, if_pos h3]
  rw [if_neg h3, if_neg h3]
  by_cases h4 : c = 115
  · rw [if_pos h4, if_pos h4]
  rw [if_neg h4, if_neg h4]
  by_cases h5 : c = 117
  · rw [if_pos h5, if_pos h5]
  rw [if_neg h5, if_neg h5]
  by_cases h6 : c = 118
  · rw [if_pos h6, if_pos h6]
  rw [if_neg h6, if_neg h6]
  by_cases h7 : c = 119
  · rw [if_pos h7, if_pos h7]
  rw [if_neg h7, if_neg h7]
theorem mx_isLetter {F : Nat} {c : Int32} {σ : Mem} : f_X4_isLetter F c σ = some (if wD c = 0 then 0 else 1, σ) := by
  rw [f_X4_isLetter_e]
  simp only [j_X4_isLetter_42_e]
  rcases wD_cs c with ⟨-, h0, h1, h2, h3, h4, h5, h6, h7⟩ | ⟨-, -, h0, -, h⟩
  · rw [if_neg h3, if_neg h2, if_neg h4, if_neg h6, if_neg h7, if_neg h5, if_neg h1, if_pos h0]
  · rw [if_neg (show ¬ wD c = 0 by omega)]
    rcases h with rfl | rfl | rfl | rfl | rfl | rfl | rfl <;> rfl
theorem bft : ¬ (false = true) := by decide
theorem btf : ¬ (true = false) := by decide
abbrev wdg (S : Nat → Int32) (n i : Nat) : Prop := i < n ∧ 48 ≤ (S i).toInt ∧ (S i).toInt ≤ 57
/-- d digits and ";" from i on: the place behind, or the first place that can't be -/
def wfd (S : Nat → Int32) (n : Nat) : Nat → Nat → Nat × Bool
  | 0, i => if i < n ∧ S i = 59 then (i + 1, true) else (i, false)
  | d + 1, i => if wdg S n i then wfd S n d (i + 1) else (i, false)
def wst (S : Nat → Int32) (n p : Nat) : Nat × Bool := if p < n ∧ wD (S p) ≠ 0 then wfd S n (wD (S p)) (p + 1) else (p, false)
def wpar (S : Nat → Int32) (n : Nat) : Nat → Nat → Nat × Bool
  | 0, p => (p, true)
  | N + 1, p => if (wst S n p).2 then (if (wst S n p).1 < n then wpar S n N (wst S n p).1 else ((wst S n p).1, true)) else ((wst S n p).1, false)
theorem wfd_t {S : Nat → Int32} {n : Nat} : ∀ (d i : Nat), (wfd S n d i).2 = true → (wfd S n d i).1 = i + d + 1 ∧ (∀ k, k < d → wdg S n (i + k)) ∧ i + d < n ∧ S (i + d) = 59 := by
  intro d
  induction d with
  | zero =>
    intro i h
    unfold wfd at h ⊢
    by_cases c : i < n ∧ S i = 59
    · rw [if_pos c]; exact ⟨rfl, fun k hk => absurd hk (Nat.not_lt_zero k), c.1, c.2⟩
    · rw [if_neg c] at h; exact absurd h bft
  | succ d ih =>
    intro i h
    unfold wfd at h ⊢
    by_cases c : wdg S n i
    · rw [if_pos c] at h ⊢
      obtain ⟨h1, h2, h3, h4⟩ := ih (i + 1) h
      refine ⟨by omega, fun k hk => ?_, by omega, by rw [show i + (d + 1) = i + 1 + d by omega]; exact h4⟩
      cases k with
      | zero => exact c
      | succ k => have := h2 k (by omega); rw [show i + (k + 1) = i + 1 + k by omega]; exact this
    · rw [if_neg c] at h; exact absurd h bft
theorem wst_t {S : Nat → Int32} {n p : Nat} (h : (wst S n p).2 = true) : (wst S n p).1 = p + wD (S p) + 2 ∧ p < n ∧ wD (S p) ≠ 0 ∧ (∀ k, k < wD (S p) → wdg S n (p + 1 + k)) ∧ p + 1 + wD (S p) < n := by
  unfold wst at h ⊢
  by_cases c : p < n ∧ wD (S p) ≠ 0
  · rw [if_pos c] at h ⊢
    obtain ⟨h1, h2, h3, -⟩ := wfd_t _ _ h
    exact ⟨by omega, c.1, c.2, h2, h3⟩
  · rw [if_neg c] at h; exact absurd h bft
/-! the class: the place of the fault of form -/
theorem ax_isDigit {F : Nat} {x : Int32} {σ : Mem} {n i : Nat} (hn : (σ 83 1).toInt = (n : Int)) (hi : x.toInt = (i : Int)) : pc (f_X1_isDigit F x σ) (fun r s => s = σ ∧ r = if wdg (σ 84) n i then 1 else 0) := by
  rw [f_X1_isDigit_e]
  simp only [j_X1_isDigit_38_e]
  refine pc_ite (fun c => by have := ti_lt c; rw [tz_0] at this; omega) (fun _ => pc_ite (fun c => pc_ret ⟨rfl, ?_⟩) (fun c => pc_chk (fun _ => ?_)))
  · have := ti_le c
    rw [if_neg (fun q => by have := q.1; omega)]
  have d := ti_nle c
  rw [tn_int hi]
  refine pc_ite (fun c2 => pc_ret ⟨rfl, ?_⟩) (fun c2 => pc_ite (fun c3 => pc_ret ⟨rfl, ?_⟩) (fun c3 => pc_ret ⟨rfl, ?_⟩))
  · have := ti_lt c2; rw [tz_48] at this
    rw [if_neg (fun q => by have := q.2.1; omega)]
  · have := ti_lt c3; rw [tz_57] at this
    rw [if_neg (fun q => by have := q.2.2; omega)]
  · have h2 := ti_nlt c2; have h3 := ti_nlt c3; rw [tz_48] at h2; rw [tz_57] at h3
    rw [if_pos ⟨by omega, h2, h3⟩]
def wres (q : Nat × Bool) (r : Int32) : Prop := (q.2 = true → r = -9) ∧ (q.2 = false → r.toInt = (q.1 : Int))
theorem ax_fault {F : Nat} {σ : Mem} {n : Nat} (hn : (σ 83 1).toInt = (n : Int)) (hn96 : n ≤ 96) : ∀ N : Nat,
    (∀ (K p : Nat) (x1 x3 : Int32), x3.toInt = (p : Int) → p < n → n < p + K → pc (lp_X1_faultOfForm_15 F N x1 0 x3 σ) (fun r s => s = σ ∧ wres (wpar (σ 84) n K p) r)) ∧
    (∀ (K d i : Nat) (x1 x3 : Int32), x1.toInt = (d : Int) → x3.toInt = (i : Int) → i ≤ n → n < i + K → pc (lp_X1_faultOfForm_15 F N x1 1 x3 σ) (fun r s => s = σ ∧ ((wfd (σ 84) n d i).2 = false → r.toInt = ((wfd (σ 84) n d i).1 : Int)) ∧ ((wfd (σ 84) n d i).2 = true → ((wfd (σ 84) n d i).1 < n → wres (wpar (σ 84) n K (wfd (σ 84) n d i).1) r) ∧ (¬ (wfd (σ 84) n d i).1 < n → r = -9)))) := by
  intro N
  induction N with
  | zero => exact ⟨fun K p x1 x3 h1 h2 h3 => pc_none rfl, fun K d i x1 x3 h1 h2 h3 h4 => pc_none rfl⟩
  | succ N ih =>
    obtain ⟨ihP, ihQ⟩ := ih
    refine ⟨fun K p x1 x3 h1 h2 h3 => ?_, fun K d i x1 x3 h1 h2 h3 h4 => ?_⟩
    · rw [lp_X1_faultOfForm_15_s]
      simp only [j_X1_faultOfForm_48_e, j_X1_faultOfForm_90_e]
      refine pc_ite (fun c => by have := ti_le c; omega) (fun _ => ?_)
      rw [if_pos True.intro]
      refine pc_chk (fun _ => pc_be ax_digitsOf ?_)
      rw [tn_int h1]
      obtain ⟨K, rfl⟩ : ∃ K', K = K' + 1 := ⟨K - 1, by omega⟩
      have hw : wpar (σ 84) n (K + 1) p = if (wst (σ 84) n p).2 then (if (wst (σ 84) n p).1 < n then wpar (σ 84) n K (wst (σ 84) n p).1 else ((wst (σ 84) n p).1, true)) else ((wst (σ 84) n p).1, false) := rfl
      rw [hw]
      rcases wD_cs (σ 84 p) with ⟨w1, w2, -⟩ | ⟨w1, w2, w3, w4, -⟩
      · rw [if_pos w1, if_pos True.intro]
        have hs : wst (σ 84) n p = (p, false) := by unfold wst; rw [if_neg (fun q => q.2 w2)]
        rw [hs]
        exact pc_ret ⟨rfl, fun q => absurd q bft, fun _ => h1⟩
      · rw [if_neg w1, if_neg (by decide)]
        have hs : wst (σ 84) n p = wfd (σ 84) n (wD (σ 84 p)) (p + 1) := by unfold wst; rw [if_pos ⟨h2, by omega⟩]
        rw [hs]
        refine pc_mono (ihQ K (wD (σ 84 p)) (p + 1) _ _ w2 (ti_nx h1 (by omega)) (by omega) (by omega)) (fun r s q => ⟨q.1, ?_⟩)
        obtain ⟨-, q1, q2⟩ := q
        cases hb : (wfd (σ 84) n (wD (σ 84 p)) (p + 1)).2 with
        | false => rw [if_neg (by decide)]; exact ⟨fun q => absurd q bft, fun _ => q1 hb⟩
        | true =>
          rw [if_pos rfl]
          obtain ⟨q3, q4⟩ := q2 hb
          by_cases c : (wfd (σ 84) n (wD (σ 84 p)) (p + 1)).1 < n
          · rw [if_pos c]; exact q3 c
          · rw [if_neg c]; exact ⟨fun _ => q4 c, fun q => absurd q btf⟩
    · rw [lp_X1_faultOfForm_15_s]
      simp only [j_X1_faultOfForm_48_e, j_X1_faultOfForm_90_e]
      refine pc_ite (fun c => ?_) (fun c => ?_)
      · have hc := ti_le c
        have hin : i = n := by omega
        rw [if_neg (by decide)]
        have hf : wfd (σ 84) n d i = (i, false) := by
          cases d with
          | zero => unfold wfd; rw [if_neg (fun q => by have := q.1; omega)]
          | succ d => unfold wfd; rw [if_neg (fun q => by have := q.1; omega)]
        rw [hf]
        exact pc_ret ⟨rfl, fun _ => by rw [hn, hin], fun q => absurd q bft⟩
      · have hc := ti_nle c
        rw [if_neg (by decide)]
        cases d with
        | zero =>
          refine pc_ite (fun _ => ?_) (fun c2 => by have := ti_nle c2; rw [tz_0] at this; omega)
          refine pc_chk (fun _ => ?_)
          rw [tn_int h2]
          refine pc_ite (fun c3 => ?_) (fun c3 => ?_)
          · have hf : wfd (σ 84) n 0 i = (i + 1, true) := by unfold wfd; rw [if_pos ⟨by omega, c3⟩]
            rw [hf]
            by_cases e : i + 1 < n
            · refine pc_mono (ihP K (i + 1) _ _ (ti_nx h2 (by omega)) e (by omega)) (fun r s q => ⟨q.1, fun q => absurd q btf, fun _ => ⟨fun _ => q.2, fun n => absurd e n⟩⟩)
            · cases N with
              | zero => exact pc_none rfl
              | succ N =>
                rw [lp_X1_faultOfForm_15_s]
                refine pc_ite (fun _ => ?_) (fun c4 => by have := ti_nle c4; rw [ti_nx h2 (by omega)] at this; omega)
                rw [if_pos rfl]
                exact pc_ret ⟨rfl, fun q => absurd q btf, fun _ => ⟨fun q => absurd q e, fun _ => rfl⟩⟩
          · have hf : wfd (σ 84) n 0 i = (i, false) := by unfold wfd; rw [if_neg (fun q => c3 q.2)]
            rw [hf]
            exact pc_ret ⟨rfl, fun _ => h2, fun q => absurd q bft⟩
        | succ d =>
          refine pc_ite (fun c2 => by have := ti_le c2; rw [tz_0] at this; omega) (fun _ => ?_)
          refine pc_bnd (ax_isDigit hn h2) (fun r s q => ?_)
          obtain ⟨rfl, rfl⟩ := q
          by_cases c3 : wdg (s 84) n i
          · rw [if_pos c3, if_neg (by decide)]
            have hf : wfd (s 84) n (d + 1) i = wfd (s 84) n d (i + 1) := by rw [wfd, if_pos c3]
            rw [hf]
            refine ihQ K d (i + 1) _ _ ?_ (ti_nx h2 (by omega)) (by omega) (by omega)
            have e : (-1 : Int32).toInt = -1 := rfl
            have := ti_hi x1
            rw [ti_add (by rw [e]; omega) (by rw [e]; omega), e]; omega
          · rw [if_neg c3, if_pos rfl]
            have hf : wfd (s 84) n (d + 1) i = (i, false) := by rw [wfd, if_neg c3]
            rw [hf]
            exact pc_ret ⟨rfl, fun _ => h2, fun q => absurd q bft⟩
theorem ax_faultOfForm {F : Nat} {σ : Mem} {n : Nat} (hn : (σ 83 1).toInt = (n : Int)) (hn96 : n ≤ 96) : pc (f_X1_faultOfForm F σ) (fun r s => s = σ ∧ wres (wpar (σ 84) n (n + 1) 0) r) := by
  rw [f_X1_faultOfForm_e]
  refine pc_ite (fun c => pc_ret ⟨rfl, ?_⟩) (fun c => ?_)
  · have := ti_eq c
    rw [tz_0] at this
    have h0 : n = 0 := by omega
    subst h0
    have hs : wst (σ 84) 0 0 = (0, false) := by unfold wst; rw [if_neg (fun q => by have := q.1; omega)]
    have hw : wpar (σ 84) 0 (0 + 1) 0 = (0, false) := by
      show (if (wst (σ 84) 0 0).2 then (if (wst (σ 84) 0 0).1 < 0 then wpar (σ 84) 0 0 (wst (σ 84) 0 0).1 else ((wst (σ 84) 0 0).1, true)) else ((wst (σ 84) 0 0).1, false)) = _
      rw [hs]; rfl
    rw [hw]
    exact ⟨fun q => absurd q bft, fun _ => rfl⟩
  · have := ti_ne c; rw [tz_0] at this
    exact (ax_fault hn hn96 F).1 (n + 1) 0 0 0 rfl (by omega) (by omega)
/-! numbers -/
def wnum (S : Nat → Int32) (i : Nat) : Nat → Int32
  | 0 => 0
  | d + 1 => wnum S i d * (10 : Int32) + (S (i + d) - (48 : Int32))
theorem wnum_b {S : Nat → Int32} {n i : Nat} : ∀ d, d ≤ 3 → (∀ k, k < d → wdg S n (i + k)) → 0 ≤ (wnum S i d).toInt ∧ (wnum S i d).toInt < (10 : Int) ^ d := by
  intro d
  induction d with
  | zero => intro _ _; exact ⟨show (0 : Int) ≤ (0 : Int32).toInt by decide, show (0 : Int32).toInt < (10 : Int) ^ 0 by decide⟩
  | succ d ih =>
    intro hd h
    obtain ⟨h1, h2⟩ := ih (by omega) (fun k hk => h k (by omega))
    obtain ⟨-, g1, g2⟩ := h d (by omega)
    have hp : (10 : Int) ^ d ≤ 100 := by
      rcases (show d = 0 ∨ d = 1 ∨ d = 2 by omega) with rfl | rfl | rfl <;> decide
    have e1 : (wnum S i d * (10 : Int32)).toInt = (wnum S i d).toInt * 10 := by rw [ti_mul (by rw [tz_10]; omega) (by rw [tz_10]; omega), tz_10]
    have e2 : (S (i + d) - (48 : Int32)).toInt = (S (i + d)).toInt - 48 := by rw [ti_sub (by rw [tz_48]; omega) (by rw [tz_48]; omega), tz_48]
    have e3 : (wnum S i (d + 1)).toInt = (wnum S i d).toInt * 10 + ((S (i + d)).toInt - 48) := by
      show (wnum S i d * (10 : Int32) + (S (i + d) - (48 : Int32))).toInt = _
      rw [ti_add (by rw [e1, e2]; omega) (by rw [e1, e2]; omega), e1, e2]
    rw [e3, Int.pow_succ]
    omega
theorem ax_number {F : Nat} {σ : Mem} {n i d : Nat} {x1 x2 : Int32} (hn : (σ 83 1).toInt = (n : Int)) (hn96 : n ≤ 96) (h1 : x1.toInt = (i : Int)) (h2 : x2.toInt = (d : Int)) (hd : i + d ≤ n) (hg : ∀ k, k < d → wdg (σ 84) n (i + k)) : f_X1_number F x1 x2 σ = none ∨ f_X1_number F x1 x2 σ = some (wnum (σ 84) i d, σ) := by
  have key : ∀ (N k : Nat) (x3 x4 : Int32), x4.toInt = ((i + k : Nat) : Int) → k ≤ d → x3 = wnum (σ 84) i k → pc (lp_X1_number_5 F x1 x2 N x3 x4 σ) (fun r s => r = wnum (σ 84) i d ∧ s = σ) := by
    intro N
    induction N with
    | zero => intro k x3 x4 g1 g2 g3; exact pc_none rfl
    | succ N ih =>
      intro k x3 x4 g1 g2 g3
      rw [lp_X1_number_5_s]
      simp only [j_X1_number_40_e]
      have es : (x1 + x2).toInt = (i : Int) + (d : Int) := by rw [ti_add (by omega) (by omega), h1, h2]
      refine pc_ite (fun c => ?_) (fun c => ?_)
      · have := ti_le c
        refine pc_ret ⟨?_, rfl⟩
        rw [g3, show k = d by omega]
      · have := ti_nle c
        refine pc_bnd (ax_isDigit hn g1) (fun r s q => ?_)
        obtain ⟨rfl, rfl⟩ := q
        rw [if_pos (hg k (by omega)), if_neg (by decide)]
        refine pc_chk (fun _ => ih (k + 1) _ _ ?_ (by omega) ?_)
        · rw [ti_nx g1 (by omega)]; congr 1
        · rw [tn_int g1, g3]; rfl
  rw [f_X1_number_e]
  have h := key F 0 0 x1 (by rw [h1]; rfl) (by omega) rfl
  cases ho : lp_X1_number_5 F x1 x2 F 0 x1 σ with
  | none => exact Or.inl rfl
  | some q =>
    obtain ⟨e1, e2⟩ := h q.1 q.2 ho
    right
    rw [← e1]
    conv => rhs; rw [← e2]
theorem pc_num {β : Type} {o : Option (Int32 × Mem)} {a : Int32} {s : Mem} {K : Int32 → Mem → Option (β × Mem)} {Q : β → Mem → Prop} (h : o = none ∨ o = some (a, s)) (k : pc (K a s) Q) : pc (wt_bnd o K) Q := by
  rcases h with h | h
  · rw [h]; exact pc_none rfl
  · rw [h]; exact k
end
section
/-! a statement, what it does -/
def cSt (S : Nat → Int32) (p : Nat) (V : Nat → Int32) : Prop :=
  (S p = 100 ∧ 1 ≤ (wnum S (p + 1) 2).toInt ∧ (wnum S (p + 1) 2).toInt ≤ 60 ∧ (V 3 + wnum S (p + 1) 2).toInt ≤ 9999) ∨
  (S p = 108 ∧ (wnum S (p + 1) 1).toInt ≤ 5 ∧ (V 1).toInt < 5) ∨
  (S p = 112 ∧ (wnum S (p + 1) 3).toInt ≤ 255 ∧ (V 0).toInt < 6) ∨
  (S p = 115 ∧ cPost (V 0).toInt (V 1).toInt (wnum S (p + 1) 1) (wnum S (p + 2) 2) (wnum S (p + 4) 2) (wnum S (p + 6) 1)) ∨
  (S p = 117 ∧ (wnum S (p + 1) 1).toInt ≤ 2) ∨
  (S p = 118 ∧ (wnum S (p + 1) 1).toInt ≤ 7) ∨
  (S p = 119 ∧ (wnum S (p + 1) 1).toInt < (V 0).toInt ∧ (wnum S (p + 2) 1).toInt ≤ 7)
def aSt (S : Nat → Int32) (p : Nat) (V : Nat → Int32) : Nat → Int32 :=
  if S p = 100 then aDay V (wnum S (p + 1) 2)
  else if S p = 108 then aLooker V (wnum S (p + 1) 1) (wnum S (p + 2) 1)
  else if S p = 112 then aPane V (wnum S (p + 1) 3)
  else if S p = 115 then aStand V (wnum S (p + 1) 1).toNatClampNeg (wnum S (p + 2) 2).toNatClampNeg (wnum S (p + 4) 2).toNatClampNeg (wnum S (p + 6) 1)
  else if S p = 117 then aLaw V (wnum S (p + 1) 1)
  else if S p = 118 then aWorth V (wnum S (p + 1) 1) (wnum S (p + 2) 1)
  else aWall V (wnum S (p + 1) 1) (wnum S (p + 2) 1)
theorem cSt_cg {S : Nat → Int32} {p : Nat} {V W : Nat → Int32} (h0 : W 0 = V 0) (h1 : W 1 = V 1) (h3 : W 3 = V 3) : cSt S p W ↔ cSt S p V := by
  unfold cSt
  rw [h0, h1, h3]
/-- the seven kinds apart -/
theorem cSt_100 {S : Nat → Int32} {p : Nat} {V : Nat → Int32} (e : S p = 100) : (cSt S p V ↔ (1 ≤ (wnum S (p + 1) 2).toInt ∧ (wnum S (p + 1) 2).toInt ≤ 60 ∧ (V 3 + wnum S (p + 1) 2).toInt ≤ 9999)) ∧ aSt S p V = aDay V (wnum S (p + 1) 2) := by
  refine ⟨⟨fun h => ?_, fun h => Or.inl ⟨e, h⟩⟩, by unfold aSt; rw [if_pos e]⟩
  unfold cSt at h
  rw [e] at h
  rcases h with ⟨-, h⟩ | ⟨q, -⟩ | ⟨q, -⟩ | ⟨q, -⟩ | ⟨q, -⟩ | ⟨q, -⟩ | ⟨q, -⟩
  · exact h
  all_goals exact absurd q (by decide)
theorem cSt_108 {S : Nat → Int32} {p : Nat} {V : Nat → Int32} (e : S p = 108) : (cSt S p V ↔ ((wnum S (p + 1) 1).toInt ≤ 5 ∧ (V 1).toInt < 5)) ∧ aSt S p V = aLooker V (wnum S (p + 1) 1) (wnum S (p + 2) 1) := by
  refine ⟨⟨fun h => ?_, fun h => Or.inr (Or.inl ⟨e, h⟩)⟩, by unfold aSt; rw [e]; rfl⟩
  unfold cSt at h
  rw [e] at h
  rcases h with ⟨q, -⟩ | ⟨-, h⟩ | ⟨q, -⟩ | ⟨q, -⟩ | ⟨q, -⟩ | ⟨q, -⟩ | ⟨q, -⟩
  rotate_left
  · exact h
  all_goals exact absurd q (by decide)
theorem cSt_112 {S : Nat → Int32} {p : Nat} {V : Nat → Int32} (e : S p = 112) : (cSt S p V ↔ ((wnum S (p + 1) 3).toInt ≤ 255 ∧ (V 0).toInt < 6)) ∧ aSt S p V = aPane V (wnum S (p + 1) 3) := by
  refine ⟨⟨fun h => ?_, fun h => Or.inr (Or.inr (Or.inl ⟨e, h⟩))⟩, by unfold aSt; rw [e]; rfl⟩
  unfold cSt at h
  rw [e] at h
  rcases h with ⟨q, -⟩ | ⟨q, -⟩ | ⟨-, h⟩ | ⟨q, -⟩ | ⟨q, -⟩ | ⟨q, -⟩ | ⟨q, -⟩
  rotate_left 2
  · exact h
  all_goals exact absurd q (by decide)
theorem cSt_115 {S : Nat → Int32} {p : Nat} {V : Nat → Int32} (e : S p = 115) : (cSt S p V ↔ cPost (V 0).toInt (V 1).toInt (wnum S (p + 1) 1) (wnum S (p + 2) 2) (wnum S (p + 4) 2) (wnum S (p + 6) 1)) ∧ aSt S p V = aStand V (wnum S (p + 1) 1).toNatClampNeg (wnum S (p + 2) 2).toNatClampNeg (wnum S (p + 4) 2).toNatClampNeg (wnum S (p + 6) 1) := by
  refine ⟨⟨fun h => ?_, fun h => Or.inr (Or.inr (Or.inr (Or.inl ⟨e, h⟩)))⟩, by unfold aSt; rw [e]; rfl⟩
  unfold cSt at h
  rw [e] at h
  rcases h with ⟨q, -⟩ | ⟨q, -⟩ | ⟨q, -⟩ | ⟨-, h⟩ | ⟨q, -⟩ | ⟨q, -⟩ | ⟨q, -⟩
  rotate_left 3
  · exact h
  all_goals exact absurd q (by decide)
theorem cSt_117 {S : Nat → Int32} {p : Nat} {V : Nat → Int32} (e : S p = 117) : (cSt S p V ↔ (wnum S (p + 1) 1).toInt ≤ 2) ∧ aSt S p V = aLaw V (wnum S (p + 1) 1) := by
  refine ⟨⟨fun h => ?_, fun h => Or.inr (Or.inr (Or.inr (Or.inr (Or.inl ⟨e, h⟩))))⟩, by unfold aSt; rw [e]; rfl⟩
  unfold cSt at h
  rw [e] at h
  rcases h with ⟨q, -⟩ | ⟨q, -⟩ | ⟨q, -⟩ | ⟨q, -⟩ | ⟨-, h⟩ | ⟨q, -⟩ | ⟨q, -⟩
  rotate_left 4
  · exact h
  all_goals exact absurd q (by decide)
theorem cSt_118 {S : Nat → Int32} {p : Nat} {V : Nat → Int32} (e : S p = 118) : (cSt S p V ↔ (wnum S (p + 1) 1).toInt ≤ 7) ∧ aSt S p V = aWorth V (wnum S (p + 1) 1) (wnum S (p + 2) 1) := by
  refine ⟨⟨fun h => ?_, fun h => Or.inr (Or.inr (Or.inr (Or.inr (Or.inr (Or.inl ⟨e, h⟩)))))⟩, by unfold aSt; rw [e]; rfl⟩
  unfold cSt at h
  rw [e] at h
  rcases h with ⟨q, -⟩ | ⟨q, -⟩ | ⟨q, -⟩ | ⟨q, -⟩ | ⟨q, -⟩ | ⟨-, h⟩ | ⟨q, -⟩
  rotate_left 5
  · exact h
  all_goals exact absurd q (by decide)
theorem cSt_119 {S : Nat → Int32} {p : Nat} {V : Nat → Int32} (e : S p = 119) : (cSt S p V ↔ ((wnum S (p + 1) 1).toInt < (V 0).toInt ∧ (wnum S (p + 2) 1).toInt ≤ 7)) ∧ aSt S p V = aWall V (wnum S (p + 1) 1) (wnum S (p + 2) 1) := by
  refine ⟨⟨fun h => ?_, fun h => Or.inr (Or.inr (Or.inr (Or.inr (Or.inr (Or.inr ⟨e, h⟩)))))⟩, by unfold aSt; rw [e]; rfl⟩
  unfold cSt at h
  rw [e] at h
  rcases h with ⟨q, -⟩ | ⟨q, -⟩ | ⟨q, -⟩ | ⟨q, -⟩ | ⟨q, -⟩ | ⟨q, -⟩ | ⟨-, h⟩
  rotate_left 6
  · exact h
  all_goals exact absurd q (by decide)
/-- the digits of a statement are digits -/
def wdok (S : Nat → Int32) (n p : Nat) : Prop := p < n ∧ wD (S p) ≠ 0 ∧ (∀ k, k < wD (S p) → wdg S n (p + 1 + k)) ∧ p + 1 + wD (S p) < n
theorem wdok_b {S : Nat → Int32} {n p : Nat} (h : wdok S n p) (i d : Nat) (hd : d ≤ 3) (hi : i + d ≤ wD (S p)) : (p + 1 + i) + d ≤ n ∧ (∀ k, k < d → wdg S n (p + 1 + i + k)) ∧ 0 ≤ (wnum S (p + 1 + i) d).toInt ∧ (wnum S (p + 1 + i) d).toInt < (10 : Int) ^ d := by
  obtain ⟨h1, h2, h3, h4⟩ := h
  have hg : ∀ k, k < d → wdg S n (p + 1 + i + k) := fun k hk => by have := h3 (i + k) (by omega); rw [show p + 1 + i + k = p + 1 + (i + k) by omega]; exact this
  exact ⟨by omega, hg, wnum_b d hd hg⟩
theorem ti_pl {x : Int32} {p k : Nat} {c : Int32} (h : x.toInt = (p : Int)) (hp : p < 1000) (hc : c.toInt = (k : Int)) (hk : k < 1000) : (x + c).toInt = ((p + k : Nat) : Int) := by
  rw [ti_add (by omega) (by omega), h, hc]; rfl
def lo148 (A B : Nat → Int32) : Prop := ∀ q, q < 188 → A q = B q
/-- the class tells its mind a statement -/
theorem ax_tell {F : Nat} (hF : 1000 ≤ F) {σ : Mem} {n p : Nat} {x2 : Int32} (hX : wiX σ) (hn : (σ 83 1).toInt = (n : Int)) (hn96 : n ≤ 96) (hp : x2.toInt = (p : Int)) (hd : wdok (σ 84) n p) (hv : wvV (wvX 24 σ)) : pc (f_X1_tell F 24 x2 σ) (fun r s => (cSt (σ 84) p (wvX 24 σ) → r = 1 ∧ lo148 (wvX 24 s) (aSt (σ 84) p (wvX 24 σ))) ∧ (¬ cSt (σ 84) p (wvX 24 σ) → r = 0)) := by
  have b0 := wx_X0_0 hX wt_h24
  have b2 := wx_X0_2 hX wt_h24
  have q1 : ∀ (k : Nat) (c : Int32), c.toInt = (k : Int) → k < 1000 → ((x2 + (1 : Int32)) + c).toInt = ((p + 1 + k : Nat) : Int) := fun k c hc hk => ti_pl (ti_pl hp (by have := hd.1; omega) (by rfl) (by decide)) (by have := hd.1; omega) hc hk
  have q0 : (x2 + (1 : Int32)).toInt = ((p + 1 : Nat) : Int) := ti_pl hp (by have := hd.1; omega) (by rfl) (by decide)
  have num0 : ∀ (d : Nat) (c : Int32), c.toInt = (d : Int) → d ≤ 3 → d ≤ wD (σ 84 p) → f_X1_number F (x2 + (1 : Int32)) c σ = none ∨ f_X1_number F (x2 + (1 : Int32)) c σ = some (wnum (σ 84) (p + 1) d, σ) := fun d c hc hd3 hdd => by
    obtain ⟨g1, g2, -⟩ := wdok_b hd 0 d hd3 (by omega)
    exact ax_number hn hn96 q0 hc g1 g2
  have num1 : ∀ (i d : Nat) (a c : Int32), a.toInt = (i : Int) → i < 1000 → c.toInt = (d : Int) → d ≤ 3 → i + d ≤ wD (σ 84 p) → f_X1_number F ((x2 + (1 : Int32)) + a) c σ = none ∨ f_X1_number F ((x2 + (1 : Int32)) + a) c σ = some (wnum (σ 84) (p + 1 + i) d, σ) := fun i d a c ha hi hc hd3 hdd => by
    obtain ⟨g1, g2, -⟩ := wdok_b hd i d hd3 (by omega)
    exact ax_number hn hn96 (q1 i a ha hi) hc g1 g2
  have bd : ∀ (i d : Nat), d ≤ 3 → i + d ≤ wD (σ 84 p) → 0 ≤ (wnum (σ 84) (p + 1 + i) d).toInt ∧ (wnum (σ 84) (p + 1 + i) d).toInt < (10 : Int) ^ d := fun i d h1 h2 => (wdok_b hd i d h1 h2).2.2
  have V0 : wvX 24 σ 0 = σ 24 0 := rfl
  have V1 : wvX 24 σ 1 = σ 24 2 := rfl
  have V3 : wvX 24 σ 3 = σ 24 9 := rfl
  rw [f_X1_tell_e]
  simp only [j_X1_tell_12_e, j_X1_tell_262_e]
  refine pc_ite (fun c => by have := ti_lt c; rw [tz_0] at this; omega) (fun _ => pc_ite (fun _ => ?_) (fun c => by have := ti_nlt c; have := hd.1; omega))
  refine pc_chk (fun _ => ?_)
  rw [tn_int hp]
  refine pc_ite (fun e => ?_) (fun e1 => ?_)
  · have hD : wD (σ 84 p) = 2 := by rw [e]; rfl
    obtain ⟨g1, g2⟩ := cSt_100 (V := wvX 24 σ) e
    have hb := bd 0 2 (by decide) (by omega)
    rw [show p + 1 + 0 = p + 1 from rfl] at hb
    refine pc_num (num0 2 2 rfl (by decide) (by omega)) ?_
    refine pc_ite (fun c => pc_ret ⟨fun h => ?_, fun _ => rfl⟩) (fun c => ?_)
    · have := ti_lt c; rw [tz_60] at this; have := (g1.mp h).2.1; omega
    have h60 := ti_nlt c
    rw [tz_60] at h60
    refine pc_num (num0 2 2 rfl (by decide) (by omega)) (pc_bnd (ax_pass hF wt_h24 hv) (fun r s q => ?_))
    rw [g1, g2, V3]
    by_cases hc : 1 ≤ (wnum (σ 84) (p + 1) 2).toInt ∧ (wnum (σ 84) (p + 1) 2).toInt ≤ 60 ∧ (σ 24 9 + wnum (σ 84) (p + 1) 2).toInt ≤ 9999
    · obtain ⟨r1, r2⟩ := q.1 ⟨hc.1, by omega, hc.2.2⟩
      rw [r1, if_neg (by decide)]
      exact pc_ret ⟨fun _ => ⟨rfl, r2⟩, fun n => absurd hc n⟩
    · obtain ⟨r1, r2⟩ := q.2 (fun w => hc ⟨w.1, by omega, w.2.2⟩)
      rw [r1, if_pos rfl]
      exact pc_ret ⟨fun n => absurd n hc, fun _ => rfl⟩
  refine pc_ite (fun e => ?_) (fun e2 => ?_)
  · have hD : wD (σ 84 p) = 2 := by rw [e]; rfl
    obtain ⟨g1, g2⟩ := cSt_108 (V := wvX 24 σ) e
    have hb := bd 0 1 (by decide) (by omega)
    have hb2 := bd 1 1 (by decide) (by omega)
    rw [show p + 1 + 0 = p + 1 from rfl] at hb
    rw [show p + 1 + 1 = p + 2 from rfl] at hb2
    refine pc_num (num0 1 1 rfl (by decide) (by omega)) (pc_num (num1 1 1 1 1 rfl (by decide) rfl (by decide) (by omega)) (pc_bnd (ax_addLooker wt_h24 b2) (fun r s q => pc_bz (fun _ => pc_ret ?_))))
    rw [g1, g2, V1]
    refine ⟨fun h => ?_, fun h => ?_⟩
    · obtain ⟨r1, r2⟩ := q.1 ⟨⟨hb.1, h.1⟩, ⟨hb2.1, by show (wnum (σ 84) (p + 2) 1).toInt ≤ 9; omega⟩, h.2⟩
      exact ⟨r1, fun q hq => r2 q (by omega)⟩
    · exact (q.2 (fun w => h ⟨w.1.2, w.2.2⟩)).1
  refine pc_ite (fun e => ?_) (fun e3 => ?_)
  · have hD : wD (σ 84 p) = 3 := by rw [e]; rfl
    obtain ⟨g1, g2⟩ := cSt_112 (V := wvX 24 σ) e
    have hb := bd 0 3 (by decide) (by omega)
    rw [show p + 1 + 0 = p + 1 from rfl] at hb
    refine pc_num (num0 3 3 rfl (by decide) (by omega)) (pc_bnd (ax_addPane wt_h24 b0) (fun r s q => pc_bz (fun _ => pc_ret ?_)))
    rw [g1, g2, V0]
    refine ⟨fun h => ?_, fun h => ?_⟩
    · obtain ⟨r1, r2⟩ := q.1 ⟨hb.1, h.1, h.2⟩
      exact ⟨r1, fun q hq => r2 q (by omega)⟩
    · exact (q.2 (fun w => h ⟨w.2.1, w.2.2⟩)).1
  refine pc_ite (fun e => ?_) (fun e4 => ?_)
  · have hD : wD (σ 84 p) = 6 := by rw [e]; rfl
    obtain ⟨g1, g2⟩ := cSt_115 (V := wvX 24 σ) e
    refine pc_num (num0 1 1 rfl (by decide) (by omega)) (pc_num (num1 1 2 1 2 rfl (by decide) rfl (by decide) (by omega)) (pc_num (num1 3 2 3 2 rfl (by decide) rfl (by decide) (by omega)) (pc_num (num1 5 1 5 1 rfl (by decide) rfl (by decide) (by omega)) (pc_bnd (ax_post b0.2 b2.2) (fun r s q => pc_bz (fun _ => pc_ret ?_))))))
    rw [g1, g2, V0, V1]
    refine ⟨fun h => ?_, fun h => (q.2 h).1⟩
    obtain ⟨r1, r2⟩ := q.1 h
    exact ⟨r1, fun q hq => r2 q (by omega)⟩
  refine pc_ite (fun e => ?_) (fun e5 => ?_)
  · have hD : wD (σ 84 p) = 1 := by rw [e]; rfl
    obtain ⟨g1, g2⟩ := cSt_117 (V := wvX 24 σ) e
    have hb := bd 0 1 (by decide) (by omega)
    rw [show p + 1 + 0 = p + 1 from rfl] at hb
    refine pc_num (num0 1 1 rfl (by decide) (by omega)) (pc_bnd ax_rule (fun r s q => pc_bz (fun _ => pc_ret ?_)))
    rw [g1, g2]
    refine ⟨fun h => ?_, fun h => (q.2 (fun w => h w.2)).1⟩
    obtain ⟨r1, r2⟩ := q.1 ⟨hb.1, h⟩
    exact ⟨r1, fun q hq => r2 q (by omega)⟩
  refine pc_ite (fun e => ?_) (fun e6 => ?_)
  · have hD : wD (σ 84 p) = 2 := by rw [e]; rfl
    obtain ⟨g1, g2⟩ := cSt_118 (V := wvX 24 σ) e
    have hb := bd 0 1 (by decide) (by omega)
    have hb2 := bd 1 1 (by decide) (by omega)
    rw [show p + 1 + 0 = p + 1 from rfl] at hb
    rw [show p + 1 + 1 = p + 2 from rfl] at hb2
    refine pc_num (num0 1 1 rfl (by decide) (by omega)) (pc_num (num1 1 1 1 1 rfl (by decide) rfl (by decide) (by omega)) (pc_bnd ax_price (fun r s q => pc_bz (fun _ => pc_ret ?_))))
    rw [g1, g2]
    refine ⟨fun h => ?_, fun h => (q.2 (fun w => h w.2.1)).1⟩
    obtain ⟨r1, r2⟩ := q.1 ⟨hb.1, h, hb2.1, by show (wnum (σ 84) (p + 2) 1).toInt ≤ 9; omega⟩
    exact ⟨r1, fun q hq => r2 q (by omega)⟩
  refine pc_ite (fun e => ?_) (fun e7 => ?_)
  · have hD : wD (σ 84 p) = 2 := by rw [e]; rfl
    obtain ⟨g1, g2⟩ := cSt_119 (V := wvX 24 σ) e
    have hb := bd 0 1 (by decide) (by omega)
    have hb2 := bd 1 1 (by decide) (by omega)
    rw [show p + 1 + 0 = p + 1 from rfl] at hb
    rw [show p + 1 + 1 = p + 2 from rfl] at hb2
    refine pc_num (num0 1 1 rfl (by decide) (by omega)) (pc_num (num1 1 1 1 1 rfl (by decide) rfl (by decide) (by omega)) (pc_bnd (ax_flip b0.2) (fun r s q => pc_bz (fun _ => pc_ret ?_))))
    rw [g1, g2, V0]
    refine ⟨fun h => ?_, fun h => (q.2 (fun w => h ⟨w.2.1, w.2.2.2⟩)).1⟩
    obtain ⟨r1, r2⟩ := q.1 ⟨hb.1, h.1, hb2.1, h.2⟩
    exact ⟨r1, fun q hq => r2 q (by omega)⟩
  exfalso
  rcases wD_cs (σ 84 p) with ⟨-, h0, -⟩ | ⟨-, -, -, -, h⟩
  · exact hd.2.1 h0
  · rcases h with h | h | h | h | h | h | h
    · exact e1 h
    · exact e2 h
    · exact e3 h
    · exact e4 h
    · exact e5 h
    · exact e6 h
    · exact e7 h
/-- the bounds stay -/
theorem wvV_aSt {S : Nat → Int32} {n p : Nat} {V : Nat → Int32} (h : wvV V) (hd : wdok S n p) (hc : cSt S p V) : wvV (aSt S p V) := by
  have bd : ∀ (i d : Nat), d ≤ 3 → i + d ≤ wD (S p) → 0 ≤ (wnum S (p + 1 + i) d).toInt ∧ (wnum S (p + 1 + i) d).toInt < (10 : Int) ^ d := fun i d h1 h2 => (wdok_b hd i d h1 h2).2.2
  rcases wD_cs (S p) with ⟨-, h0, -⟩ | ⟨-, -, -, -, e⟩
  · exact absurd h0 hd.2.1
  rcases e with e | e | e | e | e | e | e
  · rw [(cSt_100 e).2]; exact wvV_aDay h (by have := (cSt_100 e).1.mp hc; omega)
  · rw [(cSt_108 e).2]; have hb := bd 0 1 (by decide) (by rw [e]; decide)
    have hb2 := bd 1 1 (by decide) (by rw [e]; decide)
    rw [show p + 1 + 1 = p + 2 from rfl] at hb2
    exact wvV_aLooker h ⟨hb.1, ((cSt_108 e).1.mp hc).1⟩ ⟨hb2.1, by have := hb2.2; omega⟩ ((cSt_108 e).1.mp hc).2
  · rw [(cSt_112 e).2]; exact wvV_aPane h ((cSt_112 e).1.mp hc).2
  · rw [(cSt_115 e).2]; exact wvV_aPost h ((cSt_115 e).1.mp hc)
  · rw [(cSt_117 e).2]
    have hb := bd 0 1 (by decide) (by rw [e]; decide)
    exact wvV_aLaw h ⟨hb.1, (cSt_117 e).1.mp hc⟩
  · rw [(cSt_118 e).2]
    have hb := bd 0 1 (by decide) (by rw [e]; decide)
    have hb2 := bd 1 1 (by decide) (by rw [e]; decide)
    have h7 := (cSt_118 e).1.mp hc
    refine wvV_aWorth h (tn_lt hb.1 (by omega)) ⟨hb2.1, ?_⟩
    have := hb2.2
    rw [show p + 1 + 1 = p + 2 from rfl] at this
    omega
  · rw [(cSt_119 e).2]
    have hb := bd 0 1 (by decide) (by rw [e]; decide)
    have h7 := ((cSt_119 e).1.mp hc).1
    have := h.1.2
    exact wvV_aWall h (tn_lt hb.1 (by rw [show p + 1 + 0 = p + 1 from rfl]; omega))
theorem weq_aSt {lim : Nat} {S : Nat → Int32} {n p : Nat} {A B : Nat → Int32} (hl : 148 ≤ lim ∧ lim ≤ 188) (hv : wvV A) (h : weq lim A B) (hd : wdok S n p) (hc : cSt S p A) : weq lim (aSt S p A) (aSt S p B) := by
  have bd : ∀ (i d : Nat), d ≤ 3 → i + d ≤ wD (S p) → 0 ≤ (wnum S (p + 1 + i) d).toInt ∧ (wnum S (p + 1 + i) d).toInt < (10 : Int) ^ d := fun i d h1 h2 => (wdok_b hd i d h1 h2).2.2
  rcases wD_cs (S p) with ⟨-, h0, -⟩ | ⟨-, -, -, -, e⟩
  · exact absurd h0 hd.2.1
  rcases e with e | e | e | e | e | e | e
  · rw [(cSt_100 e).2, (cSt_100 e).2]; exact weq_aDay hv h hl
  · rw [(cSt_108 e).2, (cSt_108 e).2]; exact weq_aLooker h (by omega) ⟨hv.2.1.1, ((cSt_108 e).1.mp hc).2⟩
  · rw [(cSt_112 e).2, (cSt_112 e).2]; exact weq_aPane h (by omega) _
  · rw [(cSt_115 e).2, (cSt_115 e).2]; exact weq_aStand h
  · rw [(cSt_117 e).2, (cSt_117 e).2]; exact weq_aLaw h
  · rw [(cSt_118 e).2, (cSt_118 e).2]; exact weq_aWorth h
  · rw [(cSt_119 e).2, (cSt_119 e).2]
    have hb := bd 0 1 (by decide) (by rw [e]; decide)
    have h7 := ((cSt_119 e).1.mp hc).1
    have := hv.1.2
    exact weq_aWall h (by omega) (tn_lt hb.1 (by rw [show p + 1 + 0 = p + 1 from rfl]; omega))
end
section
/-! a terrace as a whole -/
def wpl (S : Nat → Int32) : Nat → Nat
  | 0 => 0
  | j + 1 => wpl S j + wD (S (wpl S j)) + 2
/-- m statements, and nothing behind -/
def wokm (S : Nat → Int32) (n m : Nat) : Prop := (∀ j, j < m → wdok S n (wpl S j)) ∧ wpl S m = n
theorem wpl_lt {S : Nat → Int32} {i j : Nat} (h : i < j) : wpl S i + 2 * (j - i) ≤ wpl S j := by
  induction j with
  | zero => omega
  | succ j ih =>
    show _ ≤ wpl S j + wD (S (wpl S j)) + 2
    by_cases e : i = j
    · subst e; omega
    · have := ih (by omega); omega
theorem wokm_u {S : Nat → Int32} {n m m' : Nat} (h : wokm S n m) (h' : wokm S n m') : m = m' := by
  have e1 := h.2
  have e2 := h'.2
  rcases Nat.lt_trichotomy m m' with q | q | q
  · have := wpl_lt (S := S) q; omega
  · exact q
  · have := wpl_lt (S := S) q; omega
theorem wst_ok {S : Nat → Int32} {n p : Nat} (h : (wst S n p).2 = true) : wdok S n p := by
  obtain ⟨-, h1, h2, h3, h4⟩ := wst_t h
  exact ⟨h1, h2, h3, h4⟩
theorem wpar_m {S : Nat → Int32} {n : Nat} : ∀ (K j : Nat), n < wpl S j + K → (∀ i, i < j → wdok S n (wpl S i)) → (wpar S n K (wpl S j)).2 = true → (j = 0 ∨ wpl S j < n) → ∃ m, j < m ∧ wokm S n m := by
  intro K
  induction K with
  | zero =>
    intro j h1 h2 h3 h4
    rcases h4 with h4 | h4
    · subst h4
      exfalso
      have : wpl S 0 = 0 := rfl
      omega
    · omega
  | succ K ih =>
    intro j h1 h2 h3 h4
    rw [wpar] at h3
    cases hb : (wst S n (wpl S j)).2 with
    | false => rw [hb, if_neg bft] at h3; exact absurd h3 bft
    | true =>
      rw [hb, if_pos rfl] at h3
      obtain ⟨e1, -, -, -, e5⟩ := wst_t hb
      have e2 : (wst S n (wpl S j)).1 = wpl S (j + 1) := e1
      have hall : ∀ i, i < j + 1 → wdok S n (wpl S i) := fun i hi => by
        by_cases e : i = j
        · subst e; exact wst_ok hb
        · exact h2 i (by omega)
      rw [e2] at h3
      by_cases c : wpl S (j + 1) < n
      · rw [if_pos c] at h3
        obtain ⟨m, hm1, hm2⟩ := ih (j + 1) (by have : wpl S (j + 1) = wpl S j + wD (S (wpl S j)) + 2 := rfl; omega) hall h3 (Or.inr c)
        exact ⟨m, by omega, hm2⟩
      · exact ⟨j + 1, by omega, hall, by have : wpl S (j + 1) = wpl S j + wD (S (wpl S j)) + 2 := rfl; omega⟩
/-- r statements from the j-th on: the place of the first that isn't as it must be; the house behind them -/
noncomputable def wrf (S : Nat → Int32) : Nat → Nat → (Nat → Int32) → Option Nat
  | 0, _, _ => none
  | r + 1, j, V => @ite _ (cSt S (wpl S j) V) (Classical.propDecidable _) (wrf S r (j + 1) (aSt S (wpl S j) V)) (some (wpl S j))
noncomputable def wrv (S : Nat → Int32) : Nat → Nat → (Nat → Int32) → (Nat → Int32)
  | 0, _, V => V
  | r + 1, j, V => wrv S r (j + 1) (aSt S (wpl S j) V)
theorem wrf_t {S : Nat → Int32} {r j : Nat} {V : Nat → Int32} (h : cSt S (wpl S j) V) : wrf S (r + 1) j V = wrf S r (j + 1) (aSt S (wpl S j) V) := if_pos h
theorem wrf_f {S : Nat → Int32} {r j : Nat} {V : Nat → Int32} (h : ¬ cSt S (wpl S j) V) : wrf S (r + 1) j V = some (wpl S j) := if_neg h
/-- all but the mind is as it was -/
def outM (σ s : Mem) : Prop := ∀ k, (k < 24 ∨ 46 < k) → s k = σ k
theorem ax_behind {F : Nat} {σ : Mem} {n p : Nat} {x : Int32} (hn : (σ 83 1).toInt = (n : Int)) (hn96 : n ≤ 96) (hp : x.toInt = (p : Int)) (hpn : p < n) (hD : wD (σ 84 p) ≠ 0) : pc (f_X1_behind F x σ) (fun r s => s = σ ∧ r.toInt = ((p + wD (σ 84 p) + 2 : Nat) : Int)) := by
  rw [f_X1_behind_e]
  refine pc_ite (fun c => by have := ti_lt c; rw [tz_0] at this; omega) (fun _ => pc_ite (fun _ => pc_chk (fun _ => pc_be ax_digitsOf (pc_ret ⟨rfl, ?_⟩))) (fun c => by have := ti_nlt c; omega))
  rw [tn_int hp]
  rcases wD_cs (σ 84 p) with ⟨-, h0, -⟩ | ⟨-, h1, h2, h3, -⟩
  · exact absurd h0 hD
  · have e1 : (wt_max (wDi (σ 84 p)) 0).toInt = (wD (σ 84 p) : Int) := by
      unfold wt_max
      rw [if_neg (fun q => by have := ti_lt q; rw [tz_0] at this; omega), h1]
    have e2 : (x + wt_max (wDi (σ 84 p)) 0).toInt = (p : Int) + (wD (σ 84 p) : Int) := by rw [ti_add (by rw [hp, e1]; omega) (by rw [hp, e1]; omega), hp, e1]
    rw [ti_add (by rw [e2, tz_2]; omega) (by rw [e2, tz_2]; omega), e2, tz_2]
    omega
/-- what the class's telling ends with -/
def cTer (S : Nat → Int32) (m j : Nat) (V : Nat → Int32) (σ : Mem) (r : Int32) (s : Mem) : Prop :=
  (wrf S (m - j) j V = none → r.toInt = (m : Int) ∧ weq 188 (wrv S (m - j) j V) (wvX 1 s) ∧ s 70 5 = 0) ∧
  (∀ q, wrf S (m - j) j V = some q → r.toInt = -2000 - (q : Int) ∧ outM σ s)
theorem ax_tellTerrace_35 {F : Nat} (hF : 100000 ≤ F) {σ0 : Mem} {S : Nat → Int32} {n m : Nat} (hS : σ0 84 = S) (hn : (σ0 83 1).toInt = (n : Int)) (hn96 : n ≤ 96) (hm : wokm S n m) : ∀ (N j : Nat) (V : Nat → Int32) (x1 x2 x3 : Int32) (σ : Mem), x1.toInt = (wpl S j : Int) → x2.toInt = (j : Int) → x3.toInt = (j : Int) → j ≤ m → wiX σ → outM σ0 σ → wvV V → weq 188 V (wvX 24 σ) → pc (lp_X3_tellTerrace_35 F N x1 x2 x3 σ) (fun r s => cTer S m j V σ0 r s) := by
  intro N
  induction N with
  | zero => intro j V x1 x2 x3 σ h1 h2 h3 h4 h5 h6 h7 h8; exact pc_none rfl
  | succ N ih =>
    intro j V x1 x2 x3 σ h1 h2 h3 h4 h5 h6 h7 h8
    have e83 : σ 83 = σ0 83 := h6 83 (by omega)
    have e84 : σ 84 = S := (h6 84 (by omega)).trans hS
    have hnσ : (σ 83 1).toInt = (n : Int) := by rw [e83]; exact hn
    rw [lp_X3_tellTerrace_35_s]
    simp only [j_X3_tellTerrace_91_e]
    have hjm : wpl S j + 2 * (m - j) ≤ n := by
      rcases Nat.lt_or_ge j m with q | q
      · have := wpl_lt (S := S) q; have := hm.2; omega
      · have : j = m := by omega
        subst this; have := hm.2; omega
    have h0j : 2 * j ≤ wpl S j := by
      rcases Nat.eq_zero_or_pos j with q | q
      · omega
      · have := wpl_lt (S := S) q; omega
    refine pc_ite (fun c => by have := ti_le c; rw [tz_96] at this; omega) (fun _ => ?_)
    refine pc_ite (fun c => ?_) (fun c => ?_)
    · have hc := ti_le c
      have ej : j = m := by omega
      have em : m - j = 0 := by omega
      refine pc_bnd (ax_takeFrom (by omega)) (fun _ s2 q => pc_be ax_forget (pc_ret ?_))
      unfold cTer
      rw [em]
      refine ⟨fun _ => ⟨by rw [h2, ej], ?_, up2_s⟩, fun q hq => absurd hq (by intro w; cases w)⟩
      exact weq_cg h8 (by omega) (fun _ _ => rfl) (fun p hp => by rw [wvX_k (by omega) (by omega)]; exact q p (by omega))
    · have hc := ti_nle c
      have hjm2 : j < m := by
        rcases Nat.lt_or_ge j m with q | q
        · exact q
        · exfalso
          have : j = m := by omega
          subst this; have := hm.2; omega
      have hd := hm.1 j hjm2
      have hdσ : wdok (σ 84) n (wpl S j) := by rw [e84]; exact hd
      obtain ⟨r0, er⟩ : ∃ r0, m - j = r0 + 1 := ⟨m - j - 1, by omega⟩
      have er2 : m - (j + 1) = r0 := by omega
      refine pc_bnd (pc_and (ax_tell (by omega) h5 hnσ hn96 h1 hdσ (wvV_weq h7 h8)) (pc_and (pc_pf (fr_X1_tell (by omega) wt_h24)) (sf_pc (s_X1_tell hF wt_h24 h5 (ti_lo _) (by omega))))) (fun r s6 q => ?_)
      obtain ⟨q1, q2, q3⟩ := q
      have o6 : outM σ0 s6 := fun k hk => by
        rw [← h6 k hk]
        exact fr_reg q2 (by unfold wf_11; omega) (fun c hc => by unfold wf_11; omega)
      have e0 : wvX 24 σ 0 = V 0 := weq_lo h8 (by omega) (by decide)
      have e1 : wvX 24 σ 1 = V 1 := weq_lo h8 (by omega) (by decide)
      have e3 : wvX 24 σ 3 = V 3 := weq_lo h8 (by omega) (by decide)
      have hcs : cSt (σ 84) (wpl S j) (wvX 24 σ) ↔ cSt S (wpl S j) V := by rw [e84]; exact cSt_cg e0 e1 e3
      by_cases hc2 : cSt S (wpl S j) V
      · obtain ⟨r1, r2⟩ := q1.1 (hcs.mpr hc2)
        rw [r1, if_neg (by decide)]
        have e84' : s6 84 = S := (o6 84 (by omega)).trans hS
        have hn6 : (s6 83 1).toInt = (n : Int) := by rw [o6 83 (by omega)]; exact hn
        refine pc_bnd (ax_behind hn6 hn96 h1 hd.1 (by rw [e84']; exact hd.2.1)) (fun r7 s8 w => ?_)
        obtain ⟨rfl, w⟩ := w
        rw [e84'] at w
        have hw : weq 188 (aSt S (wpl S j) V) (wvX 24 s8) := by
          rw [e84] at r2
          exact weq_cg (weq_aSt (by omega) h7 h8 hd hc2) (by omega) (fun _ _ => rfl) (fun p hp => r2 p hp)
        have hcount : j < 1000 := by omega
        refine pc_mono (ih (j + 1) (aSt S (wpl S j) V) _ _ _ s8 w (ti_nx h2 (by omega)) (ti_nx h3 (by omega)) hjm2 q3.1 o6 (wvV_aSt h7 hd hc2) hw) (fun a s z => ?_)
        unfold cTer at z ⊢
        rw [er, wrf_t hc2]
        rw [er2] at z
        exact z
      · have r0' := q1.2 (fun w => hc2 (hcs.mp w))
        rw [r0', if_pos rfl]
        refine pc_ret ?_
        unfold cTer
        rw [er, wrf_f hc2]
        refine ⟨fun w => (by cases w), fun q hq => ?_⟩
        cases hq
        refine ⟨?_, o6⟩
        have e20 : (-2000 : Int32).toInt = -2000 := rfl
        rw [ti_sub (by rw [e20, h1]; omega) (by rw [e20, h1]; omega), e20, h1]
theorem cx_terrace {F : Nat} (hF : 100000 ≤ F) {σ : Mem} {n : Nat} (hX : wiX σ) (hn : (σ 83 1).toInt = (n : Int)) (hn96 : n ≤ 96) {V : Nat → Int32} (hv : wvV V) (hw : weq 188 V (wvX 1 σ)) : pc (f_X3_terrace F σ) (fun r s => ((wpar (σ 84) n (n + 1) 0).2 = false → r.toInt = -1000 - ((wpar (σ 84) n (n + 1) 0).1 : Int) ∧ ∀ k, (k < 24 ∨ 46 < k) → k ≠ 83 → s k = σ k) ∧ ((wpar (σ 84) n (n + 1) 0).2 = true → ∀ m, wokm (σ 84) n m → (wrf (σ 84) m 0 V = none → r.toInt = (m : Int) ∧ weq 188 (wrv (σ 84) m 0 V) (wvX 1 s) ∧ s 70 5 = 0) ∧ (∀ q, wrf (σ 84) m 0 V = some q → r.toInt = -2000 - (q : Int) ∧ ∀ k, (k < 24 ∨ 46 < k) → k ≠ 83 → s k = σ k))) := by
  rw [f_X3_terrace_e, f_X3_tellTerrace_e]
  refine pc_bnd (P := fun r s => ((wpar (σ 84) n (n + 1) 0).2 = false → r.toInt = -1000 - ((wpar (σ 84) n (n + 1) 0).1 : Int) ∧ s = σ) ∧ ((wpar (σ 84) n (n + 1) 0).2 = true → ∀ m, wokm (σ 84) n m → cTer (σ 84) m 0 V σ r s)) ?_ (fun r s2 q => pc_lt (fun s3 h3 => pc_ret ⟨fun hb => ?_, fun hb m hm => ?_⟩))
  · refine pc_bnd (pc_and (ax_faultOfForm hn hn96) (sf_pc (s_X1_faultOfForm hF hX))) (fun r9 s10 q => ?_)
    obtain ⟨⟨rfl, q1, q2⟩, -, q3, q4⟩ := q
    cases hb : (wpar (s10 84) n (n + 1) 0).2 with
    | false =>
      have hr := q2 hb
      refine pc_ite (fun c => by have := ti_lt c; rw [tz_0] at this; omega) (fun _ => pc_ret ⟨fun _ => ⟨?_, rfl⟩, fun w => absurd w bft⟩)
      have e10 : (-1000 : Int32).toInt = -1000 := rfl
      rw [ti_sub (by rw [e10, hr]; omega) (by rw [e10, hr]; omega), e10, hr]
    | true =>
      have hr := q1 hb
      refine pc_ite (fun _ => ?_) (fun c => absurd (by rw [hr]; decide) c)
      refine pc_bnd (pc_and (ax_takeFrom (by omega)) (pc_and (pc_pf (fr_X0_takeFrom (by omega) wt_h24 wt_h1)) (sf_pc (s_X0_takeFrom hF wt_h24 wt_h1 hX)))) (fun _ s12 w => ?_)
      obtain ⟨w1, w2, w3⟩ := w
      have o : outM s10 s12 := fun k hk => fr_reg w2 (by unfold wf_0; omega) (fun c hc => by unfold wf_0; omega)
      intro a s e
      refine ⟨fun w => absurd w btf, fun _ m hm => ?_⟩
      exact ax_tellTerrace_35 hF rfl hn hn96 hm F 0 V 0 0 0 s12 rfl rfl rfl (by omega) w3.1 o hv (weq_cg hw (by omega) (fun _ _ => rfl) (fun p hp => w1 p (by omega))) a s e
  · obtain ⟨e1, e2⟩ := q.1 hb
    exact ⟨e1, fun k hk n83 => by rw [h3, up2_k n83, e2]⟩
  · obtain ⟨e1, e2⟩ := q.2 hb m hm
    rw [show m - 0 = m from rfl] at e1 e2
    refine ⟨fun h => ?_, fun q hq => ?_⟩
    · obtain ⟨g1, g2, g3⟩ := e1 h
      exact ⟨g1, weq_cg g2 (by omega) (fun _ _ => rfl) (fun p hp => by rw [h3, wvX_k (by omega) (by omega)]), by rw [h3, up2_k (by decide)]; exact g3⟩
    · obtain ⟨g1, g2⟩ := e2 q hq
      exact ⟨g1, fun k hk n83 => by rw [h3, up2_k n83, g2 k hk]⟩
end
section
/-! the reference reads a terrace -/
theorem wfd_s {S : Nat → Int32} {n d i : Nat} : wfd S n (d + 1) i = if wdg S n i then wfd S n d (i + 1) else (i, false) := rfl
theorem wfd_ok {S : Nat → Int32} {n : Nat} : ∀ (d i : Nat), (∀ k, k < d → wdg S n (i + k)) → wfd S n d i = wfd S n 0 (i + d) := by
  intro d
  induction d with
  | zero => intro i _; rfl
  | succ d ih =>
    intro i h
    have h0 : wdg S n i := h 0 (by omega)
    rw [wfd_s, if_pos h0, ih (i + 1) (fun k hk => by have := h (k + 1) (by omega); rw [show i + 1 + k = i + (k + 1) by omega]; exact this), show i + 1 + d = i + (d + 1) by omega]
theorem wfd_no {S : Nat → Int32} {n : Nat} : ∀ (d i k : Nat), k < d → (∀ k', k' < k → wdg S n (i + k')) → ¬ wdg S n (i + k) → wfd S n d i = (i + k, false) := by
  intro d
  induction d with
  | zero => intro i k h; omega
  | succ d ih =>
    intro i k h1 h2 h3
    cases k with
    | zero =>
      have h3' : ¬ wdg S n i := h3
      rw [wfd_s, if_neg h3']; rfl
    | succ k =>
      have h0 : wdg S n i := h2 0 (by omega)
      rw [wfd_s, if_pos h0, ih (i + 1) k (by omega) (fun k' hk => by have := h2 (k' + 1) (by omega); rw [show i + 1 + k' = i + (k' + 1) by omega]; exact this) (by rw [show i + 1 + k = i + (k + 1) by omega]; exact h3), show i + 1 + k = i + (k + 1) by omega]
theorem mx_here {F : Nat} {σ : Mem} {n i : Nat} (hn : (σ 101 15).toInt = (n : Int)) (hi : (σ 101 16).toInt = (i : Int)) : pc (f_X4_here F σ) (fun r s => s = σ ∧ (i < n → r = σ 111 i) ∧ (¬ i < n → r = -1)) := by
  rw [f_X4_here_e]
  refine pc_ite (fun c => pc_ret ⟨rfl, fun h => ?_, fun _ => rfl⟩) (fun c => pc_chk (fun _ => pc_ret ⟨rfl, fun _ => by rw [tn_int hi], fun h => ?_⟩))
  · have := ti_le c; omega
  · have := ti_nle c; omega
/-- e digits read from q on: all are, or the first that isn't stands -/
def RA (S : Nat → Int32) (n q e : Nat) (σ : Mem) : Prop :=
  ((∀ k, k < e → wdg S n (q + k)) → (σ 101 16).toInt = ((q + e : Nat) : Int) ∧ σ 101 17 = 0) ∧
  ((¬ ∀ k, k < e → wdg S n (q + k)) → ∃ k, k < e ∧ (∀ k', k' < k → wdg S n (q + k')) ∧ ¬ wdg S n (q + k) ∧ (σ 101 16).toInt = ((q + k : Nat) : Int) ∧ σ 101 17 = 1)
def rdO (σ s : Mem) : Prop := ∀ k i, ¬ (k = 101 ∧ (i = 16 ∨ i = 17)) → s k i = σ k i
theorem mx_rd_bad {F : Nat} {x1 : Int32} {i : Nat} : ∀ (N : Nat) (x2 x3 : Int32) (σ : Mem), (σ 101 16).toInt = (i : Int) → σ 101 17 = 1 → pc (lp_X4_readDigits_4 F x1 N x2 x3 σ) (fun _ s => (s 101 16).toInt = (i : Int) ∧ s 101 17 = 1 ∧ rdO σ s) := by
  intro N
  induction N with
  | zero => intro x2 x3 σ h1 h2; exact pc_none rfl
  | succ N ih =>
    intro x2 x3 σ h1 h2
    rw [lp_X4_readDigits_4_s]
    simp only [j_X4_readDigits_34_e, j_X4_readDigits_39_e, j_X4_readDigits_70_e, j_X4_readDigits_88_e]
    refine pc_ite (fun _ => pc_ret ⟨h1, h2, fun _ _ _ => rfl⟩) (fun _ => ?_)
    refine pc_ite (fun c => absurd (h2.symm.trans c) (by decide)) (fun _ => pc_bz (fun _ => pc_lt (fun s2 g2 => ?_)))
    have e17 : s2 101 17 = 1 := by rw [g2, up2_s]
    rw [e17, if_neg (by decide), if_neg (by decide)]
    refine pc_lt (fun s3 g3 => ?_)
    have e16 : s2 101 16 = σ 101 16 := by rw [g2, up2_i (by decide)]
    refine pc_mono (ih _ _ s3 (by rw [g3, up2_s, e16, Int32.add_zero]; exact h1) (by rw [g3, up2_i (by decide)]; exact e17)) (fun _ s q => ⟨q.1, q.2.1, fun k j h => ?_⟩)
    rw [q.2.2 k j h, g3, wm_key, if_neg (by omega), g2, wm_key, if_neg (by omega)]
theorem mx_rd_ok {F : Nat} {x1 : Int32} {S : Nat → Int32} {n i d : Nat} (hd : x1.toInt = (d : Int)) (hb : i + d < 1000) (hn96 : n ≤ 96) : ∀ (N k : Nat) (x2 x3 : Int32) (σ : Mem), x3.toInt = (k : Int) → k ≤ d → x2 = wnum S i k → (σ 101 16).toInt = ((i + k : Nat) : Int) → σ 101 17 = 0 → (∀ k', k' < k → wdg S n (i + k')) → σ 111 = S → (σ 101 15).toInt = (n : Int) → pc (lp_X4_readDigits_4 F x1 N x2 x3 σ) (fun r s => ((∀ k, k < d → wdg S n (i + k)) → r = wnum S i d ∧ (s 101 16).toInt = ((i + d : Nat) : Int) ∧ s 101 17 = 0) ∧ ((¬ ∀ k, k < d → wdg S n (i + k)) → ∃ k, k < d ∧ (∀ k', k' < k → wdg S n (i + k')) ∧ ¬ wdg S n (i + k) ∧ (s 101 16).toInt = ((i + k : Nat) : Int) ∧ s 101 17 = 1) ∧ rdO σ s) := by
  intro N
  induction N with
  | zero => intro k x2 x3 σ h1 h2 h3 h4 h5 h6 h7 h8; exact pc_none rfl
  | succ N ih =>
    intro k x2 x3 σ h1 h2 h3 h4 h5 h6 h7 h8
    rw [lp_X4_readDigits_4_s]
    simp only [j_X4_readDigits_34_e, j_X4_readDigits_39_e, j_X4_readDigits_70_e, j_X4_readDigits_88_e]
    refine pc_ite (fun c => ?_) (fun c => ?_)
    · have := ti_le c
      have hk : k = d := by omega
      subst hk
      exact pc_ret ⟨fun _ => ⟨h3, h4, h5⟩, fun q => absurd h6 q, fun _ _ _ => rfl⟩
    have hc := ti_nle c
    rw [h5, if_pos rfl]
    refine pc_bnd (mx_here h8 h4) (fun r s w => ?_)
    obtain ⟨rfl, w1, w2⟩ := w
    rw [h7] at w1
    refine pc_be (mx_in32 (lo := 48) (hi := 57) rfl rfl) ?_
    have hdg : (48 ≤ r.toInt ∧ r.toInt ≤ 57) ↔ wdg S n (i + k) := by
      by_cases c2 : i + k < n
      · rw [w1 c2]; exact ⟨fun q => ⟨c2, q⟩, fun q => q.2⟩
      · rw [w2 c2]; exact ⟨fun q => absurd q.1 (by decide), fun q => absurd q.1 c2⟩
    have e16 : ∀ b : Int32, (up2 s 101 17 b) 101 16 = s 101 16 := fun b => up2_i (by decide)
    by_cases c3 : wdg S n (i + k)
    · rw [if_pos (hdg.mpr c3), if_neg (by decide)]
      refine pc_bz (fun _ => pc_lt (fun s2 g2 => ?_))
      have e17 : s2 101 17 = 0 := by rw [g2, up2_s]
      rw [e17, if_pos rfl]
      refine pc_chk (fun _ => ?_)
      rw [if_pos rfl]
      have e162 : s2 101 16 = s 101 16 := by rw [g2]; exact e16 _
      have e111 : s2 111 = S := by rw [g2, up2_k (by decide)]; exact h7
      refine pc_lt (fun s3 g3 => ?_)
      refine pc_mono (ih (k + 1) _ _ s3 (ti_nx h1 (by omega)) (by omega) ?_ ?_ (by rw [g3, up2_i (by decide)]; exact e17) (fun k' hk' => ?_) (by rw [g3, up2_k (by decide)]; exact e111) (by rw [g3, up2_i (by decide), g2, up2_i (by decide)]; exact h8)) (fun r s q => ⟨q.1, q.2.1, fun k j h => ?_⟩)
      · rw [e111, e162, tn_int h4, h3]
        show (10 : Int32) * wnum S i k + S (i + k) - 48 = wnum S i k * 10 + (S (i + k) - 48)
        rw [Int32.sub_eq_add_neg, Int32.sub_eq_add_neg, Int32.add_assoc, Int32.mul_comm]
      · rw [g3, up2_s, e162]
        exact ti_pl (p := i + k) (k := 1) h4 (by omega) rfl (by decide)
      · by_cases e : k' = k
        · subst e; exact c3
        · exact h6 k' (by omega)
      · rw [q.2.2 k j h, g3, wm_key, if_neg (by omega), g2, wm_key, if_neg (by omega)]
    · rw [if_neg (fun q => c3 (hdg.mp q)), if_pos rfl]
      refine pc_bz (fun _ => pc_lt (fun s2 g2 => ?_))
      have e17 : s2 101 17 = 1 := by rw [g2, up2_s]
      rw [e17, if_neg (by decide), if_neg (by decide)]
      refine pc_lt (fun s3 g3 => ?_)
      refine pc_mono (mx_rd_bad N _ _ s3 (by rw [g3, up2_s, g2, e16, Int32.add_zero]; exact h4) (by rw [g3, up2_i (by decide)]; exact e17)) (fun r s q => ⟨fun w => absurd (w k (by omega)) c3, fun _ => ⟨k, by omega, h6, c3, q.1, q.2.1⟩, fun k j h => ?_⟩)
      rw [q.2.2 k j h, g3, wm_key, if_neg (by omega), g2, wm_key, if_neg (by omega)]
theorem mx_rd {F : Nat} {x : Int32} {σ : Mem} {S : Nat → Int32} {n q e d : Nat} (hx : x.toInt = (d : Int)) (hb : q + e + d < 1000) (hn96 : n ≤ 96) (hA : RA S n q e σ) (h7 : σ 111 = S) (h8 : (σ 101 15).toInt = (n : Int)) : pc (f_X4_readDigits F x σ) (fun r s => RA S n q (e + d) s ∧ ((∀ k, k < e + d → wdg S n (q + k)) → r = wnum S (q + e) d) ∧ rdO σ s) := by
  rw [f_X4_readDigits_e]
  by_cases c : ∀ k, k < e → wdg S n (q + k)
  · obtain ⟨a1, a2⟩ := hA.1 c
    refine pc_mono (mx_rd_ok (i := q + e) hx (by omega) hn96 F 0 0 0 σ rfl (by omega) rfl a1 a2 (fun k' h => by omega) h7 h8) (fun r s w => ?_)
    obtain ⟨w1, w2, w3⟩ := w
    have cv : (∀ k, k < e + d → wdg S n (q + k)) ↔ (∀ k, k < d → wdg S n (q + e + k)) := ⟨fun h k hk => by have := h (e + k) (by omega); rw [show q + e + k = q + (e + k) by omega]; exact this, fun h k hk => by
      by_cases ce : k < e
      · exact c k ce
      · have := h (k - e) (by omega); rw [show q + e + (k - e) = q + k by omega] at this; exact this⟩
    refine ⟨⟨fun h => ?_, fun h => ?_⟩, fun h => (w1 (cv.mp h)).1, w3⟩
    · obtain ⟨-, g1, g2⟩ := w1 (cv.mp h)
      exact ⟨by rw [g1, Nat.add_assoc], g2⟩
    · obtain ⟨k, g1, g2, g3, g4, g5⟩ := w2 (fun w => h (cv.mpr w))
      refine ⟨e + k, by omega, fun k' hk' => ?_, by rw [← Nat.add_assoc]; exact g3, by rw [g4, Nat.add_assoc], g5⟩
      by_cases ce : k' < e
      · exact c k' ce
      · have := g2 (k' - e) (by omega); rw [show q + e + (k' - e) = q + k' by omega] at this; exact this
  · obtain ⟨k, g1, g2, g3, g4, g5⟩ := hA.2 c
    refine pc_mono (mx_rd_bad F 0 0 σ g4 g5) (fun r s w => ⟨⟨fun h => absurd (h k (by omega)) g3, fun _ => ⟨k, by omega, g2, g3, w.1, w.2.1⟩⟩, fun h => absurd (h k (by omega)) g3, w.2.2⟩)
theorem RA_k {S : Nat → Int32} {n q e : Nat} {σ s : Mem} (h : RA S n q e σ) (e1 : s 101 16 = σ 101 16) (e2 : s 101 17 = σ 101 17) : RA S n q e s := by
  unfold RA at h ⊢
  rw [e1, e2]
  exact h
/-- the numbers of a statement as they are told -/
def wtold (S : Nat → Int32) (p : Nat) (f : Nat → Int32) (b : Nat) : Prop :=
  (S p = 100 → f b = wnum S (p + 1) 2) ∧ (S p = 112 → f b = wnum S (p + 1) 3) ∧
  (S p = 115 → f b = wnum S (p + 1) 1 ∧ f (b + 1) = wnum S (p + 2) 2 ∧ f (b + 2) = wnum S (p + 4) 2 ∧ f (b + 3) = wnum S (p + 6) 1) ∧
  (S p = 117 → f b = wnum S (p + 1) 1) ∧ (S p = 108 ∨ S p = 118 ∨ S p = 119 → f b = wnum S (p + 1) 1 ∧ f (b + 1) = wnum S (p + 2) 1)
def rnO (b : Nat) (σ s : Mem) : Prop := ∀ k i, ¬ (k = 101 ∧ (i = 16 ∨ i = 17)) → ¬ (k = 114 ∧ b ≤ i ∧ i < b + 4) → s k i = σ k i
theorem ti_ix {x : Int32} {b k : Nat} {c : Int32} (h : x.toInt = (b : Int)) (hb : b < 1000) (hc : c.toInt = (k : Int)) (hk : k < 10) : (x + c).toNatClampNeg = b + k := tn_int (ti_pl h hb hc (by omega))
theorem mx_readNumbers {F : Nat} {c x2 : Int32} {σ : Mem} {S : Nat → Int32} {n p b : Nat} (hc : S p = c) (hx2 : x2.toInt = (b : Int)) (hb : b ≤ 192) (hp : p < n) (hn96 : n ≤ 96) (hD : wD c ≠ 0) (h16 : (σ 101 16).toInt = ((p + 1 : Nat) : Int)) (h17 : σ 101 17 = 0) (h7 : σ 111 = S) (h8 : (σ 101 15).toInt = (n : Int)) : pc (f_X4_readNumbers F c x2 σ) (fun _ s => RA S n (p + 1) (wD c) s ∧ ((∀ k, k < wD c → wdg S n (p + 1 + k)) → wtold S p (s 114) b) ∧ rnO b σ s) := by
  have hA0 : RA S n (p + 1) 0 σ := ⟨fun _ => ⟨h16, h17⟩, fun h => absurd (fun k hk => absurd hk (Nat.not_lt_zero k)) h⟩
  have i0 : x2.toNatClampNeg = b := tn_int hx2
  have i1 : (x2 + (1 : Int32)).toNatClampNeg = b + 1 := ti_ix hx2 (by omega) rfl (by decide)
  have i2 : (x2 + (2 : Int32)).toNatClampNeg = b + 2 := ti_ix hx2 (by omega) rfl (by decide)
  have i3 : (x2 + (3 : Int32)).toNatClampNeg = b + 3 := ti_ix hx2 (by omega) rfl (by decide)
  have one : ∀ (d : Nat) (x : Int32), x.toInt = (d : Int) → d ≤ 3 → pc (wt_bnd (f_X4_readDigits F x σ) fun r s3 => wt_chk x2 196 <| wt_lt (up2 s3 114 (Int32.toNatClampNeg x2) r) fun s5 => some ((), s5)) (fun _ s => RA S n (p + 1) d s ∧ ((∀ k, k < d → wdg S n (p + 1 + k)) → s 114 b = wnum S (p + 1) d) ∧ rnO b σ s) := fun d x hx hd => by
    refine pc_bnd (mx_rd hx (by omega) hn96 hA0 h7 h8) (fun r s3 q => pc_chk (fun _ => pc_lt (fun s5 g => pc_ret ?_)))
    rw [i0] at g
    rw [Nat.zero_add] at q
    refine ⟨RA_k q.1 (by rw [g, up2_k (by decide)]) (by rw [g, up2_k (by decide)]), fun h => by rw [g, up2_s]; exact q.2.1 h, fun k i h1 h2 => ?_⟩
    rw [g, wm_key, if_neg (by omega)]
    exact q.2.2 k i h1
  rw [f_X4_readNumbers_e]
  refine pc_ite (fun e => ?_) (fun e1 => ?_)
  · have hD2 : wD c = 2 := by rw [e]; rfl
    rw [hD2]
    refine pc_mono (one 2 2 rfl (by decide)) (fun _ s q => ⟨q.1, fun h => ⟨fun _ => q.2.1 h, fun w => ?_, fun w => ?_, fun w => ?_, fun w => ?_⟩, q.2.2⟩)
    all_goals (rw [hc, e] at w; exact absurd w (by decide))
  refine pc_ite (fun e => ?_) (fun e2 => ?_)
  · have hD2 : wD c = 3 := by rw [e]; rfl
    rw [hD2]
    refine pc_mono (one 3 3 rfl (by decide)) (fun _ s q => ⟨q.1, fun h => ⟨fun w => ?_, fun _ => q.2.1 h, fun w => ?_, fun w => ?_, fun w => ?_⟩, q.2.2⟩)
    all_goals (rw [hc, e] at w; exact absurd w (by decide))
  refine pc_ite (fun e => ?_) (fun e3 => ?_)
  · have hD2 : wD c = 6 := by rw [e]; rfl
    rw [hD2]
    refine pc_bnd (mx_rd (d := 1) rfl (by omega) hn96 hA0 h7 h8) (fun r1 s1 q1 => pc_chk (fun _ => pc_lt (fun t1 g1 => ?_)))
    rw [i0] at g1
    have o1 : rnO b σ t1 := fun k i h1 h2 => by rw [g1, wm_key, if_neg (by omega)]; exact q1.2.2 k i h1
    refine pc_bnd (mx_rd (e := 1) (d := 2) rfl (by omega) hn96 (RA_k q1.1 (by rw [g1, up2_k (by decide)]) (by rw [g1, up2_k (by decide)])) ((funext fun i => o1 111 i (by omega) (by omega)).trans h7) (by rw [o1 101 15 (by omega) (by omega)]; exact h8)) (fun r2 s2 q2 => pc_chk (fun _ => pc_lt (fun t2 g2 => ?_)))
    rw [i1] at g2
    have o2 : rnO b σ t2 := fun k i h1 h2 => by rw [g2, wm_key, if_neg (by omega), q2.2.2 k i h1]; exact o1 k i h1 h2
    refine pc_bnd (mx_rd (e := 3) (d := 2) rfl (by omega) hn96 (RA_k q2.1 (by rw [g2, up2_k (by decide)]) (by rw [g2, up2_k (by decide)])) ((funext fun i => o2 111 i (by omega) (by omega)).trans h7) (by rw [o2 101 15 (by omega) (by omega)]; exact h8)) (fun r3 s3 q3 => pc_chk (fun _ => pc_lt (fun t3 g3 => ?_)))
    rw [i2] at g3
    have o3 : rnO b σ t3 := fun k i h1 h2 => by rw [g3, wm_key, if_neg (by omega), q3.2.2 k i h1]; exact o2 k i h1 h2
    refine pc_bnd (mx_rd (e := 5) (d := 1) rfl (by omega) hn96 (RA_k q3.1 (by rw [g3, up2_k (by decide)]) (by rw [g3, up2_k (by decide)])) ((funext fun i => o3 111 i (by omega) (by omega)).trans h7) (by rw [o3 101 15 (by omega) (by omega)]; exact h8)) (fun r4 s4 q4 => pc_chk (fun _ => pc_lt (fun t4 g4 => pc_ret ?_)))
    rw [i3] at g4
    refine ⟨RA_k q4.1 (by rw [g4, up2_k (by decide)]) (by rw [g4, up2_k (by decide)]), fun h => ⟨fun w => ?_, fun w => ?_, fun _ => ⟨?_, ?_, ?_, ?_⟩, fun w => ?_, fun w => ?_⟩, fun k i h1 h2 => by rw [g4, wm_key, if_neg (by omega), q4.2.2 k i h1]; exact o3 k i h1 h2⟩
    · rw [hc, e] at w; exact absurd w (by decide)
    · rw [hc, e] at w; exact absurd w (by decide)
    · rw [g4, up2_i (by omega), q4.2.2 114 b (by omega), g3, up2_i (by omega), q3.2.2 114 b (by omega), g2, up2_i (by omega), q2.2.2 114 b (by omega), g1, up2_s]
      exact q1.2.1 (fun k hk => h k (by omega))
    · rw [g4, up2_i (by omega), q4.2.2 114 _ (by omega), g3, up2_i (by omega), q3.2.2 114 _ (by omega), g2, up2_s]
      exact q2.2.1 (fun k hk => h k (by omega))
    · rw [g4, up2_i (by omega), q4.2.2 114 _ (by omega), g3, up2_s]
      exact q3.2.1 (fun k hk => h k (by omega))
    · rw [g4, up2_s]
      exact q4.2.1 h
    · rw [hc, e] at w; exact absurd w (by decide)
    · rw [hc, e] at w; exact absurd w (by decide)
  refine pc_ite (fun e => ?_) (fun e4 => ?_)
  · have hD2 : wD c = 1 := by rw [e]; rfl
    rw [hD2]
    refine pc_mono (one 1 1 rfl (by decide)) (fun _ s q => ⟨q.1, fun h => ⟨fun w => ?_, fun w => ?_, fun w => ?_, fun _ => q.2.1 h, fun w => ?_⟩, q.2.2⟩)
    all_goals (rw [hc, e] at w; exact absurd w (by decide))
  · have hc3 : c = 108 ∨ c = 118 ∨ c = 119 := by
      rcases wD_cs c with ⟨-, h0, -⟩ | ⟨-, -, -, -, h⟩
      · exact absurd h0 hD
      · rcases h with h | h | h | h | h | h | h
        · exact absurd h e1
        · exact Or.inl h
        · exact absurd h e2
        · exact absurd h e3
        · exact absurd h e4
        · exact Or.inr (Or.inl h)
        · exact Or.inr (Or.inr h)
    have hD2 : wD c = 2 := by rcases hc3 with h | h | h <;> (rw [h]; rfl)
    rw [hD2]
    refine pc_bnd (mx_rd (d := 1) rfl (by omega) hn96 hA0 h7 h8) (fun r1 s1 q1 => pc_chk (fun _ => pc_lt (fun t1 g1 => ?_)))
    rw [i0] at g1
    have o1 : rnO b σ t1 := fun k i h1 h2 => by rw [g1, wm_key, if_neg (by omega)]; exact q1.2.2 k i h1
    refine pc_bnd (mx_rd (e := 1) (d := 1) rfl (by omega) hn96 (RA_k q1.1 (by rw [g1, up2_k (by decide)]) (by rw [g1, up2_k (by decide)])) ((funext fun i => o1 111 i (by omega) (by omega)).trans h7) (by rw [o1 101 15 (by omega) (by omega)]; exact h8)) (fun r2 s2 q2 => pc_chk (fun _ => pc_lt (fun t2 g2 => pc_ret ?_)))
    rw [i1] at g2
    refine ⟨RA_k q2.1 (by rw [g2, up2_k (by decide)]) (by rw [g2, up2_k (by decide)]), fun h => ⟨fun w => absurd (hc.symm.trans w) e1, fun w => absurd (hc.symm.trans w) e2, fun w => absurd (hc.symm.trans w) e3, fun w => absurd (hc.symm.trans w) e4, fun _ => ⟨?_, ?_⟩⟩, fun k i h1 h2 => by rw [g2, wm_key, if_neg (by omega), q2.2.2 k i h1]; exact o1 k i h1 h2⟩
    · rw [g2, up2_i (by omega), q2.2.2 114 b (by omega), g1, up2_s]
      exact q1.2.1 (fun k hk => h k (by omega))
    · rw [g2, up2_s]
      exact q2.2.1 h
end
section
/-- one statement read -/
def rsO (k : Nat) (σ s : Mem) : Prop := ∀ j i, ¬ (j = 101 ∧ (i = 16 ∨ i = 17 ∨ i = 18)) → ¬ ((j = 112 ∨ j = 113) ∧ i = k) → ¬ (j = 114 ∧ 4 * k ≤ i ∧ i < 4 * k + 4) → s j i = σ j i
def RS (S : Nat → Int32) (n p k : Nat) (σ s : Mem) : Prop :=
  (s 101 16).toInt = ((wst S n p).1 : Int) ∧ s 101 17 = (if (wst S n p).2 then 0 else 1) ∧ (s 101 18).toInt = ((k + 1 : Nat) : Int) ∧ ((wst S n p).2 = true → (s 112 k).toInt = (p : Int) ∧ s 113 k = S p ∧ wtold S p (s 114) (4 * k)) ∧ rsO k σ s
theorem mx_rs108 {F : Nat} {S : Nat → Int32} {n p k : Nat} {t1 : Int32} {σ0 σ : Mem} (hn96 : n ≤ 96) (hk : (σ 101 18).toInt = (k : Int)) (hk48 : k ≤ 48) {e : Nat} {bb : Bool} (hw : wst S n p = (if bb then (e + 1, true) else (e, false))) (he : e < 1000) (h16 : (σ 101 16).toInt = (e : Int)) (ht : t1 = if bb then 0 else 1) (hT : bb = true → (σ 112 k).toInt = (p : Int) ∧ σ 113 k = S p ∧ wtold S p (σ 114) (4 * k)) (ho : rsO k σ0 σ) : pc (j_X4_readStatement_108 F t1 σ) (fun _ s => RS S n p k σ0 s) := by
  rw [j_X4_readStatement_108_e]
  simp only [j_X4_readStatement_128_e]
  refine pc_bz (fun _ => pc_lt (fun s3 g3 => ?_))
  have e17 : s3 101 17 = t1 := by rw [g3, up2_s]
  have e16 : s3 101 16 = σ 101 16 := by rw [g3, up2_i (by decide)]
  have e18 : s3 101 18 = σ 101 18 := by rw [g3, up2_i (by decide)]
  rw [e17]
  have go : ∀ a : Int32, (s3 101 16 + a).toInt = ((wst S n p).1 : Int) → pc (wt_lt (up2 s3 101 16 (s3 101 16 + a)) fun s1 => wt_lt (up2 s1 101 18 ((s1 101 18) + (1 : Int32))) fun s2 => some ((), s2)) (fun _ s => RS S n p k σ0 s) := fun a ha => by
    refine pc_lt (fun s1 g1 => pc_lt (fun s2 g2 => pc_ret ?_))
    have o : ∀ j i, ¬ (j = 101 ∧ (i = 16 ∨ i = 17 ∨ i = 18)) → s2 j i = σ j i := fun j i h => by rw [g2, wm_key, if_neg (by omega), g1, wm_key, if_neg (by omega), g3, wm_key, if_neg (by omega)]
    refine ⟨by rw [g2, up2_i (by decide), g1, up2_s]; exact ha, ?_, ?_, fun hb => ?_, fun j i h1 h2 h3 => by rw [o j i h1]; exact ho j i h1 h2 h3⟩
    · rw [g2, up2_i (by decide), g1, up2_i (by decide), e17, ht, hw]
      cases bb <;> rfl
    · rw [g2, up2_s, g1, up2_i (by decide), e18]
      exact ti_nx hk (by omega)
    · have hbb : bb = true := by
        cases bb with
        | false => rw [hw] at hb; exact absurd hb bft
        | true => rfl
      obtain ⟨t1, t2, t3⟩ := hT hbb
      rw [o 112 k (by omega), o 113 k (by omega), show s2 114 = σ 114 from funext fun i => o 114 i (by omega)]
      exact ⟨t1, t2, t3⟩
  cases bb with
  | true =>
    have ht0 : t1 = 0 := ht
    rw [ht0, if_pos rfl]
    refine go 1 ?_
    rw [e16, hw]
    exact ti_pl (k := 1) h16 he rfl (by decide)
  | false =>
    have ht0 : t1 = 1 := ht
    rw [ht0, if_neg (by decide)]
    refine go 0 ?_
    rw [e16, hw, Int32.add_zero]
    exact h16
theorem mx_readStatement {F : Nat} {σ : Mem} {S : Nat → Int32} {n p k : Nat} (hn96 : n ≤ 96) (hp : p ≤ n) (hk48 : k ≤ 48) (h16 : (σ 101 16).toInt = (p : Int)) (h17 : σ 101 17 = 0) (h18 : (σ 101 18).toInt = (k : Int)) (h7 : σ 111 = S) (h8 : (σ 101 15).toInt = (n : Int)) : pc (f_X4_readStatement F σ) (fun _ s => RS S n p k σ s) := by
  rw [f_X4_readStatement_e]
  refine pc_bnd (mx_here h8 h16) (fun r s13 w => ?_)
  obtain ⟨rfl, w1, w2⟩ := w
  rw [h7] at w1
  refine pc_chk (fun _ => pc_lt (fun s15 g15 => pc_lt (fun s16 g16 => ?_)))
  rw [tn_int h18] at g15 g16
  have o16 : ∀ j i, ¬ ((j = 112 ∨ j = 113) ∧ i = k) → s16 j i = s13 j i := fun j i h => by rw [g16, wm_key, if_neg (by omega), g15, wm_key, if_neg (by omega)]
  have f112 : (s16 112 k).toInt = (p : Int) := by rw [g16, up2_k (by decide), g15, up2_s]; exact h16
  have f113 : s16 113 k = r := by rw [g16, up2_s]
  have e17 : s16 101 17 = 0 := by rw [o16 101 17 (by omega)]; exact h17
  have e16 : s16 101 16 = s13 101 16 := o16 101 16 (by omega)
  have e18 : s16 101 18 = s13 101 18 := o16 101 18 (by omega)
  have e18k : s13 101 18 = s16 101 18 := e18.symm
  rw [e17, if_pos rfl]
  refine pc_be mx_isLetter ?_
  simp only [j_X4_readStatement_42_e, j_X4_readStatement_47_e, j_X4_readStatement_67_e, j_X4_readStatement_86_e, j_X4_readStatement_103_e]
  have rs0 : ∀ z : Mem, (∀ j i, ¬ (j = 101 ∧ (i = 16 ∨ i = 17 ∨ i = 18)) → z j i = s16 j i) → rsO k s13 z := fun z hz j i h1 h2 h3 => by rw [hz j i h1]; exact o16 j i h2
  by_cases hD : wD r = 0
  · rw [if_pos hD, if_pos rfl]
    have hw : wst S n p = (p, false) := by
      unfold wst
      refine if_neg (fun q => ?_)
      rw [w1 q.1] at hD
      exact q.2 hD
    refine pc_bz (fun _ => pc_lt (fun s10 g10 => ?_))
    have f17 : s10 101 17 = 1 := by rw [g10, up2_s]
    have f16 : s10 101 16 = s13 101 16 := by rw [g10, up2_i (by decide), e16]
    have f18 : s10 101 18 = s13 101 18 := by rw [g10, up2_i (by decide), e18]
    rw [f17, if_neg (by decide)]
    refine pc_lt (fun s7 g7 => ?_)
    have q17 : s7 101 17 = 1 := by rw [g7, up2_i (by decide), f17]
    rw [q17, if_neg (by decide), if_neg (by decide)]
    refine mx_rs108 (bb := false) (e := p) hn96 (by rw [g7, up2_i (by decide), f18]; exact h18) hk48 (by rw [hw]; rfl) (by omega) (by rw [g7, up2_s, f16, Int32.add_zero]; exact h16) rfl (fun q => absurd q bft) (rs0 s7 (fun j i h => by rw [g7, wm_key, if_neg (by omega), g10, wm_key, if_neg (by omega)]))
  · rw [if_neg hD, if_neg (by decide)]
    have hpn : p < n := by
      by_cases c : p < n
      · exact c
      · exfalso; apply hD; rw [w2 c]; rfl
    have hr := w1 hpn
    have hw : wst S n p = wfd S n (wD (S p)) (p + 1) := by unfold wst; rw [if_pos ⟨hpn, by rw [← hr]; exact hD⟩]
    refine pc_bz (fun _ => pc_lt (fun s10 g10 => ?_))
    have f17 : s10 101 17 = 0 := by rw [g10, up2_s]
    have f16 : s10 101 16 = s13 101 16 := by rw [g10, up2_i (by decide), e16]
    have f18 : s10 101 18 = s13 101 18 := by rw [g10, up2_i (by decide), e18]
    rw [f17, if_pos rfl]
    refine pc_lt (fun s7 g7 => ?_)
    have q17 : s7 101 17 = 0 := by rw [g7, up2_i (by decide), f17]
    have q18 : s7 101 18 = s13 101 18 := by rw [g7, up2_i (by decide), f18]
    have q16 : (s7 101 16).toInt = ((p + 1 : Nat) : Int) := by rw [g7, up2_s, f16]; exact ti_pl (k := 1) h16 (by omega) rfl (by decide)
    have o7 : ∀ j i, ¬ (j = 101 ∧ (i = 16 ∨ i = 17 ∨ i = 18)) → s7 j i = s16 j i := fun j i h => by rw [g7, wm_key, if_neg (by omega), g10, wm_key, if_neg (by omega)]
    rw [q17, if_pos rfl]
    have hb4 : ((4 : Int32) * s13 101 18).toInt = ((4 * k : Nat) : Int) := by
      have e4 : (4 : Int32).toInt = 4 := rfl
      rw [ti_mul (by rw [e4, h18]; omega) (by rw [e4, h18]; omega), e4, h18]; omega
    refine pc_bnd (mx_readNumbers (S := S) (n := n) (p := p) (b := 4 * k) hr.symm hb4 (by omega) hpn hn96 hD q16 q17 ((funext fun i => (o7 111 i (by omega)).trans (o16 111 i (by omega))).trans h7) (by rw [o7 101 15 (by omega), o16 101 15 (by omega)]; exact h8)) (fun _ s9 v => ?_)
    obtain ⟨v1, v2, v3⟩ := v
    have r18 : (s9 101 18).toInt = (k : Int) := by rw [v3 101 18 (by omega) (by omega), q18]; exact h18
    have rs9 : rsO k s13 s9 := fun j i h1 h2 h3 => by rw [v3 j i (by omega) (by omega), o7 j i h1]; exact o16 j i h2
    have t112 : (s9 112 k).toInt = (p : Int) := by rw [v3 112 k (by omega) (by omega), o7 112 k (by omega)]; exact f112
    have t113 : s9 113 k = S p := by rw [v3 113 k (by omega) (by omega), o7 113 k (by omega), f113, hr]
    rw [hr] at v1 v2
    by_cases call : ∀ k, k < wD (S p) → wdg S n (p + 1 + k)
    · obtain ⟨a1, a2⟩ := v1.1 call
      rw [a2, if_pos rfl]
      have hw2 := hw.trans (wfd_ok _ _ call)
      have h15' : (s9 101 15).toInt = (n : Int) := by rw [v3 101 15 (by omega) (by omega), o7 101 15 (by omega), o16 101 15 (by omega)]; exact h8
      have h111' : s9 111 = S := (funext fun i => ((v3 111 i (by omega) (by omega)).trans (o7 111 i (by omega))).trans (o16 111 i (by omega))).trans h7
      have hle : p + 1 + wD (S p) ≤ n := by
        by_cases c0 : wD (S p) = 0
        · omega
        · have := (call (wD (S p) - 1) (by omega)).1; omega
      refine pc_bnd (mx_here h15' a1) (fun r5 s6 u => ?_)
      obtain ⟨rfl, u1, u2⟩ := u
      rw [h111'] at u1
      by_cases c59 : p + 1 + wD (S p) < n ∧ S (p + 1 + wD (S p)) = 59
      · rw [if_pos ((u1 c59.1).trans c59.2)]
        refine mx_rs108 (bb := true) (e := p + 1 + wD (S p)) hn96 r18 hk48 (by rw [hw2, wfd, if_pos c59]; rfl) (by omega) a1 rfl (fun _ => ⟨t112, t113, v2 call⟩) rs9
      · have hne : ¬ r5 = 59 := fun q => by
          by_cases c : p + 1 + wD (S p) < n
          · exact c59 ⟨c, (u1 c).symm.trans q⟩
          · rw [u2 c] at q; exact absurd q (by decide)
        rw [if_neg hne]
        exact mx_rs108 (bb := false) (e := p + 1 + wD (S p)) hn96 r18 hk48 (by rw [hw2, wfd, if_neg c59]; rfl) (by omega) a1 rfl (fun q => absurd q bft) rs9
    · obtain ⟨k0, a1, a2, a3, a4, a5⟩ := v1.2 call
      rw [a5, if_neg (by decide)]
      exact mx_rs108 (bb := false) (e := p + 1 + k0) hn96 r18 hk48 (by rw [hw, wfd_no _ _ k0 a1 a2 a3]; rfl) (by
        rcases wD_cs (S p) with ⟨-, h0, -⟩ | ⟨-, -, -, h6, -⟩ <;> omega) a4 rfl (fun q => absurd q bft) rs9
/-- what the reference holds of the statements that it has read -/
def mInfo (S : Nat → Int32) (n k : Nat) (σ : Mem) : Prop := ∀ j, j < k → (σ 112 j).toInt = (wpl S j : Int) ∧ σ 113 j = S (wpl S j) ∧ wtold S (wpl S j) (σ 114) (4 * j) ∧ wdok S n (wpl S j)
theorem mInfo_k {S : Nat → Int32} {n k : Nat} {σ s : Mem} (h : mInfo S n k σ) (e1 : ∀ j, j < k → s 112 j = σ 112 j ∧ s 113 j = σ 113 j) (e2 : ∀ i, i < 4 * k → s 114 i = σ 114 i) : mInfo S n k s := fun j hj => by
  obtain ⟨h1, h2, h3, h4⟩ := h j hj
  obtain ⟨a1, a2⟩ := e1 j hj
  refine ⟨by rw [a1]; exact h1, by rw [a2]; exact h2, ?_, h4⟩
  unfold wtold at h3 ⊢
  rw [e2 (4 * j) (by omega), e2 (4 * j + 1) (by omega), e2 (4 * j + 2) (by omega), e2 (4 * j + 3) (by omega)]
  exact h3
/-- one statement comes -/
theorem mx_comesTold {F : Nat} (hF : 1000 ≤ F) {σ : Mem} {S : Nat → Int32} {n k p : Nat} {x1 : Int32} (hM : wiM σ) (hx : x1.toInt = (k : Int)) (hk : k ≤ 47) (h113 : σ 113 k = S p) (hT : wtold S p (σ 114) (4 * k)) (hd : wdok S n p) (hv : wvV (wvM σ)) : pc (f_X4_comesTold F x1 σ) (fun r s => (cSt S p (wvM σ) → r = 1 ∧ lo148 (wvM s) (aSt S p (wvM σ))) ∧ (¬ cSt S p (wvM σ) → r = 0)) := by
  have bp := wx_X4_1 hM
  have bl := wx_X4_3 hM
  have bd : ∀ (i d : Nat), d ≤ 3 → i + d ≤ wD (S p) → 0 ≤ (wnum S (p + 1 + i) d).toInt ∧ (wnum S (p + 1 + i) d).toInt < (10 : Int) ^ d := fun i d h1 h2 => (wdok_b hd i d h1 h2).2.2
  have e4 : ((4 : Int32) * x1).toInt = ((4 * k : Nat) : Int) := by
    have e4 : (4 : Int32).toInt = 4 := rfl
    rw [ti_mul (by rw [e4, hx]; omega) (by rw [e4, hx]; omega), e4, hx]; omega
  have i0 : ((4 : Int32) * x1).toNatClampNeg = 4 * k := tn_int e4
  have i1 : (((4 : Int32) * x1) + (1 : Int32)).toNatClampNeg = 4 * k + 1 := ti_ix e4 (by omega) rfl (by decide)
  have i2 : (((4 : Int32) * x1) + (2 : Int32)).toNatClampNeg = 4 * k + 2 := ti_ix e4 (by omega) rfl (by decide)
  have i3 : (((4 : Int32) * x1) + (3 : Int32)).toNatClampNeg = 4 * k + 3 := ti_ix e4 (by omega) rfl (by decide)
  have V0 : wvM σ 0 = σ 101 1 := rfl
  have V1 : wvM σ 1 = σ 101 3 := rfl
  have V3 : wvM σ 3 = σ 101 9 := rfl
  rw [f_X4_comesTold_e]
  refine pc_chk (fun _ => pc_lt (fun z15 g15 => pc_chk (fun _ => pc_lt (fun z17 g17 => pc_chk (fun _ => pc_lt (fun z19 g19 => pc_chk (fun _ => pc_lt (fun z21 g21 => pc_chk (fun _ => ?_)))))))))
  rw [i0] at g15
  rw [i1] at g17
  rw [i2] at g19
  rw [i3] at g21
  rw [tn_int hx, h113]
  obtain ⟨T1, T2, T3, T4, T5⟩ := hT
  simp only [j_X4_comesTold_185_e, j_X4_comesTold_186_e, j_X4_comesTold_199_e, j_X4_comesTold_136_e, j_X4_comesTold_137_e, j_X4_comesTold_164_e, j_X4_comesTold_243_e, j_X4_comesTold_239_e, j_X4_comesTold_244_e, j_X4_comesTold_261_e, j_X4_comesTold_275_e, j_X4_comesTold_289_e, j_X4_comesTold_310_e, j_X4_comesTold_311_e, j_X4_comesTold_330_e, j_X4_comesTold_377_e, j_X4_comesTold_378_e, j_X4_comesTold_390_e]
  refine pc_ite (fun e => ?_) (fun e1 => ?_)
  · have hD : wD (S p) = 2 := by rw [e]; rfl
    obtain ⟨t1, t2⟩ := T5 (Or.inl e)
    rw [t1] at g15
    rw [t2] at g17
    obtain ⟨a1, a2⟩ := cSt_108 (V := wvM σ) e
    rw [a1, a2, V1]
    subst g15 g17
    have no : ∀ (P : Prop), ¬ P → pc (if (0 : Int32) = 0 then wt_bz (0 : Int32) (some ((0 : Int32), σ)) else wt_bnd (f_X4_lookerComes F (wnum S (p + 1) 1) (wnum S (p + 2) 1) σ) fun r4 s5 => wt_bz (0 : Int32) (some ((0 : Int32), s5))) (fun r s => (P → r = 1 ∧ lo148 (wvM s) (aLooker (wvM σ) (wnum S (p + 1) 1) (wnum S (p + 2) 1))) ∧ (¬ P → r = 0)) := fun P hP => by
      rw [if_pos rfl]; exact pc_bz (fun _ => pc_ret ⟨fun h => absurd h hP, fun _ => rfl⟩)
    refine pc_ite (fun c => ?_) (fun c => pc_ite (fun c2 => ?_) (fun c2 => ?_))
    · exact no _ (fun h => by have := ti_le c; rw [tz_6] at this; omega)
    · exact no _ (fun h => by have := ti_le c2; rw [tz_5] at this; omega)
    · have d1 := ti_nle c
      have d2 := ti_nle c2
      rw [tz_6] at d1
      rw [tz_5] at d2
      rw [if_neg (by decide)]
      exact pc_bnd (mx_lookerComes ⟨bl.1, d2⟩) (fun _ s5 q => pc_bz (fun _ => pc_ret ⟨fun _ => ⟨rfl, fun q' hq => q q' (by omega)⟩, fun n => absurd ⟨by omega, d2⟩ n⟩))
  refine pc_ite (fun e => ?_) (fun e2 => ?_)
  · have hD : wD (S p) = 3 := by rw [e]; rfl
    have t1 := T2 e
    rw [t1] at g15
    obtain ⟨a1, a2⟩ := cSt_112 (V := wvM σ) e
    rw [a1, a2, V0]
    subst g15
    have no : ∀ (P : Prop), ¬ P → pc (if (0 : Int32) = 0 then wt_bz (0 : Int32) (some ((0 : Int32), σ)) else wt_chk (σ 101 1) 6 (wt_lt (up2 σ 103 (Int32.toNatClampNeg (σ 101 1)) (wnum S (p + 1) 3)) fun s2 => wt_lt (up2 s2 101 1 ((s2 101 1) + (1 : Int32))) fun s3 => wt_bz (0 : Int32) (some ((0 : Int32), s3)))) (fun r s => (P → r = 1 ∧ lo148 (wvM s) (aPane (wvM σ) (wnum S (p + 1) 3))) ∧ (¬ P → r = 0)) := fun P hP => by
      rw [if_pos rfl]; exact pc_bz (fun _ => pc_ret ⟨fun h => absurd h hP, fun _ => rfl⟩)
    refine pc_ite (fun c => ?_) (fun c => pc_ite (fun c2 => ?_) (fun c2 => ?_))
    · exact no _ (fun h => by have := ti_lt c; rw [tz_255] at this; omega)
    · exact no _ (fun h => by have := ti_le c2; rw [tz_6] at this; omega)
    · have d1 := ti_nlt c
      have d2 := ti_nle c2
      rw [tz_255] at d1
      rw [tz_6] at d2
      rw [if_neg (by decide)]
      refine pc_chk (fun v => pc_lt (fun s2 h2 => pc_lt (fun s3 h3 => pc_bz (fun _ => pc_ret ⟨fun _ => ⟨rfl, fun q' hq => ?_⟩, fun n => absurd ⟨d1, d2⟩ n⟩))))
      have hj := wtJI_103 _ v.2.2
      rw [h3, wvM_at (k := 101) (i := 1) (q := 0) (by decide) rfl rfl (by omega)]
      unfold aPane
      refine upd_cg ?_ ?_
      · rw [h2, wvM_at (q := 12 + (σ 101 1).toNatClampNeg) (by have := v.2.2; omega) hj.1.symm hj.2.symm (by omega)]
        rfl
      · rw [h2, up2_k (by decide)]; rfl
  refine pc_ite (fun e => ?_) (fun e3 => ?_)
  · have hD : wD (S p) = 6 := by rw [e]; rfl
    obtain ⟨t1, t2, t3, t4⟩ := T3 e
    rw [t1] at g15
    rw [t2] at g17
    rw [t3] at g19
    rw [t4] at g21
    obtain ⟨a1, a2⟩ := cSt_115 (V := wvM σ) e
    rw [a1, a2, V0, V1]
    have b1 := bd 0 1 (by decide) (by omega)
    have b2 := bd 1 2 (by decide) (by omega)
    have b3 := bd 3 2 (by decide) (by omega)
    have b4 := bd 5 1 (by decide) (by omega)
    rw [show p + 1 + 0 = p + 1 from rfl, ← g15] at b1
    rw [show p + 1 + 1 = p + 2 from rfl, ← g17] at b2
    rw [show p + 1 + 3 = p + 4 from rfl, ← g19] at b3
    rw [show p + 1 + 5 = p + 6 from rfl, ← g21] at b4
    rw [← g15, ← g17, ← g19, ← g21]
    have no : ∀ (P : Prop), ¬ P → pc (if (0 : Int32) = 0 then wt_bz (0 : Int32) (some ((0 : Int32), σ)) else wt_bnd (f_X4_stand F z15 z17 z19 z21 σ) fun r6 s7 => wt_bz (0 : Int32) (some ((0 : Int32), s7))) (fun r s => (P → r = 1 ∧ lo148 (wvM s) (aStand (wvM σ) z15.toNatClampNeg z17.toNatClampNeg z19.toNatClampNeg z21)) ∧ (¬ P → r = 0)) := fun P hP => by
      rw [if_pos rfl]; exact pc_bz (fun _ => pc_ret ⟨fun h => absurd h hP, fun _ => rfl⟩)
    have yes : cPost (σ 101 1).toInt (σ 101 3).toInt z15 z17 z19 z21 → pc (if (1 : Int32) = 0 then wt_bz (1 : Int32) (some ((1 : Int32), σ)) else wt_bnd (f_X4_stand F z15 z17 z19 z21 σ) fun r6 s7 => wt_bz (1 : Int32) (some ((1 : Int32), s7))) (fun r s => (cPost (σ 101 1).toInt (σ 101 3).toInt z15 z17 z19 z21 → r = 1 ∧ lo148 (wvM s) (aStand (wvM σ) z15.toNatClampNeg z17.toNatClampNeg z19.toNatClampNeg z21)) ∧ (¬ cPost (σ 101 1).toInt (σ 101 3).toInt z15 z17 z19 z21 → r = 0)) := fun hc => by
      rw [if_neg (by decide)]
      have l1 : z15.toInt = (z15.toNatClampNeg : Int) := by rw [ti_nat]; omega
      have l2 : z17.toInt = (z17.toNatClampNeg : Int) := by rw [ti_nat]; omega
      have l3 : z19.toInt = (z19.toNatClampNeg : Int) := by rw [ti_nat]; omega
      have hc1 := hc.1.2
      have hc2 := hc.2.2.1.2
      have hc3 := hc.2.2.2.1
      exact pc_bnd (mx_stand (Or.inr b4.1) l1 (by omega) l2 l3 (by omega) (by omega)) (fun _ s7 q => pc_bz (fun _ => pc_ret ⟨fun _ => ⟨rfl, fun q' hq => q.1 q' (by omega)⟩, fun n => absurd hc n⟩))
    refine pc_be (mx_isLooker bl.1) ?_
    by_cases c1 : 0 ≤ z15.toInt ∧ z15.toInt < (σ 101 3).toInt
    rotate_left
    · rw [if_neg c1, if_pos rfl]; exact no _ (fun h => c1 h.1)
    rw [if_pos c1, if_neg (by decide)]
    refine pc_ite (fun c => no _ (fun h => by have := ti_lt c; have := h.2.2.2.1; omega)) (fun c2 => ?_)
    have d2 := ti_nlt c2
    refine pc_ite (fun c => no _ (fun h => by have := ti_le c; rw [tz_24] at this; have := h.2.2.1; omega)) (fun c3 => ?_)
    have d3 := ti_nle c3
    rw [tz_24] at d3
    refine pc_ite (fun c9 => yes ⟨c1, ⟨b2.1, by omega⟩, ⟨b3.1, by omega⟩, d2, Or.inl (by rw [c9]; rfl)⟩) (fun c9 => ?_)
    refine pc_be (mx_isPane bp.1) ?_
    by_cases c4 : 0 ≤ z21.toInt ∧ z21.toInt < (σ 101 1).toInt
    · rw [if_pos c4, if_neg (by decide)]
      exact yes ⟨c1, ⟨b2.1, by omega⟩, ⟨b3.1, by omega⟩, d2, Or.inr c4⟩
    · rw [if_neg c4, if_pos rfl]
      refine no _ (fun h => ?_)
      rcases h.2.2.2.2 with q | q
      · exact c9 (Int32.toInt_inj.mp (by rw [q]; rfl))
      · exact c4 q
  refine pc_ite (fun e => ?_) (fun e4 => ?_)
  · have hD : wD (S p) = 1 := by rw [e]; rfl
    have t1 := T4 e
    rw [t1] at g15
    obtain ⟨a1, a2⟩ := cSt_117 (V := wvM σ) e
    rw [a1, a2]
    subst g15
    refine pc_lt (fun s28 h28 => pc_ite (fun c => pc_ret ⟨fun h => ?_, fun _ => rfl⟩) (fun c => pc_ret ⟨fun _ => ⟨rfl, fun q' hq => ?_⟩, fun n => ?_⟩))
    · have := ti_le c; rw [tz_3] at this; omega
    · rw [h28, wvM_at (k := 101) (i := 8) (q := 2) (by decide) rfl rfl (by omega)]; rfl
    · have := ti_nle c; rw [tz_3] at this; omega
  refine pc_ite (fun e => ?_) (fun e5 => ?_)
  · have hD : wD (S p) = 2 := by rw [e]; rfl
    obtain ⟨t1, t2⟩ := T5 (Or.inr (Or.inl e))
    rw [t1] at g15
    rw [t2] at g17
    obtain ⟨a1, a2⟩ := cSt_118 (V := wvM σ) e
    rw [a1, a2]
    subst g15 g17
    refine pc_ite (fun c => ?_) (fun c => ?_)
    · rw [if_pos True.intro]
      exact pc_bz (fun _ => pc_ret ⟨fun h => by have := ti_le c; rw [tz_8] at this; omega, fun _ => rfl⟩)
    · have d1 := ti_nle c
      rw [tz_8] at d1
      rw [if_neg (by decide)]
      refine pc_chk (fun v => pc_lt (fun s9 h9 => pc_bz (fun _ => pc_ret ⟨fun _ => ⟨rfl, fun q' hq => ?_⟩, fun n => absurd (by omega) n⟩)))
      have hj := wtJI_102 _ v.2.2
      rw [h9, wvM_at (q := 4 + (wnum S (p + 1) 1).toNatClampNeg) (by have := v.2.2; omega) hj.1.symm hj.2.symm (by omega)]
      rfl
  refine pc_ite (fun e => ?_) (fun e6 => ?_)
  · have hD : wD (S p) = 2 := by rw [e]; rfl
    obtain ⟨t1, t2⟩ := T5 (Or.inr (Or.inr e))
    rw [t1] at g15
    rw [t2] at g17
    obtain ⟨a1, a2⟩ := cSt_119 (V := wvM σ) e
    rw [a1, a2, V0]
    have b1 := bd 0 1 (by decide) (by omega)
    rw [show p + 1 + 0 = p + 1 from rfl] at b1
    subst g15 g17
    refine pc_be (mx_isPane bp.1) ?_
    by_cases c1 : 0 ≤ (wnum S (p + 1) 1).toInt ∧ (wnum S (p + 1) 1).toInt < (σ 101 1).toInt
    rotate_left
    · rw [if_neg c1, if_pos rfl, if_pos True.intro]
      exact pc_bz (fun _ => pc_ret ⟨fun h => absurd ⟨b1.1, h.1⟩ c1, fun _ => rfl⟩)
    rw [if_pos c1, if_neg (by decide)]
    refine pc_ite (fun c => ?_) (fun c => ?_)
    · rw [if_pos True.intro]
      exact pc_bz (fun _ => pc_ret ⟨fun h => by have := ti_le c; rw [tz_8] at this; omega, fun _ => rfl⟩)
    · have d1 := ti_nle c
      rw [tz_8] at d1
      rw [if_neg (by decide)]
      refine pc_chk (fun v => pc_lt (fun s9 h9 => pc_bz (fun _ => pc_ret ⟨fun _ => ⟨rfl, fun q' hq => ?_⟩, fun n => absurd ⟨c1.2, by omega⟩ n⟩)))
      have hj := wtJI_103 _ v.2.2
      rw [h9, wvM_at (q := 12 + (wnum S (p + 1) 1).toNatClampNeg) (by have := v.2.2; omega) hj.1.symm hj.2.symm (by omega)]
      unfold aWall
      refine upd_cg rfl ?_
      unfold wvM
      rw [hj.1, hj.2]
  · have e : S p = 100 := by
      rcases wD_cs (S p) with ⟨-, h0, -⟩ | ⟨-, -, -, -, h⟩
      · exact absurd h0 hd.2.1
      · rcases h with h | h | h | h | h | h | h
        · exact h
        · exact absurd h e1
        · exact absurd h e2
        · exact absurd h e3
        · exact absurd h e4
        · exact absurd h e5
        · exact absurd h e6
    have t1 := T1 e
    rw [t1] at g15
    obtain ⟨a1, a2⟩ := cSt_100 (V := wvM σ) e
    rw [a1, a2, V3]
    subst g15
    refine pc_be (mx_in32 (lo := 1) (hi := 60) rfl rfl) ?_
    by_cases c1 : 1 ≤ (wnum S (p + 1) 2).toInt ∧ (wnum S (p + 1) 2).toInt ≤ 60
    rotate_left
    · rw [if_neg c1, if_pos rfl, if_pos True.intro]
      exact pc_bz (fun _ => pc_ret ⟨fun h => absurd ⟨h.1, h.2.1⟩ c1, fun _ => rfl⟩)
    rw [if_pos c1, if_neg (by decide)]
    refine pc_ite (fun c => ?_) (fun c => ?_)
    · rw [if_pos True.intro]
      exact pc_bz (fun _ => pc_ret ⟨fun h => by have := ti_lt c; rw [tz_9999] at this; omega, fun _ => rfl⟩)
    · have d1 := ti_nlt c
      rw [tz_9999] at d1
      rw [if_neg (by decide)]
      exact pc_bnd (mx_goDays hF hv) (fun _ s9 q => pc_bz (fun _ => pc_ret ⟨fun _ => ⟨rfl, q⟩, fun n => absurd ⟨c1.1, c1.2, d1⟩ n⟩))
end
