/-! a statement, what it does -/
def cSt (S : Nat → Int32) (p : Nat) (V : Nat → Int32) : Prop :=
  (S p = 100 ∧ 1 ≤ (wnum S (p + 1) 2).toInt ∧ (wnum S (p + 1) 2).toInt ≤ 60 ∧ (V 3 + wnum S (p + 1) 2).toInt ≤ 9999) ∨
  (S p = 108 ∧ (wnum S (p + 1) 1).toInt ≤ 5 ∧ (V 1).toInt < 5) ∨
  (S p = 112 ∧ (wnum S (p + 1) 3).toInt ≤ 255 ∧ (V 0).toInt < 6) ∨
  (S p = 115 ∧ cPost (V 0).toInt (V 1).toInt (wnum S (p + 1) 1) (wnum S (p + 2) 2) (wnum S (p + 4) 2) (wnum S (p + 6) 1)) ∨
  (S p = 117 ∧ (wnum S (p + 1) 1).toInt ≤ 2) ∨
  (S p = 118 ∧ (wnum S (p + 1) 1).toInt ≤ 7) ∨
  (S p = 119 ∧ (wnum S (p + 1) 1).toInt < (V 0).toInt ∧ (wnum S (p + 2) 1).toInt ≤ 7)
def aSt (S : Nat → Int32) (p : Nat) (V : Nat → Int32) : Nat → Int32 :=
  if S p = 100 then aDay V (wnum S (p + 1) 2)
  else if S p = 108 then aLooker V (wnum S (p + 1) 1) (wnum S (p + 2) 1)
  else if S p = 112 then aPane V (wnum S (p + 1) 3)
  else if S p = 115 then aStand V (wnum S (p + 1) 1).toNatClampNeg (wnum S (p + 2) 2).toNatClampNeg (wnum S (p + 4) 2).toNatClampNeg (wnum S (p + 6) 1)
  else if S p = 117 then aLaw V (wnum S (p + 1) 1)
  else if S p = 118 then aWorth V (wnum S (p + 1) 1) (wnum S (p + 2) 1)
  else aWall V (wnum S (p + 1) 1) (wnum S (p + 2) 1)
theorem cSt_cg {S : Nat → Int32} {p : Nat} {V W : Nat → Int32} (h0 : W 0 = V 0) (h1 : W 1 = V 1) (h3 : W 3 = V 3) : cSt S p W ↔ cSt S p V := by
  unfold cSt
  rw [h0, h1, h3]
/-- the seven kinds apart -/
theorem cSt_100 {S : Nat → Int32} {p : Nat} {V : Nat → Int32} (e : S p = 100) : (cSt S p V ↔ (1 ≤ (wnum S (p + 1) 2).toInt ∧ (wnum S (p + 1) 2).toInt ≤ 60 ∧ (V 3 + wnum S (p + 1) 2).toInt ≤ 9999)) ∧ aSt S p V = aDay V (wnum S (p + 1) 2) := by
  refine ⟨⟨fun h => ?_, fun h => Or.inl ⟨e, h⟩⟩, by unfold aSt; rw [if_pos e]⟩
  unfold cSt at h
  rw [e] at h
  rcases h with ⟨-, h⟩ | ⟨q, -⟩ | ⟨q, -⟩ | ⟨q, -⟩ | ⟨q, -⟩ | ⟨q, -⟩ | ⟨q, -⟩
  · exact h
  all_goals exact absurd q (by decide)
theorem cSt_108 {S : Nat → Int32} {p : Nat} {V : Nat → Int32} (e : S p = 108) : (cSt S p V ↔ ((wnum S (p + 1) 1).toInt ≤ 5 ∧ (V 1).toInt < 5)) ∧ aSt S p V = aLooker V (wnum S (p + 1) 1) (wnum S (p + 2) 1) := by
  refine ⟨⟨fun h => ?_, fun h => Or.inr (Or.inl ⟨e, h⟩)⟩, by unfold aSt; rw [e]; rfl⟩
  unfold cSt at h
  rw [e] at h
  rcases h with ⟨q, -⟩ | ⟨-, h⟩ | ⟨q, -⟩ | ⟨q, -⟩ | ⟨q, -⟩ | ⟨q, -⟩ | ⟨q, -⟩
  rotate_left
  · exact h
  all_goals exact absurd q (by decide)
theorem cSt_112 {S : Nat → Int32} {p : Nat} {V : Nat → Int32} (e : S p = 112) : (cSt S p V ↔ ((wnum S (p + 1) 3).toInt ≤ 255 ∧ (V 0).toInt < 6)) ∧ aSt S p V = aPane V (wnum S (p + 1) 3) := by
  refine ⟨⟨fun h => ?_, fun h => Or.inr (Or.inr (Or.inl ⟨e, h⟩))⟩, by unfold aSt; rw [e]; rfl⟩
  unfold cSt at h
  rw [e] at h
  rcases h with ⟨q, -⟩ | ⟨q, -⟩ | ⟨-, h⟩ | ⟨q, -⟩ | ⟨q, -⟩ | ⟨q, -⟩ | ⟨q, -⟩
  rotate_left 2
  · exact h
  all_goals exact absurd q (by decide)
theorem cSt_115 {S : Nat → Int32} {p : Nat} {V : Nat → Int32} (e : S p = 115) : (cSt S p V ↔ cPost (V 0).toInt (V 1).toInt (wnum S (p + 1) 1) (wnum S (p + 2) 2) (wnum S (p + 4) 2) (wnum S (p + 6) 1)) ∧ aSt S p V = aStand V (wnum S (p + 1) 1).toNatClampNeg (wnum S (p + 2) 2).toNatClampNeg (wnum S (p + 4) 2).toNatClampNeg (wnum S (p + 6) 1) := by
  refine ⟨⟨fun h => ?_, fun h => Or.inr (Or.inr (Or.inr (Or.inl ⟨e, h⟩)))⟩, by unfold aSt; rw [e]; rfl⟩
  unfold cSt at h
  rw [e] at h
  rcases h with ⟨q, -⟩ | ⟨q, -⟩ | ⟨q, -⟩ | ⟨-, h⟩ | ⟨q, -⟩ | ⟨q, -⟩ | ⟨q, -⟩
  rotate_left 3
  · exact h
  all_goals exact absurd q (by decide)
theorem cSt_117 {S : Nat → Int32} {p : Nat} {V : Nat → Int32} (e : S p = 117) : (cSt S p V ↔ (wnum S (p + 1) 1).toInt ≤ 2) ∧ aSt S p V = aLaw V (wnum S (p + 1) 1) := by
  refine ⟨⟨fun h => ?_, fun h => Or.inr (Or.inr (Or.inr (Or.inr (Or.inl ⟨e, h⟩))))⟩, by unfold aSt; rw [e]; rfl⟩
  unfold cSt at h
  rw [e] at h
  rcases h with ⟨q, -⟩ | ⟨q, -⟩ | ⟨q, -⟩ | ⟨q, -⟩ | ⟨-, h⟩ | ⟨q, -⟩ | ⟨q, -⟩
  rotate_left 4
  · exact h
  all_goals exact absurd q (by decide)
theorem cSt_118 {S : Nat → Int32} {p : Nat} {V : Nat → Int32} (e : S p = 118) : (cSt S p V ↔ (wnum S (p + 1) 1).toInt ≤ 7) ∧ aSt S p V = aWorth V (wnum S (p + 1) 1) (wnum S (p + 2) 1) := by
  refine ⟨⟨fun h => ?_, fun h => Or.inr (Or.inr (Or.inr (Or.inr (Or.inr (Or.inl ⟨e, h⟩)))))⟩, by unfold aSt; rw [e]; rfl⟩
  unfold cSt at h
  rw [e] at h
  rcases h with ⟨q, -⟩ | ⟨q, -⟩ | ⟨q, -⟩ | ⟨q, -⟩ | ⟨q, -⟩ | ⟨-, h⟩ | ⟨q, -⟩
  rotate_left 5
  · exact h
  all_goals exact absurd q (by decide)
theorem cSt_119 {S : Nat → Int32} {p : Nat} {V : Nat → Int32} (e : S p = 119) : (cSt S p V ↔ ((wnum S (p + 1) 1).toInt < (V 0).toInt ∧ (wnum S (p + 2) 1).toInt ≤ 7)) ∧ aSt S p V = aWall V (wnum S (p + 1) 1) (wnum S (p + 2) 1) := by
  refine ⟨⟨fun h => ?_, fun h => Or.inr (Or.inr (Or.inr (Or.inr (Or.inr (Or.inr ⟨e, h⟩)))))⟩, by unfold aSt; rw [e]; rfl⟩
  unfold cSt at h
  rw [e] at h
  rcases h with ⟨q, -⟩ | ⟨q, -⟩ | ⟨q, -⟩ | ⟨q, -⟩ | ⟨q, -⟩ | ⟨q, -⟩ | ⟨-, h⟩
  rotate_left 6
  · exact h
  all_goals exact absurd q (by decide)
/-- the digits of a statement are digits -/
def wdok (S : Nat → Int32) (n p : Nat) : Prop := p < n ∧ wD (S p) ≠ 0 ∧ (∀ k, k < wD (S p) → wdg S n (p + 1 + k)) ∧ p + 1 + wD (S p) < n
theorem wdok_b {S : Nat → Int32} {n p : Nat} (h : wdok S n p) (i d : Nat) (hd : d ≤ 3) (hi : i + d ≤ wD (S p)) : (p + 1 + i) + d ≤ n ∧ (∀ k, k < d → wdg S n (p + 1 + i + k)) ∧ 0 ≤ (wnum S (p + 1 + i) d).toInt ∧ (wnum S (p + 1 + i) d).toInt < (10 : Int) ^ d := by
  obtain ⟨h1, h2, h3, h4⟩ := h
  have hg : ∀ k, k < d → wdg S n (p + 1 + i + k) := fun k hk => by have := h3 (i + k) (by omega); rw [show p + 1 + i + k = p + 1 + (i + k) by omega]; exact this
  exact ⟨by omega, hg, wnum_b d hd hg⟩
theorem ti_pl {x : Int32} {p k : Nat} {c : Int32} (h : x.toInt = (p : Int)) (hp : p < 1000) (hc : c.toInt = (k : Int)) (hk : k < 1000) : (x + c).toInt = ((p + k : Nat) : Int) := by
  rw [ti_add (by omega) (by omega), h, hc]; rfl
def lo148 (A B : Nat → Int32) : Prop := ∀ q, q < 188 → A q = B q
/-- the class tells its mind a statement -/
theorem ax_tell {F : Nat} (hF : 1000 ≤ F) {σ : Mem} {n p : Nat} {x2 : Int32} (hX : wiX σ) (hn : (σ 83 1).toInt = (n : Int)) (hn96 : n ≤ 96) (hp : x2.toInt = (p : Int)) (hd : wdok (σ 84) n p) (hv : wvV (wvX 24 σ)) : pc (f_X1_tell F 24 x2 σ) (fun r s => (cSt (σ 84) p (wvX 24 σ) → r = 1 ∧ lo148 (wvX 24 s) (aSt (σ 84) p (wvX 24 σ))) ∧ (¬ cSt (σ 84) p (wvX 24 σ) → r = 0)) := by
  have b0 := wx_X0_0 hX wt_h24
  have b2 := wx_X0_2 hX wt_h24
  have q1 : ∀ (k : Nat) (c : Int32), c.toInt = (k : Int) → k < 1000 → ((x2 + (1 : Int32)) + c).toInt = ((p + 1 + k : Nat) : Int) := fun k c hc hk => ti_pl (ti_pl hp (by have := hd.1; omega) (by rfl) (by decide)) (by have := hd.1; omega) hc hk
  have q0 : (x2 + (1 : Int32)).toInt = ((p + 1 : Nat) : Int) := ti_pl hp (by have := hd.1; omega) (by rfl) (by decide)
  have num0 : ∀ (d : Nat) (c : Int32), c.toInt = (d : Int) → d ≤ 3 → d ≤ wD (σ 84 p) → f_X1_number F (x2 + (1 : Int32)) c σ = none ∨ f_X1_number F (x2 + (1 : Int32)) c σ = some (wnum (σ 84) (p + 1) d, σ) := fun d c hc hd3 hdd => by
    obtain ⟨g1, g2, -⟩ := wdok_b hd 0 d hd3 (by omega)
    exact ax_number hn hn96 q0 hc g1 g2
  have num1 : ∀ (i d : Nat) (a c : Int32), a.toInt = (i : Int) → i < 1000 → c.toInt = (d : Int) → d ≤ 3 → i + d ≤ wD (σ 84 p) → f_X1_number F ((x2 + (1 : Int32)) + a) c σ = none ∨ f_X1_number F ((x2 + (1 : Int32)) + a) c σ = some (wnum (σ 84) (p + 1 + i) d, σ) := fun i d a c ha hi hc hd3 hdd => by
    obtain ⟨g1, g2, -⟩ := wdok_b hd i d hd3 (by omega)
    exact ax_number hn hn96 (q1 i a ha hi) hc g1 g2
  have bd : ∀ (i d : Nat), d ≤ 3 → i + d ≤ wD (σ 84 p) → 0 ≤ (wnum (σ 84) (p + 1 + i) d).toInt ∧ (wnum (σ 84) (p + 1 + i) d).toInt < (10 : Int) ^ d := fun i d h1 h2 => (wdok_b hd i d h1 h2).2.2
  have V0 : wvX 24 σ 0 = σ 24 0 := rfl
  have V1 : wvX 24 σ 1 = σ 24 2 := rfl
  have V3 : wvX 24 σ 3 = σ 24 9 := rfl
  rw [f_X1_tell_e]
  simp only [j_X1_tell_12_e, j_X1_tell_262_e]
  refine pc_ite (fun c => by have := ti_lt c; rw [tz_0] at this; omega) (fun _ => pc_ite (fun _ => ?_) (fun c => by have := ti_nlt c; have := hd.1; omega))
  refine pc_chk (fun _ => ?_)
  rw [tn_int hp]
  refine pc_ite (fun e => ?_) (fun e1 => ?_)
  · have hD : wD (σ 84 p) = 2 := by rw [e]; rfl
    obtain ⟨g1, g2⟩ := cSt_100 (V := wvX 24 σ) e
    have hb := bd 0 2 (by decide) (by omega)
    rw [show p + 1 + 0 = p + 1 from rfl] at hb
    refine pc_num (num0 2 2 rfl (by decide) (by omega)) ?_
    refine pc_ite (fun c => pc_ret ⟨fun h => ?_, fun _ => rfl⟩) (fun c => ?_)
    · have := ti_lt c; rw [tz_60] at this; have := (g1.mp h).2.1; omega
    have h60 := ti_nlt c
    rw [tz_60] at h60
    refine pc_num (num0 2 2 rfl (by decide) (by omega)) (pc_bnd (ax_pass hF wt_h24 hv) (fun r s q => ?_))
    rw [g1, g2, V3]
    by_cases hc : 1 ≤ (wnum (σ 84) (p + 1) 2).toInt ∧ (wnum (σ 84) (p + 1) 2).toInt ≤ 60 ∧ (σ 24 9 + wnum (σ 84) (p + 1) 2).toInt ≤ 9999
    · obtain ⟨r1, r2⟩ := q.1 ⟨hc.1, by omega, hc.2.2⟩
      rw [r1, if_neg (by decide)]
      exact pc_ret ⟨fun _ => ⟨rfl, r2⟩, fun n => absurd hc n⟩
    · obtain ⟨r1, r2⟩ := q.2 (fun w => hc ⟨w.1, by omega, w.2.2⟩)
      rw [r1, if_pos rfl]
      exact pc_ret ⟨fun n => absurd n hc, fun _ => rfl⟩
  refine pc_ite (fun e => ?_) (fun e2 => ?_)
  · have hD : wD (σ 84 p) = 2 := by rw [e]; rfl
    obtain ⟨g1, g2⟩ := cSt_108 (V := wvX 24 σ) e
    have hb := bd 0 1 (by decide) (by omega)
    have hb2 := bd 1 1 (by decide) (by omega)
    rw [show p + 1 + 0 = p + 1 from rfl] at hb
    rw [show p + 1 + 1 = p + 2 from rfl] at hb2
    refine pc_num (num0 1 1 rfl (by decide) (by omega)) (pc_num (num1 1 1 1 1 rfl (by decide) rfl (by decide) (by omega)) (pc_bnd (ax_addLooker wt_h24 b2) (fun r s q => pc_bz (fun _ => pc_ret ?_))))
    rw [g1, g2, V1]
    refine ⟨fun h => ?_, fun h => ?_⟩
    · obtain ⟨r1, r2⟩ := q.1 ⟨⟨hb.1, h.1⟩, ⟨hb2.1, by show (wnum (σ 84) (p + 2) 1).toInt ≤ 9; omega⟩, h.2⟩
      exact ⟨r1, fun q hq => r2 q (by omega)⟩
    · exact (q.2 (fun w => h ⟨w.1.2, w.2.2⟩)).1
  refine pc_ite (fun e => ?_) (fun e3 => ?_)
  · have hD : wD (σ 84 p) = 3 := by rw [e]; rfl
    obtain ⟨g1, g2⟩ := cSt_112 (V := wvX 24 σ) e
    have hb := bd 0 3 (by decide) (by omega)
    rw [show p + 1 + 0 = p + 1 from rfl] at hb
    refine pc_num (num0 3 3 rfl (by decide) (by omega)) (pc_bnd (ax_addPane wt_h24 b0) (fun r s q => pc_bz (fun _ => pc_ret ?_)))
    rw [g1, g2, V0]
    refine ⟨fun h => ?_, fun h => ?_⟩
    · obtain ⟨r1, r2⟩ := q.1 ⟨hb.1, h.1, h.2⟩
      exact ⟨r1, fun q hq => r2 q (by omega)⟩
    · exact (q.2 (fun w => h ⟨w.2.1, w.2.2⟩)).1
  refine pc_ite (fun e => ?_) (fun e4 => ?_)
  · have hD : wD (σ 84 p) = 6 := by rw [e]; rfl
    obtain ⟨g1, g2⟩ := cSt_115 (V := wvX 24 σ) e
    refine pc_num (num0 1 1 rfl (by decide) (by omega)) (pc_num (num1 1 2 1 2 rfl (by decide) rfl (by decide) (by omega)) (pc_num (num1 3 2 3 2 rfl (by decide) rfl (by decide) (by omega)) (pc_num (num1 5 1 5 1 rfl (by decide) rfl (by decide) (by omega)) (pc_bnd (ax_post b0.2 b2.2) (fun r s q => pc_bz (fun _ => pc_ret ?_))))))
    rw [g1, g2, V0, V1]
    refine ⟨fun h => ?_, fun h => (q.2 h).1⟩
    obtain ⟨r1, r2⟩ := q.1 h
    exact ⟨r1, fun q hq => r2 q (by omega)⟩
  refine pc_ite (fun e => ?_) (fun e5 => ?_)
  · have hD : wD (σ 84 p) = 1 := by rw [e]; rfl
    obtain ⟨g1, g2⟩ := cSt_117 (V := wvX 24 σ) e
    have hb := bd 0 1 (by decide) (by omega)
    rw [show p + 1 + 0 = p + 1 from rfl] at hb
    refine pc_num (num0 1 1 rfl (by decide) (by omega)) (pc_bnd ax_rule (fun r s q => pc_bz (fun _ => pc_ret ?_)))
    rw [g1, g2]
    refine ⟨fun h => ?_, fun h => (q.2 (fun w => h w.2)).1⟩
    obtain ⟨r1, r2⟩ := q.1 ⟨hb.1, h⟩
    exact ⟨r1, fun q hq => r2 q (by omega)⟩
  refine pc_ite (fun e => ?_) (fun e6 => ?_)
  · have hD : wD (σ 84 p) = 2 := by rw [e]; rfl
    obtain ⟨g1, g2⟩ := cSt_118 (V := wvX 24 σ) e
    have hb := bd 0 1 (by decide) (by omega)
    have hb2 := bd 1 1 (by decide) (by omega)
    rw [show p + 1 + 0 = p + 1 from rfl] at hb
    rw [show p + 1 + 1 = p + 2 from rfl] at hb2
    refine pc_num (num0 1 1 rfl (by decide) (by omega)) (pc_num (num1 1 1 1 1 rfl (by decide) rfl (by decide) (by omega)) (pc_bnd ax_price (fun r s q => pc_bz (fun _ => pc_ret ?_))))
    rw [g1, g2]
    refine ⟨fun h => ?_, fun h => (q.2 (fun w => h w.2.1)).1⟩
    obtain ⟨r1, r2⟩ := q.1 ⟨hb.1, h, hb2.1, by show (wnum (σ 84) (p + 2) 1).toInt ≤ 9; omega⟩
    exact ⟨r1, fun q hq => r2 q (by omega)⟩
  refine pc_ite (fun e => ?_) (fun e7 => ?_)
  · have hD : wD (σ 84 p) = 2 := by rw [e]; rfl
    obtain ⟨g1, g2⟩ := cSt_119 (V := wvX 24 σ) e
    have hb := bd 0 1 (by decide) (by omega)
    have hb2 := bd 1 1 (by decide) (by omega)
    rw [show p + 1 + 0 = p + 1 from rfl] at hb
    rw [show p + 1 + 1 = p + 2 from rfl] at hb2
    refine pc_num (num0 1 1 rfl (by decide) (by omega)) (pc_num (num1 1 1 1 1 rfl (by decide) rfl (by decide) (by omega)) (pc_bnd (ax_flip b0.2) (fun r s q => pc_bz (fun _ => pc_ret ?_))))
    rw [g1, g2, V0]
    refine ⟨fun h => ?_, fun h => (q.2 (fun w => h ⟨w.2.1, w.2.2.2⟩)).1⟩
    obtain ⟨r1, r2⟩ := q.1 ⟨hb.1, h.1, hb2.1, h.2⟩
    exact ⟨r1, fun q hq => r2 q (by omega)⟩
  exfalso
  rcases wD_cs (σ 84 p) with ⟨-, h0, -⟩ | ⟨-, -, -, -, h⟩
  · exact hd.2.1 h0
  · rcases h with h | h | h | h | h | h | h
    · exact e1 h
    · exact e2 h
    · exact e3 h
    · exact e4 h
    · exact e5 h
    · exact e6 h
    · exact e7 h
/-- the bounds stay -/
theorem wvV_aSt {S : Nat → Int32} {n p : Nat} {V : Nat → Int32} (h : wvV V) (hd : wdok S n p) (hc : cSt S p V) : wvV (aSt S p V) := by
  have bd : ∀ (i d : Nat), d ≤ 3 → i + d ≤ wD (S p) → 0 ≤ (wnum S (p + 1 + i) d).toInt ∧ (wnum S (p + 1 + i) d).toInt < (10 : Int) ^ d := fun i d h1 h2 => (wdok_b hd i d h1 h2).2.2
  rcases wD_cs (S p) with ⟨-, h0, -⟩ | ⟨-, -, -, -, e⟩
  · exact absurd h0 hd.2.1
  rcases e with e | e | e | e | e | e | e
  · rw [(cSt_100 e).2]; exact wvV_aDay h (by have := (cSt_100 e).1.mp hc; omega)
  · rw [(cSt_108 e).2]; have hb := bd 0 1 (by decide) (by rw [e]; decide)
    have hb2 := bd 1 1 (by decide) (by rw [e]; decide)
    rw [show p + 1 + 1 = p + 2 from rfl] at hb2
    exact wvV_aLooker h ⟨hb.1, ((cSt_108 e).1.mp hc).1⟩ ⟨hb2.1, by have := hb2.2; omega⟩ ((cSt_108 e).1.mp hc).2
  · rw [(cSt_112 e).2]; exact wvV_aPane h ((cSt_112 e).1.mp hc).2
  · rw [(cSt_115 e).2]; exact wvV_aPost h ((cSt_115 e).1.mp hc)
  · rw [(cSt_117 e).2]
    have hb := bd 0 1 (by decide) (by rw [e]; decide)
    exact wvV_aLaw h ⟨hb.1, (cSt_117 e).1.mp hc⟩
  · rw [(cSt_118 e).2]
    have hb := bd 0 1 (by decide) (by rw [e]; decide)
    have hb2 := bd 1 1 (by decide) (by rw [e]; decide)
    have h7 := (cSt_118 e).1.mp hc
    refine wvV_aWorth h (tn_lt hb.1 (by omega)) ⟨hb2.1, ?_⟩
    have := hb2.2
    rw [show p + 1 + 1 = p + 2 from rfl] at this
    omega
  · rw [(cSt_119 e).2]
    have hb := bd 0 1 (by decide) (by rw [e]; decide)
    have h7 := ((cSt_119 e).1.mp hc).1
    have := h.1.2
    exact wvV_aWall h (tn_lt hb.1 (by rw [show p + 1 + 0 = p + 1 from rfl]; omega))
theorem weq_aSt {lim : Nat} {S : Nat → Int32} {n p : Nat} {A B : Nat → Int32} (hl : 148 ≤ lim ∧ lim ≤ 188) (hv : wvV A) (h : weq lim A B) (hd : wdok S n p) (hc : cSt S p A) : weq lim (aSt S p A) (aSt S p B) := by
  have bd : ∀ (i d : Nat), d ≤ 3 → i + d ≤ wD (S p) → 0 ≤ (wnum S (p + 1 + i) d).toInt ∧ (wnum S (p + 1 + i) d).toInt < (10 : Int) ^ d := fun i d h1 h2 => (wdok_b hd i d h1 h2).2.2
  rcases wD_cs (S p) with ⟨-, h0, -⟩ | ⟨-, -, -, -, e⟩
  · exact absurd h0 hd.2.1
  rcases e with e | e | e | e | e | e | e
  · rw [(cSt_100 e).2, (cSt_100 e).2]; exact weq_aDay hv h hl
  · rw [(cSt_108 e).2, (cSt_108 e).2]; exact weq_aLooker h (by omega) ⟨hv.2.1.1, ((cSt_108 e).1.mp hc).2⟩
  · rw [(cSt_112 e).2, (cSt_112 e).2]; exact weq_aPane h (by omega) _
  · rw [(cSt_115 e).2, (cSt_115 e).2]; exact weq_aStand h
  · rw [(cSt_117 e).2, (cSt_117 e).2]; exact weq_aLaw h
  · rw [(cSt_118 e).2, (cSt_118 e).2]; exact weq_aWorth h
  · rw [(cSt_119 e).2, (cSt_119 e).2]
    have hb := bd 0 1 (by decide) (by rw [e]; decide)
    have h7 := ((cSt_119 e).1.mp hc).1
    have := hv.1.2
    exact weq_aWall h (by omega) (tn_lt hb.1 (by rw [show p + 1 + 0 = p + 1 from rfl]; omega))
