/-! ones of a word, counted in two ways -/
def pN : Nat → Nat → Nat
  | 0, _ => 0
  | k + 1, n => n % 2 + pN k (n / 2)
theorem pN_s {k n : Nat} : pN (k + 1) n = n % 2 + pN k (n / 2) := rfl
theorem pN_z : ∀ k, pN k 0 = 0 := fun k => by
  induction k with
  | zero => rfl
  | succ k ih => rw [pN_s, Nat.zero_mod, Nat.zero_div, ih]
theorem pN_low : ∀ k n, n < 2 ^ k → n ≠ 0 → pN k (n &&& (n - 1)) + 1 = pN k n := fun k => by
  induction k with
  | zero => intro n h h0; rw [Nat.pow_zero] at h; omega
  | succ k ih =>
    intro n h h0
    rw [pN_s, pN_s, Nat.and_div_two]
    have e : (n &&& (n - 1)) % 2 = 0 := by
      rcases Nat.mod_two_eq_zero_or_one (n &&& (n - 1)) with q | q
      · exact q
      · have := Nat.and_mod_two_eq_one.mp q
        omega
    rw [e]
    rw [Nat.pow_succ] at h
    by_cases o : n % 2 = 1
    · rw [show (n - 1) / 2 = n / 2 by omega, Nat.and_self]; omega
    · rw [show (n - 1) / 2 = n / 2 - 1 by omega]
      have := ih (n / 2) (by omega) (by omega)
      omega
theorem pN_add : ∀ j k n, pN (j + k) n = pN j n + pN k (n / 2 ^ j) := fun j => by
  induction j with
  | zero => intro k n; rw [Nat.zero_add, Nat.pow_zero, Nat.div_one]; exact (Nat.zero_add _).symm
  | succ j ih =>
    intro k n
    rw [show j + 1 + k = (j + k) + 1 by omega, pN_s, pN_s, ih, Nat.div_div_eq_div_mul, Nat.pow_succ, Nat.mul_comm 2]
    omega
theorem pN_8 {n : Nat} : pN 8 (n % 256) = pN 8 n := by
  simp only [pN]
  omega
theorem pN_32 {n : Nat} : pN 32 n = pN 8 (n % 256) + pN 8 (n / 256 % 256) + pN 8 (n / 65536 % 256) + pN 8 (n / 16777216 % 256) := by
  rw [show (32 : Nat) = 8 + (8 + (8 + 8)) from rfl, pN_add, pN_add, pN_add, pN_8, pN_8, pN_8, pN_8, Nat.div_div_eq_div_mul, Nat.div_div_eq_div_mul]
  show pN 8 n + (pN 8 (n / 256) + (pN 8 (n / 65536) + pN 8 (n / 16777216))) = _
  omega
theorem and_256 {q r Q m : Nat} (hr : r < 256) (hm : m < 256) : (q * 256 + r) &&& (Q * 256 + m) = (q &&& Q) * 256 + (r &&& m) := by
  have e1 := Nat.and_div_two_pow (a := q * 256 + r) (b := Q * 256 + m) (n := 8)
  have e2 := Nat.and_mod_two_pow (a := q * 256 + r) (b := Q * 256 + m) (n := 8)
  rw [show (2 : Nat) ^ 8 = 256 from rfl, show (q * 256 + r) / 256 = q by omega, show (Q * 256 + m) / 256 = Q by omega] at e1
  rw [show (2 : Nat) ^ 8 = 256 from rfl, show (q * 256 + r) % 256 = r by omega, show (Q * 256 + m) % 256 = m by omega] at e2
  generalize (q * 256 + r) &&& (Q * 256 + m) = z at e1 e2 ⊢
  omega
theorem and_4 {a b c d A B C D : Nat} (hb : b < 256) (hc : c < 256) (hd : d < 256) (hB : B < 256) (hC : C < 256) (hD : D < 256) : (((a * 256 + b) * 256 + c) * 256 + d) &&& (((A * 256 + B) * 256 + C) * 256 + D) = (((a &&& A) * 256 + (b &&& B)) * 256 + (c &&& C)) * 256 + (d &&& D) := by
  rw [and_256 hd hD, and_256 hc hC, and_256 hb hB]
def pb1 (t : Nat) : Nat := t - (t / 2 &&& 85)
def pb2 (t : Nat) : Nat := (t &&& 51) + (t / 4 &&& 51)
def pb3 (t : Nat) : Nat := (t + t / 16) % 16
theorem pb_a : ∀ t, t < 256 → (t / 2 &&& 85) ≤ t ∧ pb1 t < 256 ∧ pb2 (pb1 t) ≤ 68 ∧ pb2 (pb1 t) % 16 ≤ 4 ∧ pb3 (pb2 (pb1 t)) = pN 8 t ∧ pN 8 t ≤ 8 := by decide +kernel
theorem pb_b : ∀ t, t < 256 → ∀ e, e < 2 → (t / 2 + 128 * e) &&& 85 = t / 2 &&& 85 := by decide +kernel
theorem pb_c : ∀ t, t < 256 → ∀ e, e < 4 → (t / 4 + 64 * e) &&& 51 = t / 4 &&& 51 := by decide +kernel
theorem pb_d (t : Nat) : t &&& 15 = t % 16 := Nat.and_two_pow_sub_one_eq_mod t 4
theorem pb_e (t : Nat) : t &&& 63 = t % 64 := Nat.and_two_pow_sub_one_eq_mod t 6
def p4 (a b c d : Nat) : Nat := ((a * 256 + b) * 256 + c) * 256 + d
theorem p4_1 {a b c d : Nat} (ha : a < 256) (hb : b < 256) (hc : c < 256) (hd : d < 256) : p4 a b c d - (p4 a b c d / 2 &&& 1431655765) = p4 (pb1 a) (pb1 b) (pb1 c) (pb1 d) := by
  have e : p4 a b c d / 2 = (((a / 2) * 256 + (b / 2 + 128 * (a % 2))) * 256 + (c / 2 + 128 * (b % 2))) * 256 + (d / 2 + 128 * (c % 2)) := by unfold p4; omega
  rw [e, show (1431655765 : Nat) = ((85 * 256 + 85) * 256 + 85) * 256 + 85 from rfl, and_4 (by omega) (by omega) (by omega) (by decide) (by decide) (by decide), pb_b b hb _ (by omega), pb_b c hc _ (by omega), pb_b d hd _ (by omega)]
  have h1 := (pb_a a ha).1
  have h2 := (pb_a b hb).1
  have h3 := (pb_a c hc).1
  have h4 := (pb_a d hd).1
  unfold p4 pb1
  generalize a / 2 &&& 85 = w1 at *
  generalize b / 2 &&& 85 = w2 at *
  generalize c / 2 &&& 85 = w3 at *
  generalize d / 2 &&& 85 = w4 at *
  omega
theorem p4_2 {a b c d : Nat} (ha : a < 256) (hb : b < 256) (hc : c < 256) (hd : d < 256) : (p4 a b c d &&& 858993459) + (p4 a b c d / 4 &&& 858993459) = p4 (pb2 a) (pb2 b) (pb2 c) (pb2 d) := by
  have e : p4 a b c d / 4 = (((a / 4) * 256 + (b / 4 + 64 * (a % 4))) * 256 + (c / 4 + 64 * (b % 4))) * 256 + (d / 4 + 64 * (c % 4)) := by unfold p4; omega
  rw [e, show (858993459 : Nat) = ((51 * 256 + 51) * 256 + 51) * 256 + 51 from rfl, and_4 (by omega) (by omega) (by omega) (by decide) (by decide) (by decide), pb_c b hb _ (by omega), pb_c c hc _ (by omega), pb_c d hd _ (by omega)]
  unfold p4
  rw [and_4 hb hc hd (by decide) (by decide) (by decide)]
  unfold pb2
  generalize a &&& 51 = u1
  generalize b &&& 51 = u2
  generalize c &&& 51 = u3
  generalize d &&& 51 = u4
  generalize a / 4 &&& 51 = w1
  generalize b / 4 &&& 51 = w2
  generalize c / 4 &&& 51 = w3
  generalize d / 4 &&& 51 = w4
  omega
theorem p4_3 {a b c d : Nat} (ha : a ≤ 68) (hb : b ≤ 68) (hc : c ≤ 68) (hd : d ≤ 68) (na : a % 16 ≤ 4) (nb : b % 16 ≤ 4) (nc : c % 16 ≤ 4) : (p4 a b c d + p4 a b c d / 16) &&& 252645135 = p4 (pb3 a) (pb3 b) (pb3 c) (pb3 d) := by
  have e : p4 a b c d + p4 a b c d / 16 = (((a + a / 16) * 256 + (b + b / 16 + 16 * (a % 16))) * 256 + (c + c / 16 + 16 * (b % 16))) * 256 + (d + d / 16 + 16 * (c % 16)) := by unfold p4; omega
  rw [e, show (252645135 : Nat) = ((15 * 256 + 15) * 256 + 15) * 256 + 15 from rfl, and_4 (by omega) (by omega) (by omega) (by decide) (by decide) (by decide), pb_d, pb_d, pb_d, pb_d]
  unfold p4 pb3
  omega
theorem p4_4 {a b c d : Nat} (ha : a ≤ 8) (hb : b ≤ 8) (hc : c ≤ 8) (hd : d ≤ 8) : (p4 a b c d + p4 a b c d / 256 + (p4 a b c d + p4 a b c d / 256) / 65536) &&& 63 = a + b + c + d := by
  rw [pb_e]
  have e1 : p4 a b c d / 256 = (a * 256 + b) * 256 + c := by unfold p4; omega
  have e2 : p4 a b c d + p4 a b c d / 256 = ((a * 256 + (a + b)) * 256 + (b + c)) * 256 + (c + d) := by rw [e1]; unfold p4; omega
  rw [e2]
  have e3 : (((a * 256 + (a + b)) * 256 + (b + c)) * 256 + (c + d)) / 65536 = a * 256 + (a + b) := by omega
  rw [e3]
  omega
theorem tb_and (x y : Int32) : (x &&& y).toBitVec.toNat = x.toBitVec.toNat &&& y.toBitVec.toNat := by rw [Int32.toBitVec_and, BitVec.toNat_and]
theorem tb_add (x y : Int32) : (x + y).toBitVec.toNat = (x.toBitVec.toNat + y.toBitVec.toNat) % 4294967296 := by rw [Int32.toBitVec_add, BitVec.toNat_add]
theorem tb_sub (x y : Int32) : (x - y).toBitVec.toNat = (4294967296 - y.toBitVec.toNat + x.toBitVec.toNat) % 4294967296 := by rw [Int32.toBitVec_sub, BitVec.toNat_sub]
theorem tb_us (x y : Int32) (k : Nat) (h : (y.toUInt32 &&& Int32.toUInt32 31).toNat % 32 = k) : (wt_ushr x y).toBitVec.toNat = x.toBitVec.toNat / 2 ^ k := by
  show (x.toUInt32 >>> (y.toUInt32 &&& Int32.toUInt32 31)).toNat = _
  rw [UInt32.toNat_shiftRight, h, Nat.shiftRight_eq_div_pow]
  rfl
theorem tb_lt (x : Int32) : x.toBitVec.toNat < 4294967296 := x.toBitVec.isLt
theorem tb_eq {x y : Int32} (h : x.toBitVec.toNat = y.toBitVec.toNat) : x = y := Int32.toBitVec_inj.mp (BitVec.eq_of_toNat_eq h)
theorem pop_all (x : Int32) : (aPop x).toBitVec.toNat = pN 32 x.toBitVec.toNat := by
  have hn := tb_lt x
  rw [pN_32]
  have e0 : x.toBitVec.toNat = p4 (x.toBitVec.toNat / 16777216 % 256) (x.toBitVec.toNat / 65536 % 256) (x.toBitVec.toNat / 256 % 256) (x.toBitVec.toNat % 256) := by unfold p4; omega
  have ha : x.toBitVec.toNat / 16777216 % 256 < 256 := Nat.mod_lt _ (by decide)
  have hb : x.toBitVec.toNat / 65536 % 256 < 256 := Nat.mod_lt _ (by decide)
  have hc : x.toBitVec.toNat / 256 % 256 < 256 := Nat.mod_lt _ (by decide)
  have hd : x.toBitVec.toNat % 256 < 256 := Nat.mod_lt _ (by decide)
  generalize x.toBitVec.toNat / 16777216 % 256 = a at *
  generalize x.toBitVec.toNat / 65536 % 256 = b at *
  generalize x.toBitVec.toNat / 256 % 256 = c at *
  generalize x.toBitVec.toNat % 256 = d at *
  obtain ⟨a1, a2, a3, a4, a5, a6⟩ := pb_a a ha
  obtain ⟨b1, b2, b3, b4, b5, b6⟩ := pb_a b hb
  obtain ⟨c1, c2, c3, c4, c5, c6⟩ := pb_a c hc
  obtain ⟨d1, d2, d3, d4, d5, d6⟩ := pb_a d hd
  have s1 : (aPop1 x).toBitVec.toNat = p4 (pb1 a) (pb1 b) (pb1 c) (pb1 d) := by
    unfold aPop1
    rw [tb_sub, tb_and, tb_us x 1 1 (by decide), e0, show (1431655765 : Int32).toBitVec.toNat = 1431655765 from rfl, ← p4_1 ha hb hc hd]
    have l : (p4 a b c d / 2 ^ 1 &&& 1431655765) ≤ p4 a b c d := Nat.le_trans Nat.and_le_left (Nat.div_le_self _ _)
    rw [show (2 : Nat) ^ 1 = 2 from rfl] at l ⊢
    rw [e0] at hn
    generalize p4 a b c d / 2 &&& 1431655765 = w at *
    generalize p4 a b c d = z at *
    omega
  have s2 : (aPop2 (aPop1 x)).toBitVec.toNat = p4 (pb2 (pb1 a)) (pb2 (pb1 b)) (pb2 (pb1 c)) (pb2 (pb1 d)) := by
    unfold aPop2
    rw [tb_add, tb_and, tb_and, tb_us (aPop1 x) 2 2 (by decide), s1, show (858993459 : Int32).toBitVec.toNat = 858993459 from rfl, show (2 : Nat) ^ 2 = 4 from rfl, p4_2 a2 b2 c2 d2]
    refine Nat.mod_eq_of_lt ?_
    unfold p4
    omega
  have s3 : (aPop3 (aPop2 (aPop1 x))).toBitVec.toNat = p4 (pN 8 a) (pN 8 b) (pN 8 c) (pN 8 d) := by
    unfold aPop3
    rw [tb_and, tb_add, tb_us (aPop2 (aPop1 x)) 4 4 (by decide), s2, show (252645135 : Int32).toBitVec.toNat = 252645135 from rfl, show (2 : Nat) ^ 4 = 16 from rfl, ← a5, ← b5, ← c5, ← d5, ← p4_3 a3 b3 c3 d3 a4 b4 c4]
    have l : p4 (pb2 (pb1 a)) (pb2 (pb1 b)) (pb2 (pb1 c)) (pb2 (pb1 d)) + p4 (pb2 (pb1 a)) (pb2 (pb1 b)) (pb2 (pb1 c)) (pb2 (pb1 d)) / 16 < 4294967296 := by unfold p4; omega
    rw [Nat.mod_eq_of_lt l]
  have s5 : (aPop x).toBitVec.toNat = (p4 (pN 8 a) (pN 8 b) (pN 8 c) (pN 8 d) + p4 (pN 8 a) (pN 8 b) (pN 8 c) (pN 8 d) / 256 + (p4 (pN 8 a) (pN 8 b) (pN 8 c) (pN 8 d) + p4 (pN 8 a) (pN 8 b) (pN 8 c) (pN 8 d) / 256) / 65536) &&& 63 := by
    have l : p4 (pN 8 a) (pN 8 b) (pN 8 c) (pN 8 d) ≤ 134744072 := by unfold p4; omega
    unfold aPop aPop5 aPop4
    generalize aPop3 (aPop2 (aPop1 x)) = y at s3
    generalize p4 (pN 8 a) (pN 8 b) (pN 8 c) (pN 8 d) = z at *
    have q1 : (y + wt_ushr y 8).toBitVec.toNat = z + z / 256 := by
      rw [tb_add, tb_us y 8 8 (by decide), s3, show (2 : Nat) ^ 8 = 256 from rfl]
      omega
    generalize y + wt_ushr y 8 = u at q1
    rw [tb_and, tb_add, tb_us u 16 16 (by decide), q1, show (63 : Int32).toBitVec.toNat = 63 from rfl, show (2 : Nat) ^ 16 = 65536 from rfl, Nat.mod_eq_of_lt (by omega)]
  rw [s5, p4_4 a6 b6 c6 d6]
  omega
theorem kn_ones {F : Nat} {σ : Mem} : ∀ (N : Nat) (c x : Int32), pc (lp_X4_onesOf_4 F N c x σ) (fun r z => r.toBitVec.toNat = (c.toBitVec.toNat + pN 32 x.toBitVec.toNat) % 4294967296 ∧ z = σ) := by
  intro N
  induction N with
  | zero => intro c x; exact pc_none rfl
  | succ N ih =>
    intro c x
    rw [lp_X4_onesOf_4_s]
    have hc := tb_lt c
    have hx := tb_lt x
    refine pc_ite (fun e => pc_ret ⟨?_, rfl⟩) (fun e => pc_lt (fun z1 hz => pc_mono (ih _ _) (fun r z q => ⟨?_, q.2⟩)))
    · rw [e, show (0 : Int32).toBitVec.toNat = 0 from rfl, pN_z]; omega
    · have h0 : x.toBitVec.toNat ≠ 0 := fun q => e (tb_eq q)
      rw [q.1, hz, tb_and, tb_sub, tb_add, show (1 : Int32).toBitVec.toNat = 1 from rfl]
      rw [show (4294967296 - 1 + x.toBitVec.toNat) % 4294967296 = x.toBitVec.toNat - 1 by omega]
      have w := pN_low 32 x.toBitVec.toNat hx h0
      generalize pN 32 (x.toBitVec.toNat &&& (x.toBitVec.toNat - 1)) = A at *
      omega
theorem mx_ones {F : Nat} {x : Int32} {σ : Mem} : pc (f_X4_onesOf F x σ) (fun r z => r = aPop x ∧ z = σ) := by
  rw [f_X4_onesOf_e]
  refine pc_mono (kn_ones F 0 x) (fun r z q => ⟨tb_eq ?_, q.2⟩)
  have w := pop_all x
  have l := tb_lt (aPop x)
  rw [q.1, w, show (0 : Int32).toBitVec.toNat = 0 from rfl]
  omega
