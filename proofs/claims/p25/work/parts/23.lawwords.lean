/-! instructions read through windows of the bytes -/
def ld_win (D c : ByteArray) (off : Nat) : Prop := ∀ k (h : k < D.size), ∃ h' : off + k < c.size, c[off + k]'h' = D[k]'h
theorem ld_sz (c : ByteArray) : c.size = c.data.toList.length := by cases c; rfl
theorem ld_get (c : ByteArray) (i : Nat) (h : i < c.size) : c.data.toList[i]? = some (c[i]'h) := by
  cases c with
  | mk a => exact List.getElem?_eq_getElem h
theorem ld_mk {D c : ByteArray} {off n : Nat} (h : (c.data.toList.drop off).take n = D.data.toList) : ld_win D c off := fun k hk => by
  have h1 := ld_get D k hk
  rw [← h, List.getElem?_take] at h1
  by_cases hn : k < n
  · rw [if_pos hn, List.getElem?_drop] at h1
    obtain ⟨h2, -⟩ := List.getElem?_eq_some_iff.mp h1
    have h' : off + k < c.size := by rw [ld_sz]; exact h2
    refine ⟨h', ?_⟩
    rw [ld_get c (off + k) h'] at h1
    exact Option.some.inj h1
  · rw [if_neg hn] at h1
    cases h1
def ld_mono {α : Type} (R : Decoder α) : Prop := ∀ (D c : ByteArray) (off : Nat), ld_win D c off → ∀ (pos : Nat) (a : α) (n : Nat), Reader.runAt R D pos = .ok (a, n) → Reader.runAt R c (off + pos) = .ok (a, off + n)
theorem ld_pure {α : Type} (x : α) : ld_mono (pure x : Decoder α) := fun D c off w pos a n h => by
  have h' : (Except.ok (x, pos) : Except DecodeError (α × Nat)) = .ok (a, n) := h
  cases h'
  rfl
theorem ld_be {α β : Type} (R : Decoder α) (f : α → Decoder β) (B : ByteArray) (q : Nat) : Reader.runAt (R >>= f) B q = match Reader.runAt R B q with | .ok x => Reader.runAt (f x.1) B x.2 | .error er => .error er := by
  show (Except.bind (Reader.runAt R B q) (fun x => Reader.runAt (f x.1) B x.2)) = _
  cases Reader.runAt R B q <;> rfl
theorem ld_bind {α β : Type} {R : Decoder α} {f : α → Decoder β} (h1 : ld_mono R) (h2 : ∀ a, ld_mono (f a)) : ld_mono (R >>= f) := fun D c off w pos b n h => by
  rw [ld_be] at h ⊢
  cases hR : Reader.runAt R D pos with
  | error er => rw [hR] at h; cases h
  | ok x =>
    rw [hR] at h
    rw [h1 D c off w pos x.1 x.2 hR]
    exact h2 x.1 D c off w x.2 b n h
theorem ld_ue (B : ByteArray) (q : Nat) : Reader.runAt (Reader.u1 : Decoder Nat) B q = if h : q < B.size then .ok ((B[q]'h).toNat, q + 1) else .error (.truncated q) := by
  show (if h : q < B.size then ((do set (q + 1); pure (B[q]'h).toNat) : Decoder Nat) else throw (HasTruncated.truncated q)) B q = _
  by_cases h : q < B.size
  · rw [dif_pos h, dif_pos h]; rfl
  · rw [dif_neg h, dif_neg h]; rfl
theorem ld_u1 : ld_mono (Reader.u1 : Decoder Nat) := fun D c off w pos a n h => by
  rw [ld_ue] at h ⊢
  by_cases hp : pos < D.size
  · rw [dif_pos hp] at h
    obtain ⟨h', g⟩ := w pos hp
    rw [dif_pos h', g]
    cases h
    rfl
  · rw [dif_neg hp] at h
    cases h
theorem ld_map {α β : Type} (f : α → β) {R : Decoder α} (h1 : ld_mono R) : ld_mono (f <$> R) := fun D c off w pos b n h => ld_bind (f := fun a => (pure (f a) : Decoder β)) h1 (fun a => ld_pure _) D c off w pos b n h
theorem ld_u2 : ld_mono (Reader.u2 : Decoder Nat) := ld_bind ld_u1 (fun _ => ld_bind ld_u1 (fun _ => ld_pure _))
theorem ld_s1 : ld_mono (Reader.s1 : Decoder Int) := ld_map _ ld_u1
theorem ld_s2 : ld_mono (Reader.s2 : Decoder Int) := ld_map _ ld_u2
def ld_op (b : Nat) : Prop := ∃ R : Decoder Instr, ld_mono R ∧ ∀ k : Nat, ∃ g : Nat → Decoder Instr, Decoder.instr k = (Reader.u1 >>= g) ∧ g b = R
theorem ld_de (B : ByteArray) (q : Nat) : decode B q = match Reader.runAt (Decoder.instr q) B q with | .ok x => .ok (x.1, x.2 - q) | .error er => .error er := by
  show (Except.bind (Reader.runAt (Decoder.instr q) B q) (fun x => Except.ok (x.1, x.2 - q))) = _
  cases Reader.runAt (Decoder.instr q) B q <;> rfl
theorem ld_st {R : Decoder Instr} {g : Nat → Decoder Instr} {b : Nat} (hg : g b = R) (B : ByteArray) (q : Nat) (hq : q < B.size) (hb : (B[q]'hq).toNat = b) : Reader.runAt (Reader.u1 >>= g) B q = Reader.runAt R B (q + 1) := by
  rw [ld_be, ld_ue, dif_pos hq]
  show Reader.runAt (g (B[q]'hq).toNat) B (q + 1) = _
  rw [hb, hg]
theorem ld_dec {D c : ByteArray} {off k b : Nat} {i : Instr} {n : Nat} (w : ld_win D c off) (o : ld_op b) (h : decode D k = .ok (i, n) ∧ D.data.toList[k]?.map UInt8.toNat = some b) : decode c (off + k) = .ok (i, n) := by
  obtain ⟨R, m, hR⟩ := o
  obtain ⟨g1, e1, f1⟩ := hR k
  obtain ⟨g2, e2, f2⟩ := hR (off + k)
  obtain ⟨h, hb⟩ := h
  have hk : k < D.size := by
    by_cases hk : k < D.size
    · exact hk
    · rw [ld_sz] at hk
      rw [List.getElem?_eq_none (Nat.not_lt.mp hk)] at hb
      cases hb
  rw [ld_get D k hk] at hb
  have hb1 : (D[k]'hk).toNat = b := Option.some.inj hb
  obtain ⟨h', g⟩ := w k hk
  rw [ld_de, e1, ld_st f1 D k hk hb1] at h
  cases hx : Reader.runAt R D (k + 1) with
  | error er => rw [hx] at h; cases h
  | ok x =>
    rw [hx] at h
    rw [ld_de, e2, ld_st f2 c (off + k) h' (by rw [g]; exact hb1), Nat.add_assoc, m D c off w (k + 1) x.1 x.2 hx]
    cases h
    show Except.ok (x.1, off + x.2 - (off + k)) = _
    rw [Nat.add_sub_add_left]
theorem qa_mk {c : ByteArray} {k b : Nat} (h : k < c.size) (e : (c[k]'h).toNat = b) : qa c k b = true := by
  unfold qa
  rw [qs_get c k h]
  show Nat.beq (c[k]'h).toNat b = true
  rw [e]
  exact Nat.beq_refl b
theorem qa_w {D c : ByteArray} {off k b : Nat} (w : ld_win D c off) (h : qa D k b = true) : qa c (off + k) b = true := by
  obtain ⟨h1, e⟩ := qa_get h
  obtain ⟨h2, g⟩ := w k h1
  exact qa_mk h2 (by rw [g]; exact e)
theorem q3_mk {a b : Bool} (h1 : a = true) (h2 : b = true) : q3 a b = true := by rw [h1, h2]; rfl
theorem qa_w2 {D c : ByteArray} {off k b x : Nat} (w : ld_win D c off) (h : q3 (qa D k b) (qa D (k + 1) x) = true) : q3 (qa c (off + k) b) (qa c (off + k + 1) x) = true := q3_mk (qa_w w (q3_l h)) (qa_w (k := k + 1) w (q3_r h))
theorem qa_w3 {D c : ByteArray} {off k b x y : Nat} (w : ld_win D c off) (h : q3 (qa D k b) (q3 (qa D (k + 1) x) (qa D (k + 2) y)) = true) : q3 (qa c (off + k) b) (q3 (qa c (off + k + 1) x) (qa c (off + k + 2) y)) = true := q3_mk (qa_w w (q3_l h)) (q3_mk (qa_w (k := k + 1) w (q3_l (q3_r h))) (qa_w (k := k + 2) w (q3_r (q3_r h))))
def ld_D0 : ByteArray := .mk #[0xbb, 0x00, 0x07, 0x59, 0xb7, 0x00, 0x09, 0x4c, 0xbb, 0x00, 0x0a, 0x59, 0xb7, 0x00, 0x0c, 0x4d, 0x03, 0x3e, 0x1d, 0x2a]
theorem ld_w0 : ld_win ld_D0 cL_law 0 := ld_mk (n := 20) (by decide +kernel)
def ld_D1 : ByteArray := .mk #[0x03, 0x3e, 0x1d, 0x2a, 0xbe, 0x10, 0x06, 0x64, 0xa3, 0x07, 0x88, 0x2a, 0x1d, 0x2e, 0x10, 0x3f, 0x7e, 0xaa, 0x00, 0x00]
theorem ld_w1 : ld_win ld_D1 cL_law 16 := ld_mk (n := 20) (by decide +kernel)
def ld_D2 : ByteArray := .mk #[0x7e, 0xaa, 0x00, 0x00, 0x00, 0x00, 0x07, 0x79, 0x00, 0x00, 0x00, 0x00, 0x00, 0x00, 0x00, 0x35, 0x00, 0x00, 0x00, 0xe7]
theorem ld_w2 : ld_win ld_D2 cL_law 32 := ld_mk (n := 20) (by decide +kernel)
def ld_D16 : ByteArray := .mk #[0x00, 0x00, 0x07, 0x55, 0x00, 0x00, 0x07, 0x62, 0x2b, 0x2a, 0x1d, 0x04, 0x60, 0x2e, 0xb6, 0x00, 0x0d, 0x57, 0x2c, 0x2a]
theorem ld_w16 : ld_win ld_D16 cL_law 256 := ld_mk (n := 20) (by decide +kernel)
def ld_D17 : ByteArray := .mk #[0x0d, 0x57, 0x2c, 0x2a, 0x1d, 0x04, 0x60, 0x2e, 0xb6, 0x00, 0x11, 0x57, 0xa7, 0x06, 0x7e, 0x2b, 0xb6, 0x00, 0x12, 0x57]
theorem ld_w17 : ld_win ld_D17 cL_law 272 := ld_mk (n := 20) (by decide +kernel)
def ld_D18 : ByteArray := .mk #[0xb6, 0x00, 0x12, 0x57, 0x2c, 0xb6, 0x00, 0x16, 0x57, 0xa7, 0x06, 0x71, 0x2b, 0x2a, 0x1d, 0x04, 0x60, 0x2e, 0x2a, 0x1d]
theorem ld_w18 : ld_win ld_D18 cL_law 288 := ld_mk (n := 20) (by decide +kernel)
def ld_D19 : ByteArray := .mk #[0x60, 0x2e, 0x2a, 0x1d, 0x05, 0x60, 0x2e, 0xb6, 0x00, 0x17, 0x57, 0x2c, 0x2a, 0x1d, 0x04, 0x60, 0x2e, 0x2a, 0x1d, 0x05]
theorem ld_w19 : ld_win ld_D19 cL_law 304 := ld_mk (n := 20) (by decide +kernel)
def ld_D20 : ByteArray := .mk #[0x2e, 0x2a, 0x1d, 0x05, 0x60, 0x2e, 0xb6, 0x00, 0x1b, 0x57, 0xa7, 0x06, 0x50, 0x2b, 0x2a, 0x1d, 0x04, 0x60, 0x2e, 0x2a]
theorem ld_w20 : ld_win ld_D20 cL_law 320 := ld_mk (n := 20) (by decide +kernel)
def ld_D21 : ByteArray := .mk #[0x04, 0x60, 0x2e, 0x2a, 0x1d, 0x05, 0x60, 0x2e, 0xb6, 0x00, 0x1c, 0x57, 0x2c, 0x2a, 0x1d, 0x04, 0x60, 0x2e, 0x2a, 0x1d]
theorem ld_w21 : ld_win ld_D21 cL_law 336 := ld_mk (n := 20) (by decide +kernel)
def ld_D22 : ByteArray := .mk #[0x60, 0x2e, 0x2a, 0x1d, 0x05, 0x60, 0x2e, 0xb6, 0x00, 0x1f, 0x57, 0xa7, 0x06, 0x2f, 0x2b, 0x2a, 0x1d, 0x04, 0x60, 0x2e]
theorem ld_w22 : ld_win ld_D22 cL_law 352 := ld_mk (n := 20) (by decide +kernel)
def ld_D23 : ByteArray := .mk #[0x1d, 0x04, 0x60, 0x2e, 0xb6, 0x00, 0x20, 0x57, 0x2c, 0x2a, 0x1d, 0x04, 0x60, 0x2e, 0xb6, 0x00, 0x23, 0x57, 0xa7, 0x06]
theorem ld_w23 : ld_win ld_D23 cL_law 368 := ld_mk (n := 20) (by decide +kernel)
def ld_D24 : ByteArray := .mk #[0x23, 0x57, 0xa7, 0x06, 0x18, 0x2b, 0x2a, 0x1d, 0x04, 0x60, 0x2e, 0x2a, 0x1d, 0x05, 0x60, 0x2e, 0xb6, 0x00, 0x24, 0x57]
theorem ld_w24 : ld_win ld_D24 cL_law 384 := ld_mk (n := 20) (by decide +kernel)
def ld_D25 : ByteArray := .mk #[0xb6, 0x00, 0x24, 0x57, 0x2c, 0x2a, 0x1d, 0x04, 0x60, 0x2e, 0x2a, 0x1d, 0x05, 0x60, 0x2e, 0xb6, 0x00, 0x27, 0x57, 0xa7]
theorem ld_w25 : ld_win ld_D25 cL_law 400 := ld_mk (n := 20) (by decide +kernel)
def ld_D26 : ByteArray := .mk #[0x00, 0x27, 0x57, 0xa7, 0x05, 0xf7, 0x2b, 0x2a, 0x1d, 0x04, 0x60, 0x2e, 0x2a, 0x1d, 0x05, 0x60, 0x2e, 0x2a, 0x1d, 0x06]
theorem ld_w26 : ld_win ld_D26 cL_law 416 := ld_mk (n := 20) (by decide +kernel)
def ld_D27 : ByteArray := .mk #[0x2e, 0x2a, 0x1d, 0x06, 0x60, 0x2e, 0x2a, 0x1d, 0x07, 0x60, 0x2e, 0xb6, 0x00, 0x28, 0x57, 0x2c, 0x2a, 0x1d, 0x04, 0x60]
theorem ld_w27 : ld_win ld_D27 cL_law 432 := ld_mk (n := 20) (by decide +kernel)
def ld_D28 : ByteArray := .mk #[0x2a, 0x1d, 0x04, 0x60, 0x2e, 0x2a, 0x1d, 0x05, 0x60, 0x2e, 0x2a, 0x1d, 0x06, 0x60, 0x2e, 0x2a, 0x1d, 0x07, 0x60, 0x2e]
theorem ld_w28 : ld_win ld_D28 cL_law 448 := ld_mk (n := 20) (by decide +kernel)
def ld_D29 : ByteArray := .mk #[0x1d, 0x07, 0x60, 0x2e, 0xb6, 0x00, 0x2c, 0x57, 0xa7, 0x05, 0xc2, 0x2b, 0x2a, 0x1d, 0x04, 0x60, 0x2e, 0x2a, 0x1d, 0x05]
theorem ld_w29 : ld_win ld_D29 cL_law 464 := ld_mk (n := 20) (by decide +kernel)
def ld_D30 : ByteArray := .mk #[0x2e, 0x2a, 0x1d, 0x05, 0x60, 0x2e, 0xb6, 0x00, 0x2d, 0x57, 0x2c, 0x2a, 0x1d, 0x04, 0x60, 0x2e, 0x2a, 0x1d, 0x05, 0x60]
theorem ld_w30 : ld_win ld_D30 cL_law 480 := ld_mk (n := 20) (by decide +kernel)
def ld_D31 : ByteArray := .mk #[0x2a, 0x1d, 0x05, 0x60, 0x2e, 0xb6, 0x00, 0x30, 0x57, 0xa7, 0x05, 0xa1, 0x2b, 0x2a, 0x1d, 0x04, 0x60, 0x2e, 0x2a, 0x1d]
theorem ld_w31 : ld_win ld_D31 cL_law 496 := ld_mk (n := 20) (by decide +kernel)
def ld_D32 : ByteArray := .mk #[0x60, 0x2e, 0x2a, 0x1d, 0x05, 0x60, 0x2e, 0xb6, 0x00, 0x31, 0x57, 0x2c, 0x2a, 0x1d, 0x04, 0x60, 0x2e, 0x2a, 0x1d, 0x05]
theorem ld_w32 : ld_win ld_D32 cL_law 512 := ld_mk (n := 20) (by decide +kernel)
def ld_D33 : ByteArray := .mk #[0x2e, 0x2a, 0x1d, 0x05, 0x60, 0x2e, 0xb6, 0x00, 0x34, 0x57, 0xa7, 0x05, 0x80, 0x2b, 0x2a, 0x1d, 0x04, 0x60, 0x2e, 0x2a]
theorem ld_w33 : ld_win ld_D33 cL_law 528 := ld_mk (n := 20) (by decide +kernel)
def ld_D34 : ByteArray := .mk #[0x04, 0x60, 0x2e, 0x2a, 0x1d, 0x05, 0x60, 0x2e, 0xb6, 0x00, 0x35, 0x57, 0x2c, 0x2a, 0x1d, 0x04, 0x60, 0x2e, 0x2a, 0x1d]
theorem ld_w34 : ld_win ld_D34 cL_law 544 := ld_mk (n := 20) (by decide +kernel)
def ld_D35 : ByteArray := .mk #[0x60, 0x2e, 0x2a, 0x1d, 0x05, 0x60, 0x2e, 0xb6, 0x00, 0x38, 0x57, 0xa7, 0x05, 0x5f, 0x2b, 0x2a, 0x1d, 0x04, 0x60, 0x2e]
theorem ld_w35 : ld_win ld_D35 cL_law 560 := ld_mk (n := 20) (by decide +kernel)
def ld_D36 : ByteArray := .mk #[0x1d, 0x04, 0x60, 0x2e, 0xb6, 0x00, 0x39, 0x57, 0x2c, 0x2a, 0x1d, 0x04, 0x60, 0x2e, 0xb6, 0x00, 0x3c, 0x57, 0xa7, 0x05]
theorem ld_w36 : ld_win ld_D36 cL_law 576 := ld_mk (n := 20) (by decide +kernel)
def ld_D37 : ByteArray := .mk #[0x3c, 0x57, 0xa7, 0x05, 0x48, 0x2b, 0x2a, 0x1d, 0x04, 0x60, 0x2e, 0xb6, 0x00, 0x3d, 0x57, 0x2c, 0x2a, 0x1d, 0x04, 0x60]
theorem ld_w37 : ld_win ld_D37 cL_law 592 := ld_mk (n := 20) (by decide +kernel)
def ld_D38 : ByteArray := .mk #[0x2a, 0x1d, 0x04, 0x60, 0x2e, 0xb6, 0x00, 0x40, 0x57, 0xa7, 0x05, 0x31, 0x2b, 0xb6, 0x00, 0x41, 0x57, 0x2c, 0xb6, 0x00]
theorem ld_w38 : ld_win ld_D38 cL_law 608 := ld_mk (n := 20) (by decide +kernel)
def ld_D39 : ByteArray := .mk #[0x57, 0x2c, 0xb6, 0x00, 0x44, 0x57, 0xa7, 0x05, 0x24, 0x2b, 0x2a, 0x1d, 0x04, 0x60, 0x2e, 0x2a, 0x1d, 0x05, 0x60, 0x2e]
theorem ld_w39 : ld_win ld_D39 cL_law 624 := ld_mk (n := 20) (by decide +kernel)
def ld_D40 : ByteArray := .mk #[0x1d, 0x05, 0x60, 0x2e, 0x2a, 0x1d, 0x06, 0x60, 0x2e, 0xb6, 0x00, 0x45, 0x57, 0x2c, 0x2a, 0x1d, 0x04, 0x60, 0x2e, 0x2a]
theorem ld_w40 : ld_win ld_D40 cL_law 640 := ld_mk (n := 20) (by decide +kernel)
def ld_D41 : ByteArray := .mk #[0x04, 0x60, 0x2e, 0x2a, 0x1d, 0x05, 0x60, 0x2e, 0x2a, 0x1d, 0x06, 0x60, 0x2e, 0xb6, 0x00, 0x49, 0x57, 0xa7, 0x04, 0xf9]
theorem ld_w41 : ld_win ld_D41 cL_law 656 := ld_mk (n := 20) (by decide +kernel)
def ld_D42 : ByteArray := .mk #[0x57, 0xa7, 0x04, 0xf9, 0x2b, 0x2a, 0x1d, 0x04, 0x60, 0x2e, 0x2a, 0x1d, 0x05, 0x60, 0x2e, 0xb6, 0x00, 0x4a, 0x57, 0x2c]
theorem ld_w42 : ld_win ld_D42 cL_law 672 := ld_mk (n := 20) (by decide +kernel)
def ld_D43 : ByteArray := .mk #[0x00, 0x4a, 0x57, 0x2c, 0x2a, 0x1d, 0x04, 0x60, 0x2e, 0x2a, 0x1d, 0x05, 0x60, 0x2e, 0xb6, 0x00, 0x4d, 0x57, 0xa7, 0x04]
theorem ld_w43 : ld_win ld_D43 cL_law 688 := ld_mk (n := 20) (by decide +kernel)
def ld_D44 : ByteArray := .mk #[0x4d, 0x57, 0xa7, 0x04, 0xd8, 0x2b, 0x2a, 0x1d, 0x04, 0x60, 0x2e, 0x2a, 0x1d, 0x05, 0x60, 0x2e, 0x2a, 0x1d, 0x06, 0x60]
theorem ld_w44 : ld_win ld_D44 cL_law 704 := ld_mk (n := 20) (by decide +kernel)
def ld_D45 : ByteArray := .mk #[0x2a, 0x1d, 0x06, 0x60, 0x2e, 0xb6, 0x00, 0x4e, 0x57, 0x2c, 0x2a, 0x1d, 0x04, 0x60, 0x2e, 0x2a, 0x1d, 0x05, 0x60, 0x2e]
theorem ld_w45 : ld_win ld_D45 cL_law 720 := ld_mk (n := 20) (by decide +kernel)
def ld_D46 : ByteArray := .mk #[0x1d, 0x05, 0x60, 0x2e, 0x2a, 0x1d, 0x06, 0x60, 0x2e, 0xb6, 0x00, 0x51, 0x57, 0xa7, 0x04, 0xad, 0x2b, 0x2a, 0x1d, 0x04]
theorem ld_w46 : ld_win ld_D46 cL_law 736 := ld_mk (n := 20) (by decide +kernel)
def ld_D47 : ByteArray := .mk #[0x2b, 0x2a, 0x1d, 0x04, 0x60, 0x2e, 0xb6, 0x00, 0x52, 0x57, 0x2c, 0x2a, 0x1d, 0x04, 0x60, 0x2e, 0xb6, 0x00, 0x55, 0x57]
theorem ld_w47 : ld_win ld_D47 cL_law 752 := ld_mk (n := 20) (by decide +kernel)
def ld_D48 : ByteArray := .mk #[0xb6, 0x00, 0x55, 0x57, 0xa7, 0x04, 0x96, 0x2b, 0x2a, 0x1d, 0x04, 0x60, 0x2e, 0x2a, 0x1d, 0x05, 0x60, 0x2e, 0xb6, 0x00]
theorem ld_w48 : ld_win ld_D48 cL_law 768 := ld_mk (n := 20) (by decide +kernel)
def ld_D49 : ByteArray := .mk #[0x60, 0x2e, 0xb6, 0x00, 0x56, 0x57, 0x2c, 0x2a, 0x1d, 0x04, 0x60, 0x2e, 0x2a, 0x1d, 0x05, 0x60, 0x2e, 0xb6, 0x00, 0x59]
theorem ld_w49 : ld_win ld_D49 cL_law 784 := ld_mk (n := 20) (by decide +kernel)
def ld_D50 : ByteArray := .mk #[0x2e, 0xb6, 0x00, 0x59, 0x57, 0xa7, 0x04, 0x75, 0x2b, 0x2a, 0x1d, 0x04, 0x60, 0x2e, 0xb6, 0x00, 0x5a, 0x57, 0x2c, 0x2a]
theorem ld_w50 : ld_win ld_D50 cL_law 800 := ld_mk (n := 20) (by decide +kernel)
def ld_D51 : ByteArray := .mk #[0x5a, 0x57, 0x2c, 0x2a, 0x1d, 0x04, 0x60, 0x2e, 0xb6, 0x00, 0x5d, 0x57, 0xa7, 0x04, 0x5e, 0x2b, 0x2a, 0x1d, 0x04, 0x60]
theorem ld_w51 : ld_win ld_D51 cL_law 816 := ld_mk (n := 20) (by decide +kernel)
def ld_D52 : ByteArray := .mk #[0x2a, 0x1d, 0x04, 0x60, 0x2e, 0x2a, 0x1d, 0x05, 0x60, 0x2e, 0xb6, 0x00, 0x5e, 0x57, 0x2c, 0x2a, 0x1d, 0x04, 0x60, 0x2e]
theorem ld_w52 : ld_win ld_D52 cL_law 832 := ld_mk (n := 20) (by decide +kernel)
def ld_D53 : ByteArray := .mk #[0x1d, 0x04, 0x60, 0x2e, 0x2a, 0x1d, 0x05, 0x60, 0x2e, 0xb6, 0x00, 0x61, 0x57, 0xa7, 0x04, 0x3d, 0x2b, 0x2a, 0x1d, 0x04]
theorem ld_w53 : ld_win ld_D53 cL_law 848 := ld_mk (n := 20) (by decide +kernel)
def ld_D54 : ByteArray := .mk #[0x2b, 0x2a, 0x1d, 0x04, 0x60, 0x2e, 0x2a, 0x1d, 0x05, 0x60, 0x2e, 0x2a, 0x1d, 0x06, 0x60, 0x2e, 0xb6, 0x00, 0x62, 0x57]
theorem ld_w54 : ld_win ld_D54 cL_law 864 := ld_mk (n := 20) (by decide +kernel)
def ld_D55 : ByteArray := .mk #[0xb6, 0x00, 0x62, 0x57, 0x2c, 0x2a, 0x1d, 0x04, 0x60, 0x2e, 0x2a, 0x1d, 0x05, 0x60, 0x2e, 0x2a, 0x1d, 0x06, 0x60, 0x2e]
theorem ld_w55 : ld_win ld_D55 cL_law 880 := ld_mk (n := 20) (by decide +kernel)
def ld_D56 : ByteArray := .mk #[0x1d, 0x06, 0x60, 0x2e, 0xb6, 0x00, 0x65, 0x57, 0xa7, 0x04, 0x12, 0x2b, 0x2a, 0x1d, 0x04, 0x60, 0x2e, 0x2a, 0x1d, 0x05]
theorem ld_w56 : ld_win ld_D56 cL_law 896 := ld_mk (n := 20) (by decide +kernel)
def ld_D57 : ByteArray := .mk #[0x2e, 0x2a, 0x1d, 0x05, 0x60, 0x2e, 0x2a, 0x1d, 0x06, 0x60, 0x2e, 0xb6, 0x00, 0x66, 0x57, 0x2c, 0x2a, 0x1d, 0x04, 0x60]
theorem ld_w57 : ld_win ld_D57 cL_law 912 := ld_mk (n := 20) (by decide +kernel)
def ld_D58 : ByteArray := .mk #[0x2a, 0x1d, 0x04, 0x60, 0x2e, 0x2a, 0x1d, 0x05, 0x60, 0x2e, 0x2a, 0x1d, 0x06, 0x60, 0x2e, 0xb6, 0x00, 0x69, 0x57, 0xa7]
theorem ld_w58 : ld_win ld_D58 cL_law 928 := ld_mk (n := 20) (by decide +kernel)
def ld_D59 : ByteArray := .mk #[0x00, 0x69, 0x57, 0xa7, 0x03, 0xe7, 0x2b, 0x2a, 0x1d, 0x04, 0x60, 0x2e, 0x2a, 0x1d, 0x05, 0x60, 0x2e, 0x2a, 0x1d, 0x06]
theorem ld_w59 : ld_win ld_D59 cL_law 944 := ld_mk (n := 20) (by decide +kernel)
def ld_D60 : ByteArray := .mk #[0x2e, 0x2a, 0x1d, 0x06, 0x60, 0x2e, 0x2a, 0x1d, 0x07, 0x60, 0x2e, 0xb6, 0x00, 0x6a, 0x57, 0x2c, 0x2a, 0x1d, 0x04, 0x60]
theorem ld_w60 : ld_win ld_D60 cL_law 960 := ld_mk (n := 20) (by decide +kernel)
def ld_D61 : ByteArray := .mk #[0x2a, 0x1d, 0x04, 0x60, 0x2e, 0x2a, 0x1d, 0x05, 0x60, 0x2e, 0x2a, 0x1d, 0x06, 0x60, 0x2e, 0x2a, 0x1d, 0x07, 0x60, 0x2e]
theorem ld_w61 : ld_win ld_D61 cL_law 976 := ld_mk (n := 20) (by decide +kernel)
def ld_D62 : ByteArray := .mk #[0x1d, 0x07, 0x60, 0x2e, 0xb6, 0x00, 0x6d, 0x57, 0xa7, 0x03, 0xb2, 0x2b, 0x2a, 0x1d, 0x04, 0x60, 0x2e, 0x2a, 0x1d, 0x05]
theorem ld_w62 : ld_win ld_D62 cL_law 992 := ld_mk (n := 20) (by decide +kernel)
def ld_D63 : ByteArray := .mk #[0x2e, 0x2a, 0x1d, 0x05, 0x60, 0x2e, 0xb6, 0x00, 0x6e, 0x2c, 0x2a, 0x1d, 0x04, 0x60, 0x2e, 0x2a, 0x1d, 0x05, 0x60, 0x2e]
theorem ld_w63 : ld_win ld_D63 cL_law 1008 := ld_mk (n := 20) (by decide +kernel)
def ld_D64 : ByteArray := .mk #[0x1d, 0x05, 0x60, 0x2e, 0xb6, 0x00, 0x71, 0x9f, 0x03, 0x93, 0x03, 0xac, 0x2b, 0xb6, 0x00, 0x72, 0x57, 0x2c, 0xb6, 0x00]
theorem ld_w64 : ld_win ld_D64 cL_law 1024 := ld_mk (n := 20) (by decide +kernel)
def ld_D65 : ByteArray := .mk #[0x57, 0x2c, 0xb6, 0x00, 0x75, 0x57, 0xa7, 0x03, 0x84, 0x2b, 0x2a, 0x1d, 0x04, 0x60, 0x2e, 0xb6, 0x00, 0x76, 0x57, 0x2c]
theorem ld_w65 : ld_win ld_D65 cL_law 1040 := ld_mk (n := 20) (by decide +kernel)
def ld_D66 : ByteArray := .mk #[0x00, 0x76, 0x57, 0x2c, 0x2a, 0x1d, 0x04, 0x60, 0x2e, 0xb6, 0x00, 0x79, 0x57, 0xa7, 0x03, 0x6d, 0x2b, 0x2a, 0x1d, 0x04]
theorem ld_w66 : ld_win ld_D66 cL_law 1056 := ld_mk (n := 20) (by decide +kernel)
def ld_D67 : ByteArray := .mk #[0x2b, 0x2a, 0x1d, 0x04, 0x60, 0x2e, 0x2a, 0x1d, 0x05, 0x60, 0x2e, 0x2a, 0x1d, 0x06, 0x60, 0x2e, 0xb6, 0x00, 0x7a, 0x57]
theorem ld_w67 : ld_win ld_D67 cL_law 1072 := ld_mk (n := 20) (by decide +kernel)
def ld_D68 : ByteArray := .mk #[0xb6, 0x00, 0x7a, 0x57, 0x2c, 0x2a, 0x1d, 0x04, 0x60, 0x2e, 0x2a, 0x1d, 0x05, 0x60, 0x2e, 0x2a, 0x1d, 0x06, 0x60, 0x2e]
theorem ld_w68 : ld_win ld_D68 cL_law 1088 := ld_mk (n := 20) (by decide +kernel)
def ld_D69 : ByteArray := .mk #[0x1d, 0x06, 0x60, 0x2e, 0xb6, 0x00, 0x7d, 0x57, 0xa7, 0x03, 0x42, 0x2b, 0x2a, 0x1d, 0x04, 0x60, 0x2e, 0x2a, 0x1d, 0x05]
theorem ld_w69 : ld_win ld_D69 cL_law 1104 := ld_mk (n := 20) (by decide +kernel)
def ld_D70 : ByteArray := .mk #[0x2e, 0x2a, 0x1d, 0x05, 0x60, 0x2e, 0x2a, 0x1d, 0x06, 0x60, 0x2e, 0xb6, 0x00, 0x7e, 0x58, 0x2c, 0x2a, 0x1d, 0x04, 0x60]
theorem ld_w70 : ld_win ld_D70 cL_law 1120 := ld_mk (n := 20) (by decide +kernel)
def ld_D71 : ByteArray := .mk #[0x2a, 0x1d, 0x04, 0x60, 0x2e, 0x2a, 0x1d, 0x05, 0x60, 0x2e, 0x2a, 0x1d, 0x06, 0x60, 0x2e, 0xb6, 0x00, 0x82, 0x58, 0xa7]
theorem ld_w71 : ld_win ld_D71 cL_law 1136 := ld_mk (n := 20) (by decide +kernel)
def ld_D72 : ByteArray := .mk #[0x00, 0x82, 0x58, 0xa7, 0x03, 0x17, 0x2b, 0x2a, 0x1d, 0x04, 0x60, 0x2e, 0x2a, 0x1d, 0x05, 0x60, 0x2e, 0x2a, 0x1d, 0x06]
theorem ld_w72 : ld_win ld_D72 cL_law 1152 := ld_mk (n := 20) (by decide +kernel)
def ld_D73 : ByteArray := .mk #[0x2e, 0x2a, 0x1d, 0x06, 0x60, 0x2e, 0x2a, 0x1d, 0x07, 0x60, 0x2e, 0xb6, 0x00, 0x83, 0x57, 0x2c, 0x2a, 0x1d, 0x04, 0x60]
theorem ld_w73 : ld_win ld_D73 cL_law 1168 := ld_mk (n := 20) (by decide +kernel)
def ld_D74 : ByteArray := .mk #[0x2a, 0x1d, 0x04, 0x60, 0x2e, 0x2a, 0x1d, 0x05, 0x60, 0x2e, 0x2a, 0x1d, 0x06, 0x60, 0x2e, 0x2a, 0x1d, 0x07, 0x60, 0x2e]
theorem ld_w74 : ld_win ld_D74 cL_law 1184 := ld_mk (n := 20) (by decide +kernel)
def ld_D75 : ByteArray := .mk #[0x1d, 0x07, 0x60, 0x2e, 0xb6, 0x00, 0x86, 0x57, 0xa7, 0x02, 0xe2, 0x2b, 0xb6, 0x00, 0x87, 0x57, 0x2c, 0xb6, 0x00, 0x8a]
theorem ld_w75 : ld_win ld_D75 cL_law 1200 := ld_mk (n := 20) (by decide +kernel)
def ld_D76 : ByteArray := .mk #[0x2c, 0xb6, 0x00, 0x8a, 0x57, 0xa7, 0x02, 0xd5, 0x2b, 0x2a, 0x1d, 0x04, 0x60, 0x2e, 0x2a, 0x1d, 0x05, 0x60, 0x2e, 0x2a]
theorem ld_w76 : ld_win ld_D76 cL_law 1216 := ld_mk (n := 20) (by decide +kernel)
def ld_D77 : ByteArray := .mk #[0x05, 0x60, 0x2e, 0x2a, 0x1d, 0x06, 0x60, 0x2e, 0xb6, 0x00, 0x8b, 0x57, 0x2c, 0x2a, 0x1d, 0x04, 0x60, 0x2e, 0x2a, 0x1d]
theorem ld_w77 : ld_win ld_D77 cL_law 1232 := ld_mk (n := 20) (by decide +kernel)
def ld_D78 : ByteArray := .mk #[0x60, 0x2e, 0x2a, 0x1d, 0x05, 0x60, 0x2e, 0x2a, 0x1d, 0x06, 0x60, 0x2e, 0xb6, 0x00, 0x8e, 0x57, 0xa7, 0x02, 0xaa, 0x2b]
theorem ld_w78 : ld_win ld_D78 cL_law 1248 := ld_mk (n := 20) (by decide +kernel)
def ld_D79 : ByteArray := .mk #[0xa7, 0x02, 0xaa, 0x2b, 0x2a, 0x1d, 0x04, 0x60, 0x2e, 0x2a, 0x1d, 0x05, 0x60, 0x2e, 0x2a, 0x1d, 0x06, 0x60, 0x2e, 0x2a]
theorem ld_w79 : ld_win ld_D79 cL_law 1264 := ld_mk (n := 20) (by decide +kernel)
def ld_D80 : ByteArray := .mk #[0x06, 0x60, 0x2e, 0x2a, 0x1d, 0x07, 0x60, 0x2e, 0x2a, 0x1d, 0x08, 0x60, 0x2e, 0xb6, 0x00, 0x8f, 0x58, 0x2c, 0x2a, 0x1d]
theorem ld_w80 : ld_win ld_D80 cL_law 1280 := ld_mk (n := 20) (by decide +kernel)
def ld_D81 : ByteArray := .mk #[0x58, 0x2c, 0x2a, 0x1d, 0x04, 0x60, 0x2e, 0x2a, 0x1d, 0x05, 0x60, 0x2e, 0x2a, 0x1d, 0x06, 0x60, 0x2e, 0x2a, 0x1d, 0x07]
theorem ld_w81 : ld_win ld_D81 cL_law 1296 := ld_mk (n := 20) (by decide +kernel)
def ld_D82 : ByteArray := .mk #[0x2e, 0x2a, 0x1d, 0x07, 0x60, 0x2e, 0x2a, 0x1d, 0x08, 0x60, 0x2e, 0xb6, 0x00, 0x93, 0x58, 0xa7, 0x02, 0x6b, 0x2b, 0x2a]
theorem ld_w82 : ld_win ld_D82 cL_law 1312 := ld_mk (n := 20) (by decide +kernel)
def ld_D83 : ByteArray := .mk #[0x02, 0x6b, 0x2b, 0x2a, 0x1d, 0x04, 0x60, 0x2e, 0xb6, 0x00, 0x94, 0x57, 0x2c, 0x2a, 0x1d, 0x04, 0x60, 0x2e, 0xb6, 0x00]
theorem ld_w83 : ld_win ld_D83 cL_law 1328 := ld_mk (n := 20) (by decide +kernel)
def ld_D84 : ByteArray := .mk #[0x60, 0x2e, 0xb6, 0x00, 0x97, 0x57, 0xa7, 0x02, 0x54, 0x2b, 0x2a, 0x1d, 0x04, 0x60, 0x2e, 0x2a, 0x1d, 0x05, 0x60, 0x2e]
theorem ld_w84 : ld_win ld_D84 cL_law 1344 := ld_mk (n := 20) (by decide +kernel)
def ld_D85 : ByteArray := .mk #[0x1d, 0x05, 0x60, 0x2e, 0xb6, 0x00, 0x98, 0x57, 0x2c, 0x2a, 0x1d, 0x04, 0x60, 0x2e, 0x2a, 0x1d, 0x05, 0x60, 0x2e, 0xb6]
theorem ld_w85 : ld_win ld_D85 cL_law 1360 := ld_mk (n := 20) (by decide +kernel)
def ld_D86 : ByteArray := .mk #[0x05, 0x60, 0x2e, 0xb6, 0x00, 0x9b, 0x57, 0xa7, 0x02, 0x33, 0x2b, 0x2a, 0x1d, 0x04, 0x60, 0x2e, 0xb6, 0x00, 0x9c, 0x57]
theorem ld_w86 : ld_win ld_D86 cL_law 1376 := ld_mk (n := 20) (by decide +kernel)
def ld_D87 : ByteArray := .mk #[0xb6, 0x00, 0x9c, 0x57, 0x2c, 0x2a, 0x1d, 0x04, 0x60, 0x2e, 0xb6, 0x00, 0x9f, 0x57, 0xa7, 0x02, 0x1c, 0x2b, 0x2a, 0x1d]
theorem ld_w87 : ld_win ld_D87 cL_law 1392 := ld_mk (n := 20) (by decide +kernel)
def ld_D88 : ByteArray := .mk #[0x1c, 0x2b, 0x2a, 0x1d, 0x04, 0x60, 0x2e, 0x2a, 0x1d, 0x05, 0x60, 0x2e, 0x2a, 0x1d, 0x06, 0x60, 0x2e, 0xb6, 0x00, 0xa0]
theorem ld_w88 : ld_win ld_D88 cL_law 1408 := ld_mk (n := 20) (by decide +kernel)
def ld_D89 : ByteArray := .mk #[0x2e, 0xb6, 0x00, 0xa0, 0x57, 0x2c, 0x2a, 0x1d, 0x04, 0x60, 0x2e, 0x2a, 0x1d, 0x05, 0x60, 0x2e, 0x2a, 0x1d, 0x06, 0x60]
theorem ld_w89 : ld_win ld_D89 cL_law 1424 := ld_mk (n := 20) (by decide +kernel)
def ld_D90 : ByteArray := .mk #[0x2a, 0x1d, 0x06, 0x60, 0x2e, 0xb6, 0x00, 0xa3, 0x57, 0xa7, 0x01, 0xf1, 0x2b, 0x2a, 0x1d, 0x04, 0x60, 0x2e, 0xb6, 0x00]
theorem ld_w90 : ld_win ld_D90 cL_law 1440 := ld_mk (n := 20) (by decide +kernel)
def ld_D91 : ByteArray := .mk #[0x60, 0x2e, 0xb6, 0x00, 0xa4, 0x57, 0x2c, 0x2a, 0x1d, 0x04, 0x60, 0x2e, 0xb6, 0x00, 0xa7, 0x57, 0xa7, 0x01, 0xda, 0x2b]
theorem ld_w91 : ld_win ld_D91 cL_law 1456 := ld_mk (n := 20) (by decide +kernel)
def ld_D92 : ByteArray := .mk #[0xa7, 0x01, 0xda, 0x2b, 0xb6, 0x00, 0xa8, 0x57, 0x2c, 0xb6, 0x00, 0xab, 0x57, 0xa7, 0x01, 0xcd, 0x2b, 0x2a, 0x1d, 0x04]
theorem ld_w92 : ld_win ld_D92 cL_law 1472 := ld_mk (n := 20) (by decide +kernel)
def ld_D93 : ByteArray := .mk #[0x2b, 0x2a, 0x1d, 0x04, 0x60, 0x2e, 0x2a, 0x1d, 0x05, 0x60, 0x2e, 0x2a, 0x1d, 0x06, 0x60, 0x2e, 0xb6, 0x00, 0xac, 0x57]
theorem ld_w93 : ld_win ld_D93 cL_law 1488 := ld_mk (n := 20) (by decide +kernel)
def ld_D94 : ByteArray := .mk #[0xb6, 0x00, 0xac, 0x57, 0x2c, 0x2a, 0x1d, 0x04, 0x60, 0x2e, 0x2a, 0x1d, 0x05, 0x60, 0x2e, 0x2a, 0x1d, 0x06, 0x60, 0x2e]
theorem ld_w94 : ld_win ld_D94 cL_law 1504 := ld_mk (n := 20) (by decide +kernel)
def ld_D95 : ByteArray := .mk #[0x1d, 0x06, 0x60, 0x2e, 0xb6, 0x00, 0xaf, 0x57, 0xa7, 0x01, 0xa2, 0x2b, 0x2a, 0x1d, 0x04, 0x60, 0x2e, 0x2a, 0x1d, 0x05]
theorem ld_w95 : ld_win ld_D95 cL_law 1520 := ld_mk (n := 20) (by decide +kernel)
def ld_D96 : ByteArray := .mk #[0x2e, 0x2a, 0x1d, 0x05, 0x60, 0x2e, 0xb6, 0x00, 0xb0, 0x57, 0x2c, 0x2a, 0x1d, 0x04, 0x60, 0x2e, 0x2a, 0x1d, 0x05, 0x60]
theorem ld_w96 : ld_win ld_D96 cL_law 1536 := ld_mk (n := 20) (by decide +kernel)
def ld_D97 : ByteArray := .mk #[0x2a, 0x1d, 0x05, 0x60, 0x2e, 0xb6, 0x00, 0xb3, 0x57, 0xa7, 0x01, 0x81, 0x2b, 0x2a, 0x1d, 0x04, 0x60, 0x2e, 0x2a, 0x1d]
theorem ld_w97 : ld_win ld_D97 cL_law 1552 := ld_mk (n := 20) (by decide +kernel)
def ld_D98 : ByteArray := .mk #[0x60, 0x2e, 0x2a, 0x1d, 0x05, 0x60, 0x2e, 0xb6, 0x00, 0xb4, 0x57, 0x2c, 0x2a, 0x1d, 0x04, 0x60, 0x2e, 0x2a, 0x1d, 0x05]
theorem ld_w98 : ld_win ld_D98 cL_law 1568 := ld_mk (n := 20) (by decide +kernel)
def ld_D99 : ByteArray := .mk #[0x2e, 0x2a, 0x1d, 0x05, 0x60, 0x2e, 0xb6, 0x00, 0xb7, 0x57, 0xa7, 0x01, 0x60, 0x2b, 0x2a, 0x1d, 0x04, 0x60, 0x2e, 0x2a]
theorem ld_w99 : ld_win ld_D99 cL_law 1584 := ld_mk (n := 20) (by decide +kernel)
def ld_D100 : ByteArray := .mk #[0x04, 0x60, 0x2e, 0x2a, 0x1d, 0x05, 0x60, 0x2e, 0xb6, 0x00, 0xb8, 0x57, 0x2c, 0x2a, 0x1d, 0x04, 0x60, 0x2e, 0x2a, 0x1d]
theorem ld_w100 : ld_win ld_D100 cL_law 1600 := ld_mk (n := 20) (by decide +kernel)
def ld_D101 : ByteArray := .mk #[0x60, 0x2e, 0x2a, 0x1d, 0x05, 0x60, 0x2e, 0xb6, 0x00, 0xbb, 0x57, 0xa7, 0x01, 0x3f, 0x2b, 0x2a, 0x1d, 0x04, 0x60, 0x2e]
theorem ld_w101 : ld_win ld_D101 cL_law 1616 := ld_mk (n := 20) (by decide +kernel)
def ld_D102 : ByteArray := .mk #[0x1d, 0x04, 0x60, 0x2e, 0x2a, 0x1d, 0x05, 0x60, 0x2e, 0xb6, 0x00, 0xbc, 0x57, 0x2c, 0x2a, 0x1d, 0x04, 0x60, 0x2e, 0x2a]
theorem ld_w102 : ld_win ld_D102 cL_law 1632 := ld_mk (n := 20) (by decide +kernel)
def ld_D103 : ByteArray := .mk #[0x04, 0x60, 0x2e, 0x2a, 0x1d, 0x05, 0x60, 0x2e, 0xb6, 0x00, 0xbf, 0x57, 0xa7, 0x01, 0x1e, 0x2b, 0x2a, 0x1d, 0x04, 0x60]
theorem ld_w103 : ld_win ld_D103 cL_law 1648 := ld_mk (n := 20) (by decide +kernel)
def ld_D104 : ByteArray := .mk #[0x2a, 0x1d, 0x04, 0x60, 0x2e, 0x2a, 0x1d, 0x05, 0x60, 0x2e, 0xb6, 0x00, 0xc0, 0x57, 0x2c, 0x2a, 0x1d, 0x04, 0x60, 0x2e]
theorem ld_w104 : ld_win ld_D104 cL_law 1664 := ld_mk (n := 20) (by decide +kernel)
def ld_D105 : ByteArray := .mk #[0x1d, 0x04, 0x60, 0x2e, 0x2a, 0x1d, 0x05, 0x60, 0x2e, 0xb6, 0x00, 0xc3, 0x57, 0xa7, 0x00, 0xfd, 0x2b, 0x2a, 0x1d, 0x04]
theorem ld_w105 : ld_win ld_D105 cL_law 1680 := ld_mk (n := 20) (by decide +kernel)
def ld_D106 : ByteArray := .mk #[0x2b, 0x2a, 0x1d, 0x04, 0x60, 0x2e, 0x2a, 0x1d, 0x05, 0x60, 0x2e, 0x2a, 0x1d, 0x06, 0x60, 0x2e, 0xb6, 0x00, 0xc4, 0x57]
theorem ld_w106 : ld_win ld_D106 cL_law 1696 := ld_mk (n := 20) (by decide +kernel)
def ld_D107 : ByteArray := .mk #[0xb6, 0x00, 0xc4, 0x57, 0x2c, 0x2a, 0x1d, 0x04, 0x60, 0x2e, 0x2a, 0x1d, 0x05, 0x60, 0x2e, 0x2a, 0x1d, 0x06, 0x60, 0x2e]
theorem ld_w107 : ld_win ld_D107 cL_law 1712 := ld_mk (n := 20) (by decide +kernel)
def ld_D108 : ByteArray := .mk #[0x1d, 0x06, 0x60, 0x2e, 0xb6, 0x00, 0xc7, 0x57, 0xa7, 0x00, 0xd2, 0x2b, 0x2a, 0x1d, 0x04, 0x60, 0x2e, 0xb6, 0x00, 0xc8]
theorem ld_w108 : ld_win ld_D108 cL_law 1728 := ld_mk (n := 20) (by decide +kernel)
def ld_D109 : ByteArray := .mk #[0x2e, 0xb6, 0x00, 0xc8, 0x57, 0x2c, 0x2a, 0x1d, 0x04, 0x60, 0x2e, 0xb6, 0x00, 0xcb, 0x57, 0xa7, 0x00, 0xbb, 0x2b, 0x2a]
theorem ld_w109 : ld_win ld_D109 cL_law 1744 := ld_mk (n := 20) (by decide +kernel)
def ld_D110 : ByteArray := .mk #[0x00, 0xbb, 0x2b, 0x2a, 0x1d, 0x04, 0x60, 0x2e, 0x2a, 0x1d, 0x05, 0x60, 0x2e, 0xb6, 0x00, 0xcc, 0x57, 0x2c, 0x2a, 0x1d]
theorem ld_w110 : ld_win ld_D110 cL_law 1760 := ld_mk (n := 20) (by decide +kernel)
def ld_D111 : ByteArray := .mk #[0x57, 0x2c, 0x2a, 0x1d, 0x04, 0x60, 0x2e, 0x2a, 0x1d, 0x05, 0x60, 0x2e, 0xb6, 0x00, 0xcf, 0x57, 0xa7, 0x00, 0x9a, 0x2b]
theorem ld_w111 : ld_win ld_D111 cL_law 1776 := ld_mk (n := 20) (by decide +kernel)
def ld_D112 : ByteArray := .mk #[0xa7, 0x00, 0x9a, 0x2b, 0x2a, 0x1d, 0x04, 0x60, 0x2e, 0xb6, 0x00, 0xd0, 0x57, 0x2c, 0x2a, 0x1d, 0x04, 0x60, 0x2e, 0xb6]
theorem ld_w112 : ld_win ld_D112 cL_law 1792 := ld_mk (n := 20) (by decide +kernel)
def ld_D113 : ByteArray := .mk #[0x04, 0x60, 0x2e, 0xb6, 0x00, 0xd3, 0x57, 0xa7, 0x00, 0x83, 0x2b, 0x2a, 0x1d, 0x04, 0x60, 0x2e, 0xb6, 0x00, 0xd4, 0x57]
theorem ld_w113 : ld_win ld_D113 cL_law 1808 := ld_mk (n := 20) (by decide +kernel)
def ld_D114 : ByteArray := .mk #[0xb6, 0x00, 0xd4, 0x57, 0x2c, 0x2a, 0x1d, 0x04, 0x60, 0x2e, 0xb6, 0x00, 0xd7, 0x57, 0xa7, 0x00, 0x6c, 0x2b, 0xb6, 0x00]
theorem ld_w114 : ld_win ld_D114 cL_law 1824 := ld_mk (n := 20) (by decide +kernel)
def ld_D115 : ByteArray := .mk #[0x6c, 0x2b, 0xb6, 0x00, 0xd8, 0x57, 0x2c, 0xb6, 0x00, 0xdb, 0x57, 0xa7, 0x00, 0x5f, 0x2b, 0x2a, 0x1d, 0x04, 0x60, 0x2e]
theorem ld_w115 : ld_win ld_D115 cL_law 1840 := ld_mk (n := 20) (by decide +kernel)
def ld_D116 : ByteArray := .mk #[0x1d, 0x04, 0x60, 0x2e, 0x2a, 0x1d, 0x05, 0x60, 0x2e, 0x2a, 0x1d, 0x06, 0x60, 0x2e, 0xb6, 0x00, 0xdc, 0x57, 0x2c, 0x2a]
theorem ld_w116 : ld_win ld_D116 cL_law 1856 := ld_mk (n := 20) (by decide +kernel)
def ld_D117 : ByteArray := .mk #[0xdc, 0x57, 0x2c, 0x2a, 0x1d, 0x04, 0x60, 0x2e, 0x2a, 0x1d, 0x05, 0x60, 0x2e, 0x2a, 0x1d, 0x06, 0x60, 0x2e, 0xb6, 0x00]
theorem ld_w117 : ld_win ld_D117 cL_law 1872 := ld_mk (n := 20) (by decide +kernel)
def ld_D118 : ByteArray := .mk #[0x60, 0x2e, 0xb6, 0x00, 0xdf, 0x57, 0xa7, 0x00, 0x34, 0x2b, 0xb6, 0x00, 0xe0, 0x57, 0x2c, 0xb6, 0x00, 0xe3, 0x57, 0xa7]
theorem ld_w118 : ld_win ld_D118 cL_law 1888 := ld_mk (n := 20) (by decide +kernel)
def ld_D119 : ByteArray := .mk #[0x00, 0xe3, 0x57, 0xa7, 0x00, 0x27, 0x2b, 0xb6, 0x00, 0xe4, 0x57, 0x2c, 0xb6, 0x00, 0xe7, 0x57, 0xa7, 0x00, 0x1a, 0x2b]
theorem ld_w119 : ld_win ld_D119 cL_law 1904 := ld_mk (n := 20) (by decide +kernel)
def ld_D120 : ByteArray := .mk #[0xa7, 0x00, 0x1a, 0x2b, 0x2a, 0x1d, 0x04, 0x60, 0x2e, 0xb6, 0x00, 0xe8, 0x57, 0x2c, 0x2a, 0x1d, 0x04, 0x60, 0x2e, 0xb6]
theorem ld_w120 : ld_win ld_D120 cL_law 1920 := ld_mk (n := 20) (by decide +kernel)
def ld_D121 : ByteArray := .mk #[0x04, 0x60, 0x2e, 0xb6, 0x00, 0xeb, 0x57, 0xa7, 0x00, 0x03, 0x84, 0x03, 0x06, 0xa7, 0xf8, 0x75, 0x04, 0xac]
theorem ld_w121 : ld_win ld_D121 cL_law 1936 := ld_mk (n := 18) (by decide +kernel)
def ld_D122 : ByteArray := .mk #[0x04, 0xac]
theorem ld_w122 : ld_win ld_D122 cL_law 1952 := ld_mk (n := 2) (by decide +kernel)
theorem dL_law_0 : decode cL_law 0 = .ok (.new 7, 3) := qz_2 .new 0 7 qo_187 (qa_w3 (off := 0) (k := 0) ld_w0 (by decide +kernel)) rfl
theorem dL_law_3 : decode cL_law 3 = .ok (.dup, 1) := qd_p qo_89 (qa_w (off := 0) (k := 3) ld_w0 (by decide +kernel))
theorem dL_law_4 : decode cL_law 4 = .ok (.invokespecial 9, 3) := qz_2 .invokespecial 0 9 qo_183 (qa_w3 (off := 0) (k := 4) ld_w0 (by decide +kernel)) rfl
theorem dL_law_7 : decode cL_law 7 = .ok (.astore_n 1, 1) := qd_p qo_76 (qa_w (off := 0) (k := 7) ld_w0 (by decide +kernel))
theorem dL_law_8 : decode cL_law 8 = .ok (.new 10, 3) := qz_2 .new 0 10 qo_187 (qa_w3 (off := 0) (k := 8) ld_w0 (by decide +kernel)) rfl
theorem dL_law_11 : decode cL_law 11 = .ok (.dup, 1) := qd_p qo_89 (qa_w (off := 0) (k := 11) ld_w0 (by decide +kernel))
theorem dL_law_12 : decode cL_law 12 = .ok (.invokespecial 12, 3) := qz_2 .invokespecial 0 12 qo_183 (qa_w3 (off := 0) (k := 12) ld_w0 (by decide +kernel)) rfl
theorem dL_law_15 : decode cL_law 15 = .ok (.astore_n 2, 1) := qd_p qo_77 (qa_w (off := 0) (k := 15) ld_w0 (by decide +kernel))
theorem dL_law_16 : decode cL_law 16 = .ok (.iconst 0, 1) := qd_p qo_3 (qa_w (off := 16) (k := 0) ld_w1 (by decide +kernel))
theorem dL_law_17 : decode cL_law 17 = .ok (.istore_n 3, 1) := qd_p qo_62 (qa_w (off := 16) (k := 1) ld_w1 (by decide +kernel))
theorem dL_law_18 : decode cL_law 18 = .ok (.iload_n 3, 1) := qd_p qo_29 (qa_w (off := 16) (k := 2) ld_w1 (by decide +kernel))
theorem dL_law_19 : decode cL_law 19 = .ok (.aload_n 0, 1) := qd_p qo_42 (qa_w (off := 16) (k := 3) ld_w1 (by decide +kernel))
theorem dL_law_20 : decode cL_law 20 = .ok (.arraylength, 1) := qd_p qo_190 (qa_w (off := 16) (k := 4) ld_w1 (by decide +kernel))
theorem dL_law_21 : decode cL_law 21 = .ok (.bipush 6, 2) := qz_s1 .bipush 6 qo_16 (qa_w2 (off := 16) (k := 5) ld_w1 (by decide +kernel)) rfl
theorem dL_law_23 : decode cL_law 23 = .ok (.isub, 1) := qd_p qo_100 (qa_w (off := 16) (k := 7) ld_w1 (by decide +kernel))
theorem dL_law_24 : decode cL_law 24 = .ok (.if_icmp .gt 1928, 3) := qz_s2 (.if_icmp .gt) 7 136 qo_163 (qa_w3 (off := 16) (k := 8) ld_w1 (by decide +kernel)) rfl
theorem dL_law_27 : decode cL_law 27 = .ok (.aload_n 0, 1) := qd_p qo_42 (qa_w (off := 16) (k := 11) ld_w1 (by decide +kernel))
theorem dL_law_28 : decode cL_law 28 = .ok (.iload_n 3, 1) := qd_p qo_29 (qa_w (off := 16) (k := 12) ld_w1 (by decide +kernel))
theorem dL_law_29 : decode cL_law 29 = .ok (.iaload, 1) := qd_p qo_46 (qa_w (off := 16) (k := 13) ld_w1 (by decide +kernel))
theorem dL_law_30 : decode cL_law 30 = .ok (.bipush 63, 2) := qz_s1 .bipush 63 qo_16 (qa_w2 (off := 16) (k := 14) ld_w1 (by decide +kernel)) rfl
theorem dL_law_32 : decode cL_law 32 = .ok (.iand, 1) := qd_p qo_126 (qa_w (off := 32) (k := 0) ld_w2 (by decide +kernel))
theorem dL_law_33 : decode cL_law 33 = .ok (.tableswitch 1913 0 53 #[231, 254, 267, 300, 333, 356, 389, 442, 475, 508, 541, 564, 587, 600, 643, 676, 719, 742, 775, 798, 831, 874, 917, 970, 1003, 1016, 1039, 1082, 1125, 1178, 1191, 1234, 1297, 1320, 1353, 1376, 1419, 1442, 1455, 1498, 1531, 1564, 1597, 1630, 1663, 1706, 1729, 1762, 1785, 1808, 1821, 1864, 1877, 1890], 231) := by decide +kernel
theorem dL_law_264 : decode cL_law 264 = .ok (.aload_n 1, 1) := qd_p qo_43 (qa_w (off := 256) (k := 8) ld_w16 (by decide +kernel))
theorem dL_law_265 : decode cL_law 265 = .ok (.aload_n 0, 1) := qd_p qo_42 (qa_w (off := 256) (k := 9) ld_w16 (by decide +kernel))
theorem dL_law_266 : decode cL_law 266 = .ok (.iload_n 3, 1) := qd_p qo_29 (qa_w (off := 256) (k := 10) ld_w16 (by decide +kernel))
theorem dL_law_267 : decode cL_law 267 = .ok (.iconst 1, 1) := qd_p qo_4 (qa_w (off := 256) (k := 11) ld_w16 (by decide +kernel))
theorem dL_law_268 : decode cL_law 268 = .ok (.iadd, 1) := qd_p qo_96 (qa_w (off := 256) (k := 12) ld_w16 (by decide +kernel))
theorem dL_law_269 : decode cL_law 269 = .ok (.iaload, 1) := qd_p qo_46 (qa_w (off := 256) (k := 13) ld_w16 (by decide +kernel))
theorem dL_law_270 : decode cL_law 270 = .ok (.invokevirtual 13, 3) := qz_2 .invokevirtual 0 13 qo_182 (qa_w3 (off := 256) (k := 14) ld_w16 (by decide +kernel)) rfl
theorem dL_law_273 : decode cL_law 273 = .ok (.pop, 1) := qd_p qo_87 (qa_w (off := 272) (k := 1) ld_w17 (by decide +kernel))
theorem dL_law_274 : decode cL_law 274 = .ok (.aload_n 2, 1) := qd_p qo_44 (qa_w (off := 272) (k := 2) ld_w17 (by decide +kernel))
theorem dL_law_275 : decode cL_law 275 = .ok (.aload_n 0, 1) := qd_p qo_42 (qa_w (off := 272) (k := 3) ld_w17 (by decide +kernel))
theorem dL_law_276 : decode cL_law 276 = .ok (.iload_n 3, 1) := qd_p qo_29 (qa_w (off := 272) (k := 4) ld_w17 (by decide +kernel))
theorem dL_law_277 : decode cL_law 277 = .ok (.iconst 1, 1) := qd_p qo_4 (qa_w (off := 272) (k := 5) ld_w17 (by decide +kernel))
theorem dL_law_278 : decode cL_law 278 = .ok (.iadd, 1) := qd_p qo_96 (qa_w (off := 272) (k := 6) ld_w17 (by decide +kernel))
theorem dL_law_279 : decode cL_law 279 = .ok (.iaload, 1) := qd_p qo_46 (qa_w (off := 272) (k := 7) ld_w17 (by decide +kernel))
theorem dL_law_280 : decode cL_law 280 = .ok (.invokevirtual 17, 3) := qz_2 .invokevirtual 0 17 qo_182 (qa_w3 (off := 272) (k := 8) ld_w17 (by decide +kernel)) rfl
theorem dL_law_283 : decode cL_law 283 = .ok (.pop, 1) := qd_p qo_87 (qa_w (off := 272) (k := 11) ld_w17 (by decide +kernel))
theorem dL_law_284 : decode cL_law 284 = .ok (.goto 1662, 3) := qz_s2 .goto 6 126 qo_167 (qa_w3 (off := 272) (k := 12) ld_w17 (by decide +kernel)) rfl
theorem dL_law_287 : decode cL_law 287 = .ok (.aload_n 1, 1) := qd_p qo_43 (qa_w (off := 272) (k := 15) ld_w17 (by decide +kernel))
theorem dL_law_288 : decode cL_law 288 = .ok (.invokevirtual 18, 3) := qz_2 .invokevirtual 0 18 qo_182 (qa_w3 (off := 288) (k := 0) ld_w18 (by decide +kernel)) rfl
theorem dL_law_291 : decode cL_law 291 = .ok (.pop, 1) := qd_p qo_87 (qa_w (off := 288) (k := 3) ld_w18 (by decide +kernel))
theorem dL_law_292 : decode cL_law 292 = .ok (.aload_n 2, 1) := qd_p qo_44 (qa_w (off := 288) (k := 4) ld_w18 (by decide +kernel))
theorem dL_law_293 : decode cL_law 293 = .ok (.invokevirtual 22, 3) := qz_2 .invokevirtual 0 22 qo_182 (qa_w3 (off := 288) (k := 5) ld_w18 (by decide +kernel)) rfl
theorem dL_law_296 : decode cL_law 296 = .ok (.pop, 1) := qd_p qo_87 (qa_w (off := 288) (k := 8) ld_w18 (by decide +kernel))
theorem dL_law_297 : decode cL_law 297 = .ok (.goto 1649, 3) := qz_s2 .goto 6 113 qo_167 (qa_w3 (off := 288) (k := 9) ld_w18 (by decide +kernel)) rfl
theorem dL_law_300 : decode cL_law 300 = .ok (.aload_n 1, 1) := qd_p qo_43 (qa_w (off := 288) (k := 12) ld_w18 (by decide +kernel))
theorem dL_law_301 : decode cL_law 301 = .ok (.aload_n 0, 1) := qd_p qo_42 (qa_w (off := 288) (k := 13) ld_w18 (by decide +kernel))
theorem dL_law_302 : decode cL_law 302 = .ok (.iload_n 3, 1) := qd_p qo_29 (qa_w (off := 288) (k := 14) ld_w18 (by decide +kernel))
theorem dL_law_303 : decode cL_law 303 = .ok (.iconst 1, 1) := qd_p qo_4 (qa_w (off := 288) (k := 15) ld_w18 (by decide +kernel))
theorem dL_law_304 : decode cL_law 304 = .ok (.iadd, 1) := qd_p qo_96 (qa_w (off := 304) (k := 0) ld_w19 (by decide +kernel))
theorem dL_law_305 : decode cL_law 305 = .ok (.iaload, 1) := qd_p qo_46 (qa_w (off := 304) (k := 1) ld_w19 (by decide +kernel))
theorem dL_law_306 : decode cL_law 306 = .ok (.aload_n 0, 1) := qd_p qo_42 (qa_w (off := 304) (k := 2) ld_w19 (by decide +kernel))
theorem dL_law_307 : decode cL_law 307 = .ok (.iload_n 3, 1) := qd_p qo_29 (qa_w (off := 304) (k := 3) ld_w19 (by decide +kernel))
theorem dL_law_308 : decode cL_law 308 = .ok (.iconst 2, 1) := qd_p qo_5 (qa_w (off := 304) (k := 4) ld_w19 (by decide +kernel))
theorem dL_law_309 : decode cL_law 309 = .ok (.iadd, 1) := qd_p qo_96 (qa_w (off := 304) (k := 5) ld_w19 (by decide +kernel))
theorem dL_law_310 : decode cL_law 310 = .ok (.iaload, 1) := qd_p qo_46 (qa_w (off := 304) (k := 6) ld_w19 (by decide +kernel))
theorem dL_law_311 : decode cL_law 311 = .ok (.invokevirtual 23, 3) := qz_2 .invokevirtual 0 23 qo_182 (qa_w3 (off := 304) (k := 7) ld_w19 (by decide +kernel)) rfl
theorem dL_law_314 : decode cL_law 314 = .ok (.pop, 1) := qd_p qo_87 (qa_w (off := 304) (k := 10) ld_w19 (by decide +kernel))
theorem dL_law_315 : decode cL_law 315 = .ok (.aload_n 2, 1) := qd_p qo_44 (qa_w (off := 304) (k := 11) ld_w19 (by decide +kernel))
theorem dL_law_316 : decode cL_law 316 = .ok (.aload_n 0, 1) := qd_p qo_42 (qa_w (off := 304) (k := 12) ld_w19 (by decide +kernel))
theorem dL_law_317 : decode cL_law 317 = .ok (.iload_n 3, 1) := qd_p qo_29 (qa_w (off := 304) (k := 13) ld_w19 (by decide +kernel))
theorem dL_law_318 : decode cL_law 318 = .ok (.iconst 1, 1) := qd_p qo_4 (qa_w (off := 304) (k := 14) ld_w19 (by decide +kernel))
theorem dL_law_319 : decode cL_law 319 = .ok (.iadd, 1) := qd_p qo_96 (qa_w (off := 304) (k := 15) ld_w19 (by decide +kernel))
theorem dL_law_320 : decode cL_law 320 = .ok (.iaload, 1) := qd_p qo_46 (qa_w (off := 320) (k := 0) ld_w20 (by decide +kernel))
theorem dL_law_321 : decode cL_law 321 = .ok (.aload_n 0, 1) := qd_p qo_42 (qa_w (off := 320) (k := 1) ld_w20 (by decide +kernel))
theorem dL_law_322 : decode cL_law 322 = .ok (.iload_n 3, 1) := qd_p qo_29 (qa_w (off := 320) (k := 2) ld_w20 (by decide +kernel))
theorem dL_law_323 : decode cL_law 323 = .ok (.iconst 2, 1) := qd_p qo_5 (qa_w (off := 320) (k := 3) ld_w20 (by decide +kernel))
theorem dL_law_324 : decode cL_law 324 = .ok (.iadd, 1) := qd_p qo_96 (qa_w (off := 320) (k := 4) ld_w20 (by decide +kernel))
theorem dL_law_325 : decode cL_law 325 = .ok (.iaload, 1) := qd_p qo_46 (qa_w (off := 320) (k := 5) ld_w20 (by decide +kernel))
theorem dL_law_326 : decode cL_law 326 = .ok (.invokevirtual 27, 3) := qz_2 .invokevirtual 0 27 qo_182 (qa_w3 (off := 320) (k := 6) ld_w20 (by decide +kernel)) rfl
theorem dL_law_329 : decode cL_law 329 = .ok (.pop, 1) := qd_p qo_87 (qa_w (off := 320) (k := 9) ld_w20 (by decide +kernel))
theorem dL_law_330 : decode cL_law 330 = .ok (.goto 1616, 3) := qz_s2 .goto 6 80 qo_167 (qa_w3 (off := 320) (k := 10) ld_w20 (by decide +kernel)) rfl
theorem dL_law_333 : decode cL_law 333 = .ok (.aload_n 1, 1) := qd_p qo_43 (qa_w (off := 320) (k := 13) ld_w20 (by decide +kernel))
theorem dL_law_334 : decode cL_law 334 = .ok (.aload_n 0, 1) := qd_p qo_42 (qa_w (off := 320) (k := 14) ld_w20 (by decide +kernel))
theorem dL_law_335 : decode cL_law 335 = .ok (.iload_n 3, 1) := qd_p qo_29 (qa_w (off := 320) (k := 15) ld_w20 (by decide +kernel))
theorem dL_law_336 : decode cL_law 336 = .ok (.iconst 1, 1) := qd_p qo_4 (qa_w (off := 336) (k := 0) ld_w21 (by decide +kernel))
theorem dL_law_337 : decode cL_law 337 = .ok (.iadd, 1) := qd_p qo_96 (qa_w (off := 336) (k := 1) ld_w21 (by decide +kernel))
theorem dL_law_338 : decode cL_law 338 = .ok (.iaload, 1) := qd_p qo_46 (qa_w (off := 336) (k := 2) ld_w21 (by decide +kernel))
theorem dL_law_339 : decode cL_law 339 = .ok (.aload_n 0, 1) := qd_p qo_42 (qa_w (off := 336) (k := 3) ld_w21 (by decide +kernel))
theorem dL_law_340 : decode cL_law 340 = .ok (.iload_n 3, 1) := qd_p qo_29 (qa_w (off := 336) (k := 4) ld_w21 (by decide +kernel))
theorem dL_law_341 : decode cL_law 341 = .ok (.iconst 2, 1) := qd_p qo_5 (qa_w (off := 336) (k := 5) ld_w21 (by decide +kernel))
theorem dL_law_342 : decode cL_law 342 = .ok (.iadd, 1) := qd_p qo_96 (qa_w (off := 336) (k := 6) ld_w21 (by decide +kernel))
theorem dL_law_343 : decode cL_law 343 = .ok (.iaload, 1) := qd_p qo_46 (qa_w (off := 336) (k := 7) ld_w21 (by decide +kernel))
theorem dL_law_344 : decode cL_law 344 = .ok (.invokevirtual 28, 3) := qz_2 .invokevirtual 0 28 qo_182 (qa_w3 (off := 336) (k := 8) ld_w21 (by decide +kernel)) rfl
theorem dL_law_347 : decode cL_law 347 = .ok (.pop, 1) := qd_p qo_87 (qa_w (off := 336) (k := 11) ld_w21 (by decide +kernel))
theorem dL_law_348 : decode cL_law 348 = .ok (.aload_n 2, 1) := qd_p qo_44 (qa_w (off := 336) (k := 12) ld_w21 (by decide +kernel))
theorem dL_law_349 : decode cL_law 349 = .ok (.aload_n 0, 1) := qd_p qo_42 (qa_w (off := 336) (k := 13) ld_w21 (by decide +kernel))
theorem dL_law_350 : decode cL_law 350 = .ok (.iload_n 3, 1) := qd_p qo_29 (qa_w (off := 336) (k := 14) ld_w21 (by decide +kernel))
theorem dL_law_351 : decode cL_law 351 = .ok (.iconst 1, 1) := qd_p qo_4 (qa_w (off := 336) (k := 15) ld_w21 (by decide +kernel))
theorem dL_law_352 : decode cL_law 352 = .ok (.iadd, 1) := qd_p qo_96 (qa_w (off := 352) (k := 0) ld_w22 (by decide +kernel))
theorem dL_law_353 : decode cL_law 353 = .ok (.iaload, 1) := qd_p qo_46 (qa_w (off := 352) (k := 1) ld_w22 (by decide +kernel))
theorem dL_law_354 : decode cL_law 354 = .ok (.aload_n 0, 1) := qd_p qo_42 (qa_w (off := 352) (k := 2) ld_w22 (by decide +kernel))
theorem dL_law_355 : decode cL_law 355 = .ok (.iload_n 3, 1) := qd_p qo_29 (qa_w (off := 352) (k := 3) ld_w22 (by decide +kernel))
theorem dL_law_356 : decode cL_law 356 = .ok (.iconst 2, 1) := qd_p qo_5 (qa_w (off := 352) (k := 4) ld_w22 (by decide +kernel))
theorem dL_law_357 : decode cL_law 357 = .ok (.iadd, 1) := qd_p qo_96 (qa_w (off := 352) (k := 5) ld_w22 (by decide +kernel))
theorem dL_law_358 : decode cL_law 358 = .ok (.iaload, 1) := qd_p qo_46 (qa_w (off := 352) (k := 6) ld_w22 (by decide +kernel))
theorem dL_law_359 : decode cL_law 359 = .ok (.invokevirtual 31, 3) := qz_2 .invokevirtual 0 31 qo_182 (qa_w3 (off := 352) (k := 7) ld_w22 (by decide +kernel)) rfl
theorem dL_law_362 : decode cL_law 362 = .ok (.pop, 1) := qd_p qo_87 (qa_w (off := 352) (k := 10) ld_w22 (by decide +kernel))
theorem dL_law_363 : decode cL_law 363 = .ok (.goto 1583, 3) := qz_s2 .goto 6 47 qo_167 (qa_w3 (off := 352) (k := 11) ld_w22 (by decide +kernel)) rfl
theorem dL_law_366 : decode cL_law 366 = .ok (.aload_n 1, 1) := qd_p qo_43 (qa_w (off := 352) (k := 14) ld_w22 (by decide +kernel))
theorem dL_law_367 : decode cL_law 367 = .ok (.aload_n 0, 1) := qd_p qo_42 (qa_w (off := 352) (k := 15) ld_w22 (by decide +kernel))
theorem dL_law_368 : decode cL_law 368 = .ok (.iload_n 3, 1) := qd_p qo_29 (qa_w (off := 368) (k := 0) ld_w23 (by decide +kernel))
theorem dL_law_369 : decode cL_law 369 = .ok (.iconst 1, 1) := qd_p qo_4 (qa_w (off := 368) (k := 1) ld_w23 (by decide +kernel))
theorem dL_law_370 : decode cL_law 370 = .ok (.iadd, 1) := qd_p qo_96 (qa_w (off := 368) (k := 2) ld_w23 (by decide +kernel))
theorem dL_law_371 : decode cL_law 371 = .ok (.iaload, 1) := qd_p qo_46 (qa_w (off := 368) (k := 3) ld_w23 (by decide +kernel))
theorem dL_law_372 : decode cL_law 372 = .ok (.invokevirtual 32, 3) := qz_2 .invokevirtual 0 32 qo_182 (qa_w3 (off := 368) (k := 4) ld_w23 (by decide +kernel)) rfl
theorem dL_law_375 : decode cL_law 375 = .ok (.pop, 1) := qd_p qo_87 (qa_w (off := 368) (k := 7) ld_w23 (by decide +kernel))
theorem dL_law_376 : decode cL_law 376 = .ok (.aload_n 2, 1) := qd_p qo_44 (qa_w (off := 368) (k := 8) ld_w23 (by decide +kernel))
theorem dL_law_377 : decode cL_law 377 = .ok (.aload_n 0, 1) := qd_p qo_42 (qa_w (off := 368) (k := 9) ld_w23 (by decide +kernel))
theorem dL_law_378 : decode cL_law 378 = .ok (.iload_n 3, 1) := qd_p qo_29 (qa_w (off := 368) (k := 10) ld_w23 (by decide +kernel))
theorem dL_law_379 : decode cL_law 379 = .ok (.iconst 1, 1) := qd_p qo_4 (qa_w (off := 368) (k := 11) ld_w23 (by decide +kernel))
theorem dL_law_380 : decode cL_law 380 = .ok (.iadd, 1) := qd_p qo_96 (qa_w (off := 368) (k := 12) ld_w23 (by decide +kernel))
theorem dL_law_381 : decode cL_law 381 = .ok (.iaload, 1) := qd_p qo_46 (qa_w (off := 368) (k := 13) ld_w23 (by decide +kernel))
theorem dL_law_382 : decode cL_law 382 = .ok (.invokevirtual 35, 3) := qz_2 .invokevirtual 0 35 qo_182 (qa_w3 (off := 368) (k := 14) ld_w23 (by decide +kernel)) rfl
theorem dL_law_385 : decode cL_law 385 = .ok (.pop, 1) := qd_p qo_87 (qa_w (off := 384) (k := 1) ld_w24 (by decide +kernel))
theorem dL_law_386 : decode cL_law 386 = .ok (.goto 1560, 3) := qz_s2 .goto 6 24 qo_167 (qa_w3 (off := 384) (k := 2) ld_w24 (by decide +kernel)) rfl
theorem dL_law_389 : decode cL_law 389 = .ok (.aload_n 1, 1) := qd_p qo_43 (qa_w (off := 384) (k := 5) ld_w24 (by decide +kernel))
theorem dL_law_390 : decode cL_law 390 = .ok (.aload_n 0, 1) := qd_p qo_42 (qa_w (off := 384) (k := 6) ld_w24 (by decide +kernel))
theorem dL_law_391 : decode cL_law 391 = .ok (.iload_n 3, 1) := qd_p qo_29 (qa_w (off := 384) (k := 7) ld_w24 (by decide +kernel))
theorem dL_law_392 : decode cL_law 392 = .ok (.iconst 1, 1) := qd_p qo_4 (qa_w (off := 384) (k := 8) ld_w24 (by decide +kernel))
theorem dL_law_393 : decode cL_law 393 = .ok (.iadd, 1) := qd_p qo_96 (qa_w (off := 384) (k := 9) ld_w24 (by decide +kernel))
theorem dL_law_394 : decode cL_law 394 = .ok (.iaload, 1) := qd_p qo_46 (qa_w (off := 384) (k := 10) ld_w24 (by decide +kernel))
theorem dL_law_395 : decode cL_law 395 = .ok (.aload_n 0, 1) := qd_p qo_42 (qa_w (off := 384) (k := 11) ld_w24 (by decide +kernel))
theorem dL_law_396 : decode cL_law 396 = .ok (.iload_n 3, 1) := qd_p qo_29 (qa_w (off := 384) (k := 12) ld_w24 (by decide +kernel))
theorem dL_law_397 : decode cL_law 397 = .ok (.iconst 2, 1) := qd_p qo_5 (qa_w (off := 384) (k := 13) ld_w24 (by decide +kernel))
theorem dL_law_398 : decode cL_law 398 = .ok (.iadd, 1) := qd_p qo_96 (qa_w (off := 384) (k := 14) ld_w24 (by decide +kernel))
theorem dL_law_399 : decode cL_law 399 = .ok (.iaload, 1) := qd_p qo_46 (qa_w (off := 384) (k := 15) ld_w24 (by decide +kernel))
theorem dL_law_400 : decode cL_law 400 = .ok (.invokevirtual 36, 3) := qz_2 .invokevirtual 0 36 qo_182 (qa_w3 (off := 400) (k := 0) ld_w25 (by decide +kernel)) rfl
theorem dL_law_403 : decode cL_law 403 = .ok (.pop, 1) := qd_p qo_87 (qa_w (off := 400) (k := 3) ld_w25 (by decide +kernel))
theorem dL_law_404 : decode cL_law 404 = .ok (.aload_n 2, 1) := qd_p qo_44 (qa_w (off := 400) (k := 4) ld_w25 (by decide +kernel))
theorem dL_law_405 : decode cL_law 405 = .ok (.aload_n 0, 1) := qd_p qo_42 (qa_w (off := 400) (k := 5) ld_w25 (by decide +kernel))
theorem dL_law_406 : decode cL_law 406 = .ok (.iload_n 3, 1) := qd_p qo_29 (qa_w (off := 400) (k := 6) ld_w25 (by decide +kernel))
theorem dL_law_407 : decode cL_law 407 = .ok (.iconst 1, 1) := qd_p qo_4 (qa_w (off := 400) (k := 7) ld_w25 (by decide +kernel))
theorem dL_law_408 : decode cL_law 408 = .ok (.iadd, 1) := qd_p qo_96 (qa_w (off := 400) (k := 8) ld_w25 (by decide +kernel))
theorem dL_law_409 : decode cL_law 409 = .ok (.iaload, 1) := qd_p qo_46 (qa_w (off := 400) (k := 9) ld_w25 (by decide +kernel))
theorem dL_law_410 : decode cL_law 410 = .ok (.aload_n 0, 1) := qd_p qo_42 (qa_w (off := 400) (k := 10) ld_w25 (by decide +kernel))
theorem dL_law_411 : decode cL_law 411 = .ok (.iload_n 3, 1) := qd_p qo_29 (qa_w (off := 400) (k := 11) ld_w25 (by decide +kernel))
theorem dL_law_412 : decode cL_law 412 = .ok (.iconst 2, 1) := qd_p qo_5 (qa_w (off := 400) (k := 12) ld_w25 (by decide +kernel))
theorem dL_law_413 : decode cL_law 413 = .ok (.iadd, 1) := qd_p qo_96 (qa_w (off := 400) (k := 13) ld_w25 (by decide +kernel))
theorem dL_law_414 : decode cL_law 414 = .ok (.iaload, 1) := qd_p qo_46 (qa_w (off := 400) (k := 14) ld_w25 (by decide +kernel))
theorem dL_law_415 : decode cL_law 415 = .ok (.invokevirtual 39, 3) := qz_2 .invokevirtual 0 39 qo_182 (qa_w3 (off := 400) (k := 15) ld_w25 (by decide +kernel)) rfl
theorem dL_law_418 : decode cL_law 418 = .ok (.pop, 1) := qd_p qo_87 (qa_w (off := 416) (k := 2) ld_w26 (by decide +kernel))
theorem dL_law_419 : decode cL_law 419 = .ok (.goto 1527, 3) := qz_s2 .goto 5 247 qo_167 (qa_w3 (off := 416) (k := 3) ld_w26 (by decide +kernel)) rfl
theorem dL_law_422 : decode cL_law 422 = .ok (.aload_n 1, 1) := qd_p qo_43 (qa_w (off := 416) (k := 6) ld_w26 (by decide +kernel))
theorem dL_law_423 : decode cL_law 423 = .ok (.aload_n 0, 1) := qd_p qo_42 (qa_w (off := 416) (k := 7) ld_w26 (by decide +kernel))
theorem dL_law_424 : decode cL_law 424 = .ok (.iload_n 3, 1) := qd_p qo_29 (qa_w (off := 416) (k := 8) ld_w26 (by decide +kernel))
theorem dL_law_425 : decode cL_law 425 = .ok (.iconst 1, 1) := qd_p qo_4 (qa_w (off := 416) (k := 9) ld_w26 (by decide +kernel))
theorem dL_law_426 : decode cL_law 426 = .ok (.iadd, 1) := qd_p qo_96 (qa_w (off := 416) (k := 10) ld_w26 (by decide +kernel))
theorem dL_law_427 : decode cL_law 427 = .ok (.iaload, 1) := qd_p qo_46 (qa_w (off := 416) (k := 11) ld_w26 (by decide +kernel))
theorem dL_law_428 : decode cL_law 428 = .ok (.aload_n 0, 1) := qd_p qo_42 (qa_w (off := 416) (k := 12) ld_w26 (by decide +kernel))
theorem dL_law_429 : decode cL_law 429 = .ok (.iload_n 3, 1) := qd_p qo_29 (qa_w (off := 416) (k := 13) ld_w26 (by decide +kernel))
theorem dL_law_430 : decode cL_law 430 = .ok (.iconst 2, 1) := qd_p qo_5 (qa_w (off := 416) (k := 14) ld_w26 (by decide +kernel))
theorem dL_law_431 : decode cL_law 431 = .ok (.iadd, 1) := qd_p qo_96 (qa_w (off := 416) (k := 15) ld_w26 (by decide +kernel))
theorem dL_law_432 : decode cL_law 432 = .ok (.iaload, 1) := qd_p qo_46 (qa_w (off := 432) (k := 0) ld_w27 (by decide +kernel))
theorem dL_law_433 : decode cL_law 433 = .ok (.aload_n 0, 1) := qd_p qo_42 (qa_w (off := 432) (k := 1) ld_w27 (by decide +kernel))
theorem dL_law_434 : decode cL_law 434 = .ok (.iload_n 3, 1) := qd_p qo_29 (qa_w (off := 432) (k := 2) ld_w27 (by decide +kernel))
theorem dL_law_435 : decode cL_law 435 = .ok (.iconst 3, 1) := qd_p qo_6 (qa_w (off := 432) (k := 3) ld_w27 (by decide +kernel))
theorem dL_law_436 : decode cL_law 436 = .ok (.iadd, 1) := qd_p qo_96 (qa_w (off := 432) (k := 4) ld_w27 (by decide +kernel))
theorem dL_law_437 : decode cL_law 437 = .ok (.iaload, 1) := qd_p qo_46 (qa_w (off := 432) (k := 5) ld_w27 (by decide +kernel))
theorem dL_law_438 : decode cL_law 438 = .ok (.aload_n 0, 1) := qd_p qo_42 (qa_w (off := 432) (k := 6) ld_w27 (by decide +kernel))
theorem dL_law_439 : decode cL_law 439 = .ok (.iload_n 3, 1) := qd_p qo_29 (qa_w (off := 432) (k := 7) ld_w27 (by decide +kernel))
theorem dL_law_440 : decode cL_law 440 = .ok (.iconst 4, 1) := qd_p qo_7 (qa_w (off := 432) (k := 8) ld_w27 (by decide +kernel))
theorem dL_law_441 : decode cL_law 441 = .ok (.iadd, 1) := qd_p qo_96 (qa_w (off := 432) (k := 9) ld_w27 (by decide +kernel))
theorem dL_law_442 : decode cL_law 442 = .ok (.iaload, 1) := qd_p qo_46 (qa_w (off := 432) (k := 10) ld_w27 (by decide +kernel))
theorem dL_law_443 : decode cL_law 443 = .ok (.invokevirtual 40, 3) := qz_2 .invokevirtual 0 40 qo_182 (qa_w3 (off := 432) (k := 11) ld_w27 (by decide +kernel)) rfl
theorem dL_law_446 : decode cL_law 446 = .ok (.pop, 1) := qd_p qo_87 (qa_w (off := 432) (k := 14) ld_w27 (by decide +kernel))
theorem dL_law_447 : decode cL_law 447 = .ok (.aload_n 2, 1) := qd_p qo_44 (qa_w (off := 432) (k := 15) ld_w27 (by decide +kernel))
theorem dL_law_448 : decode cL_law 448 = .ok (.aload_n 0, 1) := qd_p qo_42 (qa_w (off := 448) (k := 0) ld_w28 (by decide +kernel))
theorem dL_law_449 : decode cL_law 449 = .ok (.iload_n 3, 1) := qd_p qo_29 (qa_w (off := 448) (k := 1) ld_w28 (by decide +kernel))
theorem dL_law_450 : decode cL_law 450 = .ok (.iconst 1, 1) := qd_p qo_4 (qa_w (off := 448) (k := 2) ld_w28 (by decide +kernel))
theorem dL_law_451 : decode cL_law 451 = .ok (.iadd, 1) := qd_p qo_96 (qa_w (off := 448) (k := 3) ld_w28 (by decide +kernel))
theorem dL_law_452 : decode cL_law 452 = .ok (.iaload, 1) := qd_p qo_46 (qa_w (off := 448) (k := 4) ld_w28 (by decide +kernel))
theorem dL_law_453 : decode cL_law 453 = .ok (.aload_n 0, 1) := qd_p qo_42 (qa_w (off := 448) (k := 5) ld_w28 (by decide +kernel))
theorem dL_law_454 : decode cL_law 454 = .ok (.iload_n 3, 1) := qd_p qo_29 (qa_w (off := 448) (k := 6) ld_w28 (by decide +kernel))
theorem dL_law_455 : decode cL_law 455 = .ok (.iconst 2, 1) := qd_p qo_5 (qa_w (off := 448) (k := 7) ld_w28 (by decide +kernel))
theorem dL_law_456 : decode cL_law 456 = .ok (.iadd, 1) := qd_p qo_96 (qa_w (off := 448) (k := 8) ld_w28 (by decide +kernel))
theorem dL_law_457 : decode cL_law 457 = .ok (.iaload, 1) := qd_p qo_46 (qa_w (off := 448) (k := 9) ld_w28 (by decide +kernel))
theorem dL_law_458 : decode cL_law 458 = .ok (.aload_n 0, 1) := qd_p qo_42 (qa_w (off := 448) (k := 10) ld_w28 (by decide +kernel))
theorem dL_law_459 : decode cL_law 459 = .ok (.iload_n 3, 1) := qd_p qo_29 (qa_w (off := 448) (k := 11) ld_w28 (by decide +kernel))
theorem dL_law_460 : decode cL_law 460 = .ok (.iconst 3, 1) := qd_p qo_6 (qa_w (off := 448) (k := 12) ld_w28 (by decide +kernel))
theorem dL_law_461 : decode cL_law 461 = .ok (.iadd, 1) := qd_p qo_96 (qa_w (off := 448) (k := 13) ld_w28 (by decide +kernel))
theorem dL_law_462 : decode cL_law 462 = .ok (.iaload, 1) := qd_p qo_46 (qa_w (off := 448) (k := 14) ld_w28 (by decide +kernel))
theorem dL_law_463 : decode cL_law 463 = .ok (.aload_n 0, 1) := qd_p qo_42 (qa_w (off := 448) (k := 15) ld_w28 (by decide +kernel))
theorem dL_law_464 : decode cL_law 464 = .ok (.iload_n 3, 1) := qd_p qo_29 (qa_w (off := 464) (k := 0) ld_w29 (by decide +kernel))
theorem dL_law_465 : decode cL_law 465 = .ok (.iconst 4, 1) := qd_p qo_7 (qa_w (off := 464) (k := 1) ld_w29 (by decide +kernel))
theorem dL_law_466 : decode cL_law 466 = .ok (.iadd, 1) := qd_p qo_96 (qa_w (off := 464) (k := 2) ld_w29 (by decide +kernel))
theorem dL_law_467 : decode cL_law 467 = .ok (.iaload, 1) := qd_p qo_46 (qa_w (off := 464) (k := 3) ld_w29 (by decide +kernel))
theorem dL_law_468 : decode cL_law 468 = .ok (.invokevirtual 44, 3) := qz_2 .invokevirtual 0 44 qo_182 (qa_w3 (off := 464) (k := 4) ld_w29 (by decide +kernel)) rfl
theorem dL_law_471 : decode cL_law 471 = .ok (.pop, 1) := qd_p qo_87 (qa_w (off := 464) (k := 7) ld_w29 (by decide +kernel))
theorem dL_law_472 : decode cL_law 472 = .ok (.goto 1474, 3) := qz_s2 .goto 5 194 qo_167 (qa_w3 (off := 464) (k := 8) ld_w29 (by decide +kernel)) rfl
theorem dL_law_475 : decode cL_law 475 = .ok (.aload_n 1, 1) := qd_p qo_43 (qa_w (off := 464) (k := 11) ld_w29 (by decide +kernel))
theorem dL_law_476 : decode cL_law 476 = .ok (.aload_n 0, 1) := qd_p qo_42 (qa_w (off := 464) (k := 12) ld_w29 (by decide +kernel))
theorem dL_law_477 : decode cL_law 477 = .ok (.iload_n 3, 1) := qd_p qo_29 (qa_w (off := 464) (k := 13) ld_w29 (by decide +kernel))
theorem dL_law_478 : decode cL_law 478 = .ok (.iconst 1, 1) := qd_p qo_4 (qa_w (off := 464) (k := 14) ld_w29 (by decide +kernel))
theorem dL_law_479 : decode cL_law 479 = .ok (.iadd, 1) := qd_p qo_96 (qa_w (off := 464) (k := 15) ld_w29 (by decide +kernel))
theorem dL_law_480 : decode cL_law 480 = .ok (.iaload, 1) := qd_p qo_46 (qa_w (off := 480) (k := 0) ld_w30 (by decide +kernel))
theorem dL_law_481 : decode cL_law 481 = .ok (.aload_n 0, 1) := qd_p qo_42 (qa_w (off := 480) (k := 1) ld_w30 (by decide +kernel))
theorem dL_law_482 : decode cL_law 482 = .ok (.iload_n 3, 1) := qd_p qo_29 (qa_w (off := 480) (k := 2) ld_w30 (by decide +kernel))
theorem dL_law_483 : decode cL_law 483 = .ok (.iconst 2, 1) := qd_p qo_5 (qa_w (off := 480) (k := 3) ld_w30 (by decide +kernel))
theorem dL_law_484 : decode cL_law 484 = .ok (.iadd, 1) := qd_p qo_96 (qa_w (off := 480) (k := 4) ld_w30 (by decide +kernel))
theorem dL_law_485 : decode cL_law 485 = .ok (.iaload, 1) := qd_p qo_46 (qa_w (off := 480) (k := 5) ld_w30 (by decide +kernel))
theorem dL_law_486 : decode cL_law 486 = .ok (.invokevirtual 45, 3) := qz_2 .invokevirtual 0 45 qo_182 (qa_w3 (off := 480) (k := 6) ld_w30 (by decide +kernel)) rfl
theorem dL_law_489 : decode cL_law 489 = .ok (.pop, 1) := qd_p qo_87 (qa_w (off := 480) (k := 9) ld_w30 (by decide +kernel))
theorem dL_law_490 : decode cL_law 490 = .ok (.aload_n 2, 1) := qd_p qo_44 (qa_w (off := 480) (k := 10) ld_w30 (by decide +kernel))
theorem dL_law_491 : decode cL_law 491 = .ok (.aload_n 0, 1) := qd_p qo_42 (qa_w (off := 480) (k := 11) ld_w30 (by decide +kernel))
theorem dL_law_492 : decode cL_law 492 = .ok (.iload_n 3, 1) := qd_p qo_29 (qa_w (off := 480) (k := 12) ld_w30 (by decide +kernel))
theorem dL_law_493 : decode cL_law 493 = .ok (.iconst 1, 1) := qd_p qo_4 (qa_w (off := 480) (k := 13) ld_w30 (by decide +kernel))
theorem dL_law_494 : decode cL_law 494 = .ok (.iadd, 1) := qd_p qo_96 (qa_w (off := 480) (k := 14) ld_w30 (by decide +kernel))
theorem dL_law_495 : decode cL_law 495 = .ok (.iaload, 1) := qd_p qo_46 (qa_w (off := 480) (k := 15) ld_w30 (by decide +kernel))
theorem dL_law_496 : decode cL_law 496 = .ok (.aload_n 0, 1) := qd_p qo_42 (qa_w (off := 496) (k := 0) ld_w31 (by decide +kernel))
theorem dL_law_497 : decode cL_law 497 = .ok (.iload_n 3, 1) := qd_p qo_29 (qa_w (off := 496) (k := 1) ld_w31 (by decide +kernel))
theorem dL_law_498 : decode cL_law 498 = .ok (.iconst 2, 1) := qd_p qo_5 (qa_w (off := 496) (k := 2) ld_w31 (by decide +kernel))
theorem dL_law_499 : decode cL_law 499 = .ok (.iadd, 1) := qd_p qo_96 (qa_w (off := 496) (k := 3) ld_w31 (by decide +kernel))
theorem dL_law_500 : decode cL_law 500 = .ok (.iaload, 1) := qd_p qo_46 (qa_w (off := 496) (k := 4) ld_w31 (by decide +kernel))
theorem dL_law_501 : decode cL_law 501 = .ok (.invokevirtual 48, 3) := qz_2 .invokevirtual 0 48 qo_182 (qa_w3 (off := 496) (k := 5) ld_w31 (by decide +kernel)) rfl
theorem dL_law_504 : decode cL_law 504 = .ok (.pop, 1) := qd_p qo_87 (qa_w (off := 496) (k := 8) ld_w31 (by decide +kernel))
theorem dL_law_505 : decode cL_law 505 = .ok (.goto 1441, 3) := qz_s2 .goto 5 161 qo_167 (qa_w3 (off := 496) (k := 9) ld_w31 (by decide +kernel)) rfl
theorem dL_law_508 : decode cL_law 508 = .ok (.aload_n 1, 1) := qd_p qo_43 (qa_w (off := 496) (k := 12) ld_w31 (by decide +kernel))
theorem dL_law_509 : decode cL_law 509 = .ok (.aload_n 0, 1) := qd_p qo_42 (qa_w (off := 496) (k := 13) ld_w31 (by decide +kernel))
theorem dL_law_510 : decode cL_law 510 = .ok (.iload_n 3, 1) := qd_p qo_29 (qa_w (off := 496) (k := 14) ld_w31 (by decide +kernel))
theorem dL_law_511 : decode cL_law 511 = .ok (.iconst 1, 1) := qd_p qo_4 (qa_w (off := 496) (k := 15) ld_w31 (by decide +kernel))
theorem dL_law_512 : decode cL_law 512 = .ok (.iadd, 1) := qd_p qo_96 (qa_w (off := 512) (k := 0) ld_w32 (by decide +kernel))
theorem dL_law_513 : decode cL_law 513 = .ok (.iaload, 1) := qd_p qo_46 (qa_w (off := 512) (k := 1) ld_w32 (by decide +kernel))
theorem dL_law_514 : decode cL_law 514 = .ok (.aload_n 0, 1) := qd_p qo_42 (qa_w (off := 512) (k := 2) ld_w32 (by decide +kernel))
theorem dL_law_515 : decode cL_law 515 = .ok (.iload_n 3, 1) := qd_p qo_29 (qa_w (off := 512) (k := 3) ld_w32 (by decide +kernel))
theorem dL_law_516 : decode cL_law 516 = .ok (.iconst 2, 1) := qd_p qo_5 (qa_w (off := 512) (k := 4) ld_w32 (by decide +kernel))
theorem dL_law_517 : decode cL_law 517 = .ok (.iadd, 1) := qd_p qo_96 (qa_w (off := 512) (k := 5) ld_w32 (by decide +kernel))
theorem dL_law_518 : decode cL_law 518 = .ok (.iaload, 1) := qd_p qo_46 (qa_w (off := 512) (k := 6) ld_w32 (by decide +kernel))
theorem dL_law_519 : decode cL_law 519 = .ok (.invokevirtual 49, 3) := qz_2 .invokevirtual 0 49 qo_182 (qa_w3 (off := 512) (k := 7) ld_w32 (by decide +kernel)) rfl
theorem dL_law_522 : decode cL_law 522 = .ok (.pop, 1) := qd_p qo_87 (qa_w (off := 512) (k := 10) ld_w32 (by decide +kernel))
theorem dL_law_523 : decode cL_law 523 = .ok (.aload_n 2, 1) := qd_p qo_44 (qa_w (off := 512) (k := 11) ld_w32 (by decide +kernel))
theorem dL_law_524 : decode cL_law 524 = .ok (.aload_n 0, 1) := qd_p qo_42 (qa_w (off := 512) (k := 12) ld_w32 (by decide +kernel))
theorem dL_law_525 : decode cL_law 525 = .ok (.iload_n 3, 1) := qd_p qo_29 (qa_w (off := 512) (k := 13) ld_w32 (by decide +kernel))
theorem dL_law_526 : decode cL_law 526 = .ok (.iconst 1, 1) := qd_p qo_4 (qa_w (off := 512) (k := 14) ld_w32 (by decide +kernel))
theorem dL_law_527 : decode cL_law 527 = .ok (.iadd, 1) := qd_p qo_96 (qa_w (off := 512) (k := 15) ld_w32 (by decide +kernel))
theorem dL_law_528 : decode cL_law 528 = .ok (.iaload, 1) := qd_p qo_46 (qa_w (off := 528) (k := 0) ld_w33 (by decide +kernel))
theorem dL_law_529 : decode cL_law 529 = .ok (.aload_n 0, 1) := qd_p qo_42 (qa_w (off := 528) (k := 1) ld_w33 (by decide +kernel))
theorem dL_law_530 : decode cL_law 530 = .ok (.iload_n 3, 1) := qd_p qo_29 (qa_w (off := 528) (k := 2) ld_w33 (by decide +kernel))
theorem dL_law_531 : decode cL_law 531 = .ok (.iconst 2, 1) := qd_p qo_5 (qa_w (off := 528) (k := 3) ld_w33 (by decide +kernel))
theorem dL_law_532 : decode cL_law 532 = .ok (.iadd, 1) := qd_p qo_96 (qa_w (off := 528) (k := 4) ld_w33 (by decide +kernel))
theorem dL_law_533 : decode cL_law 533 = .ok (.iaload, 1) := qd_p qo_46 (qa_w (off := 528) (k := 5) ld_w33 (by decide +kernel))
theorem dL_law_534 : decode cL_law 534 = .ok (.invokevirtual 52, 3) := qz_2 .invokevirtual 0 52 qo_182 (qa_w3 (off := 528) (k := 6) ld_w33 (by decide +kernel)) rfl
theorem dL_law_537 : decode cL_law 537 = .ok (.pop, 1) := qd_p qo_87 (qa_w (off := 528) (k := 9) ld_w33 (by decide +kernel))
theorem dL_law_538 : decode cL_law 538 = .ok (.goto 1408, 3) := qz_s2 .goto 5 128 qo_167 (qa_w3 (off := 528) (k := 10) ld_w33 (by decide +kernel)) rfl
theorem dL_law_541 : decode cL_law 541 = .ok (.aload_n 1, 1) := qd_p qo_43 (qa_w (off := 528) (k := 13) ld_w33 (by decide +kernel))
theorem dL_law_542 : decode cL_law 542 = .ok (.aload_n 0, 1) := qd_p qo_42 (qa_w (off := 528) (k := 14) ld_w33 (by decide +kernel))
theorem dL_law_543 : decode cL_law 543 = .ok (.iload_n 3, 1) := qd_p qo_29 (qa_w (off := 528) (k := 15) ld_w33 (by decide +kernel))
theorem dL_law_544 : decode cL_law 544 = .ok (.iconst 1, 1) := qd_p qo_4 (qa_w (off := 544) (k := 0) ld_w34 (by decide +kernel))
theorem dL_law_545 : decode cL_law 545 = .ok (.iadd, 1) := qd_p qo_96 (qa_w (off := 544) (k := 1) ld_w34 (by decide +kernel))
theorem dL_law_546 : decode cL_law 546 = .ok (.iaload, 1) := qd_p qo_46 (qa_w (off := 544) (k := 2) ld_w34 (by decide +kernel))
theorem dL_law_547 : decode cL_law 547 = .ok (.aload_n 0, 1) := qd_p qo_42 (qa_w (off := 544) (k := 3) ld_w34 (by decide +kernel))
theorem dL_law_548 : decode cL_law 548 = .ok (.iload_n 3, 1) := qd_p qo_29 (qa_w (off := 544) (k := 4) ld_w34 (by decide +kernel))
theorem dL_law_549 : decode cL_law 549 = .ok (.iconst 2, 1) := qd_p qo_5 (qa_w (off := 544) (k := 5) ld_w34 (by decide +kernel))
theorem dL_law_550 : decode cL_law 550 = .ok (.iadd, 1) := qd_p qo_96 (qa_w (off := 544) (k := 6) ld_w34 (by decide +kernel))
theorem dL_law_551 : decode cL_law 551 = .ok (.iaload, 1) := qd_p qo_46 (qa_w (off := 544) (k := 7) ld_w34 (by decide +kernel))
theorem dL_law_552 : decode cL_law 552 = .ok (.invokevirtual 53, 3) := qz_2 .invokevirtual 0 53 qo_182 (qa_w3 (off := 544) (k := 8) ld_w34 (by decide +kernel)) rfl
theorem dL_law_555 : decode cL_law 555 = .ok (.pop, 1) := qd_p qo_87 (qa_w (off := 544) (k := 11) ld_w34 (by decide +kernel))
theorem dL_law_556 : decode cL_law 556 = .ok (.aload_n 2, 1) := qd_p qo_44 (qa_w (off := 544) (k := 12) ld_w34 (by decide +kernel))
theorem dL_law_557 : decode cL_law 557 = .ok (.aload_n 0, 1) := qd_p qo_42 (qa_w (off := 544) (k := 13) ld_w34 (by decide +kernel))
theorem dL_law_558 : decode cL_law 558 = .ok (.iload_n 3, 1) := qd_p qo_29 (qa_w (off := 544) (k := 14) ld_w34 (by decide +kernel))
theorem dL_law_559 : decode cL_law 559 = .ok (.iconst 1, 1) := qd_p qo_4 (qa_w (off := 544) (k := 15) ld_w34 (by decide +kernel))
theorem dL_law_560 : decode cL_law 560 = .ok (.iadd, 1) := qd_p qo_96 (qa_w (off := 560) (k := 0) ld_w35 (by decide +kernel))
theorem dL_law_561 : decode cL_law 561 = .ok (.iaload, 1) := qd_p qo_46 (qa_w (off := 560) (k := 1) ld_w35 (by decide +kernel))
theorem dL_law_562 : decode cL_law 562 = .ok (.aload_n 0, 1) := qd_p qo_42 (qa_w (off := 560) (k := 2) ld_w35 (by decide +kernel))
theorem dL_law_563 : decode cL_law 563 = .ok (.iload_n 3, 1) := qd_p qo_29 (qa_w (off := 560) (k := 3) ld_w35 (by decide +kernel))
theorem dL_law_564 : decode cL_law 564 = .ok (.iconst 2, 1) := qd_p qo_5 (qa_w (off := 560) (k := 4) ld_w35 (by decide +kernel))
theorem dL_law_565 : decode cL_law 565 = .ok (.iadd, 1) := qd_p qo_96 (qa_w (off := 560) (k := 5) ld_w35 (by decide +kernel))
theorem dL_law_566 : decode cL_law 566 = .ok (.iaload, 1) := qd_p qo_46 (qa_w (off := 560) (k := 6) ld_w35 (by decide +kernel))
theorem dL_law_567 : decode cL_law 567 = .ok (.invokevirtual 56, 3) := qz_2 .invokevirtual 0 56 qo_182 (qa_w3 (off := 560) (k := 7) ld_w35 (by decide +kernel)) rfl
theorem dL_law_570 : decode cL_law 570 = .ok (.pop, 1) := qd_p qo_87 (qa_w (off := 560) (k := 10) ld_w35 (by decide +kernel))
theorem dL_law_571 : decode cL_law 571 = .ok (.goto 1375, 3) := qz_s2 .goto 5 95 qo_167 (qa_w3 (off := 560) (k := 11) ld_w35 (by decide +kernel)) rfl
theorem dL_law_574 : decode cL_law 574 = .ok (.aload_n 1, 1) := qd_p qo_43 (qa_w (off := 560) (k := 14) ld_w35 (by decide +kernel))
theorem dL_law_575 : decode cL_law 575 = .ok (.aload_n 0, 1) := qd_p qo_42 (qa_w (off := 560) (k := 15) ld_w35 (by decide +kernel))
theorem dL_law_576 : decode cL_law 576 = .ok (.iload_n 3, 1) := qd_p qo_29 (qa_w (off := 576) (k := 0) ld_w36 (by decide +kernel))
theorem dL_law_577 : decode cL_law 577 = .ok (.iconst 1, 1) := qd_p qo_4 (qa_w (off := 576) (k := 1) ld_w36 (by decide +kernel))
theorem dL_law_578 : decode cL_law 578 = .ok (.iadd, 1) := qd_p qo_96 (qa_w (off := 576) (k := 2) ld_w36 (by decide +kernel))
theorem dL_law_579 : decode cL_law 579 = .ok (.iaload, 1) := qd_p qo_46 (qa_w (off := 576) (k := 3) ld_w36 (by decide +kernel))
theorem dL_law_580 : decode cL_law 580 = .ok (.invokevirtual 57, 3) := qz_2 .invokevirtual 0 57 qo_182 (qa_w3 (off := 576) (k := 4) ld_w36 (by decide +kernel)) rfl
theorem dL_law_583 : decode cL_law 583 = .ok (.pop, 1) := qd_p qo_87 (qa_w (off := 576) (k := 7) ld_w36 (by decide +kernel))
theorem dL_law_584 : decode cL_law 584 = .ok (.aload_n 2, 1) := qd_p qo_44 (qa_w (off := 576) (k := 8) ld_w36 (by decide +kernel))
theorem dL_law_585 : decode cL_law 585 = .ok (.aload_n 0, 1) := qd_p qo_42 (qa_w (off := 576) (k := 9) ld_w36 (by decide +kernel))
theorem dL_law_586 : decode cL_law 586 = .ok (.iload_n 3, 1) := qd_p qo_29 (qa_w (off := 576) (k := 10) ld_w36 (by decide +kernel))
theorem dL_law_587 : decode cL_law 587 = .ok (.iconst 1, 1) := qd_p qo_4 (qa_w (off := 576) (k := 11) ld_w36 (by decide +kernel))
theorem dL_law_588 : decode cL_law 588 = .ok (.iadd, 1) := qd_p qo_96 (qa_w (off := 576) (k := 12) ld_w36 (by decide +kernel))
theorem dL_law_589 : decode cL_law 589 = .ok (.iaload, 1) := qd_p qo_46 (qa_w (off := 576) (k := 13) ld_w36 (by decide +kernel))
theorem dL_law_590 : decode cL_law 590 = .ok (.invokevirtual 60, 3) := qz_2 .invokevirtual 0 60 qo_182 (qa_w3 (off := 576) (k := 14) ld_w36 (by decide +kernel)) rfl
theorem dL_law_593 : decode cL_law 593 = .ok (.pop, 1) := qd_p qo_87 (qa_w (off := 592) (k := 1) ld_w37 (by decide +kernel))
theorem dL_law_594 : decode cL_law 594 = .ok (.goto 1352, 3) := qz_s2 .goto 5 72 qo_167 (qa_w3 (off := 592) (k := 2) ld_w37 (by decide +kernel)) rfl
theorem dL_law_597 : decode cL_law 597 = .ok (.aload_n 1, 1) := qd_p qo_43 (qa_w (off := 592) (k := 5) ld_w37 (by decide +kernel))
theorem dL_law_598 : decode cL_law 598 = .ok (.aload_n 0, 1) := qd_p qo_42 (qa_w (off := 592) (k := 6) ld_w37 (by decide +kernel))
theorem dL_law_599 : decode cL_law 599 = .ok (.iload_n 3, 1) := qd_p qo_29 (qa_w (off := 592) (k := 7) ld_w37 (by decide +kernel))
theorem dL_law_600 : decode cL_law 600 = .ok (.iconst 1, 1) := qd_p qo_4 (qa_w (off := 592) (k := 8) ld_w37 (by decide +kernel))
theorem dL_law_601 : decode cL_law 601 = .ok (.iadd, 1) := qd_p qo_96 (qa_w (off := 592) (k := 9) ld_w37 (by decide +kernel))
theorem dL_law_602 : decode cL_law 602 = .ok (.iaload, 1) := qd_p qo_46 (qa_w (off := 592) (k := 10) ld_w37 (by decide +kernel))
theorem dL_law_603 : decode cL_law 603 = .ok (.invokevirtual 61, 3) := qz_2 .invokevirtual 0 61 qo_182 (qa_w3 (off := 592) (k := 11) ld_w37 (by decide +kernel)) rfl
theorem dL_law_606 : decode cL_law 606 = .ok (.pop, 1) := qd_p qo_87 (qa_w (off := 592) (k := 14) ld_w37 (by decide +kernel))
theorem dL_law_607 : decode cL_law 607 = .ok (.aload_n 2, 1) := qd_p qo_44 (qa_w (off := 592) (k := 15) ld_w37 (by decide +kernel))
theorem dL_law_608 : decode cL_law 608 = .ok (.aload_n 0, 1) := qd_p qo_42 (qa_w (off := 608) (k := 0) ld_w38 (by decide +kernel))
theorem dL_law_609 : decode cL_law 609 = .ok (.iload_n 3, 1) := qd_p qo_29 (qa_w (off := 608) (k := 1) ld_w38 (by decide +kernel))
theorem dL_law_610 : decode cL_law 610 = .ok (.iconst 1, 1) := qd_p qo_4 (qa_w (off := 608) (k := 2) ld_w38 (by decide +kernel))
theorem dL_law_611 : decode cL_law 611 = .ok (.iadd, 1) := qd_p qo_96 (qa_w (off := 608) (k := 3) ld_w38 (by decide +kernel))
theorem dL_law_612 : decode cL_law 612 = .ok (.iaload, 1) := qd_p qo_46 (qa_w (off := 608) (k := 4) ld_w38 (by decide +kernel))
theorem dL_law_613 : decode cL_law 613 = .ok (.invokevirtual 64, 3) := qz_2 .invokevirtual 0 64 qo_182 (qa_w3 (off := 608) (k := 5) ld_w38 (by decide +kernel)) rfl
theorem dL_law_616 : decode cL_law 616 = .ok (.pop, 1) := qd_p qo_87 (qa_w (off := 608) (k := 8) ld_w38 (by decide +kernel))
theorem dL_law_617 : decode cL_law 617 = .ok (.goto 1329, 3) := qz_s2 .goto 5 49 qo_167 (qa_w3 (off := 608) (k := 9) ld_w38 (by decide +kernel)) rfl
theorem dL_law_620 : decode cL_law 620 = .ok (.aload_n 1, 1) := qd_p qo_43 (qa_w (off := 608) (k := 12) ld_w38 (by decide +kernel))
theorem dL_law_621 : decode cL_law 621 = .ok (.invokevirtual 65, 3) := qz_2 .invokevirtual 0 65 qo_182 (qa_w3 (off := 608) (k := 13) ld_w38 (by decide +kernel)) rfl
theorem dL_law_624 : decode cL_law 624 = .ok (.pop, 1) := qd_p qo_87 (qa_w (off := 624) (k := 0) ld_w39 (by decide +kernel))
theorem dL_law_625 : decode cL_law 625 = .ok (.aload_n 2, 1) := qd_p qo_44 (qa_w (off := 624) (k := 1) ld_w39 (by decide +kernel))
theorem dL_law_626 : decode cL_law 626 = .ok (.invokevirtual 68, 3) := qz_2 .invokevirtual 0 68 qo_182 (qa_w3 (off := 624) (k := 2) ld_w39 (by decide +kernel)) rfl
theorem dL_law_629 : decode cL_law 629 = .ok (.pop, 1) := qd_p qo_87 (qa_w (off := 624) (k := 5) ld_w39 (by decide +kernel))
theorem dL_law_630 : decode cL_law 630 = .ok (.goto 1316, 3) := qz_s2 .goto 5 36 qo_167 (qa_w3 (off := 624) (k := 6) ld_w39 (by decide +kernel)) rfl
theorem dL_law_633 : decode cL_law 633 = .ok (.aload_n 1, 1) := qd_p qo_43 (qa_w (off := 624) (k := 9) ld_w39 (by decide +kernel))
theorem dL_law_634 : decode cL_law 634 = .ok (.aload_n 0, 1) := qd_p qo_42 (qa_w (off := 624) (k := 10) ld_w39 (by decide +kernel))
theorem dL_law_635 : decode cL_law 635 = .ok (.iload_n 3, 1) := qd_p qo_29 (qa_w (off := 624) (k := 11) ld_w39 (by decide +kernel))
theorem dL_law_636 : decode cL_law 636 = .ok (.iconst 1, 1) := qd_p qo_4 (qa_w (off := 624) (k := 12) ld_w39 (by decide +kernel))
theorem dL_law_637 : decode cL_law 637 = .ok (.iadd, 1) := qd_p qo_96 (qa_w (off := 624) (k := 13) ld_w39 (by decide +kernel))
theorem dL_law_638 : decode cL_law 638 = .ok (.iaload, 1) := qd_p qo_46 (qa_w (off := 624) (k := 14) ld_w39 (by decide +kernel))
theorem dL_law_639 : decode cL_law 639 = .ok (.aload_n 0, 1) := qd_p qo_42 (qa_w (off := 624) (k := 15) ld_w39 (by decide +kernel))
theorem dL_law_640 : decode cL_law 640 = .ok (.iload_n 3, 1) := qd_p qo_29 (qa_w (off := 640) (k := 0) ld_w40 (by decide +kernel))
theorem dL_law_641 : decode cL_law 641 = .ok (.iconst 2, 1) := qd_p qo_5 (qa_w (off := 640) (k := 1) ld_w40 (by decide +kernel))
theorem dL_law_642 : decode cL_law 642 = .ok (.iadd, 1) := qd_p qo_96 (qa_w (off := 640) (k := 2) ld_w40 (by decide +kernel))
theorem dL_law_643 : decode cL_law 643 = .ok (.iaload, 1) := qd_p qo_46 (qa_w (off := 640) (k := 3) ld_w40 (by decide +kernel))
theorem dL_law_644 : decode cL_law 644 = .ok (.aload_n 0, 1) := qd_p qo_42 (qa_w (off := 640) (k := 4) ld_w40 (by decide +kernel))
theorem dL_law_645 : decode cL_law 645 = .ok (.iload_n 3, 1) := qd_p qo_29 (qa_w (off := 640) (k := 5) ld_w40 (by decide +kernel))
theorem dL_law_646 : decode cL_law 646 = .ok (.iconst 3, 1) := qd_p qo_6 (qa_w (off := 640) (k := 6) ld_w40 (by decide +kernel))
theorem dL_law_647 : decode cL_law 647 = .ok (.iadd, 1) := qd_p qo_96 (qa_w (off := 640) (k := 7) ld_w40 (by decide +kernel))
theorem dL_law_648 : decode cL_law 648 = .ok (.iaload, 1) := qd_p qo_46 (qa_w (off := 640) (k := 8) ld_w40 (by decide +kernel))
theorem dL_law_649 : decode cL_law 649 = .ok (.invokevirtual 69, 3) := qz_2 .invokevirtual 0 69 qo_182 (qa_w3 (off := 640) (k := 9) ld_w40 (by decide +kernel)) rfl
theorem dL_law_652 : decode cL_law 652 = .ok (.pop, 1) := qd_p qo_87 (qa_w (off := 640) (k := 12) ld_w40 (by decide +kernel))
theorem dL_law_653 : decode cL_law 653 = .ok (.aload_n 2, 1) := qd_p qo_44 (qa_w (off := 640) (k := 13) ld_w40 (by decide +kernel))
theorem dL_law_654 : decode cL_law 654 = .ok (.aload_n 0, 1) := qd_p qo_42 (qa_w (off := 640) (k := 14) ld_w40 (by decide +kernel))
theorem dL_law_655 : decode cL_law 655 = .ok (.iload_n 3, 1) := qd_p qo_29 (qa_w (off := 640) (k := 15) ld_w40 (by decide +kernel))
theorem dL_law_656 : decode cL_law 656 = .ok (.iconst 1, 1) := qd_p qo_4 (qa_w (off := 656) (k := 0) ld_w41 (by decide +kernel))
theorem dL_law_657 : decode cL_law 657 = .ok (.iadd, 1) := qd_p qo_96 (qa_w (off := 656) (k := 1) ld_w41 (by decide +kernel))
theorem dL_law_658 : decode cL_law 658 = .ok (.iaload, 1) := qd_p qo_46 (qa_w (off := 656) (k := 2) ld_w41 (by decide +kernel))
theorem dL_law_659 : decode cL_law 659 = .ok (.aload_n 0, 1) := qd_p qo_42 (qa_w (off := 656) (k := 3) ld_w41 (by decide +kernel))
theorem dL_law_660 : decode cL_law 660 = .ok (.iload_n 3, 1) := qd_p qo_29 (qa_w (off := 656) (k := 4) ld_w41 (by decide +kernel))
theorem dL_law_661 : decode cL_law 661 = .ok (.iconst 2, 1) := qd_p qo_5 (qa_w (off := 656) (k := 5) ld_w41 (by decide +kernel))
theorem dL_law_662 : decode cL_law 662 = .ok (.iadd, 1) := qd_p qo_96 (qa_w (off := 656) (k := 6) ld_w41 (by decide +kernel))
theorem dL_law_663 : decode cL_law 663 = .ok (.iaload, 1) := qd_p qo_46 (qa_w (off := 656) (k := 7) ld_w41 (by decide +kernel))
theorem dL_law_664 : decode cL_law 664 = .ok (.aload_n 0, 1) := qd_p qo_42 (qa_w (off := 656) (k := 8) ld_w41 (by decide +kernel))
theorem dL_law_665 : decode cL_law 665 = .ok (.iload_n 3, 1) := qd_p qo_29 (qa_w (off := 656) (k := 9) ld_w41 (by decide +kernel))
theorem dL_law_666 : decode cL_law 666 = .ok (.iconst 3, 1) := qd_p qo_6 (qa_w (off := 656) (k := 10) ld_w41 (by decide +kernel))
theorem dL_law_667 : decode cL_law 667 = .ok (.iadd, 1) := qd_p qo_96 (qa_w (off := 656) (k := 11) ld_w41 (by decide +kernel))
theorem dL_law_668 : decode cL_law 668 = .ok (.iaload, 1) := qd_p qo_46 (qa_w (off := 656) (k := 12) ld_w41 (by decide +kernel))
theorem dL_law_669 : decode cL_law 669 = .ok (.invokevirtual 73, 3) := qz_2 .invokevirtual 0 73 qo_182 (qa_w3 (off := 656) (k := 13) ld_w41 (by decide +kernel)) rfl
theorem dL_law_672 : decode cL_law 672 = .ok (.pop, 1) := qd_p qo_87 (qa_w (off := 672) (k := 0) ld_w42 (by decide +kernel))
theorem dL_law_673 : decode cL_law 673 = .ok (.goto 1273, 3) := qz_s2 .goto 4 249 qo_167 (qa_w3 (off := 672) (k := 1) ld_w42 (by decide +kernel)) rfl
theorem dL_law_676 : decode cL_law 676 = .ok (.aload_n 1, 1) := qd_p qo_43 (qa_w (off := 672) (k := 4) ld_w42 (by decide +kernel))
theorem dL_law_677 : decode cL_law 677 = .ok (.aload_n 0, 1) := qd_p qo_42 (qa_w (off := 672) (k := 5) ld_w42 (by decide +kernel))
theorem dL_law_678 : decode cL_law 678 = .ok (.iload_n 3, 1) := qd_p qo_29 (qa_w (off := 672) (k := 6) ld_w42 (by decide +kernel))
theorem dL_law_679 : decode cL_law 679 = .ok (.iconst 1, 1) := qd_p qo_4 (qa_w (off := 672) (k := 7) ld_w42 (by decide +kernel))
theorem dL_law_680 : decode cL_law 680 = .ok (.iadd, 1) := qd_p qo_96 (qa_w (off := 672) (k := 8) ld_w42 (by decide +kernel))
theorem dL_law_681 : decode cL_law 681 = .ok (.iaload, 1) := qd_p qo_46 (qa_w (off := 672) (k := 9) ld_w42 (by decide +kernel))
theorem dL_law_682 : decode cL_law 682 = .ok (.aload_n 0, 1) := qd_p qo_42 (qa_w (off := 672) (k := 10) ld_w42 (by decide +kernel))
theorem dL_law_683 : decode cL_law 683 = .ok (.iload_n 3, 1) := qd_p qo_29 (qa_w (off := 672) (k := 11) ld_w42 (by decide +kernel))
theorem dL_law_684 : decode cL_law 684 = .ok (.iconst 2, 1) := qd_p qo_5 (qa_w (off := 672) (k := 12) ld_w42 (by decide +kernel))
theorem dL_law_685 : decode cL_law 685 = .ok (.iadd, 1) := qd_p qo_96 (qa_w (off := 672) (k := 13) ld_w42 (by decide +kernel))
theorem dL_law_686 : decode cL_law 686 = .ok (.iaload, 1) := qd_p qo_46 (qa_w (off := 672) (k := 14) ld_w42 (by decide +kernel))
theorem dL_law_687 : decode cL_law 687 = .ok (.invokevirtual 74, 3) := qz_2 .invokevirtual 0 74 qo_182 (qa_w3 (off := 672) (k := 15) ld_w42 (by decide +kernel)) rfl
theorem dL_law_690 : decode cL_law 690 = .ok (.pop, 1) := qd_p qo_87 (qa_w (off := 688) (k := 2) ld_w43 (by decide +kernel))
theorem dL_law_691 : decode cL_law 691 = .ok (.aload_n 2, 1) := qd_p qo_44 (qa_w (off := 688) (k := 3) ld_w43 (by decide +kernel))
theorem dL_law_692 : decode cL_law 692 = .ok (.aload_n 0, 1) := qd_p qo_42 (qa_w (off := 688) (k := 4) ld_w43 (by decide +kernel))
theorem dL_law_693 : decode cL_law 693 = .ok (.iload_n 3, 1) := qd_p qo_29 (qa_w (off := 688) (k := 5) ld_w43 (by decide +kernel))
theorem dL_law_694 : decode cL_law 694 = .ok (.iconst 1, 1) := qd_p qo_4 (qa_w (off := 688) (k := 6) ld_w43 (by decide +kernel))
theorem dL_law_695 : decode cL_law 695 = .ok (.iadd, 1) := qd_p qo_96 (qa_w (off := 688) (k := 7) ld_w43 (by decide +kernel))
theorem dL_law_696 : decode cL_law 696 = .ok (.iaload, 1) := qd_p qo_46 (qa_w (off := 688) (k := 8) ld_w43 (by decide +kernel))
theorem dL_law_697 : decode cL_law 697 = .ok (.aload_n 0, 1) := qd_p qo_42 (qa_w (off := 688) (k := 9) ld_w43 (by decide +kernel))
theorem dL_law_698 : decode cL_law 698 = .ok (.iload_n 3, 1) := qd_p qo_29 (qa_w (off := 688) (k := 10) ld_w43 (by decide +kernel))
theorem dL_law_699 : decode cL_law 699 = .ok (.iconst 2, 1) := qd_p qo_5 (qa_w (off := 688) (k := 11) ld_w43 (by decide +kernel))
theorem dL_law_700 : decode cL_law 700 = .ok (.iadd, 1) := qd_p qo_96 (qa_w (off := 688) (k := 12) ld_w43 (by decide +kernel))
theorem dL_law_701 : decode cL_law 701 = .ok (.iaload, 1) := qd_p qo_46 (qa_w (off := 688) (k := 13) ld_w43 (by decide +kernel))
theorem dL_law_702 : decode cL_law 702 = .ok (.invokevirtual 77, 3) := qz_2 .invokevirtual 0 77 qo_182 (qa_w3 (off := 688) (k := 14) ld_w43 (by decide +kernel)) rfl
theorem dL_law_705 : decode cL_law 705 = .ok (.pop, 1) := qd_p qo_87 (qa_w (off := 704) (k := 1) ld_w44 (by decide +kernel))
theorem dL_law_706 : decode cL_law 706 = .ok (.goto 1240, 3) := qz_s2 .goto 4 216 qo_167 (qa_w3 (off := 704) (k := 2) ld_w44 (by decide +kernel)) rfl
theorem dL_law_709 : decode cL_law 709 = .ok (.aload_n 1, 1) := qd_p qo_43 (qa_w (off := 704) (k := 5) ld_w44 (by decide +kernel))
theorem dL_law_710 : decode cL_law 710 = .ok (.aload_n 0, 1) := qd_p qo_42 (qa_w (off := 704) (k := 6) ld_w44 (by decide +kernel))
theorem dL_law_711 : decode cL_law 711 = .ok (.iload_n 3, 1) := qd_p qo_29 (qa_w (off := 704) (k := 7) ld_w44 (by decide +kernel))
theorem dL_law_712 : decode cL_law 712 = .ok (.iconst 1, 1) := qd_p qo_4 (qa_w (off := 704) (k := 8) ld_w44 (by decide +kernel))
theorem dL_law_713 : decode cL_law 713 = .ok (.iadd, 1) := qd_p qo_96 (qa_w (off := 704) (k := 9) ld_w44 (by decide +kernel))
theorem dL_law_714 : decode cL_law 714 = .ok (.iaload, 1) := qd_p qo_46 (qa_w (off := 704) (k := 10) ld_w44 (by decide +kernel))
theorem dL_law_715 : decode cL_law 715 = .ok (.aload_n 0, 1) := qd_p qo_42 (qa_w (off := 704) (k := 11) ld_w44 (by decide +kernel))
theorem dL_law_716 : decode cL_law 716 = .ok (.iload_n 3, 1) := qd_p qo_29 (qa_w (off := 704) (k := 12) ld_w44 (by decide +kernel))
theorem dL_law_717 : decode cL_law 717 = .ok (.iconst 2, 1) := qd_p qo_5 (qa_w (off := 704) (k := 13) ld_w44 (by decide +kernel))
theorem dL_law_718 : decode cL_law 718 = .ok (.iadd, 1) := qd_p qo_96 (qa_w (off := 704) (k := 14) ld_w44 (by decide +kernel))
theorem dL_law_719 : decode cL_law 719 = .ok (.iaload, 1) := qd_p qo_46 (qa_w (off := 704) (k := 15) ld_w44 (by decide +kernel))
theorem dL_law_720 : decode cL_law 720 = .ok (.aload_n 0, 1) := qd_p qo_42 (qa_w (off := 720) (k := 0) ld_w45 (by decide +kernel))
theorem dL_law_721 : decode cL_law 721 = .ok (.iload_n 3, 1) := qd_p qo_29 (qa_w (off := 720) (k := 1) ld_w45 (by decide +kernel))
theorem dL_law_722 : decode cL_law 722 = .ok (.iconst 3, 1) := qd_p qo_6 (qa_w (off := 720) (k := 2) ld_w45 (by decide +kernel))
theorem dL_law_723 : decode cL_law 723 = .ok (.iadd, 1) := qd_p qo_96 (qa_w (off := 720) (k := 3) ld_w45 (by decide +kernel))
theorem dL_law_724 : decode cL_law 724 = .ok (.iaload, 1) := qd_p qo_46 (qa_w (off := 720) (k := 4) ld_w45 (by decide +kernel))
theorem dL_law_725 : decode cL_law 725 = .ok (.invokevirtual 78, 3) := qz_2 .invokevirtual 0 78 qo_182 (qa_w3 (off := 720) (k := 5) ld_w45 (by decide +kernel)) rfl
theorem dL_law_728 : decode cL_law 728 = .ok (.pop, 1) := qd_p qo_87 (qa_w (off := 720) (k := 8) ld_w45 (by decide +kernel))
theorem dL_law_729 : decode cL_law 729 = .ok (.aload_n 2, 1) := qd_p qo_44 (qa_w (off := 720) (k := 9) ld_w45 (by decide +kernel))
theorem dL_law_730 : decode cL_law 730 = .ok (.aload_n 0, 1) := qd_p qo_42 (qa_w (off := 720) (k := 10) ld_w45 (by decide +kernel))
theorem dL_law_731 : decode cL_law 731 = .ok (.iload_n 3, 1) := qd_p qo_29 (qa_w (off := 720) (k := 11) ld_w45 (by decide +kernel))
theorem dL_law_732 : decode cL_law 732 = .ok (.iconst 1, 1) := qd_p qo_4 (qa_w (off := 720) (k := 12) ld_w45 (by decide +kernel))
theorem dL_law_733 : decode cL_law 733 = .ok (.iadd, 1) := qd_p qo_96 (qa_w (off := 720) (k := 13) ld_w45 (by decide +kernel))
theorem dL_law_734 : decode cL_law 734 = .ok (.iaload, 1) := qd_p qo_46 (qa_w (off := 720) (k := 14) ld_w45 (by decide +kernel))
theorem dL_law_735 : decode cL_law 735 = .ok (.aload_n 0, 1) := qd_p qo_42 (qa_w (off := 720) (k := 15) ld_w45 (by decide +kernel))
theorem dL_law_736 : decode cL_law 736 = .ok (.iload_n 3, 1) := qd_p qo_29 (qa_w (off := 736) (k := 0) ld_w46 (by decide +kernel))
theorem dL_law_737 : decode cL_law 737 = .ok (.iconst 2, 1) := qd_p qo_5 (qa_w (off := 736) (k := 1) ld_w46 (by decide +kernel))
theorem dL_law_738 : decode cL_law 738 = .ok (.iadd, 1) := qd_p qo_96 (qa_w (off := 736) (k := 2) ld_w46 (by decide +kernel))
theorem dL_law_739 : decode cL_law 739 = .ok (.iaload, 1) := qd_p qo_46 (qa_w (off := 736) (k := 3) ld_w46 (by decide +kernel))
theorem dL_law_740 : decode cL_law 740 = .ok (.aload_n 0, 1) := qd_p qo_42 (qa_w (off := 736) (k := 4) ld_w46 (by decide +kernel))
theorem dL_law_741 : decode cL_law 741 = .ok (.iload_n 3, 1) := qd_p qo_29 (qa_w (off := 736) (k := 5) ld_w46 (by decide +kernel))
theorem dL_law_742 : decode cL_law 742 = .ok (.iconst 3, 1) := qd_p qo_6 (qa_w (off := 736) (k := 6) ld_w46 (by decide +kernel))
theorem dL_law_743 : decode cL_law 743 = .ok (.iadd, 1) := qd_p qo_96 (qa_w (off := 736) (k := 7) ld_w46 (by decide +kernel))
theorem dL_law_744 : decode cL_law 744 = .ok (.iaload, 1) := qd_p qo_46 (qa_w (off := 736) (k := 8) ld_w46 (by decide +kernel))
theorem dL_law_745 : decode cL_law 745 = .ok (.invokevirtual 81, 3) := qz_2 .invokevirtual 0 81 qo_182 (qa_w3 (off := 736) (k := 9) ld_w46 (by decide +kernel)) rfl
theorem dL_law_748 : decode cL_law 748 = .ok (.pop, 1) := qd_p qo_87 (qa_w (off := 736) (k := 12) ld_w46 (by decide +kernel))
theorem dL_law_749 : decode cL_law 749 = .ok (.goto 1197, 3) := qz_s2 .goto 4 173 qo_167 (qa_w3 (off := 736) (k := 13) ld_w46 (by decide +kernel)) rfl
theorem dL_law_752 : decode cL_law 752 = .ok (.aload_n 1, 1) := qd_p qo_43 (qa_w (off := 752) (k := 0) ld_w47 (by decide +kernel))
theorem dL_law_753 : decode cL_law 753 = .ok (.aload_n 0, 1) := qd_p qo_42 (qa_w (off := 752) (k := 1) ld_w47 (by decide +kernel))
theorem dL_law_754 : decode cL_law 754 = .ok (.iload_n 3, 1) := qd_p qo_29 (qa_w (off := 752) (k := 2) ld_w47 (by decide +kernel))
theorem dL_law_755 : decode cL_law 755 = .ok (.iconst 1, 1) := qd_p qo_4 (qa_w (off := 752) (k := 3) ld_w47 (by decide +kernel))
theorem dL_law_756 : decode cL_law 756 = .ok (.iadd, 1) := qd_p qo_96 (qa_w (off := 752) (k := 4) ld_w47 (by decide +kernel))
theorem dL_law_757 : decode cL_law 757 = .ok (.iaload, 1) := qd_p qo_46 (qa_w (off := 752) (k := 5) ld_w47 (by decide +kernel))
theorem dL_law_758 : decode cL_law 758 = .ok (.invokevirtual 82, 3) := qz_2 .invokevirtual 0 82 qo_182 (qa_w3 (off := 752) (k := 6) ld_w47 (by decide +kernel)) rfl
theorem dL_law_761 : decode cL_law 761 = .ok (.pop, 1) := qd_p qo_87 (qa_w (off := 752) (k := 9) ld_w47 (by decide +kernel))
theorem dL_law_762 : decode cL_law 762 = .ok (.aload_n 2, 1) := qd_p qo_44 (qa_w (off := 752) (k := 10) ld_w47 (by decide +kernel))
theorem dL_law_763 : decode cL_law 763 = .ok (.aload_n 0, 1) := qd_p qo_42 (qa_w (off := 752) (k := 11) ld_w47 (by decide +kernel))
theorem dL_law_764 : decode cL_law 764 = .ok (.iload_n 3, 1) := qd_p qo_29 (qa_w (off := 752) (k := 12) ld_w47 (by decide +kernel))
theorem dL_law_765 : decode cL_law 765 = .ok (.iconst 1, 1) := qd_p qo_4 (qa_w (off := 752) (k := 13) ld_w47 (by decide +kernel))
theorem dL_law_766 : decode cL_law 766 = .ok (.iadd, 1) := qd_p qo_96 (qa_w (off := 752) (k := 14) ld_w47 (by decide +kernel))
theorem dL_law_767 : decode cL_law 767 = .ok (.iaload, 1) := qd_p qo_46 (qa_w (off := 752) (k := 15) ld_w47 (by decide +kernel))
theorem dL_law_768 : decode cL_law 768 = .ok (.invokevirtual 85, 3) := qz_2 .invokevirtual 0 85 qo_182 (qa_w3 (off := 768) (k := 0) ld_w48 (by decide +kernel)) rfl
theorem dL_law_771 : decode cL_law 771 = .ok (.pop, 1) := qd_p qo_87 (qa_w (off := 768) (k := 3) ld_w48 (by decide +kernel))
theorem dL_law_772 : decode cL_law 772 = .ok (.goto 1174, 3) := qz_s2 .goto 4 150 qo_167 (qa_w3 (off := 768) (k := 4) ld_w48 (by decide +kernel)) rfl
theorem dL_law_775 : decode cL_law 775 = .ok (.aload_n 1, 1) := qd_p qo_43 (qa_w (off := 768) (k := 7) ld_w48 (by decide +kernel))
theorem dL_law_776 : decode cL_law 776 = .ok (.aload_n 0, 1) := qd_p qo_42 (qa_w (off := 768) (k := 8) ld_w48 (by decide +kernel))
theorem dL_law_777 : decode cL_law 777 = .ok (.iload_n 3, 1) := qd_p qo_29 (qa_w (off := 768) (k := 9) ld_w48 (by decide +kernel))
theorem dL_law_778 : decode cL_law 778 = .ok (.iconst 1, 1) := qd_p qo_4 (qa_w (off := 768) (k := 10) ld_w48 (by decide +kernel))
theorem dL_law_779 : decode cL_law 779 = .ok (.iadd, 1) := qd_p qo_96 (qa_w (off := 768) (k := 11) ld_w48 (by decide +kernel))
theorem dL_law_780 : decode cL_law 780 = .ok (.iaload, 1) := qd_p qo_46 (qa_w (off := 768) (k := 12) ld_w48 (by decide +kernel))
theorem dL_law_781 : decode cL_law 781 = .ok (.aload_n 0, 1) := qd_p qo_42 (qa_w (off := 768) (k := 13) ld_w48 (by decide +kernel))
theorem dL_law_782 : decode cL_law 782 = .ok (.iload_n 3, 1) := qd_p qo_29 (qa_w (off := 768) (k := 14) ld_w48 (by decide +kernel))
theorem dL_law_783 : decode cL_law 783 = .ok (.iconst 2, 1) := qd_p qo_5 (qa_w (off := 768) (k := 15) ld_w48 (by decide +kernel))
theorem dL_law_784 : decode cL_law 784 = .ok (.iadd, 1) := qd_p qo_96 (qa_w (off := 784) (k := 0) ld_w49 (by decide +kernel))
theorem dL_law_785 : decode cL_law 785 = .ok (.iaload, 1) := qd_p qo_46 (qa_w (off := 784) (k := 1) ld_w49 (by decide +kernel))
theorem dL_law_786 : decode cL_law 786 = .ok (.invokevirtual 86, 3) := qz_2 .invokevirtual 0 86 qo_182 (qa_w3 (off := 784) (k := 2) ld_w49 (by decide +kernel)) rfl
theorem dL_law_789 : decode cL_law 789 = .ok (.pop, 1) := qd_p qo_87 (qa_w (off := 784) (k := 5) ld_w49 (by decide +kernel))
theorem dL_law_790 : decode cL_law 790 = .ok (.aload_n 2, 1) := qd_p qo_44 (qa_w (off := 784) (k := 6) ld_w49 (by decide +kernel))
theorem dL_law_791 : decode cL_law 791 = .ok (.aload_n 0, 1) := qd_p qo_42 (qa_w (off := 784) (k := 7) ld_w49 (by decide +kernel))
theorem dL_law_792 : decode cL_law 792 = .ok (.iload_n 3, 1) := qd_p qo_29 (qa_w (off := 784) (k := 8) ld_w49 (by decide +kernel))
theorem dL_law_793 : decode cL_law 793 = .ok (.iconst 1, 1) := qd_p qo_4 (qa_w (off := 784) (k := 9) ld_w49 (by decide +kernel))
theorem dL_law_794 : decode cL_law 794 = .ok (.iadd, 1) := qd_p qo_96 (qa_w (off := 784) (k := 10) ld_w49 (by decide +kernel))
theorem dL_law_795 : decode cL_law 795 = .ok (.iaload, 1) := qd_p qo_46 (qa_w (off := 784) (k := 11) ld_w49 (by decide +kernel))
theorem dL_law_796 : decode cL_law 796 = .ok (.aload_n 0, 1) := qd_p qo_42 (qa_w (off := 784) (k := 12) ld_w49 (by decide +kernel))
theorem dL_law_797 : decode cL_law 797 = .ok (.iload_n 3, 1) := qd_p qo_29 (qa_w (off := 784) (k := 13) ld_w49 (by decide +kernel))
theorem dL_law_798 : decode cL_law 798 = .ok (.iconst 2, 1) := qd_p qo_5 (qa_w (off := 784) (k := 14) ld_w49 (by decide +kernel))
theorem dL_law_799 : decode cL_law 799 = .ok (.iadd, 1) := qd_p qo_96 (qa_w (off := 784) (k := 15) ld_w49 (by decide +kernel))
theorem dL_law_800 : decode cL_law 800 = .ok (.iaload, 1) := qd_p qo_46 (qa_w (off := 800) (k := 0) ld_w50 (by decide +kernel))
theorem dL_law_801 : decode cL_law 801 = .ok (.invokevirtual 89, 3) := qz_2 .invokevirtual 0 89 qo_182 (qa_w3 (off := 800) (k := 1) ld_w50 (by decide +kernel)) rfl
theorem dL_law_804 : decode cL_law 804 = .ok (.pop, 1) := qd_p qo_87 (qa_w (off := 800) (k := 4) ld_w50 (by decide +kernel))
theorem dL_law_805 : decode cL_law 805 = .ok (.goto 1141, 3) := qz_s2 .goto 4 117 qo_167 (qa_w3 (off := 800) (k := 5) ld_w50 (by decide +kernel)) rfl
theorem dL_law_808 : decode cL_law 808 = .ok (.aload_n 1, 1) := qd_p qo_43 (qa_w (off := 800) (k := 8) ld_w50 (by decide +kernel))
theorem dL_law_809 : decode cL_law 809 = .ok (.aload_n 0, 1) := qd_p qo_42 (qa_w (off := 800) (k := 9) ld_w50 (by decide +kernel))
theorem dL_law_810 : decode cL_law 810 = .ok (.iload_n 3, 1) := qd_p qo_29 (qa_w (off := 800) (k := 10) ld_w50 (by decide +kernel))
theorem dL_law_811 : decode cL_law 811 = .ok (.iconst 1, 1) := qd_p qo_4 (qa_w (off := 800) (k := 11) ld_w50 (by decide +kernel))
theorem dL_law_812 : decode cL_law 812 = .ok (.iadd, 1) := qd_p qo_96 (qa_w (off := 800) (k := 12) ld_w50 (by decide +kernel))
theorem dL_law_813 : decode cL_law 813 = .ok (.iaload, 1) := qd_p qo_46 (qa_w (off := 800) (k := 13) ld_w50 (by decide +kernel))
theorem dL_law_814 : decode cL_law 814 = .ok (.invokevirtual 90, 3) := qz_2 .invokevirtual 0 90 qo_182 (qa_w3 (off := 800) (k := 14) ld_w50 (by decide +kernel)) rfl
theorem dL_law_817 : decode cL_law 817 = .ok (.pop, 1) := qd_p qo_87 (qa_w (off := 816) (k := 1) ld_w51 (by decide +kernel))
theorem dL_law_818 : decode cL_law 818 = .ok (.aload_n 2, 1) := qd_p qo_44 (qa_w (off := 816) (k := 2) ld_w51 (by decide +kernel))
theorem dL_law_819 : decode cL_law 819 = .ok (.aload_n 0, 1) := qd_p qo_42 (qa_w (off := 816) (k := 3) ld_w51 (by decide +kernel))
theorem dL_law_820 : decode cL_law 820 = .ok (.iload_n 3, 1) := qd_p qo_29 (qa_w (off := 816) (k := 4) ld_w51 (by decide +kernel))
theorem dL_law_821 : decode cL_law 821 = .ok (.iconst 1, 1) := qd_p qo_4 (qa_w (off := 816) (k := 5) ld_w51 (by decide +kernel))
theorem dL_law_822 : decode cL_law 822 = .ok (.iadd, 1) := qd_p qo_96 (qa_w (off := 816) (k := 6) ld_w51 (by decide +kernel))
theorem dL_law_823 : decode cL_law 823 = .ok (.iaload, 1) := qd_p qo_46 (qa_w (off := 816) (k := 7) ld_w51 (by decide +kernel))
theorem dL_law_824 : decode cL_law 824 = .ok (.invokevirtual 93, 3) := qz_2 .invokevirtual 0 93 qo_182 (qa_w3 (off := 816) (k := 8) ld_w51 (by decide +kernel)) rfl
theorem dL_law_827 : decode cL_law 827 = .ok (.pop, 1) := qd_p qo_87 (qa_w (off := 816) (k := 11) ld_w51 (by decide +kernel))
theorem dL_law_828 : decode cL_law 828 = .ok (.goto 1118, 3) := qz_s2 .goto 4 94 qo_167 (qa_w3 (off := 816) (k := 12) ld_w51 (by decide +kernel)) rfl
theorem dL_law_831 : decode cL_law 831 = .ok (.aload_n 1, 1) := qd_p qo_43 (qa_w (off := 816) (k := 15) ld_w51 (by decide +kernel))
theorem dL_law_832 : decode cL_law 832 = .ok (.aload_n 0, 1) := qd_p qo_42 (qa_w (off := 832) (k := 0) ld_w52 (by decide +kernel))
theorem dL_law_833 : decode cL_law 833 = .ok (.iload_n 3, 1) := qd_p qo_29 (qa_w (off := 832) (k := 1) ld_w52 (by decide +kernel))
theorem dL_law_834 : decode cL_law 834 = .ok (.iconst 1, 1) := qd_p qo_4 (qa_w (off := 832) (k := 2) ld_w52 (by decide +kernel))
theorem dL_law_835 : decode cL_law 835 = .ok (.iadd, 1) := qd_p qo_96 (qa_w (off := 832) (k := 3) ld_w52 (by decide +kernel))
theorem dL_law_836 : decode cL_law 836 = .ok (.iaload, 1) := qd_p qo_46 (qa_w (off := 832) (k := 4) ld_w52 (by decide +kernel))
theorem dL_law_837 : decode cL_law 837 = .ok (.aload_n 0, 1) := qd_p qo_42 (qa_w (off := 832) (k := 5) ld_w52 (by decide +kernel))
theorem dL_law_838 : decode cL_law 838 = .ok (.iload_n 3, 1) := qd_p qo_29 (qa_w (off := 832) (k := 6) ld_w52 (by decide +kernel))
theorem dL_law_839 : decode cL_law 839 = .ok (.iconst 2, 1) := qd_p qo_5 (qa_w (off := 832) (k := 7) ld_w52 (by decide +kernel))
theorem dL_law_840 : decode cL_law 840 = .ok (.iadd, 1) := qd_p qo_96 (qa_w (off := 832) (k := 8) ld_w52 (by decide +kernel))
theorem dL_law_841 : decode cL_law 841 = .ok (.iaload, 1) := qd_p qo_46 (qa_w (off := 832) (k := 9) ld_w52 (by decide +kernel))
theorem dL_law_842 : decode cL_law 842 = .ok (.invokevirtual 94, 3) := qz_2 .invokevirtual 0 94 qo_182 (qa_w3 (off := 832) (k := 10) ld_w52 (by decide +kernel)) rfl
theorem dL_law_845 : decode cL_law 845 = .ok (.pop, 1) := qd_p qo_87 (qa_w (off := 832) (k := 13) ld_w52 (by decide +kernel))
theorem dL_law_846 : decode cL_law 846 = .ok (.aload_n 2, 1) := qd_p qo_44 (qa_w (off := 832) (k := 14) ld_w52 (by decide +kernel))
theorem dL_law_847 : decode cL_law 847 = .ok (.aload_n 0, 1) := qd_p qo_42 (qa_w (off := 832) (k := 15) ld_w52 (by decide +kernel))
theorem dL_law_848 : decode cL_law 848 = .ok (.iload_n 3, 1) := qd_p qo_29 (qa_w (off := 848) (k := 0) ld_w53 (by decide +kernel))
theorem dL_law_849 : decode cL_law 849 = .ok (.iconst 1, 1) := qd_p qo_4 (qa_w (off := 848) (k := 1) ld_w53 (by decide +kernel))
theorem dL_law_850 : decode cL_law 850 = .ok (.iadd, 1) := qd_p qo_96 (qa_w (off := 848) (k := 2) ld_w53 (by decide +kernel))
theorem dL_law_851 : decode cL_law 851 = .ok (.iaload, 1) := qd_p qo_46 (qa_w (off := 848) (k := 3) ld_w53 (by decide +kernel))
theorem dL_law_852 : decode cL_law 852 = .ok (.aload_n 0, 1) := qd_p qo_42 (qa_w (off := 848) (k := 4) ld_w53 (by decide +kernel))
theorem dL_law_853 : decode cL_law 853 = .ok (.iload_n 3, 1) := qd_p qo_29 (qa_w (off := 848) (k := 5) ld_w53 (by decide +kernel))
theorem dL_law_854 : decode cL_law 854 = .ok (.iconst 2, 1) := qd_p qo_5 (qa_w (off := 848) (k := 6) ld_w53 (by decide +kernel))
theorem dL_law_855 : decode cL_law 855 = .ok (.iadd, 1) := qd_p qo_96 (qa_w (off := 848) (k := 7) ld_w53 (by decide +kernel))
theorem dL_law_856 : decode cL_law 856 = .ok (.iaload, 1) := qd_p qo_46 (qa_w (off := 848) (k := 8) ld_w53 (by decide +kernel))
theorem dL_law_857 : decode cL_law 857 = .ok (.invokevirtual 97, 3) := qz_2 .invokevirtual 0 97 qo_182 (qa_w3 (off := 848) (k := 9) ld_w53 (by decide +kernel)) rfl
theorem dL_law_860 : decode cL_law 860 = .ok (.pop, 1) := qd_p qo_87 (qa_w (off := 848) (k := 12) ld_w53 (by decide +kernel))
theorem dL_law_861 : decode cL_law 861 = .ok (.goto 1085, 3) := qz_s2 .goto 4 61 qo_167 (qa_w3 (off := 848) (k := 13) ld_w53 (by decide +kernel)) rfl
theorem dL_law_864 : decode cL_law 864 = .ok (.aload_n 1, 1) := qd_p qo_43 (qa_w (off := 864) (k := 0) ld_w54 (by decide +kernel))
theorem dL_law_865 : decode cL_law 865 = .ok (.aload_n 0, 1) := qd_p qo_42 (qa_w (off := 864) (k := 1) ld_w54 (by decide +kernel))
theorem dL_law_866 : decode cL_law 866 = .ok (.iload_n 3, 1) := qd_p qo_29 (qa_w (off := 864) (k := 2) ld_w54 (by decide +kernel))
theorem dL_law_867 : decode cL_law 867 = .ok (.iconst 1, 1) := qd_p qo_4 (qa_w (off := 864) (k := 3) ld_w54 (by decide +kernel))
theorem dL_law_868 : decode cL_law 868 = .ok (.iadd, 1) := qd_p qo_96 (qa_w (off := 864) (k := 4) ld_w54 (by decide +kernel))
theorem dL_law_869 : decode cL_law 869 = .ok (.iaload, 1) := qd_p qo_46 (qa_w (off := 864) (k := 5) ld_w54 (by decide +kernel))
theorem dL_law_870 : decode cL_law 870 = .ok (.aload_n 0, 1) := qd_p qo_42 (qa_w (off := 864) (k := 6) ld_w54 (by decide +kernel))
theorem dL_law_871 : decode cL_law 871 = .ok (.iload_n 3, 1) := qd_p qo_29 (qa_w (off := 864) (k := 7) ld_w54 (by decide +kernel))
theorem dL_law_872 : decode cL_law 872 = .ok (.iconst 2, 1) := qd_p qo_5 (qa_w (off := 864) (k := 8) ld_w54 (by decide +kernel))
theorem dL_law_873 : decode cL_law 873 = .ok (.iadd, 1) := qd_p qo_96 (qa_w (off := 864) (k := 9) ld_w54 (by decide +kernel))
theorem dL_law_874 : decode cL_law 874 = .ok (.iaload, 1) := qd_p qo_46 (qa_w (off := 864) (k := 10) ld_w54 (by decide +kernel))
theorem dL_law_875 : decode cL_law 875 = .ok (.aload_n 0, 1) := qd_p qo_42 (qa_w (off := 864) (k := 11) ld_w54 (by decide +kernel))
theorem dL_law_876 : decode cL_law 876 = .ok (.iload_n 3, 1) := qd_p qo_29 (qa_w (off := 864) (k := 12) ld_w54 (by decide +kernel))
theorem dL_law_877 : decode cL_law 877 = .ok (.iconst 3, 1) := qd_p qo_6 (qa_w (off := 864) (k := 13) ld_w54 (by decide +kernel))
theorem dL_law_878 : decode cL_law 878 = .ok (.iadd, 1) := qd_p qo_96 (qa_w (off := 864) (k := 14) ld_w54 (by decide +kernel))
theorem dL_law_879 : decode cL_law 879 = .ok (.iaload, 1) := qd_p qo_46 (qa_w (off := 864) (k := 15) ld_w54 (by decide +kernel))
theorem dL_law_880 : decode cL_law 880 = .ok (.invokevirtual 98, 3) := qz_2 .invokevirtual 0 98 qo_182 (qa_w3 (off := 880) (k := 0) ld_w55 (by decide +kernel)) rfl
theorem dL_law_883 : decode cL_law 883 = .ok (.pop, 1) := qd_p qo_87 (qa_w (off := 880) (k := 3) ld_w55 (by decide +kernel))
theorem dL_law_884 : decode cL_law 884 = .ok (.aload_n 2, 1) := qd_p qo_44 (qa_w (off := 880) (k := 4) ld_w55 (by decide +kernel))
theorem dL_law_885 : decode cL_law 885 = .ok (.aload_n 0, 1) := qd_p qo_42 (qa_w (off := 880) (k := 5) ld_w55 (by decide +kernel))
theorem dL_law_886 : decode cL_law 886 = .ok (.iload_n 3, 1) := qd_p qo_29 (qa_w (off := 880) (k := 6) ld_w55 (by decide +kernel))
theorem dL_law_887 : decode cL_law 887 = .ok (.iconst 1, 1) := qd_p qo_4 (qa_w (off := 880) (k := 7) ld_w55 (by decide +kernel))
theorem dL_law_888 : decode cL_law 888 = .ok (.iadd, 1) := qd_p qo_96 (qa_w (off := 880) (k := 8) ld_w55 (by decide +kernel))
theorem dL_law_889 : decode cL_law 889 = .ok (.iaload, 1) := qd_p qo_46 (qa_w (off := 880) (k := 9) ld_w55 (by decide +kernel))
theorem dL_law_890 : decode cL_law 890 = .ok (.aload_n 0, 1) := qd_p qo_42 (qa_w (off := 880) (k := 10) ld_w55 (by decide +kernel))
theorem dL_law_891 : decode cL_law 891 = .ok (.iload_n 3, 1) := qd_p qo_29 (qa_w (off := 880) (k := 11) ld_w55 (by decide +kernel))
theorem dL_law_892 : decode cL_law 892 = .ok (.iconst 2, 1) := qd_p qo_5 (qa_w (off := 880) (k := 12) ld_w55 (by decide +kernel))
theorem dL_law_893 : decode cL_law 893 = .ok (.iadd, 1) := qd_p qo_96 (qa_w (off := 880) (k := 13) ld_w55 (by decide +kernel))
theorem dL_law_894 : decode cL_law 894 = .ok (.iaload, 1) := qd_p qo_46 (qa_w (off := 880) (k := 14) ld_w55 (by decide +kernel))
theorem dL_law_895 : decode cL_law 895 = .ok (.aload_n 0, 1) := qd_p qo_42 (qa_w (off := 880) (k := 15) ld_w55 (by decide +kernel))
theorem dL_law_896 : decode cL_law 896 = .ok (.iload_n 3, 1) := qd_p qo_29 (qa_w (off := 896) (k := 0) ld_w56 (by decide +kernel))
theorem dL_law_897 : decode cL_law 897 = .ok (.iconst 3, 1) := qd_p qo_6 (qa_w (off := 896) (k := 1) ld_w56 (by decide +kernel))
theorem dL_law_898 : decode cL_law 898 = .ok (.iadd, 1) := qd_p qo_96 (qa_w (off := 896) (k := 2) ld_w56 (by decide +kernel))
theorem dL_law_899 : decode cL_law 899 = .ok (.iaload, 1) := qd_p qo_46 (qa_w (off := 896) (k := 3) ld_w56 (by decide +kernel))
theorem dL_law_900 : decode cL_law 900 = .ok (.invokevirtual 101, 3) := qz_2 .invokevirtual 0 101 qo_182 (qa_w3 (off := 896) (k := 4) ld_w56 (by decide +kernel)) rfl
theorem dL_law_903 : decode cL_law 903 = .ok (.pop, 1) := qd_p qo_87 (qa_w (off := 896) (k := 7) ld_w56 (by decide +kernel))
theorem dL_law_904 : decode cL_law 904 = .ok (.goto 1042, 3) := qz_s2 .goto 4 18 qo_167 (qa_w3 (off := 896) (k := 8) ld_w56 (by decide +kernel)) rfl
theorem dL_law_907 : decode cL_law 907 = .ok (.aload_n 1, 1) := qd_p qo_43 (qa_w (off := 896) (k := 11) ld_w56 (by decide +kernel))
theorem dL_law_908 : decode cL_law 908 = .ok (.aload_n 0, 1) := qd_p qo_42 (qa_w (off := 896) (k := 12) ld_w56 (by decide +kernel))
theorem dL_law_909 : decode cL_law 909 = .ok (.iload_n 3, 1) := qd_p qo_29 (qa_w (off := 896) (k := 13) ld_w56 (by decide +kernel))
theorem dL_law_910 : decode cL_law 910 = .ok (.iconst 1, 1) := qd_p qo_4 (qa_w (off := 896) (k := 14) ld_w56 (by decide +kernel))
theorem dL_law_911 : decode cL_law 911 = .ok (.iadd, 1) := qd_p qo_96 (qa_w (off := 896) (k := 15) ld_w56 (by decide +kernel))
theorem dL_law_912 : decode cL_law 912 = .ok (.iaload, 1) := qd_p qo_46 (qa_w (off := 912) (k := 0) ld_w57 (by decide +kernel))
theorem dL_law_913 : decode cL_law 913 = .ok (.aload_n 0, 1) := qd_p qo_42 (qa_w (off := 912) (k := 1) ld_w57 (by decide +kernel))
theorem dL_law_914 : decode cL_law 914 = .ok (.iload_n 3, 1) := qd_p qo_29 (qa_w (off := 912) (k := 2) ld_w57 (by decide +kernel))
theorem dL_law_915 : decode cL_law 915 = .ok (.iconst 2, 1) := qd_p qo_5 (qa_w (off := 912) (k := 3) ld_w57 (by decide +kernel))
theorem dL_law_916 : decode cL_law 916 = .ok (.iadd, 1) := qd_p qo_96 (qa_w (off := 912) (k := 4) ld_w57 (by decide +kernel))
theorem dL_law_917 : decode cL_law 917 = .ok (.iaload, 1) := qd_p qo_46 (qa_w (off := 912) (k := 5) ld_w57 (by decide +kernel))
theorem dL_law_918 : decode cL_law 918 = .ok (.aload_n 0, 1) := qd_p qo_42 (qa_w (off := 912) (k := 6) ld_w57 (by decide +kernel))
theorem dL_law_919 : decode cL_law 919 = .ok (.iload_n 3, 1) := qd_p qo_29 (qa_w (off := 912) (k := 7) ld_w57 (by decide +kernel))
theorem dL_law_920 : decode cL_law 920 = .ok (.iconst 3, 1) := qd_p qo_6 (qa_w (off := 912) (k := 8) ld_w57 (by decide +kernel))
theorem dL_law_921 : decode cL_law 921 = .ok (.iadd, 1) := qd_p qo_96 (qa_w (off := 912) (k := 9) ld_w57 (by decide +kernel))
theorem dL_law_922 : decode cL_law 922 = .ok (.iaload, 1) := qd_p qo_46 (qa_w (off := 912) (k := 10) ld_w57 (by decide +kernel))
theorem dL_law_923 : decode cL_law 923 = .ok (.invokevirtual 102, 3) := qz_2 .invokevirtual 0 102 qo_182 (qa_w3 (off := 912) (k := 11) ld_w57 (by decide +kernel)) rfl
theorem dL_law_926 : decode cL_law 926 = .ok (.pop, 1) := qd_p qo_87 (qa_w (off := 912) (k := 14) ld_w57 (by decide +kernel))
theorem dL_law_927 : decode cL_law 927 = .ok (.aload_n 2, 1) := qd_p qo_44 (qa_w (off := 912) (k := 15) ld_w57 (by decide +kernel))
theorem dL_law_928 : decode cL_law 928 = .ok (.aload_n 0, 1) := qd_p qo_42 (qa_w (off := 928) (k := 0) ld_w58 (by decide +kernel))
theorem dL_law_929 : decode cL_law 929 = .ok (.iload_n 3, 1) := qd_p qo_29 (qa_w (off := 928) (k := 1) ld_w58 (by decide +kernel))
theorem dL_law_930 : decode cL_law 930 = .ok (.iconst 1, 1) := qd_p qo_4 (qa_w (off := 928) (k := 2) ld_w58 (by decide +kernel))
theorem dL_law_931 : decode cL_law 931 = .ok (.iadd, 1) := qd_p qo_96 (qa_w (off := 928) (k := 3) ld_w58 (by decide +kernel))
theorem dL_law_932 : decode cL_law 932 = .ok (.iaload, 1) := qd_p qo_46 (qa_w (off := 928) (k := 4) ld_w58 (by decide +kernel))
theorem dL_law_933 : decode cL_law 933 = .ok (.aload_n 0, 1) := qd_p qo_42 (qa_w (off := 928) (k := 5) ld_w58 (by decide +kernel))
theorem dL_law_934 : decode cL_law 934 = .ok (.iload_n 3, 1) := qd_p qo_29 (qa_w (off := 928) (k := 6) ld_w58 (by decide +kernel))
theorem dL_law_935 : decode cL_law 935 = .ok (.iconst 2, 1) := qd_p qo_5 (qa_w (off := 928) (k := 7) ld_w58 (by decide +kernel))
theorem dL_law_936 : decode cL_law 936 = .ok (.iadd, 1) := qd_p qo_96 (qa_w (off := 928) (k := 8) ld_w58 (by decide +kernel))
theorem dL_law_937 : decode cL_law 937 = .ok (.iaload, 1) := qd_p qo_46 (qa_w (off := 928) (k := 9) ld_w58 (by decide +kernel))
theorem dL_law_938 : decode cL_law 938 = .ok (.aload_n 0, 1) := qd_p qo_42 (qa_w (off := 928) (k := 10) ld_w58 (by decide +kernel))
theorem dL_law_939 : decode cL_law 939 = .ok (.iload_n 3, 1) := qd_p qo_29 (qa_w (off := 928) (k := 11) ld_w58 (by decide +kernel))
theorem dL_law_940 : decode cL_law 940 = .ok (.iconst 3, 1) := qd_p qo_6 (qa_w (off := 928) (k := 12) ld_w58 (by decide +kernel))
theorem dL_law_941 : decode cL_law 941 = .ok (.iadd, 1) := qd_p qo_96 (qa_w (off := 928) (k := 13) ld_w58 (by decide +kernel))
theorem dL_law_942 : decode cL_law 942 = .ok (.iaload, 1) := qd_p qo_46 (qa_w (off := 928) (k := 14) ld_w58 (by decide +kernel))
theorem dL_law_943 : decode cL_law 943 = .ok (.invokevirtual 105, 3) := qz_2 .invokevirtual 0 105 qo_182 (qa_w3 (off := 928) (k := 15) ld_w58 (by decide +kernel)) rfl
theorem dL_law_946 : decode cL_law 946 = .ok (.pop, 1) := qd_p qo_87 (qa_w (off := 944) (k := 2) ld_w59 (by decide +kernel))
theorem dL_law_947 : decode cL_law 947 = .ok (.goto 999, 3) := qz_s2 .goto 3 231 qo_167 (qa_w3 (off := 944) (k := 3) ld_w59 (by decide +kernel)) rfl
theorem dL_law_950 : decode cL_law 950 = .ok (.aload_n 1, 1) := qd_p qo_43 (qa_w (off := 944) (k := 6) ld_w59 (by decide +kernel))
theorem dL_law_951 : decode cL_law 951 = .ok (.aload_n 0, 1) := qd_p qo_42 (qa_w (off := 944) (k := 7) ld_w59 (by decide +kernel))
theorem dL_law_952 : decode cL_law 952 = .ok (.iload_n 3, 1) := qd_p qo_29 (qa_w (off := 944) (k := 8) ld_w59 (by decide +kernel))
theorem dL_law_953 : decode cL_law 953 = .ok (.iconst 1, 1) := qd_p qo_4 (qa_w (off := 944) (k := 9) ld_w59 (by decide +kernel))
theorem dL_law_954 : decode cL_law 954 = .ok (.iadd, 1) := qd_p qo_96 (qa_w (off := 944) (k := 10) ld_w59 (by decide +kernel))
theorem dL_law_955 : decode cL_law 955 = .ok (.iaload, 1) := qd_p qo_46 (qa_w (off := 944) (k := 11) ld_w59 (by decide +kernel))
theorem dL_law_956 : decode cL_law 956 = .ok (.aload_n 0, 1) := qd_p qo_42 (qa_w (off := 944) (k := 12) ld_w59 (by decide +kernel))
theorem dL_law_957 : decode cL_law 957 = .ok (.iload_n 3, 1) := qd_p qo_29 (qa_w (off := 944) (k := 13) ld_w59 (by decide +kernel))
theorem dL_law_958 : decode cL_law 958 = .ok (.iconst 2, 1) := qd_p qo_5 (qa_w (off := 944) (k := 14) ld_w59 (by decide +kernel))
theorem dL_law_959 : decode cL_law 959 = .ok (.iadd, 1) := qd_p qo_96 (qa_w (off := 944) (k := 15) ld_w59 (by decide +kernel))
theorem dL_law_960 : decode cL_law 960 = .ok (.iaload, 1) := qd_p qo_46 (qa_w (off := 960) (k := 0) ld_w60 (by decide +kernel))
theorem dL_law_961 : decode cL_law 961 = .ok (.aload_n 0, 1) := qd_p qo_42 (qa_w (off := 960) (k := 1) ld_w60 (by decide +kernel))
theorem dL_law_962 : decode cL_law 962 = .ok (.iload_n 3, 1) := qd_p qo_29 (qa_w (off := 960) (k := 2) ld_w60 (by decide +kernel))
theorem dL_law_963 : decode cL_law 963 = .ok (.iconst 3, 1) := qd_p qo_6 (qa_w (off := 960) (k := 3) ld_w60 (by decide +kernel))
theorem dL_law_964 : decode cL_law 964 = .ok (.iadd, 1) := qd_p qo_96 (qa_w (off := 960) (k := 4) ld_w60 (by decide +kernel))
theorem dL_law_965 : decode cL_law 965 = .ok (.iaload, 1) := qd_p qo_46 (qa_w (off := 960) (k := 5) ld_w60 (by decide +kernel))
theorem dL_law_966 : decode cL_law 966 = .ok (.aload_n 0, 1) := qd_p qo_42 (qa_w (off := 960) (k := 6) ld_w60 (by decide +kernel))
theorem dL_law_967 : decode cL_law 967 = .ok (.iload_n 3, 1) := qd_p qo_29 (qa_w (off := 960) (k := 7) ld_w60 (by decide +kernel))
theorem dL_law_968 : decode cL_law 968 = .ok (.iconst 4, 1) := qd_p qo_7 (qa_w (off := 960) (k := 8) ld_w60 (by decide +kernel))
theorem dL_law_969 : decode cL_law 969 = .ok (.iadd, 1) := qd_p qo_96 (qa_w (off := 960) (k := 9) ld_w60 (by decide +kernel))
theorem dL_law_970 : decode cL_law 970 = .ok (.iaload, 1) := qd_p qo_46 (qa_w (off := 960) (k := 10) ld_w60 (by decide +kernel))
theorem dL_law_971 : decode cL_law 971 = .ok (.invokevirtual 106, 3) := qz_2 .invokevirtual 0 106 qo_182 (qa_w3 (off := 960) (k := 11) ld_w60 (by decide +kernel)) rfl
theorem dL_law_974 : decode cL_law 974 = .ok (.pop, 1) := qd_p qo_87 (qa_w (off := 960) (k := 14) ld_w60 (by decide +kernel))
theorem dL_law_975 : decode cL_law 975 = .ok (.aload_n 2, 1) := qd_p qo_44 (qa_w (off := 960) (k := 15) ld_w60 (by decide +kernel))
theorem dL_law_976 : decode cL_law 976 = .ok (.aload_n 0, 1) := qd_p qo_42 (qa_w (off := 976) (k := 0) ld_w61 (by decide +kernel))
theorem dL_law_977 : decode cL_law 977 = .ok (.iload_n 3, 1) := qd_p qo_29 (qa_w (off := 976) (k := 1) ld_w61 (by decide +kernel))
theorem dL_law_978 : decode cL_law 978 = .ok (.iconst 1, 1) := qd_p qo_4 (qa_w (off := 976) (k := 2) ld_w61 (by decide +kernel))
theorem dL_law_979 : decode cL_law 979 = .ok (.iadd, 1) := qd_p qo_96 (qa_w (off := 976) (k := 3) ld_w61 (by decide +kernel))
theorem dL_law_980 : decode cL_law 980 = .ok (.iaload, 1) := qd_p qo_46 (qa_w (off := 976) (k := 4) ld_w61 (by decide +kernel))
theorem dL_law_981 : decode cL_law 981 = .ok (.aload_n 0, 1) := qd_p qo_42 (qa_w (off := 976) (k := 5) ld_w61 (by decide +kernel))
theorem dL_law_982 : decode cL_law 982 = .ok (.iload_n 3, 1) := qd_p qo_29 (qa_w (off := 976) (k := 6) ld_w61 (by decide +kernel))
theorem dL_law_983 : decode cL_law 983 = .ok (.iconst 2, 1) := qd_p qo_5 (qa_w (off := 976) (k := 7) ld_w61 (by decide +kernel))
theorem dL_law_984 : decode cL_law 984 = .ok (.iadd, 1) := qd_p qo_96 (qa_w (off := 976) (k := 8) ld_w61 (by decide +kernel))
theorem dL_law_985 : decode cL_law 985 = .ok (.iaload, 1) := qd_p qo_46 (qa_w (off := 976) (k := 9) ld_w61 (by decide +kernel))
theorem dL_law_986 : decode cL_law 986 = .ok (.aload_n 0, 1) := qd_p qo_42 (qa_w (off := 976) (k := 10) ld_w61 (by decide +kernel))
theorem dL_law_987 : decode cL_law 987 = .ok (.iload_n 3, 1) := qd_p qo_29 (qa_w (off := 976) (k := 11) ld_w61 (by decide +kernel))
theorem dL_law_988 : decode cL_law 988 = .ok (.iconst 3, 1) := qd_p qo_6 (qa_w (off := 976) (k := 12) ld_w61 (by decide +kernel))
theorem dL_law_989 : decode cL_law 989 = .ok (.iadd, 1) := qd_p qo_96 (qa_w (off := 976) (k := 13) ld_w61 (by decide +kernel))
theorem dL_law_990 : decode cL_law 990 = .ok (.iaload, 1) := qd_p qo_46 (qa_w (off := 976) (k := 14) ld_w61 (by decide +kernel))
theorem dL_law_991 : decode cL_law 991 = .ok (.aload_n 0, 1) := qd_p qo_42 (qa_w (off := 976) (k := 15) ld_w61 (by decide +kernel))
theorem dL_law_992 : decode cL_law 992 = .ok (.iload_n 3, 1) := qd_p qo_29 (qa_w (off := 992) (k := 0) ld_w62 (by decide +kernel))
theorem dL_law_993 : decode cL_law 993 = .ok (.iconst 4, 1) := qd_p qo_7 (qa_w (off := 992) (k := 1) ld_w62 (by decide +kernel))
theorem dL_law_994 : decode cL_law 994 = .ok (.iadd, 1) := qd_p qo_96 (qa_w (off := 992) (k := 2) ld_w62 (by decide +kernel))
theorem dL_law_995 : decode cL_law 995 = .ok (.iaload, 1) := qd_p qo_46 (qa_w (off := 992) (k := 3) ld_w62 (by decide +kernel))
theorem dL_law_996 : decode cL_law 996 = .ok (.invokevirtual 109, 3) := qz_2 .invokevirtual 0 109 qo_182 (qa_w3 (off := 992) (k := 4) ld_w62 (by decide +kernel)) rfl
theorem dL_law_999 : decode cL_law 999 = .ok (.pop, 1) := qd_p qo_87 (qa_w (off := 992) (k := 7) ld_w62 (by decide +kernel))
theorem dL_law_1000 : decode cL_law 1000 = .ok (.goto 946, 3) := qz_s2 .goto 3 178 qo_167 (qa_w3 (off := 992) (k := 8) ld_w62 (by decide +kernel)) rfl
theorem dL_law_1003 : decode cL_law 1003 = .ok (.aload_n 1, 1) := qd_p qo_43 (qa_w (off := 992) (k := 11) ld_w62 (by decide +kernel))
theorem dL_law_1004 : decode cL_law 1004 = .ok (.aload_n 0, 1) := qd_p qo_42 (qa_w (off := 992) (k := 12) ld_w62 (by decide +kernel))
theorem dL_law_1005 : decode cL_law 1005 = .ok (.iload_n 3, 1) := qd_p qo_29 (qa_w (off := 992) (k := 13) ld_w62 (by decide +kernel))
theorem dL_law_1006 : decode cL_law 1006 = .ok (.iconst 1, 1) := qd_p qo_4 (qa_w (off := 992) (k := 14) ld_w62 (by decide +kernel))
theorem dL_law_1007 : decode cL_law 1007 = .ok (.iadd, 1) := qd_p qo_96 (qa_w (off := 992) (k := 15) ld_w62 (by decide +kernel))
theorem dL_law_1008 : decode cL_law 1008 = .ok (.iaload, 1) := qd_p qo_46 (qa_w (off := 1008) (k := 0) ld_w63 (by decide +kernel))
theorem dL_law_1009 : decode cL_law 1009 = .ok (.aload_n 0, 1) := qd_p qo_42 (qa_w (off := 1008) (k := 1) ld_w63 (by decide +kernel))
theorem dL_law_1010 : decode cL_law 1010 = .ok (.iload_n 3, 1) := qd_p qo_29 (qa_w (off := 1008) (k := 2) ld_w63 (by decide +kernel))
theorem dL_law_1011 : decode cL_law 1011 = .ok (.iconst 2, 1) := qd_p qo_5 (qa_w (off := 1008) (k := 3) ld_w63 (by decide +kernel))
theorem dL_law_1012 : decode cL_law 1012 = .ok (.iadd, 1) := qd_p qo_96 (qa_w (off := 1008) (k := 4) ld_w63 (by decide +kernel))
theorem dL_law_1013 : decode cL_law 1013 = .ok (.iaload, 1) := qd_p qo_46 (qa_w (off := 1008) (k := 5) ld_w63 (by decide +kernel))
theorem dL_law_1014 : decode cL_law 1014 = .ok (.invokevirtual 110, 3) := qz_2 .invokevirtual 0 110 qo_182 (qa_w3 (off := 1008) (k := 6) ld_w63 (by decide +kernel)) rfl
theorem dL_law_1017 : decode cL_law 1017 = .ok (.aload_n 2, 1) := qd_p qo_44 (qa_w (off := 1008) (k := 9) ld_w63 (by decide +kernel))
theorem dL_law_1018 : decode cL_law 1018 = .ok (.aload_n 0, 1) := qd_p qo_42 (qa_w (off := 1008) (k := 10) ld_w63 (by decide +kernel))
theorem dL_law_1019 : decode cL_law 1019 = .ok (.iload_n 3, 1) := qd_p qo_29 (qa_w (off := 1008) (k := 11) ld_w63 (by decide +kernel))
theorem dL_law_1020 : decode cL_law 1020 = .ok (.iconst 1, 1) := qd_p qo_4 (qa_w (off := 1008) (k := 12) ld_w63 (by decide +kernel))
theorem dL_law_1021 : decode cL_law 1021 = .ok (.iadd, 1) := qd_p qo_96 (qa_w (off := 1008) (k := 13) ld_w63 (by decide +kernel))
theorem dL_law_1022 : decode cL_law 1022 = .ok (.iaload, 1) := qd_p qo_46 (qa_w (off := 1008) (k := 14) ld_w63 (by decide +kernel))
theorem dL_law_1023 : decode cL_law 1023 = .ok (.aload_n 0, 1) := qd_p qo_42 (qa_w (off := 1008) (k := 15) ld_w63 (by decide +kernel))
theorem dL_law_1024 : decode cL_law 1024 = .ok (.iload_n 3, 1) := qd_p qo_29 (qa_w (off := 1024) (k := 0) ld_w64 (by decide +kernel))
theorem dL_law_1025 : decode cL_law 1025 = .ok (.iconst 2, 1) := qd_p qo_5 (qa_w (off := 1024) (k := 1) ld_w64 (by decide +kernel))
theorem dL_law_1026 : decode cL_law 1026 = .ok (.iadd, 1) := qd_p qo_96 (qa_w (off := 1024) (k := 2) ld_w64 (by decide +kernel))
theorem dL_law_1027 : decode cL_law 1027 = .ok (.iaload, 1) := qd_p qo_46 (qa_w (off := 1024) (k := 3) ld_w64 (by decide +kernel))
theorem dL_law_1028 : decode cL_law 1028 = .ok (.invokevirtual 113, 3) := qz_2 .invokevirtual 0 113 qo_182 (qa_w3 (off := 1024) (k := 4) ld_w64 (by decide +kernel)) rfl
theorem dL_law_1031 : decode cL_law 1031 = .ok (.if_icmp .eq 915, 3) := qz_s2 (.if_icmp .eq) 3 147 qo_159 (qa_w3 (off := 1024) (k := 7) ld_w64 (by decide +kernel)) rfl
theorem dL_law_1034 : decode cL_law 1034 = .ok (.iconst 0, 1) := qd_p qo_3 (qa_w (off := 1024) (k := 10) ld_w64 (by decide +kernel))
theorem dL_law_1035 : decode cL_law 1035 = .ok (.ireturn, 1) := qd_p qo_172 (qa_w (off := 1024) (k := 11) ld_w64 (by decide +kernel))
theorem dL_law_1036 : decode cL_law 1036 = .ok (.aload_n 1, 1) := qd_p qo_43 (qa_w (off := 1024) (k := 12) ld_w64 (by decide +kernel))
theorem dL_law_1037 : decode cL_law 1037 = .ok (.invokevirtual 114, 3) := qz_2 .invokevirtual 0 114 qo_182 (qa_w3 (off := 1024) (k := 13) ld_w64 (by decide +kernel)) rfl
theorem dL_law_1040 : decode cL_law 1040 = .ok (.pop, 1) := qd_p qo_87 (qa_w (off := 1040) (k := 0) ld_w65 (by decide +kernel))
theorem dL_law_1041 : decode cL_law 1041 = .ok (.aload_n 2, 1) := qd_p qo_44 (qa_w (off := 1040) (k := 1) ld_w65 (by decide +kernel))
theorem dL_law_1042 : decode cL_law 1042 = .ok (.invokevirtual 117, 3) := qz_2 .invokevirtual 0 117 qo_182 (qa_w3 (off := 1040) (k := 2) ld_w65 (by decide +kernel)) rfl
theorem dL_law_1045 : decode cL_law 1045 = .ok (.pop, 1) := qd_p qo_87 (qa_w (off := 1040) (k := 5) ld_w65 (by decide +kernel))
theorem dL_law_1046 : decode cL_law 1046 = .ok (.goto 900, 3) := qz_s2 .goto 3 132 qo_167 (qa_w3 (off := 1040) (k := 6) ld_w65 (by decide +kernel)) rfl
theorem dL_law_1049 : decode cL_law 1049 = .ok (.aload_n 1, 1) := qd_p qo_43 (qa_w (off := 1040) (k := 9) ld_w65 (by decide +kernel))
theorem dL_law_1050 : decode cL_law 1050 = .ok (.aload_n 0, 1) := qd_p qo_42 (qa_w (off := 1040) (k := 10) ld_w65 (by decide +kernel))
theorem dL_law_1051 : decode cL_law 1051 = .ok (.iload_n 3, 1) := qd_p qo_29 (qa_w (off := 1040) (k := 11) ld_w65 (by decide +kernel))
theorem dL_law_1052 : decode cL_law 1052 = .ok (.iconst 1, 1) := qd_p qo_4 (qa_w (off := 1040) (k := 12) ld_w65 (by decide +kernel))
theorem dL_law_1053 : decode cL_law 1053 = .ok (.iadd, 1) := qd_p qo_96 (qa_w (off := 1040) (k := 13) ld_w65 (by decide +kernel))
theorem dL_law_1054 : decode cL_law 1054 = .ok (.iaload, 1) := qd_p qo_46 (qa_w (off := 1040) (k := 14) ld_w65 (by decide +kernel))
theorem dL_law_1055 : decode cL_law 1055 = .ok (.invokevirtual 118, 3) := qz_2 .invokevirtual 0 118 qo_182 (qa_w3 (off := 1040) (k := 15) ld_w65 (by decide +kernel)) rfl
theorem dL_law_1058 : decode cL_law 1058 = .ok (.pop, 1) := qd_p qo_87 (qa_w (off := 1056) (k := 2) ld_w66 (by decide +kernel))
theorem dL_law_1059 : decode cL_law 1059 = .ok (.aload_n 2, 1) := qd_p qo_44 (qa_w (off := 1056) (k := 3) ld_w66 (by decide +kernel))
theorem dL_law_1060 : decode cL_law 1060 = .ok (.aload_n 0, 1) := qd_p qo_42 (qa_w (off := 1056) (k := 4) ld_w66 (by decide +kernel))
theorem dL_law_1061 : decode cL_law 1061 = .ok (.iload_n 3, 1) := qd_p qo_29 (qa_w (off := 1056) (k := 5) ld_w66 (by decide +kernel))
theorem dL_law_1062 : decode cL_law 1062 = .ok (.iconst 1, 1) := qd_p qo_4 (qa_w (off := 1056) (k := 6) ld_w66 (by decide +kernel))
theorem dL_law_1063 : decode cL_law 1063 = .ok (.iadd, 1) := qd_p qo_96 (qa_w (off := 1056) (k := 7) ld_w66 (by decide +kernel))
theorem dL_law_1064 : decode cL_law 1064 = .ok (.iaload, 1) := qd_p qo_46 (qa_w (off := 1056) (k := 8) ld_w66 (by decide +kernel))
theorem dL_law_1065 : decode cL_law 1065 = .ok (.invokevirtual 121, 3) := qz_2 .invokevirtual 0 121 qo_182 (qa_w3 (off := 1056) (k := 9) ld_w66 (by decide +kernel)) rfl
theorem dL_law_1068 : decode cL_law 1068 = .ok (.pop, 1) := qd_p qo_87 (qa_w (off := 1056) (k := 12) ld_w66 (by decide +kernel))
theorem dL_law_1069 : decode cL_law 1069 = .ok (.goto 877, 3) := qz_s2 .goto 3 109 qo_167 (qa_w3 (off := 1056) (k := 13) ld_w66 (by decide +kernel)) rfl
theorem dL_law_1072 : decode cL_law 1072 = .ok (.aload_n 1, 1) := qd_p qo_43 (qa_w (off := 1072) (k := 0) ld_w67 (by decide +kernel))
theorem dL_law_1073 : decode cL_law 1073 = .ok (.aload_n 0, 1) := qd_p qo_42 (qa_w (off := 1072) (k := 1) ld_w67 (by decide +kernel))
theorem dL_law_1074 : decode cL_law 1074 = .ok (.iload_n 3, 1) := qd_p qo_29 (qa_w (off := 1072) (k := 2) ld_w67 (by decide +kernel))
theorem dL_law_1075 : decode cL_law 1075 = .ok (.iconst 1, 1) := qd_p qo_4 (qa_w (off := 1072) (k := 3) ld_w67 (by decide +kernel))
theorem dL_law_1076 : decode cL_law 1076 = .ok (.iadd, 1) := qd_p qo_96 (qa_w (off := 1072) (k := 4) ld_w67 (by decide +kernel))
theorem dL_law_1077 : decode cL_law 1077 = .ok (.iaload, 1) := qd_p qo_46 (qa_w (off := 1072) (k := 5) ld_w67 (by decide +kernel))
theorem dL_law_1078 : decode cL_law 1078 = .ok (.aload_n 0, 1) := qd_p qo_42 (qa_w (off := 1072) (k := 6) ld_w67 (by decide +kernel))
theorem dL_law_1079 : decode cL_law 1079 = .ok (.iload_n 3, 1) := qd_p qo_29 (qa_w (off := 1072) (k := 7) ld_w67 (by decide +kernel))
theorem dL_law_1080 : decode cL_law 1080 = .ok (.iconst 2, 1) := qd_p qo_5 (qa_w (off := 1072) (k := 8) ld_w67 (by decide +kernel))
theorem dL_law_1081 : decode cL_law 1081 = .ok (.iadd, 1) := qd_p qo_96 (qa_w (off := 1072) (k := 9) ld_w67 (by decide +kernel))
theorem dL_law_1082 : decode cL_law 1082 = .ok (.iaload, 1) := qd_p qo_46 (qa_w (off := 1072) (k := 10) ld_w67 (by decide +kernel))
theorem dL_law_1083 : decode cL_law 1083 = .ok (.aload_n 0, 1) := qd_p qo_42 (qa_w (off := 1072) (k := 11) ld_w67 (by decide +kernel))
theorem dL_law_1084 : decode cL_law 1084 = .ok (.iload_n 3, 1) := qd_p qo_29 (qa_w (off := 1072) (k := 12) ld_w67 (by decide +kernel))
theorem dL_law_1085 : decode cL_law 1085 = .ok (.iconst 3, 1) := qd_p qo_6 (qa_w (off := 1072) (k := 13) ld_w67 (by decide +kernel))
theorem dL_law_1086 : decode cL_law 1086 = .ok (.iadd, 1) := qd_p qo_96 (qa_w (off := 1072) (k := 14) ld_w67 (by decide +kernel))
theorem dL_law_1087 : decode cL_law 1087 = .ok (.iaload, 1) := qd_p qo_46 (qa_w (off := 1072) (k := 15) ld_w67 (by decide +kernel))
theorem dL_law_1088 : decode cL_law 1088 = .ok (.invokevirtual 122, 3) := qz_2 .invokevirtual 0 122 qo_182 (qa_w3 (off := 1088) (k := 0) ld_w68 (by decide +kernel)) rfl
theorem dL_law_1091 : decode cL_law 1091 = .ok (.pop, 1) := qd_p qo_87 (qa_w (off := 1088) (k := 3) ld_w68 (by decide +kernel))
theorem dL_law_1092 : decode cL_law 1092 = .ok (.aload_n 2, 1) := qd_p qo_44 (qa_w (off := 1088) (k := 4) ld_w68 (by decide +kernel))
theorem dL_law_1093 : decode cL_law 1093 = .ok (.aload_n 0, 1) := qd_p qo_42 (qa_w (off := 1088) (k := 5) ld_w68 (by decide +kernel))
theorem dL_law_1094 : decode cL_law 1094 = .ok (.iload_n 3, 1) := qd_p qo_29 (qa_w (off := 1088) (k := 6) ld_w68 (by decide +kernel))
theorem dL_law_1095 : decode cL_law 1095 = .ok (.iconst 1, 1) := qd_p qo_4 (qa_w (off := 1088) (k := 7) ld_w68 (by decide +kernel))
theorem dL_law_1096 : decode cL_law 1096 = .ok (.iadd, 1) := qd_p qo_96 (qa_w (off := 1088) (k := 8) ld_w68 (by decide +kernel))
theorem dL_law_1097 : decode cL_law 1097 = .ok (.iaload, 1) := qd_p qo_46 (qa_w (off := 1088) (k := 9) ld_w68 (by decide +kernel))
theorem dL_law_1098 : decode cL_law 1098 = .ok (.aload_n 0, 1) := qd_p qo_42 (qa_w (off := 1088) (k := 10) ld_w68 (by decide +kernel))
theorem dL_law_1099 : decode cL_law 1099 = .ok (.iload_n 3, 1) := qd_p qo_29 (qa_w (off := 1088) (k := 11) ld_w68 (by decide +kernel))
theorem dL_law_1100 : decode cL_law 1100 = .ok (.iconst 2, 1) := qd_p qo_5 (qa_w (off := 1088) (k := 12) ld_w68 (by decide +kernel))
theorem dL_law_1101 : decode cL_law 1101 = .ok (.iadd, 1) := qd_p qo_96 (qa_w (off := 1088) (k := 13) ld_w68 (by decide +kernel))
theorem dL_law_1102 : decode cL_law 1102 = .ok (.iaload, 1) := qd_p qo_46 (qa_w (off := 1088) (k := 14) ld_w68 (by decide +kernel))
theorem dL_law_1103 : decode cL_law 1103 = .ok (.aload_n 0, 1) := qd_p qo_42 (qa_w (off := 1088) (k := 15) ld_w68 (by decide +kernel))
theorem dL_law_1104 : decode cL_law 1104 = .ok (.iload_n 3, 1) := qd_p qo_29 (qa_w (off := 1104) (k := 0) ld_w69 (by decide +kernel))
theorem dL_law_1105 : decode cL_law 1105 = .ok (.iconst 3, 1) := qd_p qo_6 (qa_w (off := 1104) (k := 1) ld_w69 (by decide +kernel))
theorem dL_law_1106 : decode cL_law 1106 = .ok (.iadd, 1) := qd_p qo_96 (qa_w (off := 1104) (k := 2) ld_w69 (by decide +kernel))
theorem dL_law_1107 : decode cL_law 1107 = .ok (.iaload, 1) := qd_p qo_46 (qa_w (off := 1104) (k := 3) ld_w69 (by decide +kernel))
theorem dL_law_1108 : decode cL_law 1108 = .ok (.invokevirtual 125, 3) := qz_2 .invokevirtual 0 125 qo_182 (qa_w3 (off := 1104) (k := 4) ld_w69 (by decide +kernel)) rfl
theorem dL_law_1111 : decode cL_law 1111 = .ok (.pop, 1) := qd_p qo_87 (qa_w (off := 1104) (k := 7) ld_w69 (by decide +kernel))
theorem dL_law_1112 : decode cL_law 1112 = .ok (.goto 834, 3) := qz_s2 .goto 3 66 qo_167 (qa_w3 (off := 1104) (k := 8) ld_w69 (by decide +kernel)) rfl
theorem dL_law_1115 : decode cL_law 1115 = .ok (.aload_n 1, 1) := qd_p qo_43 (qa_w (off := 1104) (k := 11) ld_w69 (by decide +kernel))
theorem dL_law_1116 : decode cL_law 1116 = .ok (.aload_n 0, 1) := qd_p qo_42 (qa_w (off := 1104) (k := 12) ld_w69 (by decide +kernel))
theorem dL_law_1117 : decode cL_law 1117 = .ok (.iload_n 3, 1) := qd_p qo_29 (qa_w (off := 1104) (k := 13) ld_w69 (by decide +kernel))
theorem dL_law_1118 : decode cL_law 1118 = .ok (.iconst 1, 1) := qd_p qo_4 (qa_w (off := 1104) (k := 14) ld_w69 (by decide +kernel))
theorem dL_law_1119 : decode cL_law 1119 = .ok (.iadd, 1) := qd_p qo_96 (qa_w (off := 1104) (k := 15) ld_w69 (by decide +kernel))
theorem dL_law_1120 : decode cL_law 1120 = .ok (.iaload, 1) := qd_p qo_46 (qa_w (off := 1120) (k := 0) ld_w70 (by decide +kernel))
theorem dL_law_1121 : decode cL_law 1121 = .ok (.aload_n 0, 1) := qd_p qo_42 (qa_w (off := 1120) (k := 1) ld_w70 (by decide +kernel))
theorem dL_law_1122 : decode cL_law 1122 = .ok (.iload_n 3, 1) := qd_p qo_29 (qa_w (off := 1120) (k := 2) ld_w70 (by decide +kernel))
theorem dL_law_1123 : decode cL_law 1123 = .ok (.iconst 2, 1) := qd_p qo_5 (qa_w (off := 1120) (k := 3) ld_w70 (by decide +kernel))
theorem dL_law_1124 : decode cL_law 1124 = .ok (.iadd, 1) := qd_p qo_96 (qa_w (off := 1120) (k := 4) ld_w70 (by decide +kernel))
theorem dL_law_1125 : decode cL_law 1125 = .ok (.iaload, 1) := qd_p qo_46 (qa_w (off := 1120) (k := 5) ld_w70 (by decide +kernel))
theorem dL_law_1126 : decode cL_law 1126 = .ok (.aload_n 0, 1) := qd_p qo_42 (qa_w (off := 1120) (k := 6) ld_w70 (by decide +kernel))
theorem dL_law_1127 : decode cL_law 1127 = .ok (.iload_n 3, 1) := qd_p qo_29 (qa_w (off := 1120) (k := 7) ld_w70 (by decide +kernel))
theorem dL_law_1128 : decode cL_law 1128 = .ok (.iconst 3, 1) := qd_p qo_6 (qa_w (off := 1120) (k := 8) ld_w70 (by decide +kernel))
theorem dL_law_1129 : decode cL_law 1129 = .ok (.iadd, 1) := qd_p qo_96 (qa_w (off := 1120) (k := 9) ld_w70 (by decide +kernel))
theorem dL_law_1130 : decode cL_law 1130 = .ok (.iaload, 1) := qd_p qo_46 (qa_w (off := 1120) (k := 10) ld_w70 (by decide +kernel))
theorem dL_law_1131 : decode cL_law 1131 = .ok (.invokevirtual 126, 3) := qz_2 .invokevirtual 0 126 qo_182 (qa_w3 (off := 1120) (k := 11) ld_w70 (by decide +kernel)) rfl
theorem dL_law_1134 : decode cL_law 1134 = .ok (.pop2, 1) := qd_p qo_88 (qa_w (off := 1120) (k := 14) ld_w70 (by decide +kernel))
theorem dL_law_1135 : decode cL_law 1135 = .ok (.aload_n 2, 1) := qd_p qo_44 (qa_w (off := 1120) (k := 15) ld_w70 (by decide +kernel))
theorem dL_law_1136 : decode cL_law 1136 = .ok (.aload_n 0, 1) := qd_p qo_42 (qa_w (off := 1136) (k := 0) ld_w71 (by decide +kernel))
theorem dL_law_1137 : decode cL_law 1137 = .ok (.iload_n 3, 1) := qd_p qo_29 (qa_w (off := 1136) (k := 1) ld_w71 (by decide +kernel))
theorem dL_law_1138 : decode cL_law 1138 = .ok (.iconst 1, 1) := qd_p qo_4 (qa_w (off := 1136) (k := 2) ld_w71 (by decide +kernel))
theorem dL_law_1139 : decode cL_law 1139 = .ok (.iadd, 1) := qd_p qo_96 (qa_w (off := 1136) (k := 3) ld_w71 (by decide +kernel))
theorem dL_law_1140 : decode cL_law 1140 = .ok (.iaload, 1) := qd_p qo_46 (qa_w (off := 1136) (k := 4) ld_w71 (by decide +kernel))
theorem dL_law_1141 : decode cL_law 1141 = .ok (.aload_n 0, 1) := qd_p qo_42 (qa_w (off := 1136) (k := 5) ld_w71 (by decide +kernel))
theorem dL_law_1142 : decode cL_law 1142 = .ok (.iload_n 3, 1) := qd_p qo_29 (qa_w (off := 1136) (k := 6) ld_w71 (by decide +kernel))
theorem dL_law_1143 : decode cL_law 1143 = .ok (.iconst 2, 1) := qd_p qo_5 (qa_w (off := 1136) (k := 7) ld_w71 (by decide +kernel))
theorem dL_law_1144 : decode cL_law 1144 = .ok (.iadd, 1) := qd_p qo_96 (qa_w (off := 1136) (k := 8) ld_w71 (by decide +kernel))
theorem dL_law_1145 : decode cL_law 1145 = .ok (.iaload, 1) := qd_p qo_46 (qa_w (off := 1136) (k := 9) ld_w71 (by decide +kernel))
theorem dL_law_1146 : decode cL_law 1146 = .ok (.aload_n 0, 1) := qd_p qo_42 (qa_w (off := 1136) (k := 10) ld_w71 (by decide +kernel))
theorem dL_law_1147 : decode cL_law 1147 = .ok (.iload_n 3, 1) := qd_p qo_29 (qa_w (off := 1136) (k := 11) ld_w71 (by decide +kernel))
theorem dL_law_1148 : decode cL_law 1148 = .ok (.iconst 3, 1) := qd_p qo_6 (qa_w (off := 1136) (k := 12) ld_w71 (by decide +kernel))
theorem dL_law_1149 : decode cL_law 1149 = .ok (.iadd, 1) := qd_p qo_96 (qa_w (off := 1136) (k := 13) ld_w71 (by decide +kernel))
theorem dL_law_1150 : decode cL_law 1150 = .ok (.iaload, 1) := qd_p qo_46 (qa_w (off := 1136) (k := 14) ld_w71 (by decide +kernel))
theorem dL_law_1151 : decode cL_law 1151 = .ok (.invokevirtual 130, 3) := qz_2 .invokevirtual 0 130 qo_182 (qa_w3 (off := 1136) (k := 15) ld_w71 (by decide +kernel)) rfl
theorem dL_law_1154 : decode cL_law 1154 = .ok (.pop2, 1) := qd_p qo_88 (qa_w (off := 1152) (k := 2) ld_w72 (by decide +kernel))
theorem dL_law_1155 : decode cL_law 1155 = .ok (.goto 791, 3) := qz_s2 .goto 3 23 qo_167 (qa_w3 (off := 1152) (k := 3) ld_w72 (by decide +kernel)) rfl
theorem dL_law_1158 : decode cL_law 1158 = .ok (.aload_n 1, 1) := qd_p qo_43 (qa_w (off := 1152) (k := 6) ld_w72 (by decide +kernel))
theorem dL_law_1159 : decode cL_law 1159 = .ok (.aload_n 0, 1) := qd_p qo_42 (qa_w (off := 1152) (k := 7) ld_w72 (by decide +kernel))
theorem dL_law_1160 : decode cL_law 1160 = .ok (.iload_n 3, 1) := qd_p qo_29 (qa_w (off := 1152) (k := 8) ld_w72 (by decide +kernel))
theorem dL_law_1161 : decode cL_law 1161 = .ok (.iconst 1, 1) := qd_p qo_4 (qa_w (off := 1152) (k := 9) ld_w72 (by decide +kernel))
theorem dL_law_1162 : decode cL_law 1162 = .ok (.iadd, 1) := qd_p qo_96 (qa_w (off := 1152) (k := 10) ld_w72 (by decide +kernel))
theorem dL_law_1163 : decode cL_law 1163 = .ok (.iaload, 1) := qd_p qo_46 (qa_w (off := 1152) (k := 11) ld_w72 (by decide +kernel))
theorem dL_law_1164 : decode cL_law 1164 = .ok (.aload_n 0, 1) := qd_p qo_42 (qa_w (off := 1152) (k := 12) ld_w72 (by decide +kernel))
theorem dL_law_1165 : decode cL_law 1165 = .ok (.iload_n 3, 1) := qd_p qo_29 (qa_w (off := 1152) (k := 13) ld_w72 (by decide +kernel))
theorem dL_law_1166 : decode cL_law 1166 = .ok (.iconst 2, 1) := qd_p qo_5 (qa_w (off := 1152) (k := 14) ld_w72 (by decide +kernel))
theorem dL_law_1167 : decode cL_law 1167 = .ok (.iadd, 1) := qd_p qo_96 (qa_w (off := 1152) (k := 15) ld_w72 (by decide +kernel))
theorem dL_law_1168 : decode cL_law 1168 = .ok (.iaload, 1) := qd_p qo_46 (qa_w (off := 1168) (k := 0) ld_w73 (by decide +kernel))
theorem dL_law_1169 : decode cL_law 1169 = .ok (.aload_n 0, 1) := qd_p qo_42 (qa_w (off := 1168) (k := 1) ld_w73 (by decide +kernel))
theorem dL_law_1170 : decode cL_law 1170 = .ok (.iload_n 3, 1) := qd_p qo_29 (qa_w (off := 1168) (k := 2) ld_w73 (by decide +kernel))
theorem dL_law_1171 : decode cL_law 1171 = .ok (.iconst 3, 1) := qd_p qo_6 (qa_w (off := 1168) (k := 3) ld_w73 (by decide +kernel))
theorem dL_law_1172 : decode cL_law 1172 = .ok (.iadd, 1) := qd_p qo_96 (qa_w (off := 1168) (k := 4) ld_w73 (by decide +kernel))
theorem dL_law_1173 : decode cL_law 1173 = .ok (.iaload, 1) := qd_p qo_46 (qa_w (off := 1168) (k := 5) ld_w73 (by decide +kernel))
theorem dL_law_1174 : decode cL_law 1174 = .ok (.aload_n 0, 1) := qd_p qo_42 (qa_w (off := 1168) (k := 6) ld_w73 (by decide +kernel))
theorem dL_law_1175 : decode cL_law 1175 = .ok (.iload_n 3, 1) := qd_p qo_29 (qa_w (off := 1168) (k := 7) ld_w73 (by decide +kernel))
theorem dL_law_1176 : decode cL_law 1176 = .ok (.iconst 4, 1) := qd_p qo_7 (qa_w (off := 1168) (k := 8) ld_w73 (by decide +kernel))
theorem dL_law_1177 : decode cL_law 1177 = .ok (.iadd, 1) := qd_p qo_96 (qa_w (off := 1168) (k := 9) ld_w73 (by decide +kernel))
theorem dL_law_1178 : decode cL_law 1178 = .ok (.iaload, 1) := qd_p qo_46 (qa_w (off := 1168) (k := 10) ld_w73 (by decide +kernel))
theorem dL_law_1179 : decode cL_law 1179 = .ok (.invokevirtual 131, 3) := qz_2 .invokevirtual 0 131 qo_182 (qa_w3 (off := 1168) (k := 11) ld_w73 (by decide +kernel)) rfl
theorem dL_law_1182 : decode cL_law 1182 = .ok (.pop, 1) := qd_p qo_87 (qa_w (off := 1168) (k := 14) ld_w73 (by decide +kernel))
theorem dL_law_1183 : decode cL_law 1183 = .ok (.aload_n 2, 1) := qd_p qo_44 (qa_w (off := 1168) (k := 15) ld_w73 (by decide +kernel))
theorem dL_law_1184 : decode cL_law 1184 = .ok (.aload_n 0, 1) := qd_p qo_42 (qa_w (off := 1184) (k := 0) ld_w74 (by decide +kernel))
theorem dL_law_1185 : decode cL_law 1185 = .ok (.iload_n 3, 1) := qd_p qo_29 (qa_w (off := 1184) (k := 1) ld_w74 (by decide +kernel))
theorem dL_law_1186 : decode cL_law 1186 = .ok (.iconst 1, 1) := qd_p qo_4 (qa_w (off := 1184) (k := 2) ld_w74 (by decide +kernel))
theorem dL_law_1187 : decode cL_law 1187 = .ok (.iadd, 1) := qd_p qo_96 (qa_w (off := 1184) (k := 3) ld_w74 (by decide +kernel))
theorem dL_law_1188 : decode cL_law 1188 = .ok (.iaload, 1) := qd_p qo_46 (qa_w (off := 1184) (k := 4) ld_w74 (by decide +kernel))
theorem dL_law_1189 : decode cL_law 1189 = .ok (.aload_n 0, 1) := qd_p qo_42 (qa_w (off := 1184) (k := 5) ld_w74 (by decide +kernel))
theorem dL_law_1190 : decode cL_law 1190 = .ok (.iload_n 3, 1) := qd_p qo_29 (qa_w (off := 1184) (k := 6) ld_w74 (by decide +kernel))
theorem dL_law_1191 : decode cL_law 1191 = .ok (.iconst 2, 1) := qd_p qo_5 (qa_w (off := 1184) (k := 7) ld_w74 (by decide +kernel))
theorem dL_law_1192 : decode cL_law 1192 = .ok (.iadd, 1) := qd_p qo_96 (qa_w (off := 1184) (k := 8) ld_w74 (by decide +kernel))
theorem dL_law_1193 : decode cL_law 1193 = .ok (.iaload, 1) := qd_p qo_46 (qa_w (off := 1184) (k := 9) ld_w74 (by decide +kernel))
theorem dL_law_1194 : decode cL_law 1194 = .ok (.aload_n 0, 1) := qd_p qo_42 (qa_w (off := 1184) (k := 10) ld_w74 (by decide +kernel))
theorem dL_law_1195 : decode cL_law 1195 = .ok (.iload_n 3, 1) := qd_p qo_29 (qa_w (off := 1184) (k := 11) ld_w74 (by decide +kernel))
theorem dL_law_1196 : decode cL_law 1196 = .ok (.iconst 3, 1) := qd_p qo_6 (qa_w (off := 1184) (k := 12) ld_w74 (by decide +kernel))
theorem dL_law_1197 : decode cL_law 1197 = .ok (.iadd, 1) := qd_p qo_96 (qa_w (off := 1184) (k := 13) ld_w74 (by decide +kernel))
theorem dL_law_1198 : decode cL_law 1198 = .ok (.iaload, 1) := qd_p qo_46 (qa_w (off := 1184) (k := 14) ld_w74 (by decide +kernel))
theorem dL_law_1199 : decode cL_law 1199 = .ok (.aload_n 0, 1) := qd_p qo_42 (qa_w (off := 1184) (k := 15) ld_w74 (by decide +kernel))
theorem dL_law_1200 : decode cL_law 1200 = .ok (.iload_n 3, 1) := qd_p qo_29 (qa_w (off := 1200) (k := 0) ld_w75 (by decide +kernel))
theorem dL_law_1201 : decode cL_law 1201 = .ok (.iconst 4, 1) := qd_p qo_7 (qa_w (off := 1200) (k := 1) ld_w75 (by decide +kernel))
theorem dL_law_1202 : decode cL_law 1202 = .ok (.iadd, 1) := qd_p qo_96 (qa_w (off := 1200) (k := 2) ld_w75 (by decide +kernel))
theorem dL_law_1203 : decode cL_law 1203 = .ok (.iaload, 1) := qd_p qo_46 (qa_w (off := 1200) (k := 3) ld_w75 (by decide +kernel))
theorem dL_law_1204 : decode cL_law 1204 = .ok (.invokevirtual 134, 3) := qz_2 .invokevirtual 0 134 qo_182 (qa_w3 (off := 1200) (k := 4) ld_w75 (by decide +kernel)) rfl
theorem dL_law_1207 : decode cL_law 1207 = .ok (.pop, 1) := qd_p qo_87 (qa_w (off := 1200) (k := 7) ld_w75 (by decide +kernel))
theorem dL_law_1208 : decode cL_law 1208 = .ok (.goto 738, 3) := qz_s2 .goto 2 226 qo_167 (qa_w3 (off := 1200) (k := 8) ld_w75 (by decide +kernel)) rfl
theorem dL_law_1211 : decode cL_law 1211 = .ok (.aload_n 1, 1) := qd_p qo_43 (qa_w (off := 1200) (k := 11) ld_w75 (by decide +kernel))
theorem dL_law_1212 : decode cL_law 1212 = .ok (.invokevirtual 135, 3) := qz_2 .invokevirtual 0 135 qo_182 (qa_w3 (off := 1200) (k := 12) ld_w75 (by decide +kernel)) rfl
theorem dL_law_1215 : decode cL_law 1215 = .ok (.pop, 1) := qd_p qo_87 (qa_w (off := 1200) (k := 15) ld_w75 (by decide +kernel))
theorem dL_law_1216 : decode cL_law 1216 = .ok (.aload_n 2, 1) := qd_p qo_44 (qa_w (off := 1216) (k := 0) ld_w76 (by decide +kernel))
theorem dL_law_1217 : decode cL_law 1217 = .ok (.invokevirtual 138, 3) := qz_2 .invokevirtual 0 138 qo_182 (qa_w3 (off := 1216) (k := 1) ld_w76 (by decide +kernel)) rfl
theorem dL_law_1220 : decode cL_law 1220 = .ok (.pop, 1) := qd_p qo_87 (qa_w (off := 1216) (k := 4) ld_w76 (by decide +kernel))
theorem dL_law_1221 : decode cL_law 1221 = .ok (.goto 725, 3) := qz_s2 .goto 2 213 qo_167 (qa_w3 (off := 1216) (k := 5) ld_w76 (by decide +kernel)) rfl
theorem dL_law_1224 : decode cL_law 1224 = .ok (.aload_n 1, 1) := qd_p qo_43 (qa_w (off := 1216) (k := 8) ld_w76 (by decide +kernel))
theorem dL_law_1225 : decode cL_law 1225 = .ok (.aload_n 0, 1) := qd_p qo_42 (qa_w (off := 1216) (k := 9) ld_w76 (by decide +kernel))
theorem dL_law_1226 : decode cL_law 1226 = .ok (.iload_n 3, 1) := qd_p qo_29 (qa_w (off := 1216) (k := 10) ld_w76 (by decide +kernel))
theorem dL_law_1227 : decode cL_law 1227 = .ok (.iconst 1, 1) := qd_p qo_4 (qa_w (off := 1216) (k := 11) ld_w76 (by decide +kernel))
theorem dL_law_1228 : decode cL_law 1228 = .ok (.iadd, 1) := qd_p qo_96 (qa_w (off := 1216) (k := 12) ld_w76 (by decide +kernel))
theorem dL_law_1229 : decode cL_law 1229 = .ok (.iaload, 1) := qd_p qo_46 (qa_w (off := 1216) (k := 13) ld_w76 (by decide +kernel))
theorem dL_law_1230 : decode cL_law 1230 = .ok (.aload_n 0, 1) := qd_p qo_42 (qa_w (off := 1216) (k := 14) ld_w76 (by decide +kernel))
theorem dL_law_1231 : decode cL_law 1231 = .ok (.iload_n 3, 1) := qd_p qo_29 (qa_w (off := 1216) (k := 15) ld_w76 (by decide +kernel))
theorem dL_law_1232 : decode cL_law 1232 = .ok (.iconst 2, 1) := qd_p qo_5 (qa_w (off := 1232) (k := 0) ld_w77 (by decide +kernel))
theorem dL_law_1233 : decode cL_law 1233 = .ok (.iadd, 1) := qd_p qo_96 (qa_w (off := 1232) (k := 1) ld_w77 (by decide +kernel))
theorem dL_law_1234 : decode cL_law 1234 = .ok (.iaload, 1) := qd_p qo_46 (qa_w (off := 1232) (k := 2) ld_w77 (by decide +kernel))
theorem dL_law_1235 : decode cL_law 1235 = .ok (.aload_n 0, 1) := qd_p qo_42 (qa_w (off := 1232) (k := 3) ld_w77 (by decide +kernel))
theorem dL_law_1236 : decode cL_law 1236 = .ok (.iload_n 3, 1) := qd_p qo_29 (qa_w (off := 1232) (k := 4) ld_w77 (by decide +kernel))
theorem dL_law_1237 : decode cL_law 1237 = .ok (.iconst 3, 1) := qd_p qo_6 (qa_w (off := 1232) (k := 5) ld_w77 (by decide +kernel))
theorem dL_law_1238 : decode cL_law 1238 = .ok (.iadd, 1) := qd_p qo_96 (qa_w (off := 1232) (k := 6) ld_w77 (by decide +kernel))
theorem dL_law_1239 : decode cL_law 1239 = .ok (.iaload, 1) := qd_p qo_46 (qa_w (off := 1232) (k := 7) ld_w77 (by decide +kernel))
theorem dL_law_1240 : decode cL_law 1240 = .ok (.invokevirtual 139, 3) := qz_2 .invokevirtual 0 139 qo_182 (qa_w3 (off := 1232) (k := 8) ld_w77 (by decide +kernel)) rfl
theorem dL_law_1243 : decode cL_law 1243 = .ok (.pop, 1) := qd_p qo_87 (qa_w (off := 1232) (k := 11) ld_w77 (by decide +kernel))
theorem dL_law_1244 : decode cL_law 1244 = .ok (.aload_n 2, 1) := qd_p qo_44 (qa_w (off := 1232) (k := 12) ld_w77 (by decide +kernel))
theorem dL_law_1245 : decode cL_law 1245 = .ok (.aload_n 0, 1) := qd_p qo_42 (qa_w (off := 1232) (k := 13) ld_w77 (by decide +kernel))
theorem dL_law_1246 : decode cL_law 1246 = .ok (.iload_n 3, 1) := qd_p qo_29 (qa_w (off := 1232) (k := 14) ld_w77 (by decide +kernel))
theorem dL_law_1247 : decode cL_law 1247 = .ok (.iconst 1, 1) := qd_p qo_4 (qa_w (off := 1232) (k := 15) ld_w77 (by decide +kernel))
theorem dL_law_1248 : decode cL_law 1248 = .ok (.iadd, 1) := qd_p qo_96 (qa_w (off := 1248) (k := 0) ld_w78 (by decide +kernel))
theorem dL_law_1249 : decode cL_law 1249 = .ok (.iaload, 1) := qd_p qo_46 (qa_w (off := 1248) (k := 1) ld_w78 (by decide +kernel))
theorem dL_law_1250 : decode cL_law 1250 = .ok (.aload_n 0, 1) := qd_p qo_42 (qa_w (off := 1248) (k := 2) ld_w78 (by decide +kernel))
theorem dL_law_1251 : decode cL_law 1251 = .ok (.iload_n 3, 1) := qd_p qo_29 (qa_w (off := 1248) (k := 3) ld_w78 (by decide +kernel))
theorem dL_law_1252 : decode cL_law 1252 = .ok (.iconst 2, 1) := qd_p qo_5 (qa_w (off := 1248) (k := 4) ld_w78 (by decide +kernel))
theorem dL_law_1253 : decode cL_law 1253 = .ok (.iadd, 1) := qd_p qo_96 (qa_w (off := 1248) (k := 5) ld_w78 (by decide +kernel))
theorem dL_law_1254 : decode cL_law 1254 = .ok (.iaload, 1) := qd_p qo_46 (qa_w (off := 1248) (k := 6) ld_w78 (by decide +kernel))
theorem dL_law_1255 : decode cL_law 1255 = .ok (.aload_n 0, 1) := qd_p qo_42 (qa_w (off := 1248) (k := 7) ld_w78 (by decide +kernel))
theorem dL_law_1256 : decode cL_law 1256 = .ok (.iload_n 3, 1) := qd_p qo_29 (qa_w (off := 1248) (k := 8) ld_w78 (by decide +kernel))
theorem dL_law_1257 : decode cL_law 1257 = .ok (.iconst 3, 1) := qd_p qo_6 (qa_w (off := 1248) (k := 9) ld_w78 (by decide +kernel))
theorem dL_law_1258 : decode cL_law 1258 = .ok (.iadd, 1) := qd_p qo_96 (qa_w (off := 1248) (k := 10) ld_w78 (by decide +kernel))
theorem dL_law_1259 : decode cL_law 1259 = .ok (.iaload, 1) := qd_p qo_46 (qa_w (off := 1248) (k := 11) ld_w78 (by decide +kernel))
theorem dL_law_1260 : decode cL_law 1260 = .ok (.invokevirtual 142, 3) := qz_2 .invokevirtual 0 142 qo_182 (qa_w3 (off := 1248) (k := 12) ld_w78 (by decide +kernel)) rfl
theorem dL_law_1263 : decode cL_law 1263 = .ok (.pop, 1) := qd_p qo_87 (qa_w (off := 1248) (k := 15) ld_w78 (by decide +kernel))
theorem dL_law_1264 : decode cL_law 1264 = .ok (.goto 682, 3) := qz_s2 .goto 2 170 qo_167 (qa_w3 (off := 1264) (k := 0) ld_w79 (by decide +kernel)) rfl
theorem dL_law_1267 : decode cL_law 1267 = .ok (.aload_n 1, 1) := qd_p qo_43 (qa_w (off := 1264) (k := 3) ld_w79 (by decide +kernel))
theorem dL_law_1268 : decode cL_law 1268 = .ok (.aload_n 0, 1) := qd_p qo_42 (qa_w (off := 1264) (k := 4) ld_w79 (by decide +kernel))
theorem dL_law_1269 : decode cL_law 1269 = .ok (.iload_n 3, 1) := qd_p qo_29 (qa_w (off := 1264) (k := 5) ld_w79 (by decide +kernel))
theorem dL_law_1270 : decode cL_law 1270 = .ok (.iconst 1, 1) := qd_p qo_4 (qa_w (off := 1264) (k := 6) ld_w79 (by decide +kernel))
theorem dL_law_1271 : decode cL_law 1271 = .ok (.iadd, 1) := qd_p qo_96 (qa_w (off := 1264) (k := 7) ld_w79 (by decide +kernel))
theorem dL_law_1272 : decode cL_law 1272 = .ok (.iaload, 1) := qd_p qo_46 (qa_w (off := 1264) (k := 8) ld_w79 (by decide +kernel))
theorem dL_law_1273 : decode cL_law 1273 = .ok (.aload_n 0, 1) := qd_p qo_42 (qa_w (off := 1264) (k := 9) ld_w79 (by decide +kernel))
theorem dL_law_1274 : decode cL_law 1274 = .ok (.iload_n 3, 1) := qd_p qo_29 (qa_w (off := 1264) (k := 10) ld_w79 (by decide +kernel))
theorem dL_law_1275 : decode cL_law 1275 = .ok (.iconst 2, 1) := qd_p qo_5 (qa_w (off := 1264) (k := 11) ld_w79 (by decide +kernel))
theorem dL_law_1276 : decode cL_law 1276 = .ok (.iadd, 1) := qd_p qo_96 (qa_w (off := 1264) (k := 12) ld_w79 (by decide +kernel))
theorem dL_law_1277 : decode cL_law 1277 = .ok (.iaload, 1) := qd_p qo_46 (qa_w (off := 1264) (k := 13) ld_w79 (by decide +kernel))
theorem dL_law_1278 : decode cL_law 1278 = .ok (.aload_n 0, 1) := qd_p qo_42 (qa_w (off := 1264) (k := 14) ld_w79 (by decide +kernel))
theorem dL_law_1279 : decode cL_law 1279 = .ok (.iload_n 3, 1) := qd_p qo_29 (qa_w (off := 1264) (k := 15) ld_w79 (by decide +kernel))
theorem dL_law_1280 : decode cL_law 1280 = .ok (.iconst 3, 1) := qd_p qo_6 (qa_w (off := 1280) (k := 0) ld_w80 (by decide +kernel))
theorem dL_law_1281 : decode cL_law 1281 = .ok (.iadd, 1) := qd_p qo_96 (qa_w (off := 1280) (k := 1) ld_w80 (by decide +kernel))
theorem dL_law_1282 : decode cL_law 1282 = .ok (.iaload, 1) := qd_p qo_46 (qa_w (off := 1280) (k := 2) ld_w80 (by decide +kernel))
theorem dL_law_1283 : decode cL_law 1283 = .ok (.aload_n 0, 1) := qd_p qo_42 (qa_w (off := 1280) (k := 3) ld_w80 (by decide +kernel))
theorem dL_law_1284 : decode cL_law 1284 = .ok (.iload_n 3, 1) := qd_p qo_29 (qa_w (off := 1280) (k := 4) ld_w80 (by decide +kernel))
theorem dL_law_1285 : decode cL_law 1285 = .ok (.iconst 4, 1) := qd_p qo_7 (qa_w (off := 1280) (k := 5) ld_w80 (by decide +kernel))
theorem dL_law_1286 : decode cL_law 1286 = .ok (.iadd, 1) := qd_p qo_96 (qa_w (off := 1280) (k := 6) ld_w80 (by decide +kernel))
theorem dL_law_1287 : decode cL_law 1287 = .ok (.iaload, 1) := qd_p qo_46 (qa_w (off := 1280) (k := 7) ld_w80 (by decide +kernel))
theorem dL_law_1288 : decode cL_law 1288 = .ok (.aload_n 0, 1) := qd_p qo_42 (qa_w (off := 1280) (k := 8) ld_w80 (by decide +kernel))
theorem dL_law_1289 : decode cL_law 1289 = .ok (.iload_n 3, 1) := qd_p qo_29 (qa_w (off := 1280) (k := 9) ld_w80 (by decide +kernel))
theorem dL_law_1290 : decode cL_law 1290 = .ok (.iconst 5, 1) := qd_p qo_8 (qa_w (off := 1280) (k := 10) ld_w80 (by decide +kernel))
theorem dL_law_1291 : decode cL_law 1291 = .ok (.iadd, 1) := qd_p qo_96 (qa_w (off := 1280) (k := 11) ld_w80 (by decide +kernel))
theorem dL_law_1292 : decode cL_law 1292 = .ok (.iaload, 1) := qd_p qo_46 (qa_w (off := 1280) (k := 12) ld_w80 (by decide +kernel))
theorem dL_law_1293 : decode cL_law 1293 = .ok (.invokevirtual 143, 3) := qz_2 .invokevirtual 0 143 qo_182 (qa_w3 (off := 1280) (k := 13) ld_w80 (by decide +kernel)) rfl
theorem dL_law_1296 : decode cL_law 1296 = .ok (.pop2, 1) := qd_p qo_88 (qa_w (off := 1296) (k := 0) ld_w81 (by decide +kernel))
theorem dL_law_1297 : decode cL_law 1297 = .ok (.aload_n 2, 1) := qd_p qo_44 (qa_w (off := 1296) (k := 1) ld_w81 (by decide +kernel))
theorem dL_law_1298 : decode cL_law 1298 = .ok (.aload_n 0, 1) := qd_p qo_42 (qa_w (off := 1296) (k := 2) ld_w81 (by decide +kernel))
theorem dL_law_1299 : decode cL_law 1299 = .ok (.iload_n 3, 1) := qd_p qo_29 (qa_w (off := 1296) (k := 3) ld_w81 (by decide +kernel))
theorem dL_law_1300 : decode cL_law 1300 = .ok (.iconst 1, 1) := qd_p qo_4 (qa_w (off := 1296) (k := 4) ld_w81 (by decide +kernel))
theorem dL_law_1301 : decode cL_law 1301 = .ok (.iadd, 1) := qd_p qo_96 (qa_w (off := 1296) (k := 5) ld_w81 (by decide +kernel))
theorem dL_law_1302 : decode cL_law 1302 = .ok (.iaload, 1) := qd_p qo_46 (qa_w (off := 1296) (k := 6) ld_w81 (by decide +kernel))
theorem dL_law_1303 : decode cL_law 1303 = .ok (.aload_n 0, 1) := qd_p qo_42 (qa_w (off := 1296) (k := 7) ld_w81 (by decide +kernel))
theorem dL_law_1304 : decode cL_law 1304 = .ok (.iload_n 3, 1) := qd_p qo_29 (qa_w (off := 1296) (k := 8) ld_w81 (by decide +kernel))
theorem dL_law_1305 : decode cL_law 1305 = .ok (.iconst 2, 1) := qd_p qo_5 (qa_w (off := 1296) (k := 9) ld_w81 (by decide +kernel))
theorem dL_law_1306 : decode cL_law 1306 = .ok (.iadd, 1) := qd_p qo_96 (qa_w (off := 1296) (k := 10) ld_w81 (by decide +kernel))
theorem dL_law_1307 : decode cL_law 1307 = .ok (.iaload, 1) := qd_p qo_46 (qa_w (off := 1296) (k := 11) ld_w81 (by decide +kernel))
theorem dL_law_1308 : decode cL_law 1308 = .ok (.aload_n 0, 1) := qd_p qo_42 (qa_w (off := 1296) (k := 12) ld_w81 (by decide +kernel))
theorem dL_law_1309 : decode cL_law 1309 = .ok (.iload_n 3, 1) := qd_p qo_29 (qa_w (off := 1296) (k := 13) ld_w81 (by decide +kernel))
theorem dL_law_1310 : decode cL_law 1310 = .ok (.iconst 3, 1) := qd_p qo_6 (qa_w (off := 1296) (k := 14) ld_w81 (by decide +kernel))
theorem dL_law_1311 : decode cL_law 1311 = .ok (.iadd, 1) := qd_p qo_96 (qa_w (off := 1296) (k := 15) ld_w81 (by decide +kernel))
theorem dL_law_1312 : decode cL_law 1312 = .ok (.iaload, 1) := qd_p qo_46 (qa_w (off := 1312) (k := 0) ld_w82 (by decide +kernel))
theorem dL_law_1313 : decode cL_law 1313 = .ok (.aload_n 0, 1) := qd_p qo_42 (qa_w (off := 1312) (k := 1) ld_w82 (by decide +kernel))
theorem dL_law_1314 : decode cL_law 1314 = .ok (.iload_n 3, 1) := qd_p qo_29 (qa_w (off := 1312) (k := 2) ld_w82 (by decide +kernel))
theorem dL_law_1315 : decode cL_law 1315 = .ok (.iconst 4, 1) := qd_p qo_7 (qa_w (off := 1312) (k := 3) ld_w82 (by decide +kernel))
theorem dL_law_1316 : decode cL_law 1316 = .ok (.iadd, 1) := qd_p qo_96 (qa_w (off := 1312) (k := 4) ld_w82 (by decide +kernel))
theorem dL_law_1317 : decode cL_law 1317 = .ok (.iaload, 1) := qd_p qo_46 (qa_w (off := 1312) (k := 5) ld_w82 (by decide +kernel))
theorem dL_law_1318 : decode cL_law 1318 = .ok (.aload_n 0, 1) := qd_p qo_42 (qa_w (off := 1312) (k := 6) ld_w82 (by decide +kernel))
theorem dL_law_1319 : decode cL_law 1319 = .ok (.iload_n 3, 1) := qd_p qo_29 (qa_w (off := 1312) (k := 7) ld_w82 (by decide +kernel))
theorem dL_law_1320 : decode cL_law 1320 = .ok (.iconst 5, 1) := qd_p qo_8 (qa_w (off := 1312) (k := 8) ld_w82 (by decide +kernel))
theorem dL_law_1321 : decode cL_law 1321 = .ok (.iadd, 1) := qd_p qo_96 (qa_w (off := 1312) (k := 9) ld_w82 (by decide +kernel))
theorem dL_law_1322 : decode cL_law 1322 = .ok (.iaload, 1) := qd_p qo_46 (qa_w (off := 1312) (k := 10) ld_w82 (by decide +kernel))
theorem dL_law_1323 : decode cL_law 1323 = .ok (.invokevirtual 147, 3) := qz_2 .invokevirtual 0 147 qo_182 (qa_w3 (off := 1312) (k := 11) ld_w82 (by decide +kernel)) rfl
theorem dL_law_1326 : decode cL_law 1326 = .ok (.pop2, 1) := qd_p qo_88 (qa_w (off := 1312) (k := 14) ld_w82 (by decide +kernel))
theorem dL_law_1327 : decode cL_law 1327 = .ok (.goto 619, 3) := qz_s2 .goto 2 107 qo_167 (qa_w3 (off := 1312) (k := 15) ld_w82 (by decide +kernel)) rfl
theorem dL_law_1330 : decode cL_law 1330 = .ok (.aload_n 1, 1) := qd_p qo_43 (qa_w (off := 1328) (k := 2) ld_w83 (by decide +kernel))
theorem dL_law_1331 : decode cL_law 1331 = .ok (.aload_n 0, 1) := qd_p qo_42 (qa_w (off := 1328) (k := 3) ld_w83 (by decide +kernel))
theorem dL_law_1332 : decode cL_law 1332 = .ok (.iload_n 3, 1) := qd_p qo_29 (qa_w (off := 1328) (k := 4) ld_w83 (by decide +kernel))
theorem dL_law_1333 : decode cL_law 1333 = .ok (.iconst 1, 1) := qd_p qo_4 (qa_w (off := 1328) (k := 5) ld_w83 (by decide +kernel))
theorem dL_law_1334 : decode cL_law 1334 = .ok (.iadd, 1) := qd_p qo_96 (qa_w (off := 1328) (k := 6) ld_w83 (by decide +kernel))
theorem dL_law_1335 : decode cL_law 1335 = .ok (.iaload, 1) := qd_p qo_46 (qa_w (off := 1328) (k := 7) ld_w83 (by decide +kernel))
theorem dL_law_1336 : decode cL_law 1336 = .ok (.invokevirtual 148, 3) := qz_2 .invokevirtual 0 148 qo_182 (qa_w3 (off := 1328) (k := 8) ld_w83 (by decide +kernel)) rfl
theorem dL_law_1339 : decode cL_law 1339 = .ok (.pop, 1) := qd_p qo_87 (qa_w (off := 1328) (k := 11) ld_w83 (by decide +kernel))
theorem dL_law_1340 : decode cL_law 1340 = .ok (.aload_n 2, 1) := qd_p qo_44 (qa_w (off := 1328) (k := 12) ld_w83 (by decide +kernel))
theorem dL_law_1341 : decode cL_law 1341 = .ok (.aload_n 0, 1) := qd_p qo_42 (qa_w (off := 1328) (k := 13) ld_w83 (by decide +kernel))
theorem dL_law_1342 : decode cL_law 1342 = .ok (.iload_n 3, 1) := qd_p qo_29 (qa_w (off := 1328) (k := 14) ld_w83 (by decide +kernel))
theorem dL_law_1343 : decode cL_law 1343 = .ok (.iconst 1, 1) := qd_p qo_4 (qa_w (off := 1328) (k := 15) ld_w83 (by decide +kernel))
theorem dL_law_1344 : decode cL_law 1344 = .ok (.iadd, 1) := qd_p qo_96 (qa_w (off := 1344) (k := 0) ld_w84 (by decide +kernel))
theorem dL_law_1345 : decode cL_law 1345 = .ok (.iaload, 1) := qd_p qo_46 (qa_w (off := 1344) (k := 1) ld_w84 (by decide +kernel))
theorem dL_law_1346 : decode cL_law 1346 = .ok (.invokevirtual 151, 3) := qz_2 .invokevirtual 0 151 qo_182 (qa_w3 (off := 1344) (k := 2) ld_w84 (by decide +kernel)) rfl
theorem dL_law_1349 : decode cL_law 1349 = .ok (.pop, 1) := qd_p qo_87 (qa_w (off := 1344) (k := 5) ld_w84 (by decide +kernel))
theorem dL_law_1350 : decode cL_law 1350 = .ok (.goto 596, 3) := qz_s2 .goto 2 84 qo_167 (qa_w3 (off := 1344) (k := 6) ld_w84 (by decide +kernel)) rfl
theorem dL_law_1353 : decode cL_law 1353 = .ok (.aload_n 1, 1) := qd_p qo_43 (qa_w (off := 1344) (k := 9) ld_w84 (by decide +kernel))
theorem dL_law_1354 : decode cL_law 1354 = .ok (.aload_n 0, 1) := qd_p qo_42 (qa_w (off := 1344) (k := 10) ld_w84 (by decide +kernel))
theorem dL_law_1355 : decode cL_law 1355 = .ok (.iload_n 3, 1) := qd_p qo_29 (qa_w (off := 1344) (k := 11) ld_w84 (by decide +kernel))
theorem dL_law_1356 : decode cL_law 1356 = .ok (.iconst 1, 1) := qd_p qo_4 (qa_w (off := 1344) (k := 12) ld_w84 (by decide +kernel))
theorem dL_law_1357 : decode cL_law 1357 = .ok (.iadd, 1) := qd_p qo_96 (qa_w (off := 1344) (k := 13) ld_w84 (by decide +kernel))
theorem dL_law_1358 : decode cL_law 1358 = .ok (.iaload, 1) := qd_p qo_46 (qa_w (off := 1344) (k := 14) ld_w84 (by decide +kernel))
theorem dL_law_1359 : decode cL_law 1359 = .ok (.aload_n 0, 1) := qd_p qo_42 (qa_w (off := 1344) (k := 15) ld_w84 (by decide +kernel))
theorem dL_law_1360 : decode cL_law 1360 = .ok (.iload_n 3, 1) := qd_p qo_29 (qa_w (off := 1360) (k := 0) ld_w85 (by decide +kernel))
theorem dL_law_1361 : decode cL_law 1361 = .ok (.iconst 2, 1) := qd_p qo_5 (qa_w (off := 1360) (k := 1) ld_w85 (by decide +kernel))
theorem dL_law_1362 : decode cL_law 1362 = .ok (.iadd, 1) := qd_p qo_96 (qa_w (off := 1360) (k := 2) ld_w85 (by decide +kernel))
theorem dL_law_1363 : decode cL_law 1363 = .ok (.iaload, 1) := qd_p qo_46 (qa_w (off := 1360) (k := 3) ld_w85 (by decide +kernel))
theorem dL_law_1364 : decode cL_law 1364 = .ok (.invokevirtual 152, 3) := qz_2 .invokevirtual 0 152 qo_182 (qa_w3 (off := 1360) (k := 4) ld_w85 (by decide +kernel)) rfl
theorem dL_law_1367 : decode cL_law 1367 = .ok (.pop, 1) := qd_p qo_87 (qa_w (off := 1360) (k := 7) ld_w85 (by decide +kernel))
theorem dL_law_1368 : decode cL_law 1368 = .ok (.aload_n 2, 1) := qd_p qo_44 (qa_w (off := 1360) (k := 8) ld_w85 (by decide +kernel))
theorem dL_law_1369 : decode cL_law 1369 = .ok (.aload_n 0, 1) := qd_p qo_42 (qa_w (off := 1360) (k := 9) ld_w85 (by decide +kernel))
theorem dL_law_1370 : decode cL_law 1370 = .ok (.iload_n 3, 1) := qd_p qo_29 (qa_w (off := 1360) (k := 10) ld_w85 (by decide +kernel))
theorem dL_law_1371 : decode cL_law 1371 = .ok (.iconst 1, 1) := qd_p qo_4 (qa_w (off := 1360) (k := 11) ld_w85 (by decide +kernel))
theorem dL_law_1372 : decode cL_law 1372 = .ok (.iadd, 1) := qd_p qo_96 (qa_w (off := 1360) (k := 12) ld_w85 (by decide +kernel))
theorem dL_law_1373 : decode cL_law 1373 = .ok (.iaload, 1) := qd_p qo_46 (qa_w (off := 1360) (k := 13) ld_w85 (by decide +kernel))
theorem dL_law_1374 : decode cL_law 1374 = .ok (.aload_n 0, 1) := qd_p qo_42 (qa_w (off := 1360) (k := 14) ld_w85 (by decide +kernel))
theorem dL_law_1375 : decode cL_law 1375 = .ok (.iload_n 3, 1) := qd_p qo_29 (qa_w (off := 1360) (k := 15) ld_w85 (by decide +kernel))
theorem dL_law_1376 : decode cL_law 1376 = .ok (.iconst 2, 1) := qd_p qo_5 (qa_w (off := 1376) (k := 0) ld_w86 (by decide +kernel))
theorem dL_law_1377 : decode cL_law 1377 = .ok (.iadd, 1) := qd_p qo_96 (qa_w (off := 1376) (k := 1) ld_w86 (by decide +kernel))
theorem dL_law_1378 : decode cL_law 1378 = .ok (.iaload, 1) := qd_p qo_46 (qa_w (off := 1376) (k := 2) ld_w86 (by decide +kernel))
theorem dL_law_1379 : decode cL_law 1379 = .ok (.invokevirtual 155, 3) := qz_2 .invokevirtual 0 155 qo_182 (qa_w3 (off := 1376) (k := 3) ld_w86 (by decide +kernel)) rfl
theorem dL_law_1382 : decode cL_law 1382 = .ok (.pop, 1) := qd_p qo_87 (qa_w (off := 1376) (k := 6) ld_w86 (by decide +kernel))
theorem dL_law_1383 : decode cL_law 1383 = .ok (.goto 563, 3) := qz_s2 .goto 2 51 qo_167 (qa_w3 (off := 1376) (k := 7) ld_w86 (by decide +kernel)) rfl
theorem dL_law_1386 : decode cL_law 1386 = .ok (.aload_n 1, 1) := qd_p qo_43 (qa_w (off := 1376) (k := 10) ld_w86 (by decide +kernel))
theorem dL_law_1387 : decode cL_law 1387 = .ok (.aload_n 0, 1) := qd_p qo_42 (qa_w (off := 1376) (k := 11) ld_w86 (by decide +kernel))
theorem dL_law_1388 : decode cL_law 1388 = .ok (.iload_n 3, 1) := qd_p qo_29 (qa_w (off := 1376) (k := 12) ld_w86 (by decide +kernel))
theorem dL_law_1389 : decode cL_law 1389 = .ok (.iconst 1, 1) := qd_p qo_4 (qa_w (off := 1376) (k := 13) ld_w86 (by decide +kernel))
theorem dL_law_1390 : decode cL_law 1390 = .ok (.iadd, 1) := qd_p qo_96 (qa_w (off := 1376) (k := 14) ld_w86 (by decide +kernel))
theorem dL_law_1391 : decode cL_law 1391 = .ok (.iaload, 1) := qd_p qo_46 (qa_w (off := 1376) (k := 15) ld_w86 (by decide +kernel))
theorem dL_law_1392 : decode cL_law 1392 = .ok (.invokevirtual 156, 3) := qz_2 .invokevirtual 0 156 qo_182 (qa_w3 (off := 1392) (k := 0) ld_w87 (by decide +kernel)) rfl
theorem dL_law_1395 : decode cL_law 1395 = .ok (.pop, 1) := qd_p qo_87 (qa_w (off := 1392) (k := 3) ld_w87 (by decide +kernel))
theorem dL_law_1396 : decode cL_law 1396 = .ok (.aload_n 2, 1) := qd_p qo_44 (qa_w (off := 1392) (k := 4) ld_w87 (by decide +kernel))
theorem dL_law_1397 : decode cL_law 1397 = .ok (.aload_n 0, 1) := qd_p qo_42 (qa_w (off := 1392) (k := 5) ld_w87 (by decide +kernel))
theorem dL_law_1398 : decode cL_law 1398 = .ok (.iload_n 3, 1) := qd_p qo_29 (qa_w (off := 1392) (k := 6) ld_w87 (by decide +kernel))
theorem dL_law_1399 : decode cL_law 1399 = .ok (.iconst 1, 1) := qd_p qo_4 (qa_w (off := 1392) (k := 7) ld_w87 (by decide +kernel))
theorem dL_law_1400 : decode cL_law 1400 = .ok (.iadd, 1) := qd_p qo_96 (qa_w (off := 1392) (k := 8) ld_w87 (by decide +kernel))
theorem dL_law_1401 : decode cL_law 1401 = .ok (.iaload, 1) := qd_p qo_46 (qa_w (off := 1392) (k := 9) ld_w87 (by decide +kernel))
theorem dL_law_1402 : decode cL_law 1402 = .ok (.invokevirtual 159, 3) := qz_2 .invokevirtual 0 159 qo_182 (qa_w3 (off := 1392) (k := 10) ld_w87 (by decide +kernel)) rfl
theorem dL_law_1405 : decode cL_law 1405 = .ok (.pop, 1) := qd_p qo_87 (qa_w (off := 1392) (k := 13) ld_w87 (by decide +kernel))
theorem dL_law_1406 : decode cL_law 1406 = .ok (.goto 540, 3) := qz_s2 .goto 2 28 qo_167 (qa_w3 (off := 1392) (k := 14) ld_w87 (by decide +kernel)) rfl
theorem dL_law_1409 : decode cL_law 1409 = .ok (.aload_n 1, 1) := qd_p qo_43 (qa_w (off := 1408) (k := 1) ld_w88 (by decide +kernel))
theorem dL_law_1410 : decode cL_law 1410 = .ok (.aload_n 0, 1) := qd_p qo_42 (qa_w (off := 1408) (k := 2) ld_w88 (by decide +kernel))
theorem dL_law_1411 : decode cL_law 1411 = .ok (.iload_n 3, 1) := qd_p qo_29 (qa_w (off := 1408) (k := 3) ld_w88 (by decide +kernel))
theorem dL_law_1412 : decode cL_law 1412 = .ok (.iconst 1, 1) := qd_p qo_4 (qa_w (off := 1408) (k := 4) ld_w88 (by decide +kernel))
theorem dL_law_1413 : decode cL_law 1413 = .ok (.iadd, 1) := qd_p qo_96 (qa_w (off := 1408) (k := 5) ld_w88 (by decide +kernel))
theorem dL_law_1414 : decode cL_law 1414 = .ok (.iaload, 1) := qd_p qo_46 (qa_w (off := 1408) (k := 6) ld_w88 (by decide +kernel))
theorem dL_law_1415 : decode cL_law 1415 = .ok (.aload_n 0, 1) := qd_p qo_42 (qa_w (off := 1408) (k := 7) ld_w88 (by decide +kernel))
theorem dL_law_1416 : decode cL_law 1416 = .ok (.iload_n 3, 1) := qd_p qo_29 (qa_w (off := 1408) (k := 8) ld_w88 (by decide +kernel))
theorem dL_law_1417 : decode cL_law 1417 = .ok (.iconst 2, 1) := qd_p qo_5 (qa_w (off := 1408) (k := 9) ld_w88 (by decide +kernel))
theorem dL_law_1418 : decode cL_law 1418 = .ok (.iadd, 1) := qd_p qo_96 (qa_w (off := 1408) (k := 10) ld_w88 (by decide +kernel))
theorem dL_law_1419 : decode cL_law 1419 = .ok (.iaload, 1) := qd_p qo_46 (qa_w (off := 1408) (k := 11) ld_w88 (by decide +kernel))
theorem dL_law_1420 : decode cL_law 1420 = .ok (.aload_n 0, 1) := qd_p qo_42 (qa_w (off := 1408) (k := 12) ld_w88 (by decide +kernel))
theorem dL_law_1421 : decode cL_law 1421 = .ok (.iload_n 3, 1) := qd_p qo_29 (qa_w (off := 1408) (k := 13) ld_w88 (by decide +kernel))
theorem dL_law_1422 : decode cL_law 1422 = .ok (.iconst 3, 1) := qd_p qo_6 (qa_w (off := 1408) (k := 14) ld_w88 (by decide +kernel))
theorem dL_law_1423 : decode cL_law 1423 = .ok (.iadd, 1) := qd_p qo_96 (qa_w (off := 1408) (k := 15) ld_w88 (by decide +kernel))
theorem dL_law_1424 : decode cL_law 1424 = .ok (.iaload, 1) := qd_p qo_46 (qa_w (off := 1424) (k := 0) ld_w89 (by decide +kernel))
theorem dL_law_1425 : decode cL_law 1425 = .ok (.invokevirtual 160, 3) := qz_2 .invokevirtual 0 160 qo_182 (qa_w3 (off := 1424) (k := 1) ld_w89 (by decide +kernel)) rfl
theorem dL_law_1428 : decode cL_law 1428 = .ok (.pop, 1) := qd_p qo_87 (qa_w (off := 1424) (k := 4) ld_w89 (by decide +kernel))
theorem dL_law_1429 : decode cL_law 1429 = .ok (.aload_n 2, 1) := qd_p qo_44 (qa_w (off := 1424) (k := 5) ld_w89 (by decide +kernel))
theorem dL_law_1430 : decode cL_law 1430 = .ok (.aload_n 0, 1) := qd_p qo_42 (qa_w (off := 1424) (k := 6) ld_w89 (by decide +kernel))
theorem dL_law_1431 : decode cL_law 1431 = .ok (.iload_n 3, 1) := qd_p qo_29 (qa_w (off := 1424) (k := 7) ld_w89 (by decide +kernel))
theorem dL_law_1432 : decode cL_law 1432 = .ok (.iconst 1, 1) := qd_p qo_4 (qa_w (off := 1424) (k := 8) ld_w89 (by decide +kernel))
theorem dL_law_1433 : decode cL_law 1433 = .ok (.iadd, 1) := qd_p qo_96 (qa_w (off := 1424) (k := 9) ld_w89 (by decide +kernel))
theorem dL_law_1434 : decode cL_law 1434 = .ok (.iaload, 1) := qd_p qo_46 (qa_w (off := 1424) (k := 10) ld_w89 (by decide +kernel))
theorem dL_law_1435 : decode cL_law 1435 = .ok (.aload_n 0, 1) := qd_p qo_42 (qa_w (off := 1424) (k := 11) ld_w89 (by decide +kernel))
theorem dL_law_1436 : decode cL_law 1436 = .ok (.iload_n 3, 1) := qd_p qo_29 (qa_w (off := 1424) (k := 12) ld_w89 (by decide +kernel))
theorem dL_law_1437 : decode cL_law 1437 = .ok (.iconst 2, 1) := qd_p qo_5 (qa_w (off := 1424) (k := 13) ld_w89 (by decide +kernel))
theorem dL_law_1438 : decode cL_law 1438 = .ok (.iadd, 1) := qd_p qo_96 (qa_w (off := 1424) (k := 14) ld_w89 (by decide +kernel))
theorem dL_law_1439 : decode cL_law 1439 = .ok (.iaload, 1) := qd_p qo_46 (qa_w (off := 1424) (k := 15) ld_w89 (by decide +kernel))
theorem dL_law_1440 : decode cL_law 1440 = .ok (.aload_n 0, 1) := qd_p qo_42 (qa_w (off := 1440) (k := 0) ld_w90 (by decide +kernel))
theorem dL_law_1441 : decode cL_law 1441 = .ok (.iload_n 3, 1) := qd_p qo_29 (qa_w (off := 1440) (k := 1) ld_w90 (by decide +kernel))
theorem dL_law_1442 : decode cL_law 1442 = .ok (.iconst 3, 1) := qd_p qo_6 (qa_w (off := 1440) (k := 2) ld_w90 (by decide +kernel))
theorem dL_law_1443 : decode cL_law 1443 = .ok (.iadd, 1) := qd_p qo_96 (qa_w (off := 1440) (k := 3) ld_w90 (by decide +kernel))
theorem dL_law_1444 : decode cL_law 1444 = .ok (.iaload, 1) := qd_p qo_46 (qa_w (off := 1440) (k := 4) ld_w90 (by decide +kernel))
theorem dL_law_1445 : decode cL_law 1445 = .ok (.invokevirtual 163, 3) := qz_2 .invokevirtual 0 163 qo_182 (qa_w3 (off := 1440) (k := 5) ld_w90 (by decide +kernel)) rfl
theorem dL_law_1448 : decode cL_law 1448 = .ok (.pop, 1) := qd_p qo_87 (qa_w (off := 1440) (k := 8) ld_w90 (by decide +kernel))
theorem dL_law_1449 : decode cL_law 1449 = .ok (.goto 497, 3) := qz_s2 .goto 1 241 qo_167 (qa_w3 (off := 1440) (k := 9) ld_w90 (by decide +kernel)) rfl
theorem dL_law_1452 : decode cL_law 1452 = .ok (.aload_n 1, 1) := qd_p qo_43 (qa_w (off := 1440) (k := 12) ld_w90 (by decide +kernel))
theorem dL_law_1453 : decode cL_law 1453 = .ok (.aload_n 0, 1) := qd_p qo_42 (qa_w (off := 1440) (k := 13) ld_w90 (by decide +kernel))
theorem dL_law_1454 : decode cL_law 1454 = .ok (.iload_n 3, 1) := qd_p qo_29 (qa_w (off := 1440) (k := 14) ld_w90 (by decide +kernel))
theorem dL_law_1455 : decode cL_law 1455 = .ok (.iconst 1, 1) := qd_p qo_4 (qa_w (off := 1440) (k := 15) ld_w90 (by decide +kernel))
theorem dL_law_1456 : decode cL_law 1456 = .ok (.iadd, 1) := qd_p qo_96 (qa_w (off := 1456) (k := 0) ld_w91 (by decide +kernel))
theorem dL_law_1457 : decode cL_law 1457 = .ok (.iaload, 1) := qd_p qo_46 (qa_w (off := 1456) (k := 1) ld_w91 (by decide +kernel))
theorem dL_law_1458 : decode cL_law 1458 = .ok (.invokevirtual 164, 3) := qz_2 .invokevirtual 0 164 qo_182 (qa_w3 (off := 1456) (k := 2) ld_w91 (by decide +kernel)) rfl
theorem dL_law_1461 : decode cL_law 1461 = .ok (.pop, 1) := qd_p qo_87 (qa_w (off := 1456) (k := 5) ld_w91 (by decide +kernel))
theorem dL_law_1462 : decode cL_law 1462 = .ok (.aload_n 2, 1) := qd_p qo_44 (qa_w (off := 1456) (k := 6) ld_w91 (by decide +kernel))
theorem dL_law_1463 : decode cL_law 1463 = .ok (.aload_n 0, 1) := qd_p qo_42 (qa_w (off := 1456) (k := 7) ld_w91 (by decide +kernel))
theorem dL_law_1464 : decode cL_law 1464 = .ok (.iload_n 3, 1) := qd_p qo_29 (qa_w (off := 1456) (k := 8) ld_w91 (by decide +kernel))
theorem dL_law_1465 : decode cL_law 1465 = .ok (.iconst 1, 1) := qd_p qo_4 (qa_w (off := 1456) (k := 9) ld_w91 (by decide +kernel))
theorem dL_law_1466 : decode cL_law 1466 = .ok (.iadd, 1) := qd_p qo_96 (qa_w (off := 1456) (k := 10) ld_w91 (by decide +kernel))
theorem dL_law_1467 : decode cL_law 1467 = .ok (.iaload, 1) := qd_p qo_46 (qa_w (off := 1456) (k := 11) ld_w91 (by decide +kernel))
theorem dL_law_1468 : decode cL_law 1468 = .ok (.invokevirtual 167, 3) := qz_2 .invokevirtual 0 167 qo_182 (qa_w3 (off := 1456) (k := 12) ld_w91 (by decide +kernel)) rfl
theorem dL_law_1471 : decode cL_law 1471 = .ok (.pop, 1) := qd_p qo_87 (qa_w (off := 1456) (k := 15) ld_w91 (by decide +kernel))
theorem dL_law_1472 : decode cL_law 1472 = .ok (.goto 474, 3) := qz_s2 .goto 1 218 qo_167 (qa_w3 (off := 1472) (k := 0) ld_w92 (by decide +kernel)) rfl
theorem dL_law_1475 : decode cL_law 1475 = .ok (.aload_n 1, 1) := qd_p qo_43 (qa_w (off := 1472) (k := 3) ld_w92 (by decide +kernel))
theorem dL_law_1476 : decode cL_law 1476 = .ok (.invokevirtual 168, 3) := qz_2 .invokevirtual 0 168 qo_182 (qa_w3 (off := 1472) (k := 4) ld_w92 (by decide +kernel)) rfl
theorem dL_law_1479 : decode cL_law 1479 = .ok (.pop, 1) := qd_p qo_87 (qa_w (off := 1472) (k := 7) ld_w92 (by decide +kernel))
theorem dL_law_1480 : decode cL_law 1480 = .ok (.aload_n 2, 1) := qd_p qo_44 (qa_w (off := 1472) (k := 8) ld_w92 (by decide +kernel))
theorem dL_law_1481 : decode cL_law 1481 = .ok (.invokevirtual 171, 3) := qz_2 .invokevirtual 0 171 qo_182 (qa_w3 (off := 1472) (k := 9) ld_w92 (by decide +kernel)) rfl
theorem dL_law_1484 : decode cL_law 1484 = .ok (.pop, 1) := qd_p qo_87 (qa_w (off := 1472) (k := 12) ld_w92 (by decide +kernel))
theorem dL_law_1485 : decode cL_law 1485 = .ok (.goto 461, 3) := qz_s2 .goto 1 205 qo_167 (qa_w3 (off := 1472) (k := 13) ld_w92 (by decide +kernel)) rfl
theorem dL_law_1488 : decode cL_law 1488 = .ok (.aload_n 1, 1) := qd_p qo_43 (qa_w (off := 1488) (k := 0) ld_w93 (by decide +kernel))
theorem dL_law_1489 : decode cL_law 1489 = .ok (.aload_n 0, 1) := qd_p qo_42 (qa_w (off := 1488) (k := 1) ld_w93 (by decide +kernel))
theorem dL_law_1490 : decode cL_law 1490 = .ok (.iload_n 3, 1) := qd_p qo_29 (qa_w (off := 1488) (k := 2) ld_w93 (by decide +kernel))
theorem dL_law_1491 : decode cL_law 1491 = .ok (.iconst 1, 1) := qd_p qo_4 (qa_w (off := 1488) (k := 3) ld_w93 (by decide +kernel))
theorem dL_law_1492 : decode cL_law 1492 = .ok (.iadd, 1) := qd_p qo_96 (qa_w (off := 1488) (k := 4) ld_w93 (by decide +kernel))
theorem dL_law_1493 : decode cL_law 1493 = .ok (.iaload, 1) := qd_p qo_46 (qa_w (off := 1488) (k := 5) ld_w93 (by decide +kernel))
theorem dL_law_1494 : decode cL_law 1494 = .ok (.aload_n 0, 1) := qd_p qo_42 (qa_w (off := 1488) (k := 6) ld_w93 (by decide +kernel))
theorem dL_law_1495 : decode cL_law 1495 = .ok (.iload_n 3, 1) := qd_p qo_29 (qa_w (off := 1488) (k := 7) ld_w93 (by decide +kernel))
theorem dL_law_1496 : decode cL_law 1496 = .ok (.iconst 2, 1) := qd_p qo_5 (qa_w (off := 1488) (k := 8) ld_w93 (by decide +kernel))
theorem dL_law_1497 : decode cL_law 1497 = .ok (.iadd, 1) := qd_p qo_96 (qa_w (off := 1488) (k := 9) ld_w93 (by decide +kernel))
theorem dL_law_1498 : decode cL_law 1498 = .ok (.iaload, 1) := qd_p qo_46 (qa_w (off := 1488) (k := 10) ld_w93 (by decide +kernel))
theorem dL_law_1499 : decode cL_law 1499 = .ok (.aload_n 0, 1) := qd_p qo_42 (qa_w (off := 1488) (k := 11) ld_w93 (by decide +kernel))
theorem dL_law_1500 : decode cL_law 1500 = .ok (.iload_n 3, 1) := qd_p qo_29 (qa_w (off := 1488) (k := 12) ld_w93 (by decide +kernel))
theorem dL_law_1501 : decode cL_law 1501 = .ok (.iconst 3, 1) := qd_p qo_6 (qa_w (off := 1488) (k := 13) ld_w93 (by decide +kernel))
theorem dL_law_1502 : decode cL_law 1502 = .ok (.iadd, 1) := qd_p qo_96 (qa_w (off := 1488) (k := 14) ld_w93 (by decide +kernel))
theorem dL_law_1503 : decode cL_law 1503 = .ok (.iaload, 1) := qd_p qo_46 (qa_w (off := 1488) (k := 15) ld_w93 (by decide +kernel))
theorem dL_law_1504 : decode cL_law 1504 = .ok (.invokevirtual 172, 3) := qz_2 .invokevirtual 0 172 qo_182 (qa_w3 (off := 1504) (k := 0) ld_w94 (by decide +kernel)) rfl
theorem dL_law_1507 : decode cL_law 1507 = .ok (.pop, 1) := qd_p qo_87 (qa_w (off := 1504) (k := 3) ld_w94 (by decide +kernel))
theorem dL_law_1508 : decode cL_law 1508 = .ok (.aload_n 2, 1) := qd_p qo_44 (qa_w (off := 1504) (k := 4) ld_w94 (by decide +kernel))
theorem dL_law_1509 : decode cL_law 1509 = .ok (.aload_n 0, 1) := qd_p qo_42 (qa_w (off := 1504) (k := 5) ld_w94 (by decide +kernel))
theorem dL_law_1510 : decode cL_law 1510 = .ok (.iload_n 3, 1) := qd_p qo_29 (qa_w (off := 1504) (k := 6) ld_w94 (by decide +kernel))
theorem dL_law_1511 : decode cL_law 1511 = .ok (.iconst 1, 1) := qd_p qo_4 (qa_w (off := 1504) (k := 7) ld_w94 (by decide +kernel))
theorem dL_law_1512 : decode cL_law 1512 = .ok (.iadd, 1) := qd_p qo_96 (qa_w (off := 1504) (k := 8) ld_w94 (by decide +kernel))
theorem dL_law_1513 : decode cL_law 1513 = .ok (.iaload, 1) := qd_p qo_46 (qa_w (off := 1504) (k := 9) ld_w94 (by decide +kernel))
theorem dL_law_1514 : decode cL_law 1514 = .ok (.aload_n 0, 1) := qd_p qo_42 (qa_w (off := 1504) (k := 10) ld_w94 (by decide +kernel))
theorem dL_law_1515 : decode cL_law 1515 = .ok (.iload_n 3, 1) := qd_p qo_29 (qa_w (off := 1504) (k := 11) ld_w94 (by decide +kernel))
theorem dL_law_1516 : decode cL_law 1516 = .ok (.iconst 2, 1) := qd_p qo_5 (qa_w (off := 1504) (k := 12) ld_w94 (by decide +kernel))
theorem dL_law_1517 : decode cL_law 1517 = .ok (.iadd, 1) := qd_p qo_96 (qa_w (off := 1504) (k := 13) ld_w94 (by decide +kernel))
theorem dL_law_1518 : decode cL_law 1518 = .ok (.iaload, 1) := qd_p qo_46 (qa_w (off := 1504) (k := 14) ld_w94 (by decide +kernel))
theorem dL_law_1519 : decode cL_law 1519 = .ok (.aload_n 0, 1) := qd_p qo_42 (qa_w (off := 1504) (k := 15) ld_w94 (by decide +kernel))
theorem dL_law_1520 : decode cL_law 1520 = .ok (.iload_n 3, 1) := qd_p qo_29 (qa_w (off := 1520) (k := 0) ld_w95 (by decide +kernel))
theorem dL_law_1521 : decode cL_law 1521 = .ok (.iconst 3, 1) := qd_p qo_6 (qa_w (off := 1520) (k := 1) ld_w95 (by decide +kernel))
theorem dL_law_1522 : decode cL_law 1522 = .ok (.iadd, 1) := qd_p qo_96 (qa_w (off := 1520) (k := 2) ld_w95 (by decide +kernel))
theorem dL_law_1523 : decode cL_law 1523 = .ok (.iaload, 1) := qd_p qo_46 (qa_w (off := 1520) (k := 3) ld_w95 (by decide +kernel))
theorem dL_law_1524 : decode cL_law 1524 = .ok (.invokevirtual 175, 3) := qz_2 .invokevirtual 0 175 qo_182 (qa_w3 (off := 1520) (k := 4) ld_w95 (by decide +kernel)) rfl
theorem dL_law_1527 : decode cL_law 1527 = .ok (.pop, 1) := qd_p qo_87 (qa_w (off := 1520) (k := 7) ld_w95 (by decide +kernel))
theorem dL_law_1528 : decode cL_law 1528 = .ok (.goto 418, 3) := qz_s2 .goto 1 162 qo_167 (qa_w3 (off := 1520) (k := 8) ld_w95 (by decide +kernel)) rfl
theorem dL_law_1531 : decode cL_law 1531 = .ok (.aload_n 1, 1) := qd_p qo_43 (qa_w (off := 1520) (k := 11) ld_w95 (by decide +kernel))
theorem dL_law_1532 : decode cL_law 1532 = .ok (.aload_n 0, 1) := qd_p qo_42 (qa_w (off := 1520) (k := 12) ld_w95 (by decide +kernel))
theorem dL_law_1533 : decode cL_law 1533 = .ok (.iload_n 3, 1) := qd_p qo_29 (qa_w (off := 1520) (k := 13) ld_w95 (by decide +kernel))
theorem dL_law_1534 : decode cL_law 1534 = .ok (.iconst 1, 1) := qd_p qo_4 (qa_w (off := 1520) (k := 14) ld_w95 (by decide +kernel))
theorem dL_law_1535 : decode cL_law 1535 = .ok (.iadd, 1) := qd_p qo_96 (qa_w (off := 1520) (k := 15) ld_w95 (by decide +kernel))
theorem dL_law_1536 : decode cL_law 1536 = .ok (.iaload, 1) := qd_p qo_46 (qa_w (off := 1536) (k := 0) ld_w96 (by decide +kernel))
theorem dL_law_1537 : decode cL_law 1537 = .ok (.aload_n 0, 1) := qd_p qo_42 (qa_w (off := 1536) (k := 1) ld_w96 (by decide +kernel))
theorem dL_law_1538 : decode cL_law 1538 = .ok (.iload_n 3, 1) := qd_p qo_29 (qa_w (off := 1536) (k := 2) ld_w96 (by decide +kernel))
theorem dL_law_1539 : decode cL_law 1539 = .ok (.iconst 2, 1) := qd_p qo_5 (qa_w (off := 1536) (k := 3) ld_w96 (by decide +kernel))
theorem dL_law_1540 : decode cL_law 1540 = .ok (.iadd, 1) := qd_p qo_96 (qa_w (off := 1536) (k := 4) ld_w96 (by decide +kernel))
theorem dL_law_1541 : decode cL_law 1541 = .ok (.iaload, 1) := qd_p qo_46 (qa_w (off := 1536) (k := 5) ld_w96 (by decide +kernel))
theorem dL_law_1542 : decode cL_law 1542 = .ok (.invokevirtual 176, 3) := qz_2 .invokevirtual 0 176 qo_182 (qa_w3 (off := 1536) (k := 6) ld_w96 (by decide +kernel)) rfl
theorem dL_law_1545 : decode cL_law 1545 = .ok (.pop, 1) := qd_p qo_87 (qa_w (off := 1536) (k := 9) ld_w96 (by decide +kernel))
theorem dL_law_1546 : decode cL_law 1546 = .ok (.aload_n 2, 1) := qd_p qo_44 (qa_w (off := 1536) (k := 10) ld_w96 (by decide +kernel))
theorem dL_law_1547 : decode cL_law 1547 = .ok (.aload_n 0, 1) := qd_p qo_42 (qa_w (off := 1536) (k := 11) ld_w96 (by decide +kernel))
theorem dL_law_1548 : decode cL_law 1548 = .ok (.iload_n 3, 1) := qd_p qo_29 (qa_w (off := 1536) (k := 12) ld_w96 (by decide +kernel))
theorem dL_law_1549 : decode cL_law 1549 = .ok (.iconst 1, 1) := qd_p qo_4 (qa_w (off := 1536) (k := 13) ld_w96 (by decide +kernel))
theorem dL_law_1550 : decode cL_law 1550 = .ok (.iadd, 1) := qd_p qo_96 (qa_w (off := 1536) (k := 14) ld_w96 (by decide +kernel))
theorem dL_law_1551 : decode cL_law 1551 = .ok (.iaload, 1) := qd_p qo_46 (qa_w (off := 1536) (k := 15) ld_w96 (by decide +kernel))
theorem dL_law_1552 : decode cL_law 1552 = .ok (.aload_n 0, 1) := qd_p qo_42 (qa_w (off := 1552) (k := 0) ld_w97 (by decide +kernel))
theorem dL_law_1553 : decode cL_law 1553 = .ok (.iload_n 3, 1) := qd_p qo_29 (qa_w (off := 1552) (k := 1) ld_w97 (by decide +kernel))
theorem dL_law_1554 : decode cL_law 1554 = .ok (.iconst 2, 1) := qd_p qo_5 (qa_w (off := 1552) (k := 2) ld_w97 (by decide +kernel))
theorem dL_law_1555 : decode cL_law 1555 = .ok (.iadd, 1) := qd_p qo_96 (qa_w (off := 1552) (k := 3) ld_w97 (by decide +kernel))
theorem dL_law_1556 : decode cL_law 1556 = .ok (.iaload, 1) := qd_p qo_46 (qa_w (off := 1552) (k := 4) ld_w97 (by decide +kernel))
theorem dL_law_1557 : decode cL_law 1557 = .ok (.invokevirtual 179, 3) := qz_2 .invokevirtual 0 179 qo_182 (qa_w3 (off := 1552) (k := 5) ld_w97 (by decide +kernel)) rfl
theorem dL_law_1560 : decode cL_law 1560 = .ok (.pop, 1) := qd_p qo_87 (qa_w (off := 1552) (k := 8) ld_w97 (by decide +kernel))
theorem dL_law_1561 : decode cL_law 1561 = .ok (.goto 385, 3) := qz_s2 .goto 1 129 qo_167 (qa_w3 (off := 1552) (k := 9) ld_w97 (by decide +kernel)) rfl
theorem dL_law_1564 : decode cL_law 1564 = .ok (.aload_n 1, 1) := qd_p qo_43 (qa_w (off := 1552) (k := 12) ld_w97 (by decide +kernel))
theorem dL_law_1565 : decode cL_law 1565 = .ok (.aload_n 0, 1) := qd_p qo_42 (qa_w (off := 1552) (k := 13) ld_w97 (by decide +kernel))
theorem dL_law_1566 : decode cL_law 1566 = .ok (.iload_n 3, 1) := qd_p qo_29 (qa_w (off := 1552) (k := 14) ld_w97 (by decide +kernel))
theorem dL_law_1567 : decode cL_law 1567 = .ok (.iconst 1, 1) := qd_p qo_4 (qa_w (off := 1552) (k := 15) ld_w97 (by decide +kernel))
theorem dL_law_1568 : decode cL_law 1568 = .ok (.iadd, 1) := qd_p qo_96 (qa_w (off := 1568) (k := 0) ld_w98 (by decide +kernel))
theorem dL_law_1569 : decode cL_law 1569 = .ok (.iaload, 1) := qd_p qo_46 (qa_w (off := 1568) (k := 1) ld_w98 (by decide +kernel))
theorem dL_law_1570 : decode cL_law 1570 = .ok (.aload_n 0, 1) := qd_p qo_42 (qa_w (off := 1568) (k := 2) ld_w98 (by decide +kernel))
theorem dL_law_1571 : decode cL_law 1571 = .ok (.iload_n 3, 1) := qd_p qo_29 (qa_w (off := 1568) (k := 3) ld_w98 (by decide +kernel))
theorem dL_law_1572 : decode cL_law 1572 = .ok (.iconst 2, 1) := qd_p qo_5 (qa_w (off := 1568) (k := 4) ld_w98 (by decide +kernel))
theorem dL_law_1573 : decode cL_law 1573 = .ok (.iadd, 1) := qd_p qo_96 (qa_w (off := 1568) (k := 5) ld_w98 (by decide +kernel))
theorem dL_law_1574 : decode cL_law 1574 = .ok (.iaload, 1) := qd_p qo_46 (qa_w (off := 1568) (k := 6) ld_w98 (by decide +kernel))
theorem dL_law_1575 : decode cL_law 1575 = .ok (.invokevirtual 180, 3) := qz_2 .invokevirtual 0 180 qo_182 (qa_w3 (off := 1568) (k := 7) ld_w98 (by decide +kernel)) rfl
theorem dL_law_1578 : decode cL_law 1578 = .ok (.pop, 1) := qd_p qo_87 (qa_w (off := 1568) (k := 10) ld_w98 (by decide +kernel))
theorem dL_law_1579 : decode cL_law 1579 = .ok (.aload_n 2, 1) := qd_p qo_44 (qa_w (off := 1568) (k := 11) ld_w98 (by decide +kernel))
theorem dL_law_1580 : decode cL_law 1580 = .ok (.aload_n 0, 1) := qd_p qo_42 (qa_w (off := 1568) (k := 12) ld_w98 (by decide +kernel))
theorem dL_law_1581 : decode cL_law 1581 = .ok (.iload_n 3, 1) := qd_p qo_29 (qa_w (off := 1568) (k := 13) ld_w98 (by decide +kernel))
theorem dL_law_1582 : decode cL_law 1582 = .ok (.iconst 1, 1) := qd_p qo_4 (qa_w (off := 1568) (k := 14) ld_w98 (by decide +kernel))
theorem dL_law_1583 : decode cL_law 1583 = .ok (.iadd, 1) := qd_p qo_96 (qa_w (off := 1568) (k := 15) ld_w98 (by decide +kernel))
theorem dL_law_1584 : decode cL_law 1584 = .ok (.iaload, 1) := qd_p qo_46 (qa_w (off := 1584) (k := 0) ld_w99 (by decide +kernel))
theorem dL_law_1585 : decode cL_law 1585 = .ok (.aload_n 0, 1) := qd_p qo_42 (qa_w (off := 1584) (k := 1) ld_w99 (by decide +kernel))
theorem dL_law_1586 : decode cL_law 1586 = .ok (.iload_n 3, 1) := qd_p qo_29 (qa_w (off := 1584) (k := 2) ld_w99 (by decide +kernel))
theorem dL_law_1587 : decode cL_law 1587 = .ok (.iconst 2, 1) := qd_p qo_5 (qa_w (off := 1584) (k := 3) ld_w99 (by decide +kernel))
theorem dL_law_1588 : decode cL_law 1588 = .ok (.iadd, 1) := qd_p qo_96 (qa_w (off := 1584) (k := 4) ld_w99 (by decide +kernel))
theorem dL_law_1589 : decode cL_law 1589 = .ok (.iaload, 1) := qd_p qo_46 (qa_w (off := 1584) (k := 5) ld_w99 (by decide +kernel))
theorem dL_law_1590 : decode cL_law 1590 = .ok (.invokevirtual 183, 3) := qz_2 .invokevirtual 0 183 qo_182 (qa_w3 (off := 1584) (k := 6) ld_w99 (by decide +kernel)) rfl
theorem dL_law_1593 : decode cL_law 1593 = .ok (.pop, 1) := qd_p qo_87 (qa_w (off := 1584) (k := 9) ld_w99 (by decide +kernel))
theorem dL_law_1594 : decode cL_law 1594 = .ok (.goto 352, 3) := qz_s2 .goto 1 96 qo_167 (qa_w3 (off := 1584) (k := 10) ld_w99 (by decide +kernel)) rfl
theorem dL_law_1597 : decode cL_law 1597 = .ok (.aload_n 1, 1) := qd_p qo_43 (qa_w (off := 1584) (k := 13) ld_w99 (by decide +kernel))
theorem dL_law_1598 : decode cL_law 1598 = .ok (.aload_n 0, 1) := qd_p qo_42 (qa_w (off := 1584) (k := 14) ld_w99 (by decide +kernel))
theorem dL_law_1599 : decode cL_law 1599 = .ok (.iload_n 3, 1) := qd_p qo_29 (qa_w (off := 1584) (k := 15) ld_w99 (by decide +kernel))
theorem dL_law_1600 : decode cL_law 1600 = .ok (.iconst 1, 1) := qd_p qo_4 (qa_w (off := 1600) (k := 0) ld_w100 (by decide +kernel))
theorem dL_law_1601 : decode cL_law 1601 = .ok (.iadd, 1) := qd_p qo_96 (qa_w (off := 1600) (k := 1) ld_w100 (by decide +kernel))
theorem dL_law_1602 : decode cL_law 1602 = .ok (.iaload, 1) := qd_p qo_46 (qa_w (off := 1600) (k := 2) ld_w100 (by decide +kernel))
theorem dL_law_1603 : decode cL_law 1603 = .ok (.aload_n 0, 1) := qd_p qo_42 (qa_w (off := 1600) (k := 3) ld_w100 (by decide +kernel))
theorem dL_law_1604 : decode cL_law 1604 = .ok (.iload_n 3, 1) := qd_p qo_29 (qa_w (off := 1600) (k := 4) ld_w100 (by decide +kernel))
theorem dL_law_1605 : decode cL_law 1605 = .ok (.iconst 2, 1) := qd_p qo_5 (qa_w (off := 1600) (k := 5) ld_w100 (by decide +kernel))
theorem dL_law_1606 : decode cL_law 1606 = .ok (.iadd, 1) := qd_p qo_96 (qa_w (off := 1600) (k := 6) ld_w100 (by decide +kernel))
theorem dL_law_1607 : decode cL_law 1607 = .ok (.iaload, 1) := qd_p qo_46 (qa_w (off := 1600) (k := 7) ld_w100 (by decide +kernel))
theorem dL_law_1608 : decode cL_law 1608 = .ok (.invokevirtual 184, 3) := qz_2 .invokevirtual 0 184 qo_182 (qa_w3 (off := 1600) (k := 8) ld_w100 (by decide +kernel)) rfl
theorem dL_law_1611 : decode cL_law 1611 = .ok (.pop, 1) := qd_p qo_87 (qa_w (off := 1600) (k := 11) ld_w100 (by decide +kernel))
theorem dL_law_1612 : decode cL_law 1612 = .ok (.aload_n 2, 1) := qd_p qo_44 (qa_w (off := 1600) (k := 12) ld_w100 (by decide +kernel))
theorem dL_law_1613 : decode cL_law 1613 = .ok (.aload_n 0, 1) := qd_p qo_42 (qa_w (off := 1600) (k := 13) ld_w100 (by decide +kernel))
theorem dL_law_1614 : decode cL_law 1614 = .ok (.iload_n 3, 1) := qd_p qo_29 (qa_w (off := 1600) (k := 14) ld_w100 (by decide +kernel))
theorem dL_law_1615 : decode cL_law 1615 = .ok (.iconst 1, 1) := qd_p qo_4 (qa_w (off := 1600) (k := 15) ld_w100 (by decide +kernel))
theorem dL_law_1616 : decode cL_law 1616 = .ok (.iadd, 1) := qd_p qo_96 (qa_w (off := 1616) (k := 0) ld_w101 (by decide +kernel))
theorem dL_law_1617 : decode cL_law 1617 = .ok (.iaload, 1) := qd_p qo_46 (qa_w (off := 1616) (k := 1) ld_w101 (by decide +kernel))
theorem dL_law_1618 : decode cL_law 1618 = .ok (.aload_n 0, 1) := qd_p qo_42 (qa_w (off := 1616) (k := 2) ld_w101 (by decide +kernel))
theorem dL_law_1619 : decode cL_law 1619 = .ok (.iload_n 3, 1) := qd_p qo_29 (qa_w (off := 1616) (k := 3) ld_w101 (by decide +kernel))
theorem dL_law_1620 : decode cL_law 1620 = .ok (.iconst 2, 1) := qd_p qo_5 (qa_w (off := 1616) (k := 4) ld_w101 (by decide +kernel))
theorem dL_law_1621 : decode cL_law 1621 = .ok (.iadd, 1) := qd_p qo_96 (qa_w (off := 1616) (k := 5) ld_w101 (by decide +kernel))
theorem dL_law_1622 : decode cL_law 1622 = .ok (.iaload, 1) := qd_p qo_46 (qa_w (off := 1616) (k := 6) ld_w101 (by decide +kernel))
theorem dL_law_1623 : decode cL_law 1623 = .ok (.invokevirtual 187, 3) := qz_2 .invokevirtual 0 187 qo_182 (qa_w3 (off := 1616) (k := 7) ld_w101 (by decide +kernel)) rfl
theorem dL_law_1626 : decode cL_law 1626 = .ok (.pop, 1) := qd_p qo_87 (qa_w (off := 1616) (k := 10) ld_w101 (by decide +kernel))
theorem dL_law_1627 : decode cL_law 1627 = .ok (.goto 319, 3) := qz_s2 .goto 1 63 qo_167 (qa_w3 (off := 1616) (k := 11) ld_w101 (by decide +kernel)) rfl
theorem dL_law_1630 : decode cL_law 1630 = .ok (.aload_n 1, 1) := qd_p qo_43 (qa_w (off := 1616) (k := 14) ld_w101 (by decide +kernel))
theorem dL_law_1631 : decode cL_law 1631 = .ok (.aload_n 0, 1) := qd_p qo_42 (qa_w (off := 1616) (k := 15) ld_w101 (by decide +kernel))
theorem dL_law_1632 : decode cL_law 1632 = .ok (.iload_n 3, 1) := qd_p qo_29 (qa_w (off := 1632) (k := 0) ld_w102 (by decide +kernel))
theorem dL_law_1633 : decode cL_law 1633 = .ok (.iconst 1, 1) := qd_p qo_4 (qa_w (off := 1632) (k := 1) ld_w102 (by decide +kernel))
theorem dL_law_1634 : decode cL_law 1634 = .ok (.iadd, 1) := qd_p qo_96 (qa_w (off := 1632) (k := 2) ld_w102 (by decide +kernel))
theorem dL_law_1635 : decode cL_law 1635 = .ok (.iaload, 1) := qd_p qo_46 (qa_w (off := 1632) (k := 3) ld_w102 (by decide +kernel))
theorem dL_law_1636 : decode cL_law 1636 = .ok (.aload_n 0, 1) := qd_p qo_42 (qa_w (off := 1632) (k := 4) ld_w102 (by decide +kernel))
theorem dL_law_1637 : decode cL_law 1637 = .ok (.iload_n 3, 1) := qd_p qo_29 (qa_w (off := 1632) (k := 5) ld_w102 (by decide +kernel))
theorem dL_law_1638 : decode cL_law 1638 = .ok (.iconst 2, 1) := qd_p qo_5 (qa_w (off := 1632) (k := 6) ld_w102 (by decide +kernel))
theorem dL_law_1639 : decode cL_law 1639 = .ok (.iadd, 1) := qd_p qo_96 (qa_w (off := 1632) (k := 7) ld_w102 (by decide +kernel))
theorem dL_law_1640 : decode cL_law 1640 = .ok (.iaload, 1) := qd_p qo_46 (qa_w (off := 1632) (k := 8) ld_w102 (by decide +kernel))
theorem dL_law_1641 : decode cL_law 1641 = .ok (.invokevirtual 188, 3) := qz_2 .invokevirtual 0 188 qo_182 (qa_w3 (off := 1632) (k := 9) ld_w102 (by decide +kernel)) rfl
theorem dL_law_1644 : decode cL_law 1644 = .ok (.pop, 1) := qd_p qo_87 (qa_w (off := 1632) (k := 12) ld_w102 (by decide +kernel))
theorem dL_law_1645 : decode cL_law 1645 = .ok (.aload_n 2, 1) := qd_p qo_44 (qa_w (off := 1632) (k := 13) ld_w102 (by decide +kernel))
theorem dL_law_1646 : decode cL_law 1646 = .ok (.aload_n 0, 1) := qd_p qo_42 (qa_w (off := 1632) (k := 14) ld_w102 (by decide +kernel))
theorem dL_law_1647 : decode cL_law 1647 = .ok (.iload_n 3, 1) := qd_p qo_29 (qa_w (off := 1632) (k := 15) ld_w102 (by decide +kernel))
theorem dL_law_1648 : decode cL_law 1648 = .ok (.iconst 1, 1) := qd_p qo_4 (qa_w (off := 1648) (k := 0) ld_w103 (by decide +kernel))
theorem dL_law_1649 : decode cL_law 1649 = .ok (.iadd, 1) := qd_p qo_96 (qa_w (off := 1648) (k := 1) ld_w103 (by decide +kernel))
theorem dL_law_1650 : decode cL_law 1650 = .ok (.iaload, 1) := qd_p qo_46 (qa_w (off := 1648) (k := 2) ld_w103 (by decide +kernel))
theorem dL_law_1651 : decode cL_law 1651 = .ok (.aload_n 0, 1) := qd_p qo_42 (qa_w (off := 1648) (k := 3) ld_w103 (by decide +kernel))
theorem dL_law_1652 : decode cL_law 1652 = .ok (.iload_n 3, 1) := qd_p qo_29 (qa_w (off := 1648) (k := 4) ld_w103 (by decide +kernel))
theorem dL_law_1653 : decode cL_law 1653 = .ok (.iconst 2, 1) := qd_p qo_5 (qa_w (off := 1648) (k := 5) ld_w103 (by decide +kernel))
theorem dL_law_1654 : decode cL_law 1654 = .ok (.iadd, 1) := qd_p qo_96 (qa_w (off := 1648) (k := 6) ld_w103 (by decide +kernel))
theorem dL_law_1655 : decode cL_law 1655 = .ok (.iaload, 1) := qd_p qo_46 (qa_w (off := 1648) (k := 7) ld_w103 (by decide +kernel))
theorem dL_law_1656 : decode cL_law 1656 = .ok (.invokevirtual 191, 3) := qz_2 .invokevirtual 0 191 qo_182 (qa_w3 (off := 1648) (k := 8) ld_w103 (by decide +kernel)) rfl
theorem dL_law_1659 : decode cL_law 1659 = .ok (.pop, 1) := qd_p qo_87 (qa_w (off := 1648) (k := 11) ld_w103 (by decide +kernel))
theorem dL_law_1660 : decode cL_law 1660 = .ok (.goto 286, 3) := qz_s2 .goto 1 30 qo_167 (qa_w3 (off := 1648) (k := 12) ld_w103 (by decide +kernel)) rfl
theorem dL_law_1663 : decode cL_law 1663 = .ok (.aload_n 1, 1) := qd_p qo_43 (qa_w (off := 1648) (k := 15) ld_w103 (by decide +kernel))
theorem dL_law_1664 : decode cL_law 1664 = .ok (.aload_n 0, 1) := qd_p qo_42 (qa_w (off := 1664) (k := 0) ld_w104 (by decide +kernel))
theorem dL_law_1665 : decode cL_law 1665 = .ok (.iload_n 3, 1) := qd_p qo_29 (qa_w (off := 1664) (k := 1) ld_w104 (by decide +kernel))
theorem dL_law_1666 : decode cL_law 1666 = .ok (.iconst 1, 1) := qd_p qo_4 (qa_w (off := 1664) (k := 2) ld_w104 (by decide +kernel))
theorem dL_law_1667 : decode cL_law 1667 = .ok (.iadd, 1) := qd_p qo_96 (qa_w (off := 1664) (k := 3) ld_w104 (by decide +kernel))
theorem dL_law_1668 : decode cL_law 1668 = .ok (.iaload, 1) := qd_p qo_46 (qa_w (off := 1664) (k := 4) ld_w104 (by decide +kernel))
theorem dL_law_1669 : decode cL_law 1669 = .ok (.aload_n 0, 1) := qd_p qo_42 (qa_w (off := 1664) (k := 5) ld_w104 (by decide +kernel))
theorem dL_law_1670 : decode cL_law 1670 = .ok (.iload_n 3, 1) := qd_p qo_29 (qa_w (off := 1664) (k := 6) ld_w104 (by decide +kernel))
theorem dL_law_1671 : decode cL_law 1671 = .ok (.iconst 2, 1) := qd_p qo_5 (qa_w (off := 1664) (k := 7) ld_w104 (by decide +kernel))
theorem dL_law_1672 : decode cL_law 1672 = .ok (.iadd, 1) := qd_p qo_96 (qa_w (off := 1664) (k := 8) ld_w104 (by decide +kernel))
theorem dL_law_1673 : decode cL_law 1673 = .ok (.iaload, 1) := qd_p qo_46 (qa_w (off := 1664) (k := 9) ld_w104 (by decide +kernel))
theorem dL_law_1674 : decode cL_law 1674 = .ok (.invokevirtual 192, 3) := qz_2 .invokevirtual 0 192 qo_182 (qa_w3 (off := 1664) (k := 10) ld_w104 (by decide +kernel)) rfl
theorem dL_law_1677 : decode cL_law 1677 = .ok (.pop, 1) := qd_p qo_87 (qa_w (off := 1664) (k := 13) ld_w104 (by decide +kernel))
theorem dL_law_1678 : decode cL_law 1678 = .ok (.aload_n 2, 1) := qd_p qo_44 (qa_w (off := 1664) (k := 14) ld_w104 (by decide +kernel))
theorem dL_law_1679 : decode cL_law 1679 = .ok (.aload_n 0, 1) := qd_p qo_42 (qa_w (off := 1664) (k := 15) ld_w104 (by decide +kernel))
theorem dL_law_1680 : decode cL_law 1680 = .ok (.iload_n 3, 1) := qd_p qo_29 (qa_w (off := 1680) (k := 0) ld_w105 (by decide +kernel))
theorem dL_law_1681 : decode cL_law 1681 = .ok (.iconst 1, 1) := qd_p qo_4 (qa_w (off := 1680) (k := 1) ld_w105 (by decide +kernel))
theorem dL_law_1682 : decode cL_law 1682 = .ok (.iadd, 1) := qd_p qo_96 (qa_w (off := 1680) (k := 2) ld_w105 (by decide +kernel))
theorem dL_law_1683 : decode cL_law 1683 = .ok (.iaload, 1) := qd_p qo_46 (qa_w (off := 1680) (k := 3) ld_w105 (by decide +kernel))
theorem dL_law_1684 : decode cL_law 1684 = .ok (.aload_n 0, 1) := qd_p qo_42 (qa_w (off := 1680) (k := 4) ld_w105 (by decide +kernel))
theorem dL_law_1685 : decode cL_law 1685 = .ok (.iload_n 3, 1) := qd_p qo_29 (qa_w (off := 1680) (k := 5) ld_w105 (by decide +kernel))
theorem dL_law_1686 : decode cL_law 1686 = .ok (.iconst 2, 1) := qd_p qo_5 (qa_w (off := 1680) (k := 6) ld_w105 (by decide +kernel))
theorem dL_law_1687 : decode cL_law 1687 = .ok (.iadd, 1) := qd_p qo_96 (qa_w (off := 1680) (k := 7) ld_w105 (by decide +kernel))
theorem dL_law_1688 : decode cL_law 1688 = .ok (.iaload, 1) := qd_p qo_46 (qa_w (off := 1680) (k := 8) ld_w105 (by decide +kernel))
theorem dL_law_1689 : decode cL_law 1689 = .ok (.invokevirtual 195, 3) := qz_2 .invokevirtual 0 195 qo_182 (qa_w3 (off := 1680) (k := 9) ld_w105 (by decide +kernel)) rfl
theorem dL_law_1692 : decode cL_law 1692 = .ok (.pop, 1) := qd_p qo_87 (qa_w (off := 1680) (k := 12) ld_w105 (by decide +kernel))
theorem dL_law_1693 : decode cL_law 1693 = .ok (.goto 253, 3) := qz_s2 .goto 0 253 qo_167 (qa_w3 (off := 1680) (k := 13) ld_w105 (by decide +kernel)) rfl
theorem dL_law_1696 : decode cL_law 1696 = .ok (.aload_n 1, 1) := qd_p qo_43 (qa_w (off := 1696) (k := 0) ld_w106 (by decide +kernel))
theorem dL_law_1697 : decode cL_law 1697 = .ok (.aload_n 0, 1) := qd_p qo_42 (qa_w (off := 1696) (k := 1) ld_w106 (by decide +kernel))
theorem dL_law_1698 : decode cL_law 1698 = .ok (.iload_n 3, 1) := qd_p qo_29 (qa_w (off := 1696) (k := 2) ld_w106 (by decide +kernel))
theorem dL_law_1699 : decode cL_law 1699 = .ok (.iconst 1, 1) := qd_p qo_4 (qa_w (off := 1696) (k := 3) ld_w106 (by decide +kernel))
theorem dL_law_1700 : decode cL_law 1700 = .ok (.iadd, 1) := qd_p qo_96 (qa_w (off := 1696) (k := 4) ld_w106 (by decide +kernel))
theorem dL_law_1701 : decode cL_law 1701 = .ok (.iaload, 1) := qd_p qo_46 (qa_w (off := 1696) (k := 5) ld_w106 (by decide +kernel))
theorem dL_law_1702 : decode cL_law 1702 = .ok (.aload_n 0, 1) := qd_p qo_42 (qa_w (off := 1696) (k := 6) ld_w106 (by decide +kernel))
theorem dL_law_1703 : decode cL_law 1703 = .ok (.iload_n 3, 1) := qd_p qo_29 (qa_w (off := 1696) (k := 7) ld_w106 (by decide +kernel))
theorem dL_law_1704 : decode cL_law 1704 = .ok (.iconst 2, 1) := qd_p qo_5 (qa_w (off := 1696) (k := 8) ld_w106 (by decide +kernel))
theorem dL_law_1705 : decode cL_law 1705 = .ok (.iadd, 1) := qd_p qo_96 (qa_w (off := 1696) (k := 9) ld_w106 (by decide +kernel))
theorem dL_law_1706 : decode cL_law 1706 = .ok (.iaload, 1) := qd_p qo_46 (qa_w (off := 1696) (k := 10) ld_w106 (by decide +kernel))
theorem dL_law_1707 : decode cL_law 1707 = .ok (.aload_n 0, 1) := qd_p qo_42 (qa_w (off := 1696) (k := 11) ld_w106 (by decide +kernel))
theorem dL_law_1708 : decode cL_law 1708 = .ok (.iload_n 3, 1) := qd_p qo_29 (qa_w (off := 1696) (k := 12) ld_w106 (by decide +kernel))
theorem dL_law_1709 : decode cL_law 1709 = .ok (.iconst 3, 1) := qd_p qo_6 (qa_w (off := 1696) (k := 13) ld_w106 (by decide +kernel))
theorem dL_law_1710 : decode cL_law 1710 = .ok (.iadd, 1) := qd_p qo_96 (qa_w (off := 1696) (k := 14) ld_w106 (by decide +kernel))
theorem dL_law_1711 : decode cL_law 1711 = .ok (.iaload, 1) := qd_p qo_46 (qa_w (off := 1696) (k := 15) ld_w106 (by decide +kernel))
theorem dL_law_1712 : decode cL_law 1712 = .ok (.invokevirtual 196, 3) := qz_2 .invokevirtual 0 196 qo_182 (qa_w3 (off := 1712) (k := 0) ld_w107 (by decide +kernel)) rfl
theorem dL_law_1715 : decode cL_law 1715 = .ok (.pop, 1) := qd_p qo_87 (qa_w (off := 1712) (k := 3) ld_w107 (by decide +kernel))
theorem dL_law_1716 : decode cL_law 1716 = .ok (.aload_n 2, 1) := qd_p qo_44 (qa_w (off := 1712) (k := 4) ld_w107 (by decide +kernel))
theorem dL_law_1717 : decode cL_law 1717 = .ok (.aload_n 0, 1) := qd_p qo_42 (qa_w (off := 1712) (k := 5) ld_w107 (by decide +kernel))
theorem dL_law_1718 : decode cL_law 1718 = .ok (.iload_n 3, 1) := qd_p qo_29 (qa_w (off := 1712) (k := 6) ld_w107 (by decide +kernel))
theorem dL_law_1719 : decode cL_law 1719 = .ok (.iconst 1, 1) := qd_p qo_4 (qa_w (off := 1712) (k := 7) ld_w107 (by decide +kernel))
theorem dL_law_1720 : decode cL_law 1720 = .ok (.iadd, 1) := qd_p qo_96 (qa_w (off := 1712) (k := 8) ld_w107 (by decide +kernel))
theorem dL_law_1721 : decode cL_law 1721 = .ok (.iaload, 1) := qd_p qo_46 (qa_w (off := 1712) (k := 9) ld_w107 (by decide +kernel))
theorem dL_law_1722 : decode cL_law 1722 = .ok (.aload_n 0, 1) := qd_p qo_42 (qa_w (off := 1712) (k := 10) ld_w107 (by decide +kernel))
theorem dL_law_1723 : decode cL_law 1723 = .ok (.iload_n 3, 1) := qd_p qo_29 (qa_w (off := 1712) (k := 11) ld_w107 (by decide +kernel))
theorem dL_law_1724 : decode cL_law 1724 = .ok (.iconst 2, 1) := qd_p qo_5 (qa_w (off := 1712) (k := 12) ld_w107 (by decide +kernel))
theorem dL_law_1725 : decode cL_law 1725 = .ok (.iadd, 1) := qd_p qo_96 (qa_w (off := 1712) (k := 13) ld_w107 (by decide +kernel))
theorem dL_law_1726 : decode cL_law 1726 = .ok (.iaload, 1) := qd_p qo_46 (qa_w (off := 1712) (k := 14) ld_w107 (by decide +kernel))
theorem dL_law_1727 : decode cL_law 1727 = .ok (.aload_n 0, 1) := qd_p qo_42 (qa_w (off := 1712) (k := 15) ld_w107 (by decide +kernel))
theorem dL_law_1728 : decode cL_law 1728 = .ok (.iload_n 3, 1) := qd_p qo_29 (qa_w (off := 1728) (k := 0) ld_w108 (by decide +kernel))
theorem dL_law_1729 : decode cL_law 1729 = .ok (.iconst 3, 1) := qd_p qo_6 (qa_w (off := 1728) (k := 1) ld_w108 (by decide +kernel))
theorem dL_law_1730 : decode cL_law 1730 = .ok (.iadd, 1) := qd_p qo_96 (qa_w (off := 1728) (k := 2) ld_w108 (by decide +kernel))
theorem dL_law_1731 : decode cL_law 1731 = .ok (.iaload, 1) := qd_p qo_46 (qa_w (off := 1728) (k := 3) ld_w108 (by decide +kernel))
theorem dL_law_1732 : decode cL_law 1732 = .ok (.invokevirtual 199, 3) := qz_2 .invokevirtual 0 199 qo_182 (qa_w3 (off := 1728) (k := 4) ld_w108 (by decide +kernel)) rfl
theorem dL_law_1735 : decode cL_law 1735 = .ok (.pop, 1) := qd_p qo_87 (qa_w (off := 1728) (k := 7) ld_w108 (by decide +kernel))
theorem dL_law_1736 : decode cL_law 1736 = .ok (.goto 210, 3) := qz_s2 .goto 0 210 qo_167 (qa_w3 (off := 1728) (k := 8) ld_w108 (by decide +kernel)) rfl
theorem dL_law_1739 : decode cL_law 1739 = .ok (.aload_n 1, 1) := qd_p qo_43 (qa_w (off := 1728) (k := 11) ld_w108 (by decide +kernel))
theorem dL_law_1740 : decode cL_law 1740 = .ok (.aload_n 0, 1) := qd_p qo_42 (qa_w (off := 1728) (k := 12) ld_w108 (by decide +kernel))
theorem dL_law_1741 : decode cL_law 1741 = .ok (.iload_n 3, 1) := qd_p qo_29 (qa_w (off := 1728) (k := 13) ld_w108 (by decide +kernel))
theorem dL_law_1742 : decode cL_law 1742 = .ok (.iconst 1, 1) := qd_p qo_4 (qa_w (off := 1728) (k := 14) ld_w108 (by decide +kernel))
theorem dL_law_1743 : decode cL_law 1743 = .ok (.iadd, 1) := qd_p qo_96 (qa_w (off := 1728) (k := 15) ld_w108 (by decide +kernel))
theorem dL_law_1744 : decode cL_law 1744 = .ok (.iaload, 1) := qd_p qo_46 (qa_w (off := 1744) (k := 0) ld_w109 (by decide +kernel))
theorem dL_law_1745 : decode cL_law 1745 = .ok (.invokevirtual 200, 3) := qz_2 .invokevirtual 0 200 qo_182 (qa_w3 (off := 1744) (k := 1) ld_w109 (by decide +kernel)) rfl
theorem dL_law_1748 : decode cL_law 1748 = .ok (.pop, 1) := qd_p qo_87 (qa_w (off := 1744) (k := 4) ld_w109 (by decide +kernel))
theorem dL_law_1749 : decode cL_law 1749 = .ok (.aload_n 2, 1) := qd_p qo_44 (qa_w (off := 1744) (k := 5) ld_w109 (by decide +kernel))
theorem dL_law_1750 : decode cL_law 1750 = .ok (.aload_n 0, 1) := qd_p qo_42 (qa_w (off := 1744) (k := 6) ld_w109 (by decide +kernel))
theorem dL_law_1751 : decode cL_law 1751 = .ok (.iload_n 3, 1) := qd_p qo_29 (qa_w (off := 1744) (k := 7) ld_w109 (by decide +kernel))
theorem dL_law_1752 : decode cL_law 1752 = .ok (.iconst 1, 1) := qd_p qo_4 (qa_w (off := 1744) (k := 8) ld_w109 (by decide +kernel))
theorem dL_law_1753 : decode cL_law 1753 = .ok (.iadd, 1) := qd_p qo_96 (qa_w (off := 1744) (k := 9) ld_w109 (by decide +kernel))
theorem dL_law_1754 : decode cL_law 1754 = .ok (.iaload, 1) := qd_p qo_46 (qa_w (off := 1744) (k := 10) ld_w109 (by decide +kernel))
theorem dL_law_1755 : decode cL_law 1755 = .ok (.invokevirtual 203, 3) := qz_2 .invokevirtual 0 203 qo_182 (qa_w3 (off := 1744) (k := 11) ld_w109 (by decide +kernel)) rfl
theorem dL_law_1758 : decode cL_law 1758 = .ok (.pop, 1) := qd_p qo_87 (qa_w (off := 1744) (k := 14) ld_w109 (by decide +kernel))
theorem dL_law_1759 : decode cL_law 1759 = .ok (.goto 187, 3) := qz_s2 .goto 0 187 qo_167 (qa_w3 (off := 1744) (k := 15) ld_w109 (by decide +kernel)) rfl
theorem dL_law_1762 : decode cL_law 1762 = .ok (.aload_n 1, 1) := qd_p qo_43 (qa_w (off := 1760) (k := 2) ld_w110 (by decide +kernel))
theorem dL_law_1763 : decode cL_law 1763 = .ok (.aload_n 0, 1) := qd_p qo_42 (qa_w (off := 1760) (k := 3) ld_w110 (by decide +kernel))
theorem dL_law_1764 : decode cL_law 1764 = .ok (.iload_n 3, 1) := qd_p qo_29 (qa_w (off := 1760) (k := 4) ld_w110 (by decide +kernel))
theorem dL_law_1765 : decode cL_law 1765 = .ok (.iconst 1, 1) := qd_p qo_4 (qa_w (off := 1760) (k := 5) ld_w110 (by decide +kernel))
theorem dL_law_1766 : decode cL_law 1766 = .ok (.iadd, 1) := qd_p qo_96 (qa_w (off := 1760) (k := 6) ld_w110 (by decide +kernel))
theorem dL_law_1767 : decode cL_law 1767 = .ok (.iaload, 1) := qd_p qo_46 (qa_w (off := 1760) (k := 7) ld_w110 (by decide +kernel))
theorem dL_law_1768 : decode cL_law 1768 = .ok (.aload_n 0, 1) := qd_p qo_42 (qa_w (off := 1760) (k := 8) ld_w110 (by decide +kernel))
theorem dL_law_1769 : decode cL_law 1769 = .ok (.iload_n 3, 1) := qd_p qo_29 (qa_w (off := 1760) (k := 9) ld_w110 (by decide +kernel))
theorem dL_law_1770 : decode cL_law 1770 = .ok (.iconst 2, 1) := qd_p qo_5 (qa_w (off := 1760) (k := 10) ld_w110 (by decide +kernel))
theorem dL_law_1771 : decode cL_law 1771 = .ok (.iadd, 1) := qd_p qo_96 (qa_w (off := 1760) (k := 11) ld_w110 (by decide +kernel))
theorem dL_law_1772 : decode cL_law 1772 = .ok (.iaload, 1) := qd_p qo_46 (qa_w (off := 1760) (k := 12) ld_w110 (by decide +kernel))
theorem dL_law_1773 : decode cL_law 1773 = .ok (.invokevirtual 204, 3) := qz_2 .invokevirtual 0 204 qo_182 (qa_w3 (off := 1760) (k := 13) ld_w110 (by decide +kernel)) rfl
theorem dL_law_1776 : decode cL_law 1776 = .ok (.pop, 1) := qd_p qo_87 (qa_w (off := 1776) (k := 0) ld_w111 (by decide +kernel))
theorem dL_law_1777 : decode cL_law 1777 = .ok (.aload_n 2, 1) := qd_p qo_44 (qa_w (off := 1776) (k := 1) ld_w111 (by decide +kernel))
theorem dL_law_1778 : decode cL_law 1778 = .ok (.aload_n 0, 1) := qd_p qo_42 (qa_w (off := 1776) (k := 2) ld_w111 (by decide +kernel))
theorem dL_law_1779 : decode cL_law 1779 = .ok (.iload_n 3, 1) := qd_p qo_29 (qa_w (off := 1776) (k := 3) ld_w111 (by decide +kernel))
theorem dL_law_1780 : decode cL_law 1780 = .ok (.iconst 1, 1) := qd_p qo_4 (qa_w (off := 1776) (k := 4) ld_w111 (by decide +kernel))
theorem dL_law_1781 : decode cL_law 1781 = .ok (.iadd, 1) := qd_p qo_96 (qa_w (off := 1776) (k := 5) ld_w111 (by decide +kernel))
theorem dL_law_1782 : decode cL_law 1782 = .ok (.iaload, 1) := qd_p qo_46 (qa_w (off := 1776) (k := 6) ld_w111 (by decide +kernel))
theorem dL_law_1783 : decode cL_law 1783 = .ok (.aload_n 0, 1) := qd_p qo_42 (qa_w (off := 1776) (k := 7) ld_w111 (by decide +kernel))
theorem dL_law_1784 : decode cL_law 1784 = .ok (.iload_n 3, 1) := qd_p qo_29 (qa_w (off := 1776) (k := 8) ld_w111 (by decide +kernel))
theorem dL_law_1785 : decode cL_law 1785 = .ok (.iconst 2, 1) := qd_p qo_5 (qa_w (off := 1776) (k := 9) ld_w111 (by decide +kernel))
theorem dL_law_1786 : decode cL_law 1786 = .ok (.iadd, 1) := qd_p qo_96 (qa_w (off := 1776) (k := 10) ld_w111 (by decide +kernel))
theorem dL_law_1787 : decode cL_law 1787 = .ok (.iaload, 1) := qd_p qo_46 (qa_w (off := 1776) (k := 11) ld_w111 (by decide +kernel))
theorem dL_law_1788 : decode cL_law 1788 = .ok (.invokevirtual 207, 3) := qz_2 .invokevirtual 0 207 qo_182 (qa_w3 (off := 1776) (k := 12) ld_w111 (by decide +kernel)) rfl
theorem dL_law_1791 : decode cL_law 1791 = .ok (.pop, 1) := qd_p qo_87 (qa_w (off := 1776) (k := 15) ld_w111 (by decide +kernel))
theorem dL_law_1792 : decode cL_law 1792 = .ok (.goto 154, 3) := qz_s2 .goto 0 154 qo_167 (qa_w3 (off := 1792) (k := 0) ld_w112 (by decide +kernel)) rfl
theorem dL_law_1795 : decode cL_law 1795 = .ok (.aload_n 1, 1) := qd_p qo_43 (qa_w (off := 1792) (k := 3) ld_w112 (by decide +kernel))
theorem dL_law_1796 : decode cL_law 1796 = .ok (.aload_n 0, 1) := qd_p qo_42 (qa_w (off := 1792) (k := 4) ld_w112 (by decide +kernel))
theorem dL_law_1797 : decode cL_law 1797 = .ok (.iload_n 3, 1) := qd_p qo_29 (qa_w (off := 1792) (k := 5) ld_w112 (by decide +kernel))
theorem dL_law_1798 : decode cL_law 1798 = .ok (.iconst 1, 1) := qd_p qo_4 (qa_w (off := 1792) (k := 6) ld_w112 (by decide +kernel))
theorem dL_law_1799 : decode cL_law 1799 = .ok (.iadd, 1) := qd_p qo_96 (qa_w (off := 1792) (k := 7) ld_w112 (by decide +kernel))
theorem dL_law_1800 : decode cL_law 1800 = .ok (.iaload, 1) := qd_p qo_46 (qa_w (off := 1792) (k := 8) ld_w112 (by decide +kernel))
theorem dL_law_1801 : decode cL_law 1801 = .ok (.invokevirtual 208, 3) := qz_2 .invokevirtual 0 208 qo_182 (qa_w3 (off := 1792) (k := 9) ld_w112 (by decide +kernel)) rfl
theorem dL_law_1804 : decode cL_law 1804 = .ok (.pop, 1) := qd_p qo_87 (qa_w (off := 1792) (k := 12) ld_w112 (by decide +kernel))
theorem dL_law_1805 : decode cL_law 1805 = .ok (.aload_n 2, 1) := qd_p qo_44 (qa_w (off := 1792) (k := 13) ld_w112 (by decide +kernel))
theorem dL_law_1806 : decode cL_law 1806 = .ok (.aload_n 0, 1) := qd_p qo_42 (qa_w (off := 1792) (k := 14) ld_w112 (by decide +kernel))
theorem dL_law_1807 : decode cL_law 1807 = .ok (.iload_n 3, 1) := qd_p qo_29 (qa_w (off := 1792) (k := 15) ld_w112 (by decide +kernel))
theorem dL_law_1808 : decode cL_law 1808 = .ok (.iconst 1, 1) := qd_p qo_4 (qa_w (off := 1808) (k := 0) ld_w113 (by decide +kernel))
theorem dL_law_1809 : decode cL_law 1809 = .ok (.iadd, 1) := qd_p qo_96 (qa_w (off := 1808) (k := 1) ld_w113 (by decide +kernel))
theorem dL_law_1810 : decode cL_law 1810 = .ok (.iaload, 1) := qd_p qo_46 (qa_w (off := 1808) (k := 2) ld_w113 (by decide +kernel))
theorem dL_law_1811 : decode cL_law 1811 = .ok (.invokevirtual 211, 3) := qz_2 .invokevirtual 0 211 qo_182 (qa_w3 (off := 1808) (k := 3) ld_w113 (by decide +kernel)) rfl
theorem dL_law_1814 : decode cL_law 1814 = .ok (.pop, 1) := qd_p qo_87 (qa_w (off := 1808) (k := 6) ld_w113 (by decide +kernel))
theorem dL_law_1815 : decode cL_law 1815 = .ok (.goto 131, 3) := qz_s2 .goto 0 131 qo_167 (qa_w3 (off := 1808) (k := 7) ld_w113 (by decide +kernel)) rfl
theorem dL_law_1818 : decode cL_law 1818 = .ok (.aload_n 1, 1) := qd_p qo_43 (qa_w (off := 1808) (k := 10) ld_w113 (by decide +kernel))
theorem dL_law_1819 : decode cL_law 1819 = .ok (.aload_n 0, 1) := qd_p qo_42 (qa_w (off := 1808) (k := 11) ld_w113 (by decide +kernel))
theorem dL_law_1820 : decode cL_law 1820 = .ok (.iload_n 3, 1) := qd_p qo_29 (qa_w (off := 1808) (k := 12) ld_w113 (by decide +kernel))
theorem dL_law_1821 : decode cL_law 1821 = .ok (.iconst 1, 1) := qd_p qo_4 (qa_w (off := 1808) (k := 13) ld_w113 (by decide +kernel))
theorem dL_law_1822 : decode cL_law 1822 = .ok (.iadd, 1) := qd_p qo_96 (qa_w (off := 1808) (k := 14) ld_w113 (by decide +kernel))
theorem dL_law_1823 : decode cL_law 1823 = .ok (.iaload, 1) := qd_p qo_46 (qa_w (off := 1808) (k := 15) ld_w113 (by decide +kernel))
theorem dL_law_1824 : decode cL_law 1824 = .ok (.invokevirtual 212, 3) := qz_2 .invokevirtual 0 212 qo_182 (qa_w3 (off := 1824) (k := 0) ld_w114 (by decide +kernel)) rfl
theorem dL_law_1827 : decode cL_law 1827 = .ok (.pop, 1) := qd_p qo_87 (qa_w (off := 1824) (k := 3) ld_w114 (by decide +kernel))
theorem dL_law_1828 : decode cL_law 1828 = .ok (.aload_n 2, 1) := qd_p qo_44 (qa_w (off := 1824) (k := 4) ld_w114 (by decide +kernel))
theorem dL_law_1829 : decode cL_law 1829 = .ok (.aload_n 0, 1) := qd_p qo_42 (qa_w (off := 1824) (k := 5) ld_w114 (by decide +kernel))
theorem dL_law_1830 : decode cL_law 1830 = .ok (.iload_n 3, 1) := qd_p qo_29 (qa_w (off := 1824) (k := 6) ld_w114 (by decide +kernel))
theorem dL_law_1831 : decode cL_law 1831 = .ok (.iconst 1, 1) := qd_p qo_4 (qa_w (off := 1824) (k := 7) ld_w114 (by decide +kernel))
theorem dL_law_1832 : decode cL_law 1832 = .ok (.iadd, 1) := qd_p qo_96 (qa_w (off := 1824) (k := 8) ld_w114 (by decide +kernel))
theorem dL_law_1833 : decode cL_law 1833 = .ok (.iaload, 1) := qd_p qo_46 (qa_w (off := 1824) (k := 9) ld_w114 (by decide +kernel))
theorem dL_law_1834 : decode cL_law 1834 = .ok (.invokevirtual 215, 3) := qz_2 .invokevirtual 0 215 qo_182 (qa_w3 (off := 1824) (k := 10) ld_w114 (by decide +kernel)) rfl
theorem dL_law_1837 : decode cL_law 1837 = .ok (.pop, 1) := qd_p qo_87 (qa_w (off := 1824) (k := 13) ld_w114 (by decide +kernel))
theorem dL_law_1838 : decode cL_law 1838 = .ok (.goto 108, 3) := qz_s2 .goto 0 108 qo_167 (qa_w3 (off := 1824) (k := 14) ld_w114 (by decide +kernel)) rfl
theorem dL_law_1841 : decode cL_law 1841 = .ok (.aload_n 1, 1) := qd_p qo_43 (qa_w (off := 1840) (k := 1) ld_w115 (by decide +kernel))
theorem dL_law_1842 : decode cL_law 1842 = .ok (.invokevirtual 216, 3) := qz_2 .invokevirtual 0 216 qo_182 (qa_w3 (off := 1840) (k := 2) ld_w115 (by decide +kernel)) rfl
theorem dL_law_1845 : decode cL_law 1845 = .ok (.pop, 1) := qd_p qo_87 (qa_w (off := 1840) (k := 5) ld_w115 (by decide +kernel))
theorem dL_law_1846 : decode cL_law 1846 = .ok (.aload_n 2, 1) := qd_p qo_44 (qa_w (off := 1840) (k := 6) ld_w115 (by decide +kernel))
theorem dL_law_1847 : decode cL_law 1847 = .ok (.invokevirtual 219, 3) := qz_2 .invokevirtual 0 219 qo_182 (qa_w3 (off := 1840) (k := 7) ld_w115 (by decide +kernel)) rfl
theorem dL_law_1850 : decode cL_law 1850 = .ok (.pop, 1) := qd_p qo_87 (qa_w (off := 1840) (k := 10) ld_w115 (by decide +kernel))
theorem dL_law_1851 : decode cL_law 1851 = .ok (.goto 95, 3) := qz_s2 .goto 0 95 qo_167 (qa_w3 (off := 1840) (k := 11) ld_w115 (by decide +kernel)) rfl
theorem dL_law_1854 : decode cL_law 1854 = .ok (.aload_n 1, 1) := qd_p qo_43 (qa_w (off := 1840) (k := 14) ld_w115 (by decide +kernel))
theorem dL_law_1855 : decode cL_law 1855 = .ok (.aload_n 0, 1) := qd_p qo_42 (qa_w (off := 1840) (k := 15) ld_w115 (by decide +kernel))
theorem dL_law_1856 : decode cL_law 1856 = .ok (.iload_n 3, 1) := qd_p qo_29 (qa_w (off := 1856) (k := 0) ld_w116 (by decide +kernel))
theorem dL_law_1857 : decode cL_law 1857 = .ok (.iconst 1, 1) := qd_p qo_4 (qa_w (off := 1856) (k := 1) ld_w116 (by decide +kernel))
theorem dL_law_1858 : decode cL_law 1858 = .ok (.iadd, 1) := qd_p qo_96 (qa_w (off := 1856) (k := 2) ld_w116 (by decide +kernel))
theorem dL_law_1859 : decode cL_law 1859 = .ok (.iaload, 1) := qd_p qo_46 (qa_w (off := 1856) (k := 3) ld_w116 (by decide +kernel))
theorem dL_law_1860 : decode cL_law 1860 = .ok (.aload_n 0, 1) := qd_p qo_42 (qa_w (off := 1856) (k := 4) ld_w116 (by decide +kernel))
theorem dL_law_1861 : decode cL_law 1861 = .ok (.iload_n 3, 1) := qd_p qo_29 (qa_w (off := 1856) (k := 5) ld_w116 (by decide +kernel))
theorem dL_law_1862 : decode cL_law 1862 = .ok (.iconst 2, 1) := qd_p qo_5 (qa_w (off := 1856) (k := 6) ld_w116 (by decide +kernel))
theorem dL_law_1863 : decode cL_law 1863 = .ok (.iadd, 1) := qd_p qo_96 (qa_w (off := 1856) (k := 7) ld_w116 (by decide +kernel))
theorem dL_law_1864 : decode cL_law 1864 = .ok (.iaload, 1) := qd_p qo_46 (qa_w (off := 1856) (k := 8) ld_w116 (by decide +kernel))
theorem dL_law_1865 : decode cL_law 1865 = .ok (.aload_n 0, 1) := qd_p qo_42 (qa_w (off := 1856) (k := 9) ld_w116 (by decide +kernel))
theorem dL_law_1866 : decode cL_law 1866 = .ok (.iload_n 3, 1) := qd_p qo_29 (qa_w (off := 1856) (k := 10) ld_w116 (by decide +kernel))
theorem dL_law_1867 : decode cL_law 1867 = .ok (.iconst 3, 1) := qd_p qo_6 (qa_w (off := 1856) (k := 11) ld_w116 (by decide +kernel))
theorem dL_law_1868 : decode cL_law 1868 = .ok (.iadd, 1) := qd_p qo_96 (qa_w (off := 1856) (k := 12) ld_w116 (by decide +kernel))
theorem dL_law_1869 : decode cL_law 1869 = .ok (.iaload, 1) := qd_p qo_46 (qa_w (off := 1856) (k := 13) ld_w116 (by decide +kernel))
theorem dL_law_1870 : decode cL_law 1870 = .ok (.invokevirtual 220, 3) := qz_2 .invokevirtual 0 220 qo_182 (qa_w3 (off := 1856) (k := 14) ld_w116 (by decide +kernel)) rfl
theorem dL_law_1873 : decode cL_law 1873 = .ok (.pop, 1) := qd_p qo_87 (qa_w (off := 1872) (k := 1) ld_w117 (by decide +kernel))
theorem dL_law_1874 : decode cL_law 1874 = .ok (.aload_n 2, 1) := qd_p qo_44 (qa_w (off := 1872) (k := 2) ld_w117 (by decide +kernel))
theorem dL_law_1875 : decode cL_law 1875 = .ok (.aload_n 0, 1) := qd_p qo_42 (qa_w (off := 1872) (k := 3) ld_w117 (by decide +kernel))
theorem dL_law_1876 : decode cL_law 1876 = .ok (.iload_n 3, 1) := qd_p qo_29 (qa_w (off := 1872) (k := 4) ld_w117 (by decide +kernel))
theorem dL_law_1877 : decode cL_law 1877 = .ok (.iconst 1, 1) := qd_p qo_4 (qa_w (off := 1872) (k := 5) ld_w117 (by decide +kernel))
theorem dL_law_1878 : decode cL_law 1878 = .ok (.iadd, 1) := qd_p qo_96 (qa_w (off := 1872) (k := 6) ld_w117 (by decide +kernel))
theorem dL_law_1879 : decode cL_law 1879 = .ok (.iaload, 1) := qd_p qo_46 (qa_w (off := 1872) (k := 7) ld_w117 (by decide +kernel))
theorem dL_law_1880 : decode cL_law 1880 = .ok (.aload_n 0, 1) := qd_p qo_42 (qa_w (off := 1872) (k := 8) ld_w117 (by decide +kernel))
theorem dL_law_1881 : decode cL_law 1881 = .ok (.iload_n 3, 1) := qd_p qo_29 (qa_w (off := 1872) (k := 9) ld_w117 (by decide +kernel))
theorem dL_law_1882 : decode cL_law 1882 = .ok (.iconst 2, 1) := qd_p qo_5 (qa_w (off := 1872) (k := 10) ld_w117 (by decide +kernel))
theorem dL_law_1883 : decode cL_law 1883 = .ok (.iadd, 1) := qd_p qo_96 (qa_w (off := 1872) (k := 11) ld_w117 (by decide +kernel))
theorem dL_law_1884 : decode cL_law 1884 = .ok (.iaload, 1) := qd_p qo_46 (qa_w (off := 1872) (k := 12) ld_w117 (by decide +kernel))
theorem dL_law_1885 : decode cL_law 1885 = .ok (.aload_n 0, 1) := qd_p qo_42 (qa_w (off := 1872) (k := 13) ld_w117 (by decide +kernel))
theorem dL_law_1886 : decode cL_law 1886 = .ok (.iload_n 3, 1) := qd_p qo_29 (qa_w (off := 1872) (k := 14) ld_w117 (by decide +kernel))
theorem dL_law_1887 : decode cL_law 1887 = .ok (.iconst 3, 1) := qd_p qo_6 (qa_w (off := 1872) (k := 15) ld_w117 (by decide +kernel))
theorem dL_law_1888 : decode cL_law 1888 = .ok (.iadd, 1) := qd_p qo_96 (qa_w (off := 1888) (k := 0) ld_w118 (by decide +kernel))
theorem dL_law_1889 : decode cL_law 1889 = .ok (.iaload, 1) := qd_p qo_46 (qa_w (off := 1888) (k := 1) ld_w118 (by decide +kernel))
theorem dL_law_1890 : decode cL_law 1890 = .ok (.invokevirtual 223, 3) := qz_2 .invokevirtual 0 223 qo_182 (qa_w3 (off := 1888) (k := 2) ld_w118 (by decide +kernel)) rfl
theorem dL_law_1893 : decode cL_law 1893 = .ok (.pop, 1) := qd_p qo_87 (qa_w (off := 1888) (k := 5) ld_w118 (by decide +kernel))
theorem dL_law_1894 : decode cL_law 1894 = .ok (.goto 52, 3) := qz_s2 .goto 0 52 qo_167 (qa_w3 (off := 1888) (k := 6) ld_w118 (by decide +kernel)) rfl
theorem dL_law_1897 : decode cL_law 1897 = .ok (.aload_n 1, 1) := qd_p qo_43 (qa_w (off := 1888) (k := 9) ld_w118 (by decide +kernel))
theorem dL_law_1898 : decode cL_law 1898 = .ok (.invokevirtual 224, 3) := qz_2 .invokevirtual 0 224 qo_182 (qa_w3 (off := 1888) (k := 10) ld_w118 (by decide +kernel)) rfl
theorem dL_law_1901 : decode cL_law 1901 = .ok (.pop, 1) := qd_p qo_87 (qa_w (off := 1888) (k := 13) ld_w118 (by decide +kernel))
theorem dL_law_1902 : decode cL_law 1902 = .ok (.aload_n 2, 1) := qd_p qo_44 (qa_w (off := 1888) (k := 14) ld_w118 (by decide +kernel))
theorem dL_law_1903 : decode cL_law 1903 = .ok (.invokevirtual 227, 3) := qz_2 .invokevirtual 0 227 qo_182 (qa_w3 (off := 1888) (k := 15) ld_w118 (by decide +kernel)) rfl
theorem dL_law_1906 : decode cL_law 1906 = .ok (.pop, 1) := qd_p qo_87 (qa_w (off := 1904) (k := 2) ld_w119 (by decide +kernel))
theorem dL_law_1907 : decode cL_law 1907 = .ok (.goto 39, 3) := qz_s2 .goto 0 39 qo_167 (qa_w3 (off := 1904) (k := 3) ld_w119 (by decide +kernel)) rfl
theorem dL_law_1910 : decode cL_law 1910 = .ok (.aload_n 1, 1) := qd_p qo_43 (qa_w (off := 1904) (k := 6) ld_w119 (by decide +kernel))
theorem dL_law_1911 : decode cL_law 1911 = .ok (.invokevirtual 228, 3) := qz_2 .invokevirtual 0 228 qo_182 (qa_w3 (off := 1904) (k := 7) ld_w119 (by decide +kernel)) rfl
theorem dL_law_1914 : decode cL_law 1914 = .ok (.pop, 1) := qd_p qo_87 (qa_w (off := 1904) (k := 10) ld_w119 (by decide +kernel))
theorem dL_law_1915 : decode cL_law 1915 = .ok (.aload_n 2, 1) := qd_p qo_44 (qa_w (off := 1904) (k := 11) ld_w119 (by decide +kernel))
theorem dL_law_1916 : decode cL_law 1916 = .ok (.invokevirtual 231, 3) := qz_2 .invokevirtual 0 231 qo_182 (qa_w3 (off := 1904) (k := 12) ld_w119 (by decide +kernel)) rfl
theorem dL_law_1919 : decode cL_law 1919 = .ok (.pop, 1) := qd_p qo_87 (qa_w (off := 1904) (k := 15) ld_w119 (by decide +kernel))
theorem dL_law_1920 : decode cL_law 1920 = .ok (.goto 26, 3) := qz_s2 .goto 0 26 qo_167 (qa_w3 (off := 1920) (k := 0) ld_w120 (by decide +kernel)) rfl
theorem dL_law_1923 : decode cL_law 1923 = .ok (.aload_n 1, 1) := qd_p qo_43 (qa_w (off := 1920) (k := 3) ld_w120 (by decide +kernel))
theorem dL_law_1924 : decode cL_law 1924 = .ok (.aload_n 0, 1) := qd_p qo_42 (qa_w (off := 1920) (k := 4) ld_w120 (by decide +kernel))
theorem dL_law_1925 : decode cL_law 1925 = .ok (.iload_n 3, 1) := qd_p qo_29 (qa_w (off := 1920) (k := 5) ld_w120 (by decide +kernel))
theorem dL_law_1926 : decode cL_law 1926 = .ok (.iconst 1, 1) := qd_p qo_4 (qa_w (off := 1920) (k := 6) ld_w120 (by decide +kernel))
theorem dL_law_1927 : decode cL_law 1927 = .ok (.iadd, 1) := qd_p qo_96 (qa_w (off := 1920) (k := 7) ld_w120 (by decide +kernel))
theorem dL_law_1928 : decode cL_law 1928 = .ok (.iaload, 1) := qd_p qo_46 (qa_w (off := 1920) (k := 8) ld_w120 (by decide +kernel))
theorem dL_law_1929 : decode cL_law 1929 = .ok (.invokevirtual 232, 3) := qz_2 .invokevirtual 0 232 qo_182 (qa_w3 (off := 1920) (k := 9) ld_w120 (by decide +kernel)) rfl
theorem dL_law_1932 : decode cL_law 1932 = .ok (.pop, 1) := qd_p qo_87 (qa_w (off := 1920) (k := 12) ld_w120 (by decide +kernel))
theorem dL_law_1933 : decode cL_law 1933 = .ok (.aload_n 2, 1) := qd_p qo_44 (qa_w (off := 1920) (k := 13) ld_w120 (by decide +kernel))
theorem dL_law_1934 : decode cL_law 1934 = .ok (.aload_n 0, 1) := qd_p qo_42 (qa_w (off := 1920) (k := 14) ld_w120 (by decide +kernel))
theorem dL_law_1935 : decode cL_law 1935 = .ok (.iload_n 3, 1) := qd_p qo_29 (qa_w (off := 1920) (k := 15) ld_w120 (by decide +kernel))
theorem dL_law_1936 : decode cL_law 1936 = .ok (.iconst 1, 1) := qd_p qo_4 (qa_w (off := 1936) (k := 0) ld_w121 (by decide +kernel))
theorem dL_law_1937 : decode cL_law 1937 = .ok (.iadd, 1) := qd_p qo_96 (qa_w (off := 1936) (k := 1) ld_w121 (by decide +kernel))
theorem dL_law_1938 : decode cL_law 1938 = .ok (.iaload, 1) := qd_p qo_46 (qa_w (off := 1936) (k := 2) ld_w121 (by decide +kernel))
theorem dL_law_1939 : decode cL_law 1939 = .ok (.invokevirtual 235, 3) := qz_2 .invokevirtual 0 235 qo_182 (qa_w3 (off := 1936) (k := 3) ld_w121 (by decide +kernel)) rfl
theorem dL_law_1942 : decode cL_law 1942 = .ok (.pop, 1) := qd_p qo_87 (qa_w (off := 1936) (k := 6) ld_w121 (by decide +kernel))
theorem dL_law_1943 : decode cL_law 1943 = .ok (.goto 3, 3) := qz_s2 .goto 0 3 qo_167 (qa_w3 (off := 1936) (k := 7) ld_w121 (by decide +kernel)) rfl
theorem dL_law_1946 : decode cL_law 1946 = .ok (.iinc 3 6, 3) := qd_i (x := 3) (y := 6) qo_132 (qa_w3 (off := 1936) (k := 10) ld_w121 (by decide +kernel)) rfl
theorem dL_law_1949 : decode cL_law 1949 = .ok (.goto (-1931), 3) := qz_s2 .goto 248 117 qo_167 (qa_w3 (off := 1936) (k := 13) ld_w121 (by decide +kernel)) rfl
theorem dL_law_1952 : decode cL_law 1952 = .ok (.iconst 1, 1) := qd_p qo_4 (qa_w (off := 1952) (k := 0) ld_w122 (by decide +kernel))
theorem dL_law_1953 : decode cL_law 1953 = .ok (.ireturn, 1) := qd_p qo_172 (qa_w (off := 1952) (k := 1) ld_w122 (by decide +kernel))
def wl_C (p : Program) (s : State) (m : MethodId) (meth : Method) (c : Code) (b L : Nat) (xs : Nat → Int32) (D : va_G) (tI tII : ClassId) (B : Nat) : Prop :=
  p.tables.exec = Jvm.exec ∧ c.code = cL_law ∧ (∀ w ∈ wt_tbl, w.before #[Value.ref b] s = true) ∧ s.vm.findClass RL = some m.cls ∧ c.maxLocals = 4 ∧ va_X b L xs s s.heap ∧ b < s.heap.size ∧ (¬ B ≤ b) ∧ wt_K D tI tII s
theorem wl_cmp_self (x : Int64) : lg_cmp x x = 0 := by
  unfold lg_cmp
  simp
section WLR
variable {p : Program} {l : Launch} {e : Env} {R : Room} {s : State} {m : MethodId} {args : Array Value} {below : List Frame} {meth : Method} {c : Code} {H : Heap} {locs : List Loc} {cells slots : Nat} {Q : State → Prop}
variable {cc : ByteArray} {pc : Nat} {ls : Array Slot} {rest : List Value} {D : va_G} {tI tII : ClassId} {B : Nat} {σ : Mem}
theorem wl_callVi {As : List Value} {rest : List Value} (hx : p.tables.exec = Jvm.exec) (hb : c.code = cc) {nL idx : Nat} {own : String} (hml : c.maxLocals = nL) (hts : ∀ w ∈ wt_tbl, w.before args s = true) (hown : s.vm.findClass own = some m.cls) (hK : wt_K D tI tII s) (hM : wt_St D tI tII B σ s H locs) {k ci N : Nat} {C : String} {T : u_T} (hrc : k < 122 ∧ (∀ (tI tII : ClassId) (B : Nat) (f : Nat → Int32), ∃ fs, wt_cell tI tII B k f = .inr (ci, fs)) ∧ vwCl[ci]? = some (C, T, N)) {y : MethodName} {cy : ByteArray} {nY n : Nat} {ret : Option FieldType} {rm : Room} {st0 : List Value} (hG : GoodIn wt_tbl (wsV own idx C y (.code y cy nY ret :: wt_tbl)))
    (hd : y.cls = C ∧ y.cls ≠ "java/lang/invoke/MethodHandle" ∧ y.cls ≠ "java/lang/invoke/VarHandle" ∧ (parseMethodDescriptor y.desc).map (fun d => d.parameters.length) = some n) (hn : As.length = n) (hR : rm.frames + 1 ≤ R.frames ∧ 8 + (nY + 11) + rm.locals ≤ R.locals) (hrm : rm.cells = 0 ∧ rm.slots = 0) (hsz : ls.size = nL) (hst : st0 = As.reverse ++ .ref (B + k) :: rest) (hcat : (rest.map fun v => v.category).sum ≤ 8) (hdg : decode cc pc = .ok (.invokevirtual idx, 3)) (hcs : cells ≤ R.cells ∧ slots ≤ R.slots) {a : Int32} {s1 : Mem}
    (hc : wt_Mi l y cy nY ret rm (.ref (B + k) :: As) D tI tII B σ a s1)
    (kk : ∀ (H1 : Heap) (locs1 : List Loc), wt_St D tI tII B s1 s H1 locs1 → W p l e R s m args below meth c H1 locs1 cells slots Q (F0 m (pc + 3) ls (.int a :: rest))) : W p l e R s m args below meth c H locs cells slots Q (F0 m pc ls st0) := by
  subst hst
  refine va_calli (A0 := fun q => B ≤ q) (A1 := fun q => B ≤ q) (free := fun q => B ≤ q) (mc := 0) (ms := 0) (va_runV (As := As) (rest := rest) ⟨hx, hb, hml, hown, hts⟩ hc (cwV n hts hG rfl hrm.1 hrm.2 hd hR) ⟨wt_blind, wt_recv hK hM hrc.1 (hrc.2.1 tI tII B) hrc.2.2, wt_pre hK hM⟩ rfl hn hsz rfl (lv_room hcat) hdg hcs) hM.2 (fun _ _ h => h) (fun _ h => h) (fun r1 u t H1 locs1 ht _ hw hB _ _ hS => ?_)
  subst hw
  exact kk H1 locs1 (wt_up ht hB hS)
theorem wl_callVl {As : List Value} {rest : List Value} (hx : p.tables.exec = Jvm.exec) (hb : c.code = cc) {nL idx : Nat} {own : String} (hml : c.maxLocals = nL) (hts : ∀ w ∈ wt_tbl, w.before args s = true) (hown : s.vm.findClass own = some m.cls) (hK : wt_K D tI tII s) (hM : wt_St D tI tII B σ s H locs) {k ci N : Nat} {C : String} {T : u_T} (hrc : k < 122 ∧ (∀ (tI tII : ClassId) (B : Nat) (f : Nat → Int32), ∃ fs, wt_cell tI tII B k f = .inr (ci, fs)) ∧ vwCl[ci]? = some (C, T, N)) {y : MethodName} {cy : ByteArray} {nY n : Nat} {ret : Option FieldType} {rm : Room} {st0 : List Value} (hG : GoodIn wt_tbl (wsV own idx C y (.code y cy nY ret :: wt_tbl)))
    (hd : y.cls = C ∧ y.cls ≠ "java/lang/invoke/MethodHandle" ∧ y.cls ≠ "java/lang/invoke/VarHandle" ∧ (parseMethodDescriptor y.desc).map (fun d => d.parameters.length) = some n) (hn : As.length = n) (hR : rm.frames + 1 ≤ R.frames ∧ 8 + (nY + 11) + rm.locals ≤ R.locals) (hrm : rm.cells = 0 ∧ rm.slots = 0) (hsz : ls.size = nL) (hst : st0 = As.reverse ++ .ref (B + k) :: rest) (hcat : (rest.map fun v => v.category).sum ≤ 8) (hdg : decode cc pc = .ok (.invokevirtual idx, 3)) (hcs : cells ≤ R.cells ∧ slots ≤ R.slots) {a : Int64} {s1 : Mem}
    (hc : wt_Ml l y cy nY ret rm (.ref (B + k) :: As) D tI tII B σ a s1)
    (kk : ∀ (H1 : Heap) (locs1 : List Loc), wt_St D tI tII B s1 s H1 locs1 → W p l e R s m args below meth c H1 locs1 cells slots Q (F0 m (pc + 3) ls (.long a :: rest))) : W p l e R s m args below meth c H locs cells slots Q (F0 m pc ls st0) := by
  subst hst
  refine va_calll (A0 := fun q => B ≤ q) (A1 := fun q => B ≤ q) (free := fun q => B ≤ q) (mc := 0) (ms := 0) (va_runV (As := As) (rest := rest) ⟨hx, hb, hml, hown, hts⟩ hc (cwV n hts hG rfl hrm.1 hrm.2 hd hR) ⟨wt_blind, wt_recv hK hM hrc.1 (hrc.2.1 tI tII B) hrc.2.2, wt_pre hK hM⟩ rfl hn hsz rfl (lv_room hcat) hdg hcs) hM.2 (fun _ _ h => h) (fun _ h => h) (fun r1 u t H1 locs1 ht _ hw hB _ _ hS => ?_)
  subst hw
  exact kk H1 locs1 (wt_up ht hB hS)
theorem wl_tableD (ks : List Int32) (hx : p.tables.exec = Jvm.exec) (hb : c.code = cc) {dflt lo hi : Int} {offs : Array Int} {len : Nat} {x : Int32} {tgt : Nat} (hdg : decode cc pc = .ok (.tableswitch dflt lo hi offs, len)) (hne : ∀ k ∈ ks, ¬ x = k) (hall : ∀ j : Nat, j < (hi - lo + 1).toNat → (∀ k ∈ ks, ¬ k.toInt = lo + j) → offs[j]? = some dflt) (ht : (pc : Int) + dflt = (tgt : Int))
    (k : W p l e R s m args below meth c H locs cells slots Q (F0 m tgt ls rest)) : W p l e R s m args below meth c H locs cells slots Q (F0 m pc ls (.int x :: rest)) := by
  by_cases h : x.toInt < lo ∨ hi < x.toInt
  · exact lv_tableOut hx hb hdg h ht k
  · have h1 : ¬ x.toInt < lo := fun q => h (Or.inl q)
    have h2 : ¬ hi < x.toInt := fun q => h (Or.inr q)
    refine lv_tableIn hx hb hdg h1 h2 (hall (x.toInt - lo).toNat (by omega) (fun k hk q => hne k hk (Int32.toInt_inj.mp ?_))) ht k
    rw [q]
    omega
theorem wl_key {P : Prop} {x k : Int32} (kt : x = k → P) (kf : ¬ x = k → P) : P := by
  by_cases h : x = k
  · exact kt h
  · exact kf h
end WLR
theorem tl_704 : Cond.classLink RL 10 RX4 ∈ wt_tbl := wt_tC3 (List.mem_of_getElem? (i := 224) rfl) rfl
theorem tl_9 : Cond.classLink RL 7 RX3 ∈ wt_tbl := wt_tC1 (List.mem_of_getElem? (i := 9) rfl) rfl
theorem tl_13 : Cond.code yX3_init cX3_init 1 none ∈ wt_tbl := wt_tC1 (List.mem_of_getElem? (i := 13) rfl) rfl
theorem tl_632 : Cond.code yX3_ahead cX3_ahead 5 (some .int) ∈ wt_tbl := wt_tC3 (List.mem_of_getElem? (i := 152) rfl) rfl
theorem tl_403 : Cond.code yX3_back cX3_back 1 (some .int) ∈ wt_tbl := wt_tC2 (List.mem_of_getElem? (i := 163) rfl) rfl
theorem tl_636 : Cond.code yX3_bestLaw cX3_bestLaw 8 (some .int) ∈ wt_tbl := wt_tC3 (List.mem_of_getElem? (i := 156) rfl) rfl
theorem tl_483 : Cond.code yX3_bestPane cX3_bestPane 11 (some .int) ∈ wt_tbl := wt_tC3 (List.mem_of_getElem? (i := 3) rfl) rfl
theorem tl_568 : Cond.code yX3_busy cX3_busy 7 (some .int) ∈ wt_tbl := wt_tC3 (List.mem_of_getElem? (i := 88) rfl) rfl
theorem tl_668 : Cond.code yX3_clear cX3_clear 2 (some .int) ∈ wt_tbl := wt_tC3 (List.mem_of_getElem? (i := 188) rfl) rfl
theorem tl_698 : Cond.code yX3_count cX3_count 2 (some .int) ∈ wt_tbl := wt_tC3 (List.mem_of_getElem? (i := 218) rfl) rfl
theorem tl_415 : Cond.code yX3_counts cX3_counts 5 (some .int) ∈ wt_tbl := wt_tC2 (List.mem_of_getElem? (i := 175) rfl) rfl
theorem tl_495 : Cond.code yX3_cover cX3_cover 4 (some .int) ∈ wt_tbl := wt_tC3 (List.mem_of_getElem? (i := 15) rfl) rfl
theorem tl_387 : Cond.code yX3_days cX3_days 3 (some .int) ∈ wt_tbl := wt_tC2 (List.mem_of_getElem? (i := 147) rfl) rfl
theorem tl_656 : Cond.code yX3_duels cX3_duels 6 (some .int) ∈ wt_tbl := wt_tC3 (List.mem_of_getElem? (i := 176) rfl) rfl
theorem tl_596 : Cond.code yX3_even cX3_even 6 (some .int) ∈ wt_tbl := wt_tC3 (List.mem_of_getElem? (i := 116) rfl) rfl
theorem tl_151 : Cond.code yX3_feed cX3_feed 3 (some .int) ∈ wt_tbl := wt_tC1 (List.mem_of_getElem? (i := 151) rfl) rfl
theorem tl_491 : Cond.code yX3_freeHours cX3_freeHours 8 (some .int) ∈ wt_tbl := wt_tC3 (List.mem_of_getElem? (i := 11) rfl) rfl
theorem tl_440 : Cond.code yX3_from cX3_from 5 (some .int) ∈ wt_tbl := wt_tC2 (List.mem_of_getElem? (i := 200) rfl) rfl
theorem tl_624 : Cond.code yX3_gap cX3_gap 8 (some .int) ∈ wt_tbl := wt_tC3 (List.mem_of_getElem? (i := 144) rfl) rfl
theorem tl_592 : Cond.code yX3_heir cX3_heir 6 (some .int) ∈ wt_tbl := wt_tC3 (List.mem_of_getElem? (i := 112) rfl) rfl
theorem tl_559 : Cond.code yX3_ill cX3_ill 14 (some .long) ∈ wt_tbl := wt_tC3 (List.mem_of_getElem? (i := 79) rfl) rfl
theorem tl_690 : Cond.code yX3_image cX3_image 1 (some .int) ∈ wt_tbl := wt_tC3 (List.mem_of_getElem? (i := 210) rfl) rfl
theorem tl_608 : Cond.code yX3_joint cX3_joint 7 (some .int) ∈ wt_tbl := wt_tC3 (List.mem_of_getElem? (i := 128) rfl) rfl
theorem tl_664 : Cond.code yX3_judge cX3_judge 4 (some .int) ∈ wt_tbl := wt_tC3 (List.mem_of_getElem? (i := 184) rfl) rfl
theorem tl_604 : Cond.code yX3_last cX3_last 5 (some .int) ∈ wt_tbl := wt_tC3 (List.mem_of_getElem? (i := 124) rfl) rfl
theorem tl_382 : Cond.code yX3_law cX3_law 4 (some .int) ∈ wt_tbl := wt_tC2 (List.mem_of_getElem? (i := 142) rfl) rfl
theorem tl_334 : Cond.code yX3_looker cX3_looker 4 (some .int) ∈ wt_tbl := wt_tC2 (List.mem_of_getElem? (i := 94) rfl) rfl
theorem tl_307 : Cond.code yX3_lookerOf cX3_lookerOf 4 (some .int) ∈ wt_tbl := wt_tC2 (List.mem_of_getElem? (i := 67) rfl) rfl
theorem tl_444 : Cond.code yX3_lost cX3_lost 4 (some .int) ∈ wt_tbl := wt_tC2 (List.mem_of_getElem? (i := 204) rfl) rfl
theorem tl_672 : Cond.code yX3_lots cX3_lots 9 (some .int) ∈ wt_tbl := wt_tC3 (List.mem_of_getElem? (i := 192) rfl) rfl
theorem tl_469 : Cond.code yX3_moreHours cX3_moreHours 5 (some .int) ∈ wt_tbl := wt_tC2 (List.mem_of_getElem? (i := 229) rfl) rfl
theorem tl_648 : Cond.code yX3_mostSeen cX3_mostSeen 7 (some .int) ∈ wt_tbl := wt_tC3 (List.mem_of_getElem? (i := 168) rfl) rfl
theorem tl_640 : Cond.code yX3_newcomer cX3_newcomer 8 (some .int) ∈ wt_tbl := wt_tC3 (List.mem_of_getElem? (i := 160) rfl) rfl
theorem tl_436 : Cond.code yX3_nobodys cX3_nobodys 3 (some .int) ∈ wt_tbl := wt_tC2 (List.mem_of_getElem? (i := 196) rfl) rfl
theorem tl_419 : Cond.code yX3_owner cX3_owner 4 (some .int) ∈ wt_tbl := wt_tC2 (List.mem_of_getElem? (i := 179) rfl) rfl
theorem tl_424 : Cond.code yX3_owns cX3_owns 5 (some .int) ∈ wt_tbl := wt_tC2 (List.mem_of_getElem? (i := 184) rfl) rfl
theorem tl_329 : Cond.code yX3_pane cX3_pane 3 (some .int) ∈ wt_tbl := wt_tC2 (List.mem_of_getElem? (i := 89) rfl) rfl
theorem tl_288 : Cond.code yX3_paneOf cX3_paneOf 4 (some .int) ∈ wt_tbl := wt_tC2 (List.mem_of_getElem? (i := 48) rfl) rfl
theorem tl_616 : Cond.code yX3_rank cX3_rank 5 (some .int) ∈ wt_tbl := wt_tC3 (List.mem_of_getElem? (i := 136) rfl) rfl
theorem tl_694 : Cond.code yX3_restore cX3_restore 1 (some .int) ∈ wt_tbl := wt_tC3 (List.mem_of_getElem? (i := 214) rfl) rfl
theorem tl_448 : Cond.code yX3_richest cX3_richest 5 (some .int) ∈ wt_tbl := wt_tC2 (List.mem_of_getElem? (i := 208) rfl) rfl
theorem tl_356 : Cond.code yX3_roster cX3_roster 5 (some .int) ∈ wt_tbl := wt_tC2 (List.mem_of_getElem? (i := 116) rfl) rfl
theorem tl_660 : Cond.code yX3_row cX3_row 3 (some .int) ∈ wt_tbl := wt_tC3 (List.mem_of_getElem? (i := 180) rfl) rfl
theorem tl_513 : Cond.code yX3_share cX3_share 8 (some .long) ∈ wt_tbl := wt_tC3 (List.mem_of_getElem? (i := 33) rfl) rfl
theorem tl_501 : Cond.code yX3_shown cX3_shown 2 (some .int) ∈ wt_tbl := wt_tC3 (List.mem_of_getElem? (i := 21) rfl) rfl
theorem tl_339 : Cond.code yX3_stands cX3_stands 6 (some .int) ∈ wt_tbl := wt_tC2 (List.mem_of_getElem? (i := 99) rfl) rfl
theorem tl_457 : Cond.code yX3_staredOut cX3_staredOut 5 (some .int) ∈ wt_tbl := wt_tC2 (List.mem_of_getElem? (i := 217) rfl) rfl
theorem tl_580 : Cond.code yX3_swap cX3_swap 9 (some .int) ∈ wt_tbl := wt_tC3 (List.mem_of_getElem? (i := 100) rfl) rfl
theorem tl_166 : Cond.code yX3_terrace cX3_terrace 2 (some .int) ∈ wt_tbl := wt_tC1 (List.mem_of_getElem? (i := 166) rfl) rfl
theorem tl_576 : Cond.code yX3_together cX3_together 7 (some .int) ∈ wt_tbl := wt_tC3 (List.mem_of_getElem? (i := 96) rfl) rfl
theorem tl_528 : Cond.code yX3_two cX3_two 8 (some .int) ∈ wt_tbl := wt_tC3 (List.mem_of_getElem? (i := 48) rfl) rfl
theorem tl_360 : Cond.code yX3_wall cX3_wall 4 (some .int) ∈ wt_tbl := wt_tC2 (List.mem_of_getElem? (i := 120) rfl) rfl
theorem tl_505 : Cond.code yX3_walls cX3_walls 11 (some .int) ∈ wt_tbl := wt_tC3 (List.mem_of_getElem? (i := 25) rfl) rfl
theorem tl_628 : Cond.code yX3_wasted cX3_wasted 8 (some .int) ∈ wt_tbl := wt_tC3 (List.mem_of_getElem? (i := 148) rfl) rfl
theorem tl_555 : Cond.code yX3_whichKind cX3_whichKind 8 (some .int) ∈ wt_tbl := wt_tC3 (List.mem_of_getElem? (i := 75) rfl) rfl
theorem tl_540 : Cond.code yX3_whichLaw cX3_whichLaw 4 (some .int) ∈ wt_tbl := wt_tC3 (List.mem_of_getElem? (i := 60) rfl) rfl
theorem tl_377 : Cond.code yX3_worth cX3_worth 5 (some .int) ∈ wt_tbl := wt_tC2 (List.mem_of_getElem? (i := 137) rfl) rfl
theorem tl_708 : Cond.code yX4_init cX4_init 2 none ∈ wt_tbl := wt_tC3 (List.mem_of_getElem? (i := 228) rfl) rfl
theorem tl_1187 : Cond.code yX4_ahead cX4_ahead 4 (some .int) ∈ wt_tbl := wt_tC5 (List.mem_of_getElem? (i := 227) rfl) rfl
theorem tl_936 : Cond.code yX4_back cX4_back 2 (some .int) ∈ wt_tbl := wt_tC4 (List.mem_of_getElem? (i := 216) rfl) rfl
theorem tl_1191 : Cond.code yX4_bestLaw cX4_bestLaw 9 (some .int) ∈ wt_tbl := wt_tC5 (List.mem_of_getElem? (i := 231) rfl) rfl
theorem tl_1073 : Cond.code yX4_bestPane cX4_bestPane 11 (some .int) ∈ wt_tbl := wt_tC5 (List.mem_of_getElem? (i := 113) rfl) rfl
theorem tl_1135 : Cond.code yX4_busy cX4_busy 4 (some .int) ∈ wt_tbl := wt_tC5 (List.mem_of_getElem? (i := 175) rfl) rfl
theorem tl_1219 : Cond.code yX4_clear cX4_clear 2 (some .int) ∈ wt_tbl := wt_tC6 (List.mem_of_getElem? (i := 19) rfl) rfl
theorem tl_1234 : Cond.code yX4_count cX4_count 4 (some .int) ∈ wt_tbl := wt_tC6 (List.mem_of_getElem? (i := 34) rfl) rfl
theorem tl_1018 : Cond.code yX4_counts cX4_counts 5 (some .int) ∈ wt_tbl := wt_tC5 (List.mem_of_getElem? (i := 58) rfl) rfl
theorem tl_1085 : Cond.code yX4_cover cX4_cover 6 (some .int) ∈ wt_tbl := wt_tC5 (List.mem_of_getElem? (i := 125) rfl) rfl
theorem tl_1010 : Cond.code yX4_days cX4_days 3 (some .int) ∈ wt_tbl := wt_tC5 (List.mem_of_getElem? (i := 50) rfl) rfl
theorem tl_1207 : Cond.code yX4_duels cX4_duels 5 (some .int) ∈ wt_tbl := wt_tC6 (List.mem_of_getElem? (i := 7) rfl) rfl
theorem tl_1159 : Cond.code yX4_even cX4_even 5 (some .int) ∈ wt_tbl := wt_tC5 (List.mem_of_getElem? (i := 199) rfl) rfl
theorem tl_822 : Cond.code yX4_feed cX4_feed 2 (some .int) ∈ wt_tbl := wt_tC4 (List.mem_of_getElem? (i := 102) rfl) rfl
theorem tl_1081 : Cond.code yX4_freeHours cX4_freeHours 8 (some .int) ∈ wt_tbl := wt_tC5 (List.mem_of_getElem? (i := 121) rfl) rfl
theorem tl_1045 : Cond.code yX4_from cX4_from 4 (some .int) ∈ wt_tbl := wt_tC5 (List.mem_of_getElem? (i := 85) rfl) rfl
theorem tl_1179 : Cond.code yX4_gap cX4_gap 8 (some .int) ∈ wt_tbl := wt_tC5 (List.mem_of_getElem? (i := 219) rfl) rfl
theorem tl_1155 : Cond.code yX4_heir cX4_heir 6 (some .int) ∈ wt_tbl := wt_tC5 (List.mem_of_getElem? (i := 195) rfl) rfl
theorem tl_1131 : Cond.code yX4_ill cX4_ill 15 (some .long) ∈ wt_tbl := wt_tC5 (List.mem_of_getElem? (i := 171) rfl) rfl
theorem tl_928 : Cond.code yX4_image cX4_image 1 (some .int) ∈ wt_tbl := wt_tC4 (List.mem_of_getElem? (i := 208) rfl) rfl
theorem tl_1167 : Cond.code yX4_joint cX4_joint 10 (some .int) ∈ wt_tbl := wt_tC5 (List.mem_of_getElem? (i := 207) rfl) rfl
theorem tl_1215 : Cond.code yX4_judge cX4_judge 5 (some .int) ∈ wt_tbl := wt_tC6 (List.mem_of_getElem? (i := 15) rfl) rfl
theorem tl_1163 : Cond.code yX4_last cX4_last 5 (some .int) ∈ wt_tbl := wt_tC5 (List.mem_of_getElem? (i := 203) rfl) rfl
theorem tl_1005 : Cond.code yX4_law cX4_law 3 (some .int) ∈ wt_tbl := wt_tC5 (List.mem_of_getElem? (i := 45) rfl) rfl
theorem tl_972 : Cond.code yX4_looker cX4_looker 4 (some .int) ∈ wt_tbl := wt_tC5 (List.mem_of_getElem? (i := 12) rfl) rfl
theorem tl_944 : Cond.code yX4_lookerOf cX4_lookerOf 3 (some .int) ∈ wt_tbl := wt_tC4 (List.mem_of_getElem? (i := 224) rfl) rfl
theorem tl_1049 : Cond.code yX4_lost cX4_lost 4 (some .int) ∈ wt_tbl := wt_tC5 (List.mem_of_getElem? (i := 89) rfl) rfl
theorem tl_1223 : Cond.code yX4_lots cX4_lots 10 (some .int) ∈ wt_tbl := wt_tC6 (List.mem_of_getElem? (i := 23) rfl) rfl
theorem tl_1069 : Cond.code yX4_moreHours cX4_moreHours 8 (some .int) ∈ wt_tbl := wt_tC5 (List.mem_of_getElem? (i := 109) rfl) rfl
theorem tl_1199 : Cond.code yX4_mostSeen cX4_mostSeen 4 (some .int) ∈ wt_tbl := wt_tC5 (List.mem_of_getElem? (i := 239) rfl) rfl
theorem tl_1195 : Cond.code yX4_newcomer cX4_newcomer 11 (some .int) ∈ wt_tbl := wt_tC5 (List.mem_of_getElem? (i := 235) rfl) rfl
theorem tl_1041 : Cond.code yX4_nobodys cX4_nobodys 2 (some .int) ∈ wt_tbl := wt_tC5 (List.mem_of_getElem? (i := 81) rfl) rfl
theorem tl_1025 : Cond.code yX4_owner cX4_owner 4 (some .int) ∈ wt_tbl := wt_tC5 (List.mem_of_getElem? (i := 65) rfl) rfl
theorem tl_1029 : Cond.code yX4_owns cX4_owns 5 (some .int) ∈ wt_tbl := wt_tC5 (List.mem_of_getElem? (i := 69) rfl) rfl
theorem tl_965 : Cond.code yX4_pane cX4_pane 3 (some .int) ∈ wt_tbl := wt_tC5 (List.mem_of_getElem? (i := 5) rfl) rfl
theorem tl_940 : Cond.code yX4_paneOf cX4_paneOf 5 (some .int) ∈ wt_tbl := wt_tC4 (List.mem_of_getElem? (i := 220) rfl) rfl
theorem tl_1175 : Cond.code yX4_rank cX4_rank 8 (some .int) ∈ wt_tbl := wt_tC5 (List.mem_of_getElem? (i := 215) rfl) rfl
theorem tl_932 : Cond.code yX4_restore cX4_restore 1 (some .int) ∈ wt_tbl := wt_tC4 (List.mem_of_getElem? (i := 212) rfl) rfl
theorem tl_1053 : Cond.code yX4_richest cX4_richest 5 (some .int) ∈ wt_tbl := wt_tC5 (List.mem_of_getElem? (i := 93) rfl) rfl
theorem tl_989 : Cond.code yX4_roster cX4_roster 3 (some .int) ∈ wt_tbl := wt_tC5 (List.mem_of_getElem? (i := 29) rfl) rfl
theorem tl_1211 : Cond.code yX4_row cX4_row 2 (some .int) ∈ wt_tbl := wt_tC6 (List.mem_of_getElem? (i := 11) rfl) rfl
theorem tl_1100 : Cond.code yX4_share cX4_share 8 (some .long) ∈ wt_tbl := wt_tC5 (List.mem_of_getElem? (i := 140) rfl) rfl
theorem tl_1092 : Cond.code yX4_shown cX4_shown 4 (some .int) ∈ wt_tbl := wt_tC5 (List.mem_of_getElem? (i := 132) rfl) rfl
theorem tl_977 : Cond.code yX4_stands cX4_stands 6 (some .int) ∈ wt_tbl := wt_tC5 (List.mem_of_getElem? (i := 17) rfl) rfl
theorem tl_1061 : Cond.code yX4_staredOut cX4_staredOut 5 (some .int) ∈ wt_tbl := wt_tC5 (List.mem_of_getElem? (i := 101) rfl) rfl
theorem tl_1147 : Cond.code yX4_swap cX4_swap 9 (some .int) ∈ wt_tbl := wt_tC5 (List.mem_of_getElem? (i := 187) rfl) rfl
theorem tl_830 : Cond.code yX4_terrace cX4_terrace 2 (some .int) ∈ wt_tbl := wt_tC4 (List.mem_of_getElem? (i := 110) rfl) rfl
theorem tl_1143 : Cond.code yX4_together cX4_together 6 (some .int) ∈ wt_tbl := wt_tC5 (List.mem_of_getElem? (i := 183) rfl) rfl
theorem tl_1111 : Cond.code yX4_two cX4_two 10 (some .int) ∈ wt_tbl := wt_tC5 (List.mem_of_getElem? (i := 151) rfl) rfl
theorem tl_993 : Cond.code yX4_wall cX4_wall 3 (some .int) ∈ wt_tbl := wt_tC5 (List.mem_of_getElem? (i := 33) rfl) rfl
theorem tl_1096 : Cond.code yX4_walls cX4_walls 11 (some .int) ∈ wt_tbl := wt_tC5 (List.mem_of_getElem? (i := 136) rfl) rfl
theorem tl_1183 : Cond.code yX4_wasted cX4_wasted 8 (some .int) ∈ wt_tbl := wt_tC5 (List.mem_of_getElem? (i := 223) rfl) rfl
theorem tl_1127 : Cond.code yX4_whichKind cX4_whichKind 7 (some .int) ∈ wt_tbl := wt_tC5 (List.mem_of_getElem? (i := 167) rfl) rfl
theorem tl_1119 : Cond.code yX4_whichLaw cX4_whichLaw 4 (some .int) ∈ wt_tbl := wt_tC5 (List.mem_of_getElem? (i := 159) rfl) rfl
theorem tl_1001 : Cond.code yX4_worth cX4_worth 5 (some .int) ∈ wt_tbl := wt_tC5 (List.mem_of_getElem? (i := 41) rfl) rfl
theorem tl_1 : Cond.initialized RX3 ∈ wt_tbl := wt_tC1 (List.mem_of_getElem? (i := 1) rfl) rfl
theorem tl_5 : Cond.initialized RX4 ∈ wt_tbl := wt_tC1 (List.mem_of_getElem? (i := 5) rfl) rfl
theorem tl_12 : Cond.instanceMethod yX3_init ∈ wt_tbl := wt_tC1 (List.mem_of_getElem? (i := 12) rfl) rfl
theorem tl_630 : Cond.instanceMethod yX3_ahead ∈ wt_tbl := wt_tC3 (List.mem_of_getElem? (i := 150) rfl) rfl
theorem tl_401 : Cond.instanceMethod yX3_back ∈ wt_tbl := wt_tC2 (List.mem_of_getElem? (i := 161) rfl) rfl
theorem tl_634 : Cond.instanceMethod yX3_bestLaw ∈ wt_tbl := wt_tC3 (List.mem_of_getElem? (i := 154) rfl) rfl
theorem tl_481 : Cond.instanceMethod yX3_bestPane ∈ wt_tbl := wt_tC3 (List.mem_of_getElem? (i := 1) rfl) rfl
theorem tl_566 : Cond.instanceMethod yX3_busy ∈ wt_tbl := wt_tC3 (List.mem_of_getElem? (i := 86) rfl) rfl
theorem tl_666 : Cond.instanceMethod yX3_clear ∈ wt_tbl := wt_tC3 (List.mem_of_getElem? (i := 186) rfl) rfl
theorem tl_696 : Cond.instanceMethod yX3_count ∈ wt_tbl := wt_tC3 (List.mem_of_getElem? (i := 216) rfl) rfl
theorem tl_413 : Cond.instanceMethod yX3_counts ∈ wt_tbl := wt_tC2 (List.mem_of_getElem? (i := 173) rfl) rfl
theorem tl_493 : Cond.instanceMethod yX3_cover ∈ wt_tbl := wt_tC3 (List.mem_of_getElem? (i := 13) rfl) rfl
theorem tl_385 : Cond.instanceMethod yX3_days ∈ wt_tbl := wt_tC2 (List.mem_of_getElem? (i := 145) rfl) rfl
theorem tl_654 : Cond.instanceMethod yX3_duels ∈ wt_tbl := wt_tC3 (List.mem_of_getElem? (i := 174) rfl) rfl
theorem tl_594 : Cond.instanceMethod yX3_even ∈ wt_tbl := wt_tC3 (List.mem_of_getElem? (i := 114) rfl) rfl
theorem tl_149 : Cond.instanceMethod yX3_feed ∈ wt_tbl := wt_tC1 (List.mem_of_getElem? (i := 149) rfl) rfl
theorem tl_489 : Cond.instanceMethod yX3_freeHours ∈ wt_tbl := wt_tC3 (List.mem_of_getElem? (i := 9) rfl) rfl
theorem tl_438 : Cond.instanceMethod yX3_from ∈ wt_tbl := wt_tC2 (List.mem_of_getElem? (i := 198) rfl) rfl
theorem tl_622 : Cond.instanceMethod yX3_gap ∈ wt_tbl := wt_tC3 (List.mem_of_getElem? (i := 142) rfl) rfl
theorem tl_590 : Cond.instanceMethod yX3_heir ∈ wt_tbl := wt_tC3 (List.mem_of_getElem? (i := 110) rfl) rfl
theorem tl_557 : Cond.instanceMethod yX3_ill ∈ wt_tbl := wt_tC3 (List.mem_of_getElem? (i := 77) rfl) rfl
theorem tl_688 : Cond.instanceMethod yX3_image ∈ wt_tbl := wt_tC3 (List.mem_of_getElem? (i := 208) rfl) rfl
theorem tl_606 : Cond.instanceMethod yX3_joint ∈ wt_tbl := wt_tC3 (List.mem_of_getElem? (i := 126) rfl) rfl
theorem tl_662 : Cond.instanceMethod yX3_judge ∈ wt_tbl := wt_tC3 (List.mem_of_getElem? (i := 182) rfl) rfl
theorem tl_602 : Cond.instanceMethod yX3_last ∈ wt_tbl := wt_tC3 (List.mem_of_getElem? (i := 122) rfl) rfl
theorem tl_380 : Cond.instanceMethod yX3_law ∈ wt_tbl := wt_tC2 (List.mem_of_getElem? (i := 140) rfl) rfl
theorem tl_332 : Cond.instanceMethod yX3_looker ∈ wt_tbl := wt_tC2 (List.mem_of_getElem? (i := 92) rfl) rfl
theorem tl_305 : Cond.instanceMethod yX3_lookerOf ∈ wt_tbl := wt_tC2 (List.mem_of_getElem? (i := 65) rfl) rfl
theorem tl_442 : Cond.instanceMethod yX3_lost ∈ wt_tbl := wt_tC2 (List.mem_of_getElem? (i := 202) rfl) rfl
theorem tl_670 : Cond.instanceMethod yX3_lots ∈ wt_tbl := wt_tC3 (List.mem_of_getElem? (i := 190) rfl) rfl
theorem tl_467 : Cond.instanceMethod yX3_moreHours ∈ wt_tbl := wt_tC2 (List.mem_of_getElem? (i := 227) rfl) rfl
theorem tl_646 : Cond.instanceMethod yX3_mostSeen ∈ wt_tbl := wt_tC3 (List.mem_of_getElem? (i := 166) rfl) rfl
theorem tl_638 : Cond.instanceMethod yX3_newcomer ∈ wt_tbl := wt_tC3 (List.mem_of_getElem? (i := 158) rfl) rfl
theorem tl_434 : Cond.instanceMethod yX3_nobodys ∈ wt_tbl := wt_tC2 (List.mem_of_getElem? (i := 194) rfl) rfl
theorem tl_417 : Cond.instanceMethod yX3_owner ∈ wt_tbl := wt_tC2 (List.mem_of_getElem? (i := 177) rfl) rfl
theorem tl_422 : Cond.instanceMethod yX3_owns ∈ wt_tbl := wt_tC2 (List.mem_of_getElem? (i := 182) rfl) rfl
theorem tl_327 : Cond.instanceMethod yX3_pane ∈ wt_tbl := wt_tC2 (List.mem_of_getElem? (i := 87) rfl) rfl
theorem tl_286 : Cond.instanceMethod yX3_paneOf ∈ wt_tbl := wt_tC2 (List.mem_of_getElem? (i := 46) rfl) rfl
theorem tl_614 : Cond.instanceMethod yX3_rank ∈ wt_tbl := wt_tC3 (List.mem_of_getElem? (i := 134) rfl) rfl
theorem tl_692 : Cond.instanceMethod yX3_restore ∈ wt_tbl := wt_tC3 (List.mem_of_getElem? (i := 212) rfl) rfl
theorem tl_446 : Cond.instanceMethod yX3_richest ∈ wt_tbl := wt_tC2 (List.mem_of_getElem? (i := 206) rfl) rfl
theorem tl_354 : Cond.instanceMethod yX3_roster ∈ wt_tbl := wt_tC2 (List.mem_of_getElem? (i := 114) rfl) rfl
theorem tl_658 : Cond.instanceMethod yX3_row ∈ wt_tbl := wt_tC3 (List.mem_of_getElem? (i := 178) rfl) rfl
theorem tl_511 : Cond.instanceMethod yX3_share ∈ wt_tbl := wt_tC3 (List.mem_of_getElem? (i := 31) rfl) rfl
theorem tl_499 : Cond.instanceMethod yX3_shown ∈ wt_tbl := wt_tC3 (List.mem_of_getElem? (i := 19) rfl) rfl
theorem tl_337 : Cond.instanceMethod yX3_stands ∈ wt_tbl := wt_tC2 (List.mem_of_getElem? (i := 97) rfl) rfl
theorem tl_455 : Cond.instanceMethod yX3_staredOut ∈ wt_tbl := wt_tC2 (List.mem_of_getElem? (i := 215) rfl) rfl
theorem tl_578 : Cond.instanceMethod yX3_swap ∈ wt_tbl := wt_tC3 (List.mem_of_getElem? (i := 98) rfl) rfl
theorem tl_164 : Cond.instanceMethod yX3_terrace ∈ wt_tbl := wt_tC1 (List.mem_of_getElem? (i := 164) rfl) rfl
theorem tl_574 : Cond.instanceMethod yX3_together ∈ wt_tbl := wt_tC3 (List.mem_of_getElem? (i := 94) rfl) rfl
theorem tl_526 : Cond.instanceMethod yX3_two ∈ wt_tbl := wt_tC3 (List.mem_of_getElem? (i := 46) rfl) rfl
theorem tl_358 : Cond.instanceMethod yX3_wall ∈ wt_tbl := wt_tC2 (List.mem_of_getElem? (i := 118) rfl) rfl
theorem tl_503 : Cond.instanceMethod yX3_walls ∈ wt_tbl := wt_tC3 (List.mem_of_getElem? (i := 23) rfl) rfl
theorem tl_626 : Cond.instanceMethod yX3_wasted ∈ wt_tbl := wt_tC3 (List.mem_of_getElem? (i := 146) rfl) rfl
theorem tl_553 : Cond.instanceMethod yX3_whichKind ∈ wt_tbl := wt_tC3 (List.mem_of_getElem? (i := 73) rfl) rfl
theorem tl_538 : Cond.instanceMethod yX3_whichLaw ∈ wt_tbl := wt_tC3 (List.mem_of_getElem? (i := 58) rfl) rfl
theorem tl_375 : Cond.instanceMethod yX3_worth ∈ wt_tbl := wt_tC2 (List.mem_of_getElem? (i := 135) rfl) rfl
theorem tl_707 : Cond.instanceMethod yX4_init ∈ wt_tbl := wt_tC3 (List.mem_of_getElem? (i := 227) rfl) rfl
theorem tl_1185 : Cond.instanceMethod yX4_ahead ∈ wt_tbl := wt_tC5 (List.mem_of_getElem? (i := 225) rfl) rfl
theorem tl_934 : Cond.instanceMethod yX4_back ∈ wt_tbl := wt_tC4 (List.mem_of_getElem? (i := 214) rfl) rfl
theorem tl_1189 : Cond.instanceMethod yX4_bestLaw ∈ wt_tbl := wt_tC5 (List.mem_of_getElem? (i := 229) rfl) rfl
theorem tl_1071 : Cond.instanceMethod yX4_bestPane ∈ wt_tbl := wt_tC5 (List.mem_of_getElem? (i := 111) rfl) rfl
theorem tl_1133 : Cond.instanceMethod yX4_busy ∈ wt_tbl := wt_tC5 (List.mem_of_getElem? (i := 173) rfl) rfl
theorem tl_1217 : Cond.instanceMethod yX4_clear ∈ wt_tbl := wt_tC6 (List.mem_of_getElem? (i := 17) rfl) rfl
theorem tl_1232 : Cond.instanceMethod yX4_count ∈ wt_tbl := wt_tC6 (List.mem_of_getElem? (i := 32) rfl) rfl
theorem tl_1016 : Cond.instanceMethod yX4_counts ∈ wt_tbl := wt_tC5 (List.mem_of_getElem? (i := 56) rfl) rfl
theorem tl_1083 : Cond.instanceMethod yX4_cover ∈ wt_tbl := wt_tC5 (List.mem_of_getElem? (i := 123) rfl) rfl
theorem tl_1008 : Cond.instanceMethod yX4_days ∈ wt_tbl := wt_tC5 (List.mem_of_getElem? (i := 48) rfl) rfl
theorem tl_1205 : Cond.instanceMethod yX4_duels ∈ wt_tbl := wt_tC6 (List.mem_of_getElem? (i := 5) rfl) rfl
theorem tl_1157 : Cond.instanceMethod yX4_even ∈ wt_tbl := wt_tC5 (List.mem_of_getElem? (i := 197) rfl) rfl
theorem tl_820 : Cond.instanceMethod yX4_feed ∈ wt_tbl := wt_tC4 (List.mem_of_getElem? (i := 100) rfl) rfl
theorem tl_1079 : Cond.instanceMethod yX4_freeHours ∈ wt_tbl := wt_tC5 (List.mem_of_getElem? (i := 119) rfl) rfl
theorem tl_1043 : Cond.instanceMethod yX4_from ∈ wt_tbl := wt_tC5 (List.mem_of_getElem? (i := 83) rfl) rfl
theorem tl_1177 : Cond.instanceMethod yX4_gap ∈ wt_tbl := wt_tC5 (List.mem_of_getElem? (i := 217) rfl) rfl
theorem tl_1153 : Cond.instanceMethod yX4_heir ∈ wt_tbl := wt_tC5 (List.mem_of_getElem? (i := 193) rfl) rfl
theorem tl_1129 : Cond.instanceMethod yX4_ill ∈ wt_tbl := wt_tC5 (List.mem_of_getElem? (i := 169) rfl) rfl
theorem tl_926 : Cond.instanceMethod yX4_image ∈ wt_tbl := wt_tC4 (List.mem_of_getElem? (i := 206) rfl) rfl
theorem tl_1165 : Cond.instanceMethod yX4_joint ∈ wt_tbl := wt_tC5 (List.mem_of_getElem? (i := 205) rfl) rfl
theorem tl_1213 : Cond.instanceMethod yX4_judge ∈ wt_tbl := wt_tC6 (List.mem_of_getElem? (i := 13) rfl) rfl
theorem tl_1161 : Cond.instanceMethod yX4_last ∈ wt_tbl := wt_tC5 (List.mem_of_getElem? (i := 201) rfl) rfl
theorem tl_1003 : Cond.instanceMethod yX4_law ∈ wt_tbl := wt_tC5 (List.mem_of_getElem? (i := 43) rfl) rfl
theorem tl_970 : Cond.instanceMethod yX4_looker ∈ wt_tbl := wt_tC5 (List.mem_of_getElem? (i := 10) rfl) rfl
theorem tl_942 : Cond.instanceMethod yX4_lookerOf ∈ wt_tbl := wt_tC4 (List.mem_of_getElem? (i := 222) rfl) rfl
theorem tl_1047 : Cond.instanceMethod yX4_lost ∈ wt_tbl := wt_tC5 (List.mem_of_getElem? (i := 87) rfl) rfl
theorem tl_1221 : Cond.instanceMethod yX4_lots ∈ wt_tbl := wt_tC6 (List.mem_of_getElem? (i := 21) rfl) rfl
theorem tl_1067 : Cond.instanceMethod yX4_moreHours ∈ wt_tbl := wt_tC5 (List.mem_of_getElem? (i := 107) rfl) rfl
theorem tl_1197 : Cond.instanceMethod yX4_mostSeen ∈ wt_tbl := wt_tC5 (List.mem_of_getElem? (i := 237) rfl) rfl
theorem tl_1193 : Cond.instanceMethod yX4_newcomer ∈ wt_tbl := wt_tC5 (List.mem_of_getElem? (i := 233) rfl) rfl
theorem tl_1039 : Cond.instanceMethod yX4_nobodys ∈ wt_tbl := wt_tC5 (List.mem_of_getElem? (i := 79) rfl) rfl
theorem tl_1023 : Cond.instanceMethod yX4_owner ∈ wt_tbl := wt_tC5 (List.mem_of_getElem? (i := 63) rfl) rfl
theorem tl_1027 : Cond.instanceMethod yX4_owns ∈ wt_tbl := wt_tC5 (List.mem_of_getElem? (i := 67) rfl) rfl
theorem tl_963 : Cond.instanceMethod yX4_pane ∈ wt_tbl := wt_tC5 (List.mem_of_getElem? (i := 3) rfl) rfl
theorem tl_938 : Cond.instanceMethod yX4_paneOf ∈ wt_tbl := wt_tC4 (List.mem_of_getElem? (i := 218) rfl) rfl
theorem tl_1173 : Cond.instanceMethod yX4_rank ∈ wt_tbl := wt_tC5 (List.mem_of_getElem? (i := 213) rfl) rfl
theorem tl_930 : Cond.instanceMethod yX4_restore ∈ wt_tbl := wt_tC4 (List.mem_of_getElem? (i := 210) rfl) rfl
theorem tl_1051 : Cond.instanceMethod yX4_richest ∈ wt_tbl := wt_tC5 (List.mem_of_getElem? (i := 91) rfl) rfl
theorem tl_987 : Cond.instanceMethod yX4_roster ∈ wt_tbl := wt_tC5 (List.mem_of_getElem? (i := 27) rfl) rfl
theorem tl_1209 : Cond.instanceMethod yX4_row ∈ wt_tbl := wt_tC6 (List.mem_of_getElem? (i := 9) rfl) rfl
theorem tl_1098 : Cond.instanceMethod yX4_share ∈ wt_tbl := wt_tC5 (List.mem_of_getElem? (i := 138) rfl) rfl
theorem tl_1090 : Cond.instanceMethod yX4_shown ∈ wt_tbl := wt_tC5 (List.mem_of_getElem? (i := 130) rfl) rfl
theorem tl_975 : Cond.instanceMethod yX4_stands ∈ wt_tbl := wt_tC5 (List.mem_of_getElem? (i := 15) rfl) rfl
theorem tl_1059 : Cond.instanceMethod yX4_staredOut ∈ wt_tbl := wt_tC5 (List.mem_of_getElem? (i := 99) rfl) rfl
theorem tl_1145 : Cond.instanceMethod yX4_swap ∈ wt_tbl := wt_tC5 (List.mem_of_getElem? (i := 185) rfl) rfl
theorem tl_828 : Cond.instanceMethod yX4_terrace ∈ wt_tbl := wt_tC4 (List.mem_of_getElem? (i := 108) rfl) rfl
theorem tl_1141 : Cond.instanceMethod yX4_together ∈ wt_tbl := wt_tC5 (List.mem_of_getElem? (i := 181) rfl) rfl
theorem tl_1109 : Cond.instanceMethod yX4_two ∈ wt_tbl := wt_tC5 (List.mem_of_getElem? (i := 149) rfl) rfl
theorem tl_991 : Cond.instanceMethod yX4_wall ∈ wt_tbl := wt_tC5 (List.mem_of_getElem? (i := 31) rfl) rfl
theorem tl_1094 : Cond.instanceMethod yX4_walls ∈ wt_tbl := wt_tC5 (List.mem_of_getElem? (i := 134) rfl) rfl
theorem tl_1181 : Cond.instanceMethod yX4_wasted ∈ wt_tbl := wt_tC5 (List.mem_of_getElem? (i := 221) rfl) rfl
theorem tl_1125 : Cond.instanceMethod yX4_whichKind ∈ wt_tbl := wt_tC5 (List.mem_of_getElem? (i := 165) rfl) rfl
theorem tl_1117 : Cond.instanceMethod yX4_whichLaw ∈ wt_tbl := wt_tC5 (List.mem_of_getElem? (i := 157) rfl) rfl
theorem tl_999 : Cond.instanceMethod yX4_worth ∈ wt_tbl := wt_tC5 (List.mem_of_getElem? (i := 39) rfl) rfl
theorem tl_10 : Cond.instantiable RX3 11 ∈ wt_tbl := wt_tC1 (List.mem_of_getElem? (i := 10) rfl) rfl
theorem tl_705 : Cond.instantiable RX4 36 ∈ wt_tbl := wt_tC3 (List.mem_of_getElem? (i := 225) rfl) rfl
theorem tl_1058 : Cond.methodLink RL 101 yX4_staredOut ∈ wt_tbl := wt_tC5 (List.mem_of_getElem? (i := 98) rfl) rfl
theorem tl_466 : Cond.methodLink RL 102 yX3_moreHours ∈ wt_tbl := wt_tC2 (List.mem_of_getElem? (i := 226) rfl) rfl
theorem tl_1066 : Cond.methodLink RL 105 yX4_moreHours ∈ wt_tbl := wt_tC5 (List.mem_of_getElem? (i := 106) rfl) rfl
theorem tl_480 : Cond.methodLink RL 106 yX3_bestPane ∈ wt_tbl := wt_tC3 (List.mem_of_getElem? (i := 0) rfl) rfl
theorem tl_1070 : Cond.methodLink RL 109 yX4_bestPane ∈ wt_tbl := wt_tC5 (List.mem_of_getElem? (i := 110) rfl) rfl
theorem tl_488 : Cond.methodLink RL 110 yX3_freeHours ∈ wt_tbl := wt_tC3 (List.mem_of_getElem? (i := 8) rfl) rfl
theorem tl_1078 : Cond.methodLink RL 113 yX4_freeHours ∈ wt_tbl := wt_tC5 (List.mem_of_getElem? (i := 118) rfl) rfl
theorem tl_492 : Cond.methodLink RL 114 yX3_cover ∈ wt_tbl := wt_tC3 (List.mem_of_getElem? (i := 12) rfl) rfl
theorem tl_1082 : Cond.methodLink RL 117 yX4_cover ∈ wt_tbl := wt_tC5 (List.mem_of_getElem? (i := 122) rfl) rfl
theorem tl_498 : Cond.methodLink RL 118 yX3_shown ∈ wt_tbl := wt_tC3 (List.mem_of_getElem? (i := 18) rfl) rfl
theorem tl_706 : Cond.methodLink RL 12 yX4_init ∈ wt_tbl := wt_tC3 (List.mem_of_getElem? (i := 226) rfl) rfl
theorem tl_1089 : Cond.methodLink RL 121 yX4_shown ∈ wt_tbl := wt_tC5 (List.mem_of_getElem? (i := 129) rfl) rfl
theorem tl_502 : Cond.methodLink RL 122 yX3_walls ∈ wt_tbl := wt_tC3 (List.mem_of_getElem? (i := 22) rfl) rfl
theorem tl_1093 : Cond.methodLink RL 125 yX4_walls ∈ wt_tbl := wt_tC5 (List.mem_of_getElem? (i := 133) rfl) rfl
theorem tl_510 : Cond.methodLink RL 126 yX3_share ∈ wt_tbl := wt_tC3 (List.mem_of_getElem? (i := 30) rfl) rfl
theorem tl_148 : Cond.methodLink RL 13 yX3_feed ∈ wt_tbl := wt_tC1 (List.mem_of_getElem? (i := 148) rfl) rfl
theorem tl_1097 : Cond.methodLink RL 130 yX4_share ∈ wt_tbl := wt_tC5 (List.mem_of_getElem? (i := 137) rfl) rfl
theorem tl_525 : Cond.methodLink RL 131 yX3_two ∈ wt_tbl := wt_tC3 (List.mem_of_getElem? (i := 45) rfl) rfl
theorem tl_1108 : Cond.methodLink RL 134 yX4_two ∈ wt_tbl := wt_tC5 (List.mem_of_getElem? (i := 148) rfl) rfl
theorem tl_537 : Cond.methodLink RL 135 yX3_whichLaw ∈ wt_tbl := wt_tC3 (List.mem_of_getElem? (i := 57) rfl) rfl
theorem tl_1116 : Cond.methodLink RL 138 yX4_whichLaw ∈ wt_tbl := wt_tC5 (List.mem_of_getElem? (i := 156) rfl) rfl
theorem tl_552 : Cond.methodLink RL 139 yX3_whichKind ∈ wt_tbl := wt_tC3 (List.mem_of_getElem? (i := 72) rfl) rfl
theorem tl_1124 : Cond.methodLink RL 142 yX4_whichKind ∈ wt_tbl := wt_tC5 (List.mem_of_getElem? (i := 164) rfl) rfl
theorem tl_556 : Cond.methodLink RL 143 yX3_ill ∈ wt_tbl := wt_tC3 (List.mem_of_getElem? (i := 76) rfl) rfl
theorem tl_1128 : Cond.methodLink RL 147 yX4_ill ∈ wt_tbl := wt_tC5 (List.mem_of_getElem? (i := 168) rfl) rfl
theorem tl_565 : Cond.methodLink RL 148 yX3_busy ∈ wt_tbl := wt_tC3 (List.mem_of_getElem? (i := 85) rfl) rfl
theorem tl_1132 : Cond.methodLink RL 151 yX4_busy ∈ wt_tbl := wt_tC5 (List.mem_of_getElem? (i := 172) rfl) rfl
theorem tl_573 : Cond.methodLink RL 152 yX3_together ∈ wt_tbl := wt_tC3 (List.mem_of_getElem? (i := 93) rfl) rfl
theorem tl_1140 : Cond.methodLink RL 155 yX4_together ∈ wt_tbl := wt_tC5 (List.mem_of_getElem? (i := 180) rfl) rfl
theorem tl_577 : Cond.methodLink RL 156 yX3_swap ∈ wt_tbl := wt_tC3 (List.mem_of_getElem? (i := 97) rfl) rfl
theorem tl_1144 : Cond.methodLink RL 159 yX4_swap ∈ wt_tbl := wt_tC5 (List.mem_of_getElem? (i := 184) rfl) rfl
theorem tl_589 : Cond.methodLink RL 160 yX3_heir ∈ wt_tbl := wt_tC3 (List.mem_of_getElem? (i := 109) rfl) rfl
theorem tl_1152 : Cond.methodLink RL 163 yX4_heir ∈ wt_tbl := wt_tC5 (List.mem_of_getElem? (i := 192) rfl) rfl
theorem tl_593 : Cond.methodLink RL 164 yX3_even ∈ wt_tbl := wt_tC3 (List.mem_of_getElem? (i := 113) rfl) rfl
theorem tl_1156 : Cond.methodLink RL 167 yX4_even ∈ wt_tbl := wt_tC5 (List.mem_of_getElem? (i := 196) rfl) rfl
theorem tl_601 : Cond.methodLink RL 168 yX3_last ∈ wt_tbl := wt_tC3 (List.mem_of_getElem? (i := 121) rfl) rfl
theorem tl_819 : Cond.methodLink RL 17 yX4_feed ∈ wt_tbl := wt_tC4 (List.mem_of_getElem? (i := 99) rfl) rfl
theorem tl_1160 : Cond.methodLink RL 171 yX4_last ∈ wt_tbl := wt_tC5 (List.mem_of_getElem? (i := 200) rfl) rfl
theorem tl_605 : Cond.methodLink RL 172 yX3_joint ∈ wt_tbl := wt_tC3 (List.mem_of_getElem? (i := 125) rfl) rfl
theorem tl_1164 : Cond.methodLink RL 175 yX4_joint ∈ wt_tbl := wt_tC5 (List.mem_of_getElem? (i := 204) rfl) rfl
theorem tl_613 : Cond.methodLink RL 176 yX3_rank ∈ wt_tbl := wt_tC3 (List.mem_of_getElem? (i := 133) rfl) rfl
theorem tl_1172 : Cond.methodLink RL 179 yX4_rank ∈ wt_tbl := wt_tC5 (List.mem_of_getElem? (i := 212) rfl) rfl
theorem tl_163 : Cond.methodLink RL 18 yX3_terrace ∈ wt_tbl := wt_tC1 (List.mem_of_getElem? (i := 163) rfl) rfl
theorem tl_621 : Cond.methodLink RL 180 yX3_gap ∈ wt_tbl := wt_tC3 (List.mem_of_getElem? (i := 141) rfl) rfl
theorem tl_1176 : Cond.methodLink RL 183 yX4_gap ∈ wt_tbl := wt_tC5 (List.mem_of_getElem? (i := 216) rfl) rfl
theorem tl_625 : Cond.methodLink RL 184 yX3_wasted ∈ wt_tbl := wt_tC3 (List.mem_of_getElem? (i := 145) rfl) rfl
theorem tl_1180 : Cond.methodLink RL 187 yX4_wasted ∈ wt_tbl := wt_tC5 (List.mem_of_getElem? (i := 220) rfl) rfl
theorem tl_629 : Cond.methodLink RL 188 yX3_ahead ∈ wt_tbl := wt_tC3 (List.mem_of_getElem? (i := 149) rfl) rfl
theorem tl_1184 : Cond.methodLink RL 191 yX4_ahead ∈ wt_tbl := wt_tC5 (List.mem_of_getElem? (i := 224) rfl) rfl
theorem tl_633 : Cond.methodLink RL 192 yX3_bestLaw ∈ wt_tbl := wt_tC3 (List.mem_of_getElem? (i := 153) rfl) rfl
theorem tl_1188 : Cond.methodLink RL 195 yX4_bestLaw ∈ wt_tbl := wt_tC5 (List.mem_of_getElem? (i := 228) rfl) rfl
theorem tl_637 : Cond.methodLink RL 196 yX3_newcomer ∈ wt_tbl := wt_tC3 (List.mem_of_getElem? (i := 157) rfl) rfl
theorem tl_1192 : Cond.methodLink RL 199 yX4_newcomer ∈ wt_tbl := wt_tC5 (List.mem_of_getElem? (i := 232) rfl) rfl
theorem tl_645 : Cond.methodLink RL 200 yX3_mostSeen ∈ wt_tbl := wt_tC3 (List.mem_of_getElem? (i := 165) rfl) rfl
theorem tl_1196 : Cond.methodLink RL 203 yX4_mostSeen ∈ wt_tbl := wt_tC5 (List.mem_of_getElem? (i := 236) rfl) rfl
theorem tl_653 : Cond.methodLink RL 204 yX3_duels ∈ wt_tbl := wt_tC3 (List.mem_of_getElem? (i := 173) rfl) rfl
theorem tl_1204 : Cond.methodLink RL 207 yX4_duels ∈ wt_tbl := wt_tC6 (List.mem_of_getElem? (i := 4) rfl) rfl
theorem tl_657 : Cond.methodLink RL 208 yX3_row ∈ wt_tbl := wt_tC3 (List.mem_of_getElem? (i := 177) rfl) rfl
theorem tl_1208 : Cond.methodLink RL 211 yX4_row ∈ wt_tbl := wt_tC6 (List.mem_of_getElem? (i := 8) rfl) rfl
theorem tl_661 : Cond.methodLink RL 212 yX3_judge ∈ wt_tbl := wt_tC3 (List.mem_of_getElem? (i := 181) rfl) rfl
theorem tl_1212 : Cond.methodLink RL 215 yX4_judge ∈ wt_tbl := wt_tC6 (List.mem_of_getElem? (i := 12) rfl) rfl
theorem tl_665 : Cond.methodLink RL 216 yX3_clear ∈ wt_tbl := wt_tC3 (List.mem_of_getElem? (i := 185) rfl) rfl
theorem tl_1216 : Cond.methodLink RL 219 yX4_clear ∈ wt_tbl := wt_tC6 (List.mem_of_getElem? (i := 16) rfl) rfl
theorem tl_827 : Cond.methodLink RL 22 yX4_terrace ∈ wt_tbl := wt_tC4 (List.mem_of_getElem? (i := 107) rfl) rfl
theorem tl_669 : Cond.methodLink RL 220 yX3_lots ∈ wt_tbl := wt_tC3 (List.mem_of_getElem? (i := 189) rfl) rfl
theorem tl_1220 : Cond.methodLink RL 223 yX4_lots ∈ wt_tbl := wt_tC6 (List.mem_of_getElem? (i := 20) rfl) rfl
theorem tl_687 : Cond.methodLink RL 224 yX3_image ∈ wt_tbl := wt_tC3 (List.mem_of_getElem? (i := 207) rfl) rfl
theorem tl_925 : Cond.methodLink RL 227 yX4_image ∈ wt_tbl := wt_tC4 (List.mem_of_getElem? (i := 205) rfl) rfl
theorem tl_691 : Cond.methodLink RL 228 yX3_restore ∈ wt_tbl := wt_tC3 (List.mem_of_getElem? (i := 211) rfl) rfl
theorem tl_285 : Cond.methodLink RL 23 yX3_paneOf ∈ wt_tbl := wt_tC2 (List.mem_of_getElem? (i := 45) rfl) rfl
theorem tl_929 : Cond.methodLink RL 231 yX4_restore ∈ wt_tbl := wt_tC4 (List.mem_of_getElem? (i := 209) rfl) rfl
theorem tl_695 : Cond.methodLink RL 232 yX3_count ∈ wt_tbl := wt_tC3 (List.mem_of_getElem? (i := 215) rfl) rfl
theorem tl_1231 : Cond.methodLink RL 235 yX4_count ∈ wt_tbl := wt_tC6 (List.mem_of_getElem? (i := 31) rfl) rfl
theorem tl_937 : Cond.methodLink RL 27 yX4_paneOf ∈ wt_tbl := wt_tC4 (List.mem_of_getElem? (i := 217) rfl) rfl
theorem tl_304 : Cond.methodLink RL 28 yX3_lookerOf ∈ wt_tbl := wt_tC2 (List.mem_of_getElem? (i := 64) rfl) rfl
theorem tl_941 : Cond.methodLink RL 31 yX4_lookerOf ∈ wt_tbl := wt_tC4 (List.mem_of_getElem? (i := 221) rfl) rfl
theorem tl_326 : Cond.methodLink RL 32 yX3_pane ∈ wt_tbl := wt_tC2 (List.mem_of_getElem? (i := 86) rfl) rfl
theorem tl_962 : Cond.methodLink RL 35 yX4_pane ∈ wt_tbl := wt_tC5 (List.mem_of_getElem? (i := 2) rfl) rfl
theorem tl_331 : Cond.methodLink RL 36 yX3_looker ∈ wt_tbl := wt_tC2 (List.mem_of_getElem? (i := 91) rfl) rfl
theorem tl_969 : Cond.methodLink RL 39 yX4_looker ∈ wt_tbl := wt_tC5 (List.mem_of_getElem? (i := 9) rfl) rfl
theorem tl_336 : Cond.methodLink RL 40 yX3_stands ∈ wt_tbl := wt_tC2 (List.mem_of_getElem? (i := 96) rfl) rfl
theorem tl_974 : Cond.methodLink RL 44 yX4_stands ∈ wt_tbl := wt_tC5 (List.mem_of_getElem? (i := 14) rfl) rfl
theorem tl_353 : Cond.methodLink RL 45 yX3_roster ∈ wt_tbl := wt_tC2 (List.mem_of_getElem? (i := 113) rfl) rfl
theorem tl_986 : Cond.methodLink RL 48 yX4_roster ∈ wt_tbl := wt_tC5 (List.mem_of_getElem? (i := 26) rfl) rfl
theorem tl_357 : Cond.methodLink RL 49 yX3_wall ∈ wt_tbl := wt_tC2 (List.mem_of_getElem? (i := 117) rfl) rfl
theorem tl_990 : Cond.methodLink RL 52 yX4_wall ∈ wt_tbl := wt_tC5 (List.mem_of_getElem? (i := 30) rfl) rfl
theorem tl_374 : Cond.methodLink RL 53 yX3_worth ∈ wt_tbl := wt_tC2 (List.mem_of_getElem? (i := 134) rfl) rfl
theorem tl_998 : Cond.methodLink RL 56 yX4_worth ∈ wt_tbl := wt_tC5 (List.mem_of_getElem? (i := 38) rfl) rfl
theorem tl_379 : Cond.methodLink RL 57 yX3_law ∈ wt_tbl := wt_tC2 (List.mem_of_getElem? (i := 139) rfl) rfl
theorem tl_1002 : Cond.methodLink RL 60 yX4_law ∈ wt_tbl := wt_tC5 (List.mem_of_getElem? (i := 42) rfl) rfl
theorem tl_384 : Cond.methodLink RL 61 yX3_days ∈ wt_tbl := wt_tC2 (List.mem_of_getElem? (i := 144) rfl) rfl
theorem tl_1007 : Cond.methodLink RL 64 yX4_days ∈ wt_tbl := wt_tC5 (List.mem_of_getElem? (i := 47) rfl) rfl
theorem tl_400 : Cond.methodLink RL 65 yX3_back ∈ wt_tbl := wt_tC2 (List.mem_of_getElem? (i := 160) rfl) rfl
theorem tl_933 : Cond.methodLink RL 68 yX4_back ∈ wt_tbl := wt_tC4 (List.mem_of_getElem? (i := 213) rfl) rfl
theorem tl_412 : Cond.methodLink RL 69 yX3_counts ∈ wt_tbl := wt_tC2 (List.mem_of_getElem? (i := 172) rfl) rfl
theorem tl_1015 : Cond.methodLink RL 73 yX4_counts ∈ wt_tbl := wt_tC5 (List.mem_of_getElem? (i := 55) rfl) rfl
theorem tl_416 : Cond.methodLink RL 74 yX3_owner ∈ wt_tbl := wt_tC2 (List.mem_of_getElem? (i := 176) rfl) rfl
theorem tl_1022 : Cond.methodLink RL 77 yX4_owner ∈ wt_tbl := wt_tC5 (List.mem_of_getElem? (i := 62) rfl) rfl
theorem tl_421 : Cond.methodLink RL 78 yX3_owns ∈ wt_tbl := wt_tC2 (List.mem_of_getElem? (i := 181) rfl) rfl
theorem tl_1026 : Cond.methodLink RL 81 yX4_owns ∈ wt_tbl := wt_tC5 (List.mem_of_getElem? (i := 66) rfl) rfl
theorem tl_433 : Cond.methodLink RL 82 yX3_nobodys ∈ wt_tbl := wt_tC2 (List.mem_of_getElem? (i := 193) rfl) rfl
theorem tl_1038 : Cond.methodLink RL 85 yX4_nobodys ∈ wt_tbl := wt_tC5 (List.mem_of_getElem? (i := 78) rfl) rfl
theorem tl_437 : Cond.methodLink RL 86 yX3_from ∈ wt_tbl := wt_tC2 (List.mem_of_getElem? (i := 197) rfl) rfl
theorem tl_1042 : Cond.methodLink RL 89 yX4_from ∈ wt_tbl := wt_tC5 (List.mem_of_getElem? (i := 82) rfl) rfl
theorem tl_11 : Cond.methodLink RL 9 yX3_init ∈ wt_tbl := wt_tC1 (List.mem_of_getElem? (i := 11) rfl) rfl
theorem tl_441 : Cond.methodLink RL 90 yX3_lost ∈ wt_tbl := wt_tC2 (List.mem_of_getElem? (i := 201) rfl) rfl
theorem tl_1046 : Cond.methodLink RL 93 yX4_lost ∈ wt_tbl := wt_tC5 (List.mem_of_getElem? (i := 86) rfl) rfl
theorem tl_445 : Cond.methodLink RL 94 yX3_richest ∈ wt_tbl := wt_tC2 (List.mem_of_getElem? (i := 205) rfl) rfl
theorem tl_1050 : Cond.methodLink RL 97 yX4_richest ∈ wt_tbl := wt_tC5 (List.mem_of_getElem? (i := 90) rfl) rfl
theorem tl_454 : Cond.methodLink RL 98 yX3_staredOut ∈ wt_tbl := wt_tC2 (List.mem_of_getElem? (i := 214) rfl) rfl
theorem tl_631 : Cond.selects RX3 yX3_ahead yX3_ahead ∈ wt_tbl := wt_tC3 (List.mem_of_getElem? (i := 151) rfl) rfl
theorem tl_402 : Cond.selects RX3 yX3_back yX3_back ∈ wt_tbl := wt_tC2 (List.mem_of_getElem? (i := 162) rfl) rfl
theorem tl_635 : Cond.selects RX3 yX3_bestLaw yX3_bestLaw ∈ wt_tbl := wt_tC3 (List.mem_of_getElem? (i := 155) rfl) rfl
theorem tl_482 : Cond.selects RX3 yX3_bestPane yX3_bestPane ∈ wt_tbl := wt_tC3 (List.mem_of_getElem? (i := 2) rfl) rfl
theorem tl_567 : Cond.selects RX3 yX3_busy yX3_busy ∈ wt_tbl := wt_tC3 (List.mem_of_getElem? (i := 87) rfl) rfl
theorem tl_667 : Cond.selects RX3 yX3_clear yX3_clear ∈ wt_tbl := wt_tC3 (List.mem_of_getElem? (i := 187) rfl) rfl
theorem tl_697 : Cond.selects RX3 yX3_count yX3_count ∈ wt_tbl := wt_tC3 (List.mem_of_getElem? (i := 217) rfl) rfl
theorem tl_414 : Cond.selects RX3 yX3_counts yX3_counts ∈ wt_tbl := wt_tC2 (List.mem_of_getElem? (i := 174) rfl) rfl
theorem tl_494 : Cond.selects RX3 yX3_cover yX3_cover ∈ wt_tbl := wt_tC3 (List.mem_of_getElem? (i := 14) rfl) rfl
theorem tl_386 : Cond.selects RX3 yX3_days yX3_days ∈ wt_tbl := wt_tC2 (List.mem_of_getElem? (i := 146) rfl) rfl
theorem tl_655 : Cond.selects RX3 yX3_duels yX3_duels ∈ wt_tbl := wt_tC3 (List.mem_of_getElem? (i := 175) rfl) rfl
theorem tl_595 : Cond.selects RX3 yX3_even yX3_even ∈ wt_tbl := wt_tC3 (List.mem_of_getElem? (i := 115) rfl) rfl
theorem tl_150 : Cond.selects RX3 yX3_feed yX3_feed ∈ wt_tbl := wt_tC1 (List.mem_of_getElem? (i := 150) rfl) rfl
theorem tl_490 : Cond.selects RX3 yX3_freeHours yX3_freeHours ∈ wt_tbl := wt_tC3 (List.mem_of_getElem? (i := 10) rfl) rfl
theorem tl_439 : Cond.selects RX3 yX3_from yX3_from ∈ wt_tbl := wt_tC2 (List.mem_of_getElem? (i := 199) rfl) rfl
theorem tl_623 : Cond.selects RX3 yX3_gap yX3_gap ∈ wt_tbl := wt_tC3 (List.mem_of_getElem? (i := 143) rfl) rfl
theorem tl_591 : Cond.selects RX3 yX3_heir yX3_heir ∈ wt_tbl := wt_tC3 (List.mem_of_getElem? (i := 111) rfl) rfl
theorem tl_558 : Cond.selects RX3 yX3_ill yX3_ill ∈ wt_tbl := wt_tC3 (List.mem_of_getElem? (i := 78) rfl) rfl
theorem tl_689 : Cond.selects RX3 yX3_image yX3_image ∈ wt_tbl := wt_tC3 (List.mem_of_getElem? (i := 209) rfl) rfl
theorem tl_607 : Cond.selects RX3 yX3_joint yX3_joint ∈ wt_tbl := wt_tC3 (List.mem_of_getElem? (i := 127) rfl) rfl
theorem tl_663 : Cond.selects RX3 yX3_judge yX3_judge ∈ wt_tbl := wt_tC3 (List.mem_of_getElem? (i := 183) rfl) rfl
theorem tl_603 : Cond.selects RX3 yX3_last yX3_last ∈ wt_tbl := wt_tC3 (List.mem_of_getElem? (i := 123) rfl) rfl
theorem tl_381 : Cond.selects RX3 yX3_law yX3_law ∈ wt_tbl := wt_tC2 (List.mem_of_getElem? (i := 141) rfl) rfl
theorem tl_333 : Cond.selects RX3 yX3_looker yX3_looker ∈ wt_tbl := wt_tC2 (List.mem_of_getElem? (i := 93) rfl) rfl
theorem tl_306 : Cond.selects RX3 yX3_lookerOf yX3_lookerOf ∈ wt_tbl := wt_tC2 (List.mem_of_getElem? (i := 66) rfl) rfl
theorem tl_443 : Cond.selects RX3 yX3_lost yX3_lost ∈ wt_tbl := wt_tC2 (List.mem_of_getElem? (i := 203) rfl) rfl
theorem tl_671 : Cond.selects RX3 yX3_lots yX3_lots ∈ wt_tbl := wt_tC3 (List.mem_of_getElem? (i := 191) rfl) rfl
theorem tl_468 : Cond.selects RX3 yX3_moreHours yX3_moreHours ∈ wt_tbl := wt_tC2 (List.mem_of_getElem? (i := 228) rfl) rfl
theorem tl_647 : Cond.selects RX3 yX3_mostSeen yX3_mostSeen ∈ wt_tbl := wt_tC3 (List.mem_of_getElem? (i := 167) rfl) rfl
theorem tl_639 : Cond.selects RX3 yX3_newcomer yX3_newcomer ∈ wt_tbl := wt_tC3 (List.mem_of_getElem? (i := 159) rfl) rfl
theorem tl_435 : Cond.selects RX3 yX3_nobodys yX3_nobodys ∈ wt_tbl := wt_tC2 (List.mem_of_getElem? (i := 195) rfl) rfl
theorem tl_418 : Cond.selects RX3 yX3_owner yX3_owner ∈ wt_tbl := wt_tC2 (List.mem_of_getElem? (i := 178) rfl) rfl
theorem tl_423 : Cond.selects RX3 yX3_owns yX3_owns ∈ wt_tbl := wt_tC2 (List.mem_of_getElem? (i := 183) rfl) rfl
theorem tl_328 : Cond.selects RX3 yX3_pane yX3_pane ∈ wt_tbl := wt_tC2 (List.mem_of_getElem? (i := 88) rfl) rfl
theorem tl_287 : Cond.selects RX3 yX3_paneOf yX3_paneOf ∈ wt_tbl := wt_tC2 (List.mem_of_getElem? (i := 47) rfl) rfl
theorem tl_615 : Cond.selects RX3 yX3_rank yX3_rank ∈ wt_tbl := wt_tC3 (List.mem_of_getElem? (i := 135) rfl) rfl
theorem tl_693 : Cond.selects RX3 yX3_restore yX3_restore ∈ wt_tbl := wt_tC3 (List.mem_of_getElem? (i := 213) rfl) rfl
theorem tl_447 : Cond.selects RX3 yX3_richest yX3_richest ∈ wt_tbl := wt_tC2 (List.mem_of_getElem? (i := 207) rfl) rfl
theorem tl_355 : Cond.selects RX3 yX3_roster yX3_roster ∈ wt_tbl := wt_tC2 (List.mem_of_getElem? (i := 115) rfl) rfl
theorem tl_659 : Cond.selects RX3 yX3_row yX3_row ∈ wt_tbl := wt_tC3 (List.mem_of_getElem? (i := 179) rfl) rfl
theorem tl_512 : Cond.selects RX3 yX3_share yX3_share ∈ wt_tbl := wt_tC3 (List.mem_of_getElem? (i := 32) rfl) rfl
theorem tl_500 : Cond.selects RX3 yX3_shown yX3_shown ∈ wt_tbl := wt_tC3 (List.mem_of_getElem? (i := 20) rfl) rfl
theorem tl_338 : Cond.selects RX3 yX3_stands yX3_stands ∈ wt_tbl := wt_tC2 (List.mem_of_getElem? (i := 98) rfl) rfl
theorem tl_456 : Cond.selects RX3 yX3_staredOut yX3_staredOut ∈ wt_tbl := wt_tC2 (List.mem_of_getElem? (i := 216) rfl) rfl
theorem tl_579 : Cond.selects RX3 yX3_swap yX3_swap ∈ wt_tbl := wt_tC3 (List.mem_of_getElem? (i := 99) rfl) rfl
theorem tl_165 : Cond.selects RX3 yX3_terrace yX3_terrace ∈ wt_tbl := wt_tC1 (List.mem_of_getElem? (i := 165) rfl) rfl
theorem tl_575 : Cond.selects RX3 yX3_together yX3_together ∈ wt_tbl := wt_tC3 (List.mem_of_getElem? (i := 95) rfl) rfl
theorem tl_527 : Cond.selects RX3 yX3_two yX3_two ∈ wt_tbl := wt_tC3 (List.mem_of_getElem? (i := 47) rfl) rfl
theorem tl_359 : Cond.selects RX3 yX3_wall yX3_wall ∈ wt_tbl := wt_tC2 (List.mem_of_getElem? (i := 119) rfl) rfl
theorem tl_504 : Cond.selects RX3 yX3_walls yX3_walls ∈ wt_tbl := wt_tC3 (List.mem_of_getElem? (i := 24) rfl) rfl
theorem tl_627 : Cond.selects RX3 yX3_wasted yX3_wasted ∈ wt_tbl := wt_tC3 (List.mem_of_getElem? (i := 147) rfl) rfl
theorem tl_554 : Cond.selects RX3 yX3_whichKind yX3_whichKind ∈ wt_tbl := wt_tC3 (List.mem_of_getElem? (i := 74) rfl) rfl
theorem tl_539 : Cond.selects RX3 yX3_whichLaw yX3_whichLaw ∈ wt_tbl := wt_tC3 (List.mem_of_getElem? (i := 59) rfl) rfl
theorem tl_376 : Cond.selects RX3 yX3_worth yX3_worth ∈ wt_tbl := wt_tC2 (List.mem_of_getElem? (i := 136) rfl) rfl
theorem tl_1186 : Cond.selects RX4 yX4_ahead yX4_ahead ∈ wt_tbl := wt_tC5 (List.mem_of_getElem? (i := 226) rfl) rfl
theorem tl_935 : Cond.selects RX4 yX4_back yX4_back ∈ wt_tbl := wt_tC4 (List.mem_of_getElem? (i := 215) rfl) rfl
theorem tl_1190 : Cond.selects RX4 yX4_bestLaw yX4_bestLaw ∈ wt_tbl := wt_tC5 (List.mem_of_getElem? (i := 230) rfl) rfl
theorem tl_1072 : Cond.selects RX4 yX4_bestPane yX4_bestPane ∈ wt_tbl := wt_tC5 (List.mem_of_getElem? (i := 112) rfl) rfl
theorem tl_1134 : Cond.selects RX4 yX4_busy yX4_busy ∈ wt_tbl := wt_tC5 (List.mem_of_getElem? (i := 174) rfl) rfl
theorem tl_1218 : Cond.selects RX4 yX4_clear yX4_clear ∈ wt_tbl := wt_tC6 (List.mem_of_getElem? (i := 18) rfl) rfl
theorem tl_1233 : Cond.selects RX4 yX4_count yX4_count ∈ wt_tbl := wt_tC6 (List.mem_of_getElem? (i := 33) rfl) rfl
theorem tl_1017 : Cond.selects RX4 yX4_counts yX4_counts ∈ wt_tbl := wt_tC5 (List.mem_of_getElem? (i := 57) rfl) rfl
theorem tl_1084 : Cond.selects RX4 yX4_cover yX4_cover ∈ wt_tbl := wt_tC5 (List.mem_of_getElem? (i := 124) rfl) rfl
theorem tl_1009 : Cond.selects RX4 yX4_days yX4_days ∈ wt_tbl := wt_tC5 (List.mem_of_getElem? (i := 49) rfl) rfl
theorem tl_1206 : Cond.selects RX4 yX4_duels yX4_duels ∈ wt_tbl := wt_tC6 (List.mem_of_getElem? (i := 6) rfl) rfl
theorem tl_1158 : Cond.selects RX4 yX4_even yX4_even ∈ wt_tbl := wt_tC5 (List.mem_of_getElem? (i := 198) rfl) rfl
theorem tl_821 : Cond.selects RX4 yX4_feed yX4_feed ∈ wt_tbl := wt_tC4 (List.mem_of_getElem? (i := 101) rfl) rfl
theorem tl_1080 : Cond.selects RX4 yX4_freeHours yX4_freeHours ∈ wt_tbl := wt_tC5 (List.mem_of_getElem? (i := 120) rfl) rfl
theorem tl_1044 : Cond.selects RX4 yX4_from yX4_from ∈ wt_tbl := wt_tC5 (List.mem_of_getElem? (i := 84) rfl) rfl
theorem tl_1178 : Cond.selects RX4 yX4_gap yX4_gap ∈ wt_tbl := wt_tC5 (List.mem_of_getElem? (i := 218) rfl) rfl
theorem tl_1154 : Cond.selects RX4 yX4_heir yX4_heir ∈ wt_tbl := wt_tC5 (List.mem_of_getElem? (i := 194) rfl) rfl
theorem tl_1130 : Cond.selects RX4 yX4_ill yX4_ill ∈ wt_tbl := wt_tC5 (List.mem_of_getElem? (i := 170) rfl) rfl
theorem tl_927 : Cond.selects RX4 yX4_image yX4_image ∈ wt_tbl := wt_tC4 (List.mem_of_getElem? (i := 207) rfl) rfl
theorem tl_1166 : Cond.selects RX4 yX4_joint yX4_joint ∈ wt_tbl := wt_tC5 (List.mem_of_getElem? (i := 206) rfl) rfl
theorem tl_1214 : Cond.selects RX4 yX4_judge yX4_judge ∈ wt_tbl := wt_tC6 (List.mem_of_getElem? (i := 14) rfl) rfl
theorem tl_1162 : Cond.selects RX4 yX4_last yX4_last ∈ wt_tbl := wt_tC5 (List.mem_of_getElem? (i := 202) rfl) rfl
theorem tl_1004 : Cond.selects RX4 yX4_law yX4_law ∈ wt_tbl := wt_tC5 (List.mem_of_getElem? (i := 44) rfl) rfl
theorem tl_971 : Cond.selects RX4 yX4_looker yX4_looker ∈ wt_tbl := wt_tC5 (List.mem_of_getElem? (i := 11) rfl) rfl
theorem tl_943 : Cond.selects RX4 yX4_lookerOf yX4_lookerOf ∈ wt_tbl := wt_tC4 (List.mem_of_getElem? (i := 223) rfl) rfl
theorem tl_1048 : Cond.selects RX4 yX4_lost yX4_lost ∈ wt_tbl := wt_tC5 (List.mem_of_getElem? (i := 88) rfl) rfl
theorem tl_1222 : Cond.selects RX4 yX4_lots yX4_lots ∈ wt_tbl := wt_tC6 (List.mem_of_getElem? (i := 22) rfl) rfl
theorem tl_1068 : Cond.selects RX4 yX4_moreHours yX4_moreHours ∈ wt_tbl := wt_tC5 (List.mem_of_getElem? (i := 108) rfl) rfl
theorem tl_1198 : Cond.selects RX4 yX4_mostSeen yX4_mostSeen ∈ wt_tbl := wt_tC5 (List.mem_of_getElem? (i := 238) rfl) rfl
theorem tl_1194 : Cond.selects RX4 yX4_newcomer yX4_newcomer ∈ wt_tbl := wt_tC5 (List.mem_of_getElem? (i := 234) rfl) rfl
theorem tl_1040 : Cond.selects RX4 yX4_nobodys yX4_nobodys ∈ wt_tbl := wt_tC5 (List.mem_of_getElem? (i := 80) rfl) rfl
theorem tl_1024 : Cond.selects RX4 yX4_owner yX4_owner ∈ wt_tbl := wt_tC5 (List.mem_of_getElem? (i := 64) rfl) rfl
theorem tl_1028 : Cond.selects RX4 yX4_owns yX4_owns ∈ wt_tbl := wt_tC5 (List.mem_of_getElem? (i := 68) rfl) rfl
theorem tl_964 : Cond.selects RX4 yX4_pane yX4_pane ∈ wt_tbl := wt_tC5 (List.mem_of_getElem? (i := 4) rfl) rfl
theorem tl_939 : Cond.selects RX4 yX4_paneOf yX4_paneOf ∈ wt_tbl := wt_tC4 (List.mem_of_getElem? (i := 219) rfl) rfl
theorem tl_1174 : Cond.selects RX4 yX4_rank yX4_rank ∈ wt_tbl := wt_tC5 (List.mem_of_getElem? (i := 214) rfl) rfl
theorem tl_931 : Cond.selects RX4 yX4_restore yX4_restore ∈ wt_tbl := wt_tC4 (List.mem_of_getElem? (i := 211) rfl) rfl
theorem tl_1052 : Cond.selects RX4 yX4_richest yX4_richest ∈ wt_tbl := wt_tC5 (List.mem_of_getElem? (i := 92) rfl) rfl
theorem tl_988 : Cond.selects RX4 yX4_roster yX4_roster ∈ wt_tbl := wt_tC5 (List.mem_of_getElem? (i := 28) rfl) rfl
theorem tl_1210 : Cond.selects RX4 yX4_row yX4_row ∈ wt_tbl := wt_tC6 (List.mem_of_getElem? (i := 10) rfl) rfl
theorem tl_1099 : Cond.selects RX4 yX4_share yX4_share ∈ wt_tbl := wt_tC5 (List.mem_of_getElem? (i := 139) rfl) rfl
theorem tl_1091 : Cond.selects RX4 yX4_shown yX4_shown ∈ wt_tbl := wt_tC5 (List.mem_of_getElem? (i := 131) rfl) rfl
theorem tl_976 : Cond.selects RX4 yX4_stands yX4_stands ∈ wt_tbl := wt_tC5 (List.mem_of_getElem? (i := 16) rfl) rfl
theorem tl_1060 : Cond.selects RX4 yX4_staredOut yX4_staredOut ∈ wt_tbl := wt_tC5 (List.mem_of_getElem? (i := 100) rfl) rfl
theorem tl_1146 : Cond.selects RX4 yX4_swap yX4_swap ∈ wt_tbl := wt_tC5 (List.mem_of_getElem? (i := 186) rfl) rfl
theorem tl_829 : Cond.selects RX4 yX4_terrace yX4_terrace ∈ wt_tbl := wt_tC4 (List.mem_of_getElem? (i := 109) rfl) rfl
theorem tl_1142 : Cond.selects RX4 yX4_together yX4_together ∈ wt_tbl := wt_tC5 (List.mem_of_getElem? (i := 182) rfl) rfl
theorem tl_1110 : Cond.selects RX4 yX4_two yX4_two ∈ wt_tbl := wt_tC5 (List.mem_of_getElem? (i := 150) rfl) rfl
theorem tl_992 : Cond.selects RX4 yX4_wall yX4_wall ∈ wt_tbl := wt_tC5 (List.mem_of_getElem? (i := 32) rfl) rfl
theorem tl_1095 : Cond.selects RX4 yX4_walls yX4_walls ∈ wt_tbl := wt_tC5 (List.mem_of_getElem? (i := 135) rfl) rfl
theorem tl_1182 : Cond.selects RX4 yX4_wasted yX4_wasted ∈ wt_tbl := wt_tC5 (List.mem_of_getElem? (i := 222) rfl) rfl
theorem tl_1126 : Cond.selects RX4 yX4_whichKind yX4_whichKind ∈ wt_tbl := wt_tC5 (List.mem_of_getElem? (i := 166) rfl) rfl
theorem tl_1118 : Cond.selects RX4 yX4_whichLaw yX4_whichLaw ∈ wt_tbl := wt_tC5 (List.mem_of_getElem? (i := 158) rfl) rfl
theorem tl_1000 : Cond.selects RX4 yX4_worth yX4_worth ∈ wt_tbl := wt_tC5 (List.mem_of_getElem? (i := 40) rfl) rfl
theorem cl_13 : GoodIn wt_tbl (wsV RL 13 RX3 yX3_feed (.code yX3_feed cX3_feed 3 (some .int) :: wt_tbl)) := wt_gV tl_148 tl_149 tl_150 tl_1 tl_151
theorem hl_X3_feed : yX3_feed.cls = RX3 ∧ yX3_feed.cls ≠ "java/lang/invoke/MethodHandle" ∧ yX3_feed.cls ≠ "java/lang/invoke/VarHandle" ∧ (parseMethodDescriptor yX3_feed.desc).map (fun d => d.parameters.length) = some 1 := by decide +kernel
theorem cl_17 : GoodIn wt_tbl (wsV RL 17 RX4 yX4_feed (.code yX4_feed cX4_feed 2 (some .int) :: wt_tbl)) := wt_gV tl_819 tl_820 tl_821 tl_5 tl_822
theorem hl_X4_feed : yX4_feed.cls = RX4 ∧ yX4_feed.cls ≠ "java/lang/invoke/MethodHandle" ∧ yX4_feed.cls ≠ "java/lang/invoke/VarHandle" ∧ (parseMethodDescriptor yX4_feed.desc).map (fun d => d.parameters.length) = some 1 := by decide +kernel
theorem cl_18 : GoodIn wt_tbl (wsV RL 18 RX3 yX3_terrace (.code yX3_terrace cX3_terrace 2 (some .int) :: wt_tbl)) := wt_gV tl_163 tl_164 tl_165 tl_1 tl_166
theorem hl_X3_terrace : yX3_terrace.cls = RX3 ∧ yX3_terrace.cls ≠ "java/lang/invoke/MethodHandle" ∧ yX3_terrace.cls ≠ "java/lang/invoke/VarHandle" ∧ (parseMethodDescriptor yX3_terrace.desc).map (fun d => d.parameters.length) = some 0 := by decide +kernel
theorem cl_22 : GoodIn wt_tbl (wsV RL 22 RX4 yX4_terrace (.code yX4_terrace cX4_terrace 2 (some .int) :: wt_tbl)) := wt_gV tl_827 tl_828 tl_829 tl_5 tl_830
theorem hl_X4_terrace : yX4_terrace.cls = RX4 ∧ yX4_terrace.cls ≠ "java/lang/invoke/MethodHandle" ∧ yX4_terrace.cls ≠ "java/lang/invoke/VarHandle" ∧ (parseMethodDescriptor yX4_terrace.desc).map (fun d => d.parameters.length) = some 0 := by decide +kernel
theorem cl_23 : GoodIn wt_tbl (wsV RL 23 RX3 yX3_paneOf (.code yX3_paneOf cX3_paneOf 4 (some .int) :: wt_tbl)) := wt_gV tl_285 tl_286 tl_287 tl_1 tl_288
theorem hl_X3_paneOf : yX3_paneOf.cls = RX3 ∧ yX3_paneOf.cls ≠ "java/lang/invoke/MethodHandle" ∧ yX3_paneOf.cls ≠ "java/lang/invoke/VarHandle" ∧ (parseMethodDescriptor yX3_paneOf.desc).map (fun d => d.parameters.length) = some 2 := by decide +kernel
theorem cl_27 : GoodIn wt_tbl (wsV RL 27 RX4 yX4_paneOf (.code yX4_paneOf cX4_paneOf 5 (some .int) :: wt_tbl)) := wt_gV tl_937 tl_938 tl_939 tl_5 tl_940
theorem hl_X4_paneOf : yX4_paneOf.cls = RX4 ∧ yX4_paneOf.cls ≠ "java/lang/invoke/MethodHandle" ∧ yX4_paneOf.cls ≠ "java/lang/invoke/VarHandle" ∧ (parseMethodDescriptor yX4_paneOf.desc).map (fun d => d.parameters.length) = some 2 := by decide +kernel
theorem cl_28 : GoodIn wt_tbl (wsV RL 28 RX3 yX3_lookerOf (.code yX3_lookerOf cX3_lookerOf 4 (some .int) :: wt_tbl)) := wt_gV tl_304 tl_305 tl_306 tl_1 tl_307
theorem hl_X3_lookerOf : yX3_lookerOf.cls = RX3 ∧ yX3_lookerOf.cls ≠ "java/lang/invoke/MethodHandle" ∧ yX3_lookerOf.cls ≠ "java/lang/invoke/VarHandle" ∧ (parseMethodDescriptor yX3_lookerOf.desc).map (fun d => d.parameters.length) = some 2 := by decide +kernel
theorem cl_31 : GoodIn wt_tbl (wsV RL 31 RX4 yX4_lookerOf (.code yX4_lookerOf cX4_lookerOf 3 (some .int) :: wt_tbl)) := wt_gV tl_941 tl_942 tl_943 tl_5 tl_944
theorem hl_X4_lookerOf : yX4_lookerOf.cls = RX4 ∧ yX4_lookerOf.cls ≠ "java/lang/invoke/MethodHandle" ∧ yX4_lookerOf.cls ≠ "java/lang/invoke/VarHandle" ∧ (parseMethodDescriptor yX4_lookerOf.desc).map (fun d => d.parameters.length) = some 2 := by decide +kernel
theorem cl_32 : GoodIn wt_tbl (wsV RL 32 RX3 yX3_pane (.code yX3_pane cX3_pane 3 (some .int) :: wt_tbl)) := wt_gV tl_326 tl_327 tl_328 tl_1 tl_329
theorem hl_X3_pane : yX3_pane.cls = RX3 ∧ yX3_pane.cls ≠ "java/lang/invoke/MethodHandle" ∧ yX3_pane.cls ≠ "java/lang/invoke/VarHandle" ∧ (parseMethodDescriptor yX3_pane.desc).map (fun d => d.parameters.length) = some 1 := by decide +kernel
theorem cl_35 : GoodIn wt_tbl (wsV RL 35 RX4 yX4_pane (.code yX4_pane cX4_pane 3 (some .int) :: wt_tbl)) := wt_gV tl_962 tl_963 tl_964 tl_5 tl_965
theorem hl_X4_pane : yX4_pane.cls = RX4 ∧ yX4_pane.cls ≠ "java/lang/invoke/MethodHandle" ∧ yX4_pane.cls ≠ "java/lang/invoke/VarHandle" ∧ (parseMethodDescriptor yX4_pane.desc).map (fun d => d.parameters.length) = some 1 := by decide +kernel
theorem cl_36 : GoodIn wt_tbl (wsV RL 36 RX3 yX3_looker (.code yX3_looker cX3_looker 4 (some .int) :: wt_tbl)) := wt_gV tl_331 tl_332 tl_333 tl_1 tl_334
theorem hl_X3_looker : yX3_looker.cls = RX3 ∧ yX3_looker.cls ≠ "java/lang/invoke/MethodHandle" ∧ yX3_looker.cls ≠ "java/lang/invoke/VarHandle" ∧ (parseMethodDescriptor yX3_looker.desc).map (fun d => d.parameters.length) = some 2 := by decide +kernel
theorem cl_39 : GoodIn wt_tbl (wsV RL 39 RX4 yX4_looker (.code yX4_looker cX4_looker 4 (some .int) :: wt_tbl)) := wt_gV tl_969 tl_970 tl_971 tl_5 tl_972
theorem hl_X4_looker : yX4_looker.cls = RX4 ∧ yX4_looker.cls ≠ "java/lang/invoke/MethodHandle" ∧ yX4_looker.cls ≠ "java/lang/invoke/VarHandle" ∧ (parseMethodDescriptor yX4_looker.desc).map (fun d => d.parameters.length) = some 2 := by decide +kernel
theorem cl_40 : GoodIn wt_tbl (wsV RL 40 RX3 yX3_stands (.code yX3_stands cX3_stands 6 (some .int) :: wt_tbl)) := wt_gV tl_336 tl_337 tl_338 tl_1 tl_339
theorem hl_X3_stands : yX3_stands.cls = RX3 ∧ yX3_stands.cls ≠ "java/lang/invoke/MethodHandle" ∧ yX3_stands.cls ≠ "java/lang/invoke/VarHandle" ∧ (parseMethodDescriptor yX3_stands.desc).map (fun d => d.parameters.length) = some 4 := by decide +kernel
theorem cl_44 : GoodIn wt_tbl (wsV RL 44 RX4 yX4_stands (.code yX4_stands cX4_stands 6 (some .int) :: wt_tbl)) := wt_gV tl_974 tl_975 tl_976 tl_5 tl_977
theorem hl_X4_stands : yX4_stands.cls = RX4 ∧ yX4_stands.cls ≠ "java/lang/invoke/MethodHandle" ∧ yX4_stands.cls ≠ "java/lang/invoke/VarHandle" ∧ (parseMethodDescriptor yX4_stands.desc).map (fun d => d.parameters.length) = some 4 := by decide +kernel
theorem cl_45 : GoodIn wt_tbl (wsV RL 45 RX3 yX3_roster (.code yX3_roster cX3_roster 5 (some .int) :: wt_tbl)) := wt_gV tl_353 tl_354 tl_355 tl_1 tl_356
theorem hl_X3_roster : yX3_roster.cls = RX3 ∧ yX3_roster.cls ≠ "java/lang/invoke/MethodHandle" ∧ yX3_roster.cls ≠ "java/lang/invoke/VarHandle" ∧ (parseMethodDescriptor yX3_roster.desc).map (fun d => d.parameters.length) = some 2 := by decide +kernel
theorem cl_48 : GoodIn wt_tbl (wsV RL 48 RX4 yX4_roster (.code yX4_roster cX4_roster 3 (some .int) :: wt_tbl)) := wt_gV tl_986 tl_987 tl_988 tl_5 tl_989
theorem hl_X4_roster : yX4_roster.cls = RX4 ∧ yX4_roster.cls ≠ "java/lang/invoke/MethodHandle" ∧ yX4_roster.cls ≠ "java/lang/invoke/VarHandle" ∧ (parseMethodDescriptor yX4_roster.desc).map (fun d => d.parameters.length) = some 2 := by decide +kernel
theorem cl_49 : GoodIn wt_tbl (wsV RL 49 RX3 yX3_wall (.code yX3_wall cX3_wall 4 (some .int) :: wt_tbl)) := wt_gV tl_357 tl_358 tl_359 tl_1 tl_360
theorem hl_X3_wall : yX3_wall.cls = RX3 ∧ yX3_wall.cls ≠ "java/lang/invoke/MethodHandle" ∧ yX3_wall.cls ≠ "java/lang/invoke/VarHandle" ∧ (parseMethodDescriptor yX3_wall.desc).map (fun d => d.parameters.length) = some 2 := by decide +kernel
theorem cl_52 : GoodIn wt_tbl (wsV RL 52 RX4 yX4_wall (.code yX4_wall cX4_wall 3 (some .int) :: wt_tbl)) := wt_gV tl_990 tl_991 tl_992 tl_5 tl_993
theorem hl_X4_wall : yX4_wall.cls = RX4 ∧ yX4_wall.cls ≠ "java/lang/invoke/MethodHandle" ∧ yX4_wall.cls ≠ "java/lang/invoke/VarHandle" ∧ (parseMethodDescriptor yX4_wall.desc).map (fun d => d.parameters.length) = some 2 := by decide +kernel
theorem cl_53 : GoodIn wt_tbl (wsV RL 53 RX3 yX3_worth (.code yX3_worth cX3_worth 5 (some .int) :: wt_tbl)) := wt_gV tl_374 tl_375 tl_376 tl_1 tl_377
theorem hl_X3_worth : yX3_worth.cls = RX3 ∧ yX3_worth.cls ≠ "java/lang/invoke/MethodHandle" ∧ yX3_worth.cls ≠ "java/lang/invoke/VarHandle" ∧ (parseMethodDescriptor yX3_worth.desc).map (fun d => d.parameters.length) = some 2 := by decide +kernel
theorem cl_56 : GoodIn wt_tbl (wsV RL 56 RX4 yX4_worth (.code yX4_worth cX4_worth 5 (some .int) :: wt_tbl)) := wt_gV tl_998 tl_999 tl_1000 tl_5 tl_1001
theorem hl_X4_worth : yX4_worth.cls = RX4 ∧ yX4_worth.cls ≠ "java/lang/invoke/MethodHandle" ∧ yX4_worth.cls ≠ "java/lang/invoke/VarHandle" ∧ (parseMethodDescriptor yX4_worth.desc).map (fun d => d.parameters.length) = some 2 := by decide +kernel
theorem cl_57 : GoodIn wt_tbl (wsV RL 57 RX3 yX3_law (.code yX3_law cX3_law 4 (some .int) :: wt_tbl)) := wt_gV tl_379 tl_380 tl_381 tl_1 tl_382
theorem hl_X3_law : yX3_law.cls = RX3 ∧ yX3_law.cls ≠ "java/lang/invoke/MethodHandle" ∧ yX3_law.cls ≠ "java/lang/invoke/VarHandle" ∧ (parseMethodDescriptor yX3_law.desc).map (fun d => d.parameters.length) = some 1 := by decide +kernel
theorem cl_60 : GoodIn wt_tbl (wsV RL 60 RX4 yX4_law (.code yX4_law cX4_law 3 (some .int) :: wt_tbl)) := wt_gV tl_1002 tl_1003 tl_1004 tl_5 tl_1005
theorem hl_X4_law : yX4_law.cls = RX4 ∧ yX4_law.cls ≠ "java/lang/invoke/MethodHandle" ∧ yX4_law.cls ≠ "java/lang/invoke/VarHandle" ∧ (parseMethodDescriptor yX4_law.desc).map (fun d => d.parameters.length) = some 1 := by decide +kernel
theorem cl_61 : GoodIn wt_tbl (wsV RL 61 RX3 yX3_days (.code yX3_days cX3_days 3 (some .int) :: wt_tbl)) := wt_gV tl_384 tl_385 tl_386 tl_1 tl_387
theorem hl_X3_days : yX3_days.cls = RX3 ∧ yX3_days.cls ≠ "java/lang/invoke/MethodHandle" ∧ yX3_days.cls ≠ "java/lang/invoke/VarHandle" ∧ (parseMethodDescriptor yX3_days.desc).map (fun d => d.parameters.length) = some 1 := by decide +kernel
theorem cl_64 : GoodIn wt_tbl (wsV RL 64 RX4 yX4_days (.code yX4_days cX4_days 3 (some .int) :: wt_tbl)) := wt_gV tl_1007 tl_1008 tl_1009 tl_5 tl_1010
theorem hl_X4_days : yX4_days.cls = RX4 ∧ yX4_days.cls ≠ "java/lang/invoke/MethodHandle" ∧ yX4_days.cls ≠ "java/lang/invoke/VarHandle" ∧ (parseMethodDescriptor yX4_days.desc).map (fun d => d.parameters.length) = some 1 := by decide +kernel
theorem cl_65 : GoodIn wt_tbl (wsV RL 65 RX3 yX3_back (.code yX3_back cX3_back 1 (some .int) :: wt_tbl)) := wt_gV tl_400 tl_401 tl_402 tl_1 tl_403
theorem hl_X3_back : yX3_back.cls = RX3 ∧ yX3_back.cls ≠ "java/lang/invoke/MethodHandle" ∧ yX3_back.cls ≠ "java/lang/invoke/VarHandle" ∧ (parseMethodDescriptor yX3_back.desc).map (fun d => d.parameters.length) = some 0 := by decide +kernel
theorem cl_68 : GoodIn wt_tbl (wsV RL 68 RX4 yX4_back (.code yX4_back cX4_back 2 (some .int) :: wt_tbl)) := wt_gV tl_933 tl_934 tl_935 tl_5 tl_936
theorem hl_X4_back : yX4_back.cls = RX4 ∧ yX4_back.cls ≠ "java/lang/invoke/MethodHandle" ∧ yX4_back.cls ≠ "java/lang/invoke/VarHandle" ∧ (parseMethodDescriptor yX4_back.desc).map (fun d => d.parameters.length) = some 0 := by decide +kernel
theorem cl_69 : GoodIn wt_tbl (wsV RL 69 RX3 yX3_counts (.code yX3_counts cX3_counts 5 (some .int) :: wt_tbl)) := wt_gV tl_412 tl_413 tl_414 tl_1 tl_415
theorem hl_X3_counts : yX3_counts.cls = RX3 ∧ yX3_counts.cls ≠ "java/lang/invoke/MethodHandle" ∧ yX3_counts.cls ≠ "java/lang/invoke/VarHandle" ∧ (parseMethodDescriptor yX3_counts.desc).map (fun d => d.parameters.length) = some 3 := by decide +kernel
theorem cl_73 : GoodIn wt_tbl (wsV RL 73 RX4 yX4_counts (.code yX4_counts cX4_counts 5 (some .int) :: wt_tbl)) := wt_gV tl_1015 tl_1016 tl_1017 tl_5 tl_1018
theorem hl_X4_counts : yX4_counts.cls = RX4 ∧ yX4_counts.cls ≠ "java/lang/invoke/MethodHandle" ∧ yX4_counts.cls ≠ "java/lang/invoke/VarHandle" ∧ (parseMethodDescriptor yX4_counts.desc).map (fun d => d.parameters.length) = some 3 := by decide +kernel
theorem cl_74 : GoodIn wt_tbl (wsV RL 74 RX3 yX3_owner (.code yX3_owner cX3_owner 4 (some .int) :: wt_tbl)) := wt_gV tl_416 tl_417 tl_418 tl_1 tl_419
theorem hl_X3_owner : yX3_owner.cls = RX3 ∧ yX3_owner.cls ≠ "java/lang/invoke/MethodHandle" ∧ yX3_owner.cls ≠ "java/lang/invoke/VarHandle" ∧ (parseMethodDescriptor yX3_owner.desc).map (fun d => d.parameters.length) = some 2 := by decide +kernel
theorem cl_77 : GoodIn wt_tbl (wsV RL 77 RX4 yX4_owner (.code yX4_owner cX4_owner 4 (some .int) :: wt_tbl)) := wt_gV tl_1022 tl_1023 tl_1024 tl_5 tl_1025
theorem hl_X4_owner : yX4_owner.cls = RX4 ∧ yX4_owner.cls ≠ "java/lang/invoke/MethodHandle" ∧ yX4_owner.cls ≠ "java/lang/invoke/VarHandle" ∧ (parseMethodDescriptor yX4_owner.desc).map (fun d => d.parameters.length) = some 2 := by decide +kernel
theorem cl_78 : GoodIn wt_tbl (wsV RL 78 RX3 yX3_owns (.code yX3_owns cX3_owns 5 (some .int) :: wt_tbl)) := wt_gV tl_421 tl_422 tl_423 tl_1 tl_424
theorem hl_X3_owns : yX3_owns.cls = RX3 ∧ yX3_owns.cls ≠ "java/lang/invoke/MethodHandle" ∧ yX3_owns.cls ≠ "java/lang/invoke/VarHandle" ∧ (parseMethodDescriptor yX3_owns.desc).map (fun d => d.parameters.length) = some 3 := by decide +kernel
theorem cl_81 : GoodIn wt_tbl (wsV RL 81 RX4 yX4_owns (.code yX4_owns cX4_owns 5 (some .int) :: wt_tbl)) := wt_gV tl_1026 tl_1027 tl_1028 tl_5 tl_1029
theorem hl_X4_owns : yX4_owns.cls = RX4 ∧ yX4_owns.cls ≠ "java/lang/invoke/MethodHandle" ∧ yX4_owns.cls ≠ "java/lang/invoke/VarHandle" ∧ (parseMethodDescriptor yX4_owns.desc).map (fun d => d.parameters.length) = some 3 := by decide +kernel
theorem cl_82 : GoodIn wt_tbl (wsV RL 82 RX3 yX3_nobodys (.code yX3_nobodys cX3_nobodys 3 (some .int) :: wt_tbl)) := wt_gV tl_433 tl_434 tl_435 tl_1 tl_436
theorem hl_X3_nobodys : yX3_nobodys.cls = RX3 ∧ yX3_nobodys.cls ≠ "java/lang/invoke/MethodHandle" ∧ yX3_nobodys.cls ≠ "java/lang/invoke/VarHandle" ∧ (parseMethodDescriptor yX3_nobodys.desc).map (fun d => d.parameters.length) = some 1 := by decide +kernel
theorem cl_85 : GoodIn wt_tbl (wsV RL 85 RX4 yX4_nobodys (.code yX4_nobodys cX4_nobodys 2 (some .int) :: wt_tbl)) := wt_gV tl_1038 tl_1039 tl_1040 tl_5 tl_1041
theorem hl_X4_nobodys : yX4_nobodys.cls = RX4 ∧ yX4_nobodys.cls ≠ "java/lang/invoke/MethodHandle" ∧ yX4_nobodys.cls ≠ "java/lang/invoke/VarHandle" ∧ (parseMethodDescriptor yX4_nobodys.desc).map (fun d => d.parameters.length) = some 1 := by decide +kernel
theorem cl_86 : GoodIn wt_tbl (wsV RL 86 RX3 yX3_from (.code yX3_from cX3_from 5 (some .int) :: wt_tbl)) := wt_gV tl_437 tl_438 tl_439 tl_1 tl_440
theorem hl_X3_from : yX3_from.cls = RX3 ∧ yX3_from.cls ≠ "java/lang/invoke/MethodHandle" ∧ yX3_from.cls ≠ "java/lang/invoke/VarHandle" ∧ (parseMethodDescriptor yX3_from.desc).map (fun d => d.parameters.length) = some 2 := by decide +kernel
theorem cl_89 : GoodIn wt_tbl (wsV RL 89 RX4 yX4_from (.code yX4_from cX4_from 4 (some .int) :: wt_tbl)) := wt_gV tl_1042 tl_1043 tl_1044 tl_5 tl_1045
theorem hl_X4_from : yX4_from.cls = RX4 ∧ yX4_from.cls ≠ "java/lang/invoke/MethodHandle" ∧ yX4_from.cls ≠ "java/lang/invoke/VarHandle" ∧ (parseMethodDescriptor yX4_from.desc).map (fun d => d.parameters.length) = some 2 := by decide +kernel
theorem cl_90 : GoodIn wt_tbl (wsV RL 90 RX3 yX3_lost (.code yX3_lost cX3_lost 4 (some .int) :: wt_tbl)) := wt_gV tl_441 tl_442 tl_443 tl_1 tl_444
theorem hl_X3_lost : yX3_lost.cls = RX3 ∧ yX3_lost.cls ≠ "java/lang/invoke/MethodHandle" ∧ yX3_lost.cls ≠ "java/lang/invoke/VarHandle" ∧ (parseMethodDescriptor yX3_lost.desc).map (fun d => d.parameters.length) = some 1 := by decide +kernel
theorem cl_93 : GoodIn wt_tbl (wsV RL 93 RX4 yX4_lost (.code yX4_lost cX4_lost 4 (some .int) :: wt_tbl)) := wt_gV tl_1046 tl_1047 tl_1048 tl_5 tl_1049
theorem hl_X4_lost : yX4_lost.cls = RX4 ∧ yX4_lost.cls ≠ "java/lang/invoke/MethodHandle" ∧ yX4_lost.cls ≠ "java/lang/invoke/VarHandle" ∧ (parseMethodDescriptor yX4_lost.desc).map (fun d => d.parameters.length) = some 1 := by decide +kernel
theorem cl_94 : GoodIn wt_tbl (wsV RL 94 RX3 yX3_richest (.code yX3_richest cX3_richest 5 (some .int) :: wt_tbl)) := wt_gV tl_445 tl_446 tl_447 tl_1 tl_448
theorem hl_X3_richest : yX3_richest.cls = RX3 ∧ yX3_richest.cls ≠ "java/lang/invoke/MethodHandle" ∧ yX3_richest.cls ≠ "java/lang/invoke/VarHandle" ∧ (parseMethodDescriptor yX3_richest.desc).map (fun d => d.parameters.length) = some 2 := by decide +kernel
theorem cl_97 : GoodIn wt_tbl (wsV RL 97 RX4 yX4_richest (.code yX4_richest cX4_richest 5 (some .int) :: wt_tbl)) := wt_gV tl_1050 tl_1051 tl_1052 tl_5 tl_1053
theorem hl_X4_richest : yX4_richest.cls = RX4 ∧ yX4_richest.cls ≠ "java/lang/invoke/MethodHandle" ∧ yX4_richest.cls ≠ "java/lang/invoke/VarHandle" ∧ (parseMethodDescriptor yX4_richest.desc).map (fun d => d.parameters.length) = some 2 := by decide +kernel
theorem cl_98 : GoodIn wt_tbl (wsV RL 98 RX3 yX3_staredOut (.code yX3_staredOut cX3_staredOut 5 (some .int) :: wt_tbl)) := wt_gV tl_454 tl_455 tl_456 tl_1 tl_457
theorem hl_X3_staredOut : yX3_staredOut.cls = RX3 ∧ yX3_staredOut.cls ≠ "java/lang/invoke/MethodHandle" ∧ yX3_staredOut.cls ≠ "java/lang/invoke/VarHandle" ∧ (parseMethodDescriptor yX3_staredOut.desc).map (fun d => d.parameters.length) = some 3 := by decide +kernel
theorem cl_101 : GoodIn wt_tbl (wsV RL 101 RX4 yX4_staredOut (.code yX4_staredOut cX4_staredOut 5 (some .int) :: wt_tbl)) := wt_gV tl_1058 tl_1059 tl_1060 tl_5 tl_1061
theorem hl_X4_staredOut : yX4_staredOut.cls = RX4 ∧ yX4_staredOut.cls ≠ "java/lang/invoke/MethodHandle" ∧ yX4_staredOut.cls ≠ "java/lang/invoke/VarHandle" ∧ (parseMethodDescriptor yX4_staredOut.desc).map (fun d => d.parameters.length) = some 3 := by decide +kernel
theorem cl_102 : GoodIn wt_tbl (wsV RL 102 RX3 yX3_moreHours (.code yX3_moreHours cX3_moreHours 5 (some .int) :: wt_tbl)) := wt_gV tl_466 tl_467 tl_468 tl_1 tl_469
theorem hl_X3_moreHours : yX3_moreHours.cls = RX3 ∧ yX3_moreHours.cls ≠ "java/lang/invoke/MethodHandle" ∧ yX3_moreHours.cls ≠ "java/lang/invoke/VarHandle" ∧ (parseMethodDescriptor yX3_moreHours.desc).map (fun d => d.parameters.length) = some 3 := by decide +kernel
theorem cl_105 : GoodIn wt_tbl (wsV RL 105 RX4 yX4_moreHours (.code yX4_moreHours cX4_moreHours 8 (some .int) :: wt_tbl)) := wt_gV tl_1066 tl_1067 tl_1068 tl_5 tl_1069
theorem hl_X4_moreHours : yX4_moreHours.cls = RX4 ∧ yX4_moreHours.cls ≠ "java/lang/invoke/MethodHandle" ∧ yX4_moreHours.cls ≠ "java/lang/invoke/VarHandle" ∧ (parseMethodDescriptor yX4_moreHours.desc).map (fun d => d.parameters.length) = some 3 := by decide +kernel
theorem cl_106 : GoodIn wt_tbl (wsV RL 106 RX3 yX3_bestPane (.code yX3_bestPane cX3_bestPane 11 (some .int) :: wt_tbl)) := wt_gV tl_480 tl_481 tl_482 tl_1 tl_483
theorem hl_X3_bestPane : yX3_bestPane.cls = RX3 ∧ yX3_bestPane.cls ≠ "java/lang/invoke/MethodHandle" ∧ yX3_bestPane.cls ≠ "java/lang/invoke/VarHandle" ∧ (parseMethodDescriptor yX3_bestPane.desc).map (fun d => d.parameters.length) = some 4 := by decide +kernel
theorem cl_109 : GoodIn wt_tbl (wsV RL 109 RX4 yX4_bestPane (.code yX4_bestPane cX4_bestPane 11 (some .int) :: wt_tbl)) := wt_gV tl_1070 tl_1071 tl_1072 tl_5 tl_1073
theorem hl_X4_bestPane : yX4_bestPane.cls = RX4 ∧ yX4_bestPane.cls ≠ "java/lang/invoke/MethodHandle" ∧ yX4_bestPane.cls ≠ "java/lang/invoke/VarHandle" ∧ (parseMethodDescriptor yX4_bestPane.desc).map (fun d => d.parameters.length) = some 4 := by decide +kernel
theorem cl_110 : GoodIn wt_tbl (wsV RL 110 RX3 yX3_freeHours (.code yX3_freeHours cX3_freeHours 8 (some .int) :: wt_tbl)) := wt_gV tl_488 tl_489 tl_490 tl_1 tl_491
theorem hl_X3_freeHours : yX3_freeHours.cls = RX3 ∧ yX3_freeHours.cls ≠ "java/lang/invoke/MethodHandle" ∧ yX3_freeHours.cls ≠ "java/lang/invoke/VarHandle" ∧ (parseMethodDescriptor yX3_freeHours.desc).map (fun d => d.parameters.length) = some 2 := by decide +kernel
theorem cl_113 : GoodIn wt_tbl (wsV RL 113 RX4 yX4_freeHours (.code yX4_freeHours cX4_freeHours 8 (some .int) :: wt_tbl)) := wt_gV tl_1078 tl_1079 tl_1080 tl_5 tl_1081
theorem hl_X4_freeHours : yX4_freeHours.cls = RX4 ∧ yX4_freeHours.cls ≠ "java/lang/invoke/MethodHandle" ∧ yX4_freeHours.cls ≠ "java/lang/invoke/VarHandle" ∧ (parseMethodDescriptor yX4_freeHours.desc).map (fun d => d.parameters.length) = some 2 := by decide +kernel
theorem cl_114 : GoodIn wt_tbl (wsV RL 114 RX3 yX3_cover (.code yX3_cover cX3_cover 4 (some .int) :: wt_tbl)) := wt_gV tl_492 tl_493 tl_494 tl_1 tl_495
theorem hl_X3_cover : yX3_cover.cls = RX3 ∧ yX3_cover.cls ≠ "java/lang/invoke/MethodHandle" ∧ yX3_cover.cls ≠ "java/lang/invoke/VarHandle" ∧ (parseMethodDescriptor yX3_cover.desc).map (fun d => d.parameters.length) = some 0 := by decide +kernel
theorem cl_117 : GoodIn wt_tbl (wsV RL 117 RX4 yX4_cover (.code yX4_cover cX4_cover 6 (some .int) :: wt_tbl)) := wt_gV tl_1082 tl_1083 tl_1084 tl_5 tl_1085
theorem hl_X4_cover : yX4_cover.cls = RX4 ∧ yX4_cover.cls ≠ "java/lang/invoke/MethodHandle" ∧ yX4_cover.cls ≠ "java/lang/invoke/VarHandle" ∧ (parseMethodDescriptor yX4_cover.desc).map (fun d => d.parameters.length) = some 0 := by decide +kernel
theorem cl_118 : GoodIn wt_tbl (wsV RL 118 RX3 yX3_shown (.code yX3_shown cX3_shown 2 (some .int) :: wt_tbl)) := wt_gV tl_498 tl_499 tl_500 tl_1 tl_501
theorem hl_X3_shown : yX3_shown.cls = RX3 ∧ yX3_shown.cls ≠ "java/lang/invoke/MethodHandle" ∧ yX3_shown.cls ≠ "java/lang/invoke/VarHandle" ∧ (parseMethodDescriptor yX3_shown.desc).map (fun d => d.parameters.length) = some 1 := by decide +kernel
theorem cl_121 : GoodIn wt_tbl (wsV RL 121 RX4 yX4_shown (.code yX4_shown cX4_shown 4 (some .int) :: wt_tbl)) := wt_gV tl_1089 tl_1090 tl_1091 tl_5 tl_1092
theorem hl_X4_shown : yX4_shown.cls = RX4 ∧ yX4_shown.cls ≠ "java/lang/invoke/MethodHandle" ∧ yX4_shown.cls ≠ "java/lang/invoke/VarHandle" ∧ (parseMethodDescriptor yX4_shown.desc).map (fun d => d.parameters.length) = some 1 := by decide +kernel
theorem cl_122 : GoodIn wt_tbl (wsV RL 122 RX3 yX3_walls (.code yX3_walls cX3_walls 11 (some .int) :: wt_tbl)) := wt_gV tl_502 tl_503 tl_504 tl_1 tl_505
theorem hl_X3_walls : yX3_walls.cls = RX3 ∧ yX3_walls.cls ≠ "java/lang/invoke/MethodHandle" ∧ yX3_walls.cls ≠ "java/lang/invoke/VarHandle" ∧ (parseMethodDescriptor yX3_walls.desc).map (fun d => d.parameters.length) = some 3 := by decide +kernel
theorem cl_125 : GoodIn wt_tbl (wsV RL 125 RX4 yX4_walls (.code yX4_walls cX4_walls 11 (some .int) :: wt_tbl)) := wt_gV tl_1093 tl_1094 tl_1095 tl_5 tl_1096
theorem hl_X4_walls : yX4_walls.cls = RX4 ∧ yX4_walls.cls ≠ "java/lang/invoke/MethodHandle" ∧ yX4_walls.cls ≠ "java/lang/invoke/VarHandle" ∧ (parseMethodDescriptor yX4_walls.desc).map (fun d => d.parameters.length) = some 3 := by decide +kernel
theorem cl_126 : GoodIn wt_tbl (wsV RL 126 RX3 yX3_share (.code yX3_share cX3_share 8 (some .long) :: wt_tbl)) := wt_gV tl_510 tl_511 tl_512 tl_1 tl_513
theorem hl_X3_share : yX3_share.cls = RX3 ∧ yX3_share.cls ≠ "java/lang/invoke/MethodHandle" ∧ yX3_share.cls ≠ "java/lang/invoke/VarHandle" ∧ (parseMethodDescriptor yX3_share.desc).map (fun d => d.parameters.length) = some 3 := by decide +kernel
theorem cl_130 : GoodIn wt_tbl (wsV RL 130 RX4 yX4_share (.code yX4_share cX4_share 8 (some .long) :: wt_tbl)) := wt_gV tl_1097 tl_1098 tl_1099 tl_5 tl_1100
theorem hl_X4_share : yX4_share.cls = RX4 ∧ yX4_share.cls ≠ "java/lang/invoke/MethodHandle" ∧ yX4_share.cls ≠ "java/lang/invoke/VarHandle" ∧ (parseMethodDescriptor yX4_share.desc).map (fun d => d.parameters.length) = some 3 := by decide +kernel
theorem cl_131 : GoodIn wt_tbl (wsV RL 131 RX3 yX3_two (.code yX3_two cX3_two 8 (some .int) :: wt_tbl)) := wt_gV tl_525 tl_526 tl_527 tl_1 tl_528
theorem hl_X3_two : yX3_two.cls = RX3 ∧ yX3_two.cls ≠ "java/lang/invoke/MethodHandle" ∧ yX3_two.cls ≠ "java/lang/invoke/VarHandle" ∧ (parseMethodDescriptor yX3_two.desc).map (fun d => d.parameters.length) = some 4 := by decide +kernel
theorem cl_134 : GoodIn wt_tbl (wsV RL 134 RX4 yX4_two (.code yX4_two cX4_two 10 (some .int) :: wt_tbl)) := wt_gV tl_1108 tl_1109 tl_1110 tl_5 tl_1111
theorem hl_X4_two : yX4_two.cls = RX4 ∧ yX4_two.cls ≠ "java/lang/invoke/MethodHandle" ∧ yX4_two.cls ≠ "java/lang/invoke/VarHandle" ∧ (parseMethodDescriptor yX4_two.desc).map (fun d => d.parameters.length) = some 4 := by decide +kernel
theorem cl_135 : GoodIn wt_tbl (wsV RL 135 RX3 yX3_whichLaw (.code yX3_whichLaw cX3_whichLaw 4 (some .int) :: wt_tbl)) := wt_gV tl_537 tl_538 tl_539 tl_1 tl_540
theorem hl_X3_whichLaw : yX3_whichLaw.cls = RX3 ∧ yX3_whichLaw.cls ≠ "java/lang/invoke/MethodHandle" ∧ yX3_whichLaw.cls ≠ "java/lang/invoke/VarHandle" ∧ (parseMethodDescriptor yX3_whichLaw.desc).map (fun d => d.parameters.length) = some 0 := by decide +kernel
theorem cl_138 : GoodIn wt_tbl (wsV RL 138 RX4 yX4_whichLaw (.code yX4_whichLaw cX4_whichLaw 4 (some .int) :: wt_tbl)) := wt_gV tl_1116 tl_1117 tl_1118 tl_5 tl_1119
theorem hl_X4_whichLaw : yX4_whichLaw.cls = RX4 ∧ yX4_whichLaw.cls ≠ "java/lang/invoke/MethodHandle" ∧ yX4_whichLaw.cls ≠ "java/lang/invoke/VarHandle" ∧ (parseMethodDescriptor yX4_whichLaw.desc).map (fun d => d.parameters.length) = some 0 := by decide +kernel
theorem cl_139 : GoodIn wt_tbl (wsV RL 139 RX3 yX3_whichKind (.code yX3_whichKind cX3_whichKind 8 (some .int) :: wt_tbl)) := wt_gV tl_552 tl_553 tl_554 tl_1 tl_555
theorem hl_X3_whichKind : yX3_whichKind.cls = RX3 ∧ yX3_whichKind.cls ≠ "java/lang/invoke/MethodHandle" ∧ yX3_whichKind.cls ≠ "java/lang/invoke/VarHandle" ∧ (parseMethodDescriptor yX3_whichKind.desc).map (fun d => d.parameters.length) = some 3 := by decide +kernel
theorem cl_142 : GoodIn wt_tbl (wsV RL 142 RX4 yX4_whichKind (.code yX4_whichKind cX4_whichKind 7 (some .int) :: wt_tbl)) := wt_gV tl_1124 tl_1125 tl_1126 tl_5 tl_1127
theorem hl_X4_whichKind : yX4_whichKind.cls = RX4 ∧ yX4_whichKind.cls ≠ "java/lang/invoke/MethodHandle" ∧ yX4_whichKind.cls ≠ "java/lang/invoke/VarHandle" ∧ (parseMethodDescriptor yX4_whichKind.desc).map (fun d => d.parameters.length) = some 3 := by decide +kernel
theorem cl_143 : GoodIn wt_tbl (wsV RL 143 RX3 yX3_ill (.code yX3_ill cX3_ill 14 (some .long) :: wt_tbl)) := wt_gV tl_556 tl_557 tl_558 tl_1 tl_559
theorem hl_X3_ill : yX3_ill.cls = RX3 ∧ yX3_ill.cls ≠ "java/lang/invoke/MethodHandle" ∧ yX3_ill.cls ≠ "java/lang/invoke/VarHandle" ∧ (parseMethodDescriptor yX3_ill.desc).map (fun d => d.parameters.length) = some 5 := by decide +kernel
theorem cl_147 : GoodIn wt_tbl (wsV RL 147 RX4 yX4_ill (.code yX4_ill cX4_ill 15 (some .long) :: wt_tbl)) := wt_gV tl_1128 tl_1129 tl_1130 tl_5 tl_1131
theorem hl_X4_ill : yX4_ill.cls = RX4 ∧ yX4_ill.cls ≠ "java/lang/invoke/MethodHandle" ∧ yX4_ill.cls ≠ "java/lang/invoke/VarHandle" ∧ (parseMethodDescriptor yX4_ill.desc).map (fun d => d.parameters.length) = some 5 := by decide +kernel
theorem cl_148 : GoodIn wt_tbl (wsV RL 148 RX3 yX3_busy (.code yX3_busy cX3_busy 7 (some .int) :: wt_tbl)) := wt_gV tl_565 tl_566 tl_567 tl_1 tl_568
theorem hl_X3_busy : yX3_busy.cls = RX3 ∧ yX3_busy.cls ≠ "java/lang/invoke/MethodHandle" ∧ yX3_busy.cls ≠ "java/lang/invoke/VarHandle" ∧ (parseMethodDescriptor yX3_busy.desc).map (fun d => d.parameters.length) = some 1 := by decide +kernel
theorem cl_151 : GoodIn wt_tbl (wsV RL 151 RX4 yX4_busy (.code yX4_busy cX4_busy 4 (some .int) :: wt_tbl)) := wt_gV tl_1132 tl_1133 tl_1134 tl_5 tl_1135
theorem hl_X4_busy : yX4_busy.cls = RX4 ∧ yX4_busy.cls ≠ "java/lang/invoke/MethodHandle" ∧ yX4_busy.cls ≠ "java/lang/invoke/VarHandle" ∧ (parseMethodDescriptor yX4_busy.desc).map (fun d => d.parameters.length) = some 1 := by decide +kernel
theorem cl_152 : GoodIn wt_tbl (wsV RL 152 RX3 yX3_together (.code yX3_together cX3_together 7 (some .int) :: wt_tbl)) := wt_gV tl_573 tl_574 tl_575 tl_1 tl_576
theorem hl_X3_together : yX3_together.cls = RX3 ∧ yX3_together.cls ≠ "java/lang/invoke/MethodHandle" ∧ yX3_together.cls ≠ "java/lang/invoke/VarHandle" ∧ (parseMethodDescriptor yX3_together.desc).map (fun d => d.parameters.length) = some 2 := by decide +kernel
theorem cl_155 : GoodIn wt_tbl (wsV RL 155 RX4 yX4_together (.code yX4_together cX4_together 6 (some .int) :: wt_tbl)) := wt_gV tl_1140 tl_1141 tl_1142 tl_5 tl_1143
theorem hl_X4_together : yX4_together.cls = RX4 ∧ yX4_together.cls ≠ "java/lang/invoke/MethodHandle" ∧ yX4_together.cls ≠ "java/lang/invoke/VarHandle" ∧ (parseMethodDescriptor yX4_together.desc).map (fun d => d.parameters.length) = some 2 := by decide +kernel
theorem cl_156 : GoodIn wt_tbl (wsV RL 156 RX3 yX3_swap (.code yX3_swap cX3_swap 9 (some .int) :: wt_tbl)) := wt_gV tl_577 tl_578 tl_579 tl_1 tl_580
theorem hl_X3_swap : yX3_swap.cls = RX3 ∧ yX3_swap.cls ≠ "java/lang/invoke/MethodHandle" ∧ yX3_swap.cls ≠ "java/lang/invoke/VarHandle" ∧ (parseMethodDescriptor yX3_swap.desc).map (fun d => d.parameters.length) = some 1 := by decide +kernel
theorem cl_159 : GoodIn wt_tbl (wsV RL 159 RX4 yX4_swap (.code yX4_swap cX4_swap 9 (some .int) :: wt_tbl)) := wt_gV tl_1144 tl_1145 tl_1146 tl_5 tl_1147
theorem hl_X4_swap : yX4_swap.cls = RX4 ∧ yX4_swap.cls ≠ "java/lang/invoke/MethodHandle" ∧ yX4_swap.cls ≠ "java/lang/invoke/VarHandle" ∧ (parseMethodDescriptor yX4_swap.desc).map (fun d => d.parameters.length) = some 1 := by decide +kernel
theorem cl_160 : GoodIn wt_tbl (wsV RL 160 RX3 yX3_heir (.code yX3_heir cX3_heir 6 (some .int) :: wt_tbl)) := wt_gV tl_589 tl_590 tl_591 tl_1 tl_592
theorem hl_X3_heir : yX3_heir.cls = RX3 ∧ yX3_heir.cls ≠ "java/lang/invoke/MethodHandle" ∧ yX3_heir.cls ≠ "java/lang/invoke/VarHandle" ∧ (parseMethodDescriptor yX3_heir.desc).map (fun d => d.parameters.length) = some 3 := by decide +kernel
theorem cl_163 : GoodIn wt_tbl (wsV RL 163 RX4 yX4_heir (.code yX4_heir cX4_heir 6 (some .int) :: wt_tbl)) := wt_gV tl_1152 tl_1153 tl_1154 tl_5 tl_1155
theorem hl_X4_heir : yX4_heir.cls = RX4 ∧ yX4_heir.cls ≠ "java/lang/invoke/MethodHandle" ∧ yX4_heir.cls ≠ "java/lang/invoke/VarHandle" ∧ (parseMethodDescriptor yX4_heir.desc).map (fun d => d.parameters.length) = some 3 := by decide +kernel
theorem cl_164 : GoodIn wt_tbl (wsV RL 164 RX3 yX3_even (.code yX3_even cX3_even 6 (some .int) :: wt_tbl)) := wt_gV tl_593 tl_594 tl_595 tl_1 tl_596
theorem hl_X3_even : yX3_even.cls = RX3 ∧ yX3_even.cls ≠ "java/lang/invoke/MethodHandle" ∧ yX3_even.cls ≠ "java/lang/invoke/VarHandle" ∧ (parseMethodDescriptor yX3_even.desc).map (fun d => d.parameters.length) = some 1 := by decide +kernel
theorem cl_167 : GoodIn wt_tbl (wsV RL 167 RX4 yX4_even (.code yX4_even cX4_even 5 (some .int) :: wt_tbl)) := wt_gV tl_1156 tl_1157 tl_1158 tl_5 tl_1159
theorem hl_X4_even : yX4_even.cls = RX4 ∧ yX4_even.cls ≠ "java/lang/invoke/MethodHandle" ∧ yX4_even.cls ≠ "java/lang/invoke/VarHandle" ∧ (parseMethodDescriptor yX4_even.desc).map (fun d => d.parameters.length) = some 1 := by decide +kernel
theorem cl_168 : GoodIn wt_tbl (wsV RL 168 RX3 yX3_last (.code yX3_last cX3_last 5 (some .int) :: wt_tbl)) := wt_gV tl_601 tl_602 tl_603 tl_1 tl_604
theorem hl_X3_last : yX3_last.cls = RX3 ∧ yX3_last.cls ≠ "java/lang/invoke/MethodHandle" ∧ yX3_last.cls ≠ "java/lang/invoke/VarHandle" ∧ (parseMethodDescriptor yX3_last.desc).map (fun d => d.parameters.length) = some 0 := by decide +kernel
theorem cl_171 : GoodIn wt_tbl (wsV RL 171 RX4 yX4_last (.code yX4_last cX4_last 5 (some .int) :: wt_tbl)) := wt_gV tl_1160 tl_1161 tl_1162 tl_5 tl_1163
theorem hl_X4_last : yX4_last.cls = RX4 ∧ yX4_last.cls ≠ "java/lang/invoke/MethodHandle" ∧ yX4_last.cls ≠ "java/lang/invoke/VarHandle" ∧ (parseMethodDescriptor yX4_last.desc).map (fun d => d.parameters.length) = some 0 := by decide +kernel
theorem cl_172 : GoodIn wt_tbl (wsV RL 172 RX3 yX3_joint (.code yX3_joint cX3_joint 7 (some .int) :: wt_tbl)) := wt_gV tl_605 tl_606 tl_607 tl_1 tl_608
theorem hl_X3_joint : yX3_joint.cls = RX3 ∧ yX3_joint.cls ≠ "java/lang/invoke/MethodHandle" ∧ yX3_joint.cls ≠ "java/lang/invoke/VarHandle" ∧ (parseMethodDescriptor yX3_joint.desc).map (fun d => d.parameters.length) = some 3 := by decide +kernel
theorem cl_175 : GoodIn wt_tbl (wsV RL 175 RX4 yX4_joint (.code yX4_joint cX4_joint 10 (some .int) :: wt_tbl)) := wt_gV tl_1164 tl_1165 tl_1166 tl_5 tl_1167
theorem hl_X4_joint : yX4_joint.cls = RX4 ∧ yX4_joint.cls ≠ "java/lang/invoke/MethodHandle" ∧ yX4_joint.cls ≠ "java/lang/invoke/VarHandle" ∧ (parseMethodDescriptor yX4_joint.desc).map (fun d => d.parameters.length) = some 3 := by decide +kernel
theorem cl_176 : GoodIn wt_tbl (wsV RL 176 RX3 yX3_rank (.code yX3_rank cX3_rank 5 (some .int) :: wt_tbl)) := wt_gV tl_613 tl_614 tl_615 tl_1 tl_616
theorem hl_X3_rank : yX3_rank.cls = RX3 ∧ yX3_rank.cls ≠ "java/lang/invoke/MethodHandle" ∧ yX3_rank.cls ≠ "java/lang/invoke/VarHandle" ∧ (parseMethodDescriptor yX3_rank.desc).map (fun d => d.parameters.length) = some 2 := by decide +kernel
theorem cl_179 : GoodIn wt_tbl (wsV RL 179 RX4 yX4_rank (.code yX4_rank cX4_rank 8 (some .int) :: wt_tbl)) := wt_gV tl_1172 tl_1173 tl_1174 tl_5 tl_1175
theorem hl_X4_rank : yX4_rank.cls = RX4 ∧ yX4_rank.cls ≠ "java/lang/invoke/MethodHandle" ∧ yX4_rank.cls ≠ "java/lang/invoke/VarHandle" ∧ (parseMethodDescriptor yX4_rank.desc).map (fun d => d.parameters.length) = some 2 := by decide +kernel
theorem cl_180 : GoodIn wt_tbl (wsV RL 180 RX3 yX3_gap (.code yX3_gap cX3_gap 8 (some .int) :: wt_tbl)) := wt_gV tl_621 tl_622 tl_623 tl_1 tl_624
theorem hl_X3_gap : yX3_gap.cls = RX3 ∧ yX3_gap.cls ≠ "java/lang/invoke/MethodHandle" ∧ yX3_gap.cls ≠ "java/lang/invoke/VarHandle" ∧ (parseMethodDescriptor yX3_gap.desc).map (fun d => d.parameters.length) = some 2 := by decide +kernel
theorem cl_183 : GoodIn wt_tbl (wsV RL 183 RX4 yX4_gap (.code yX4_gap cX4_gap 8 (some .int) :: wt_tbl)) := wt_gV tl_1176 tl_1177 tl_1178 tl_5 tl_1179
theorem hl_X4_gap : yX4_gap.cls = RX4 ∧ yX4_gap.cls ≠ "java/lang/invoke/MethodHandle" ∧ yX4_gap.cls ≠ "java/lang/invoke/VarHandle" ∧ (parseMethodDescriptor yX4_gap.desc).map (fun d => d.parameters.length) = some 2 := by decide +kernel
theorem cl_184 : GoodIn wt_tbl (wsV RL 184 RX3 yX3_wasted (.code yX3_wasted cX3_wasted 8 (some .int) :: wt_tbl)) := wt_gV tl_625 tl_626 tl_627 tl_1 tl_628
theorem hl_X3_wasted : yX3_wasted.cls = RX3 ∧ yX3_wasted.cls ≠ "java/lang/invoke/MethodHandle" ∧ yX3_wasted.cls ≠ "java/lang/invoke/VarHandle" ∧ (parseMethodDescriptor yX3_wasted.desc).map (fun d => d.parameters.length) = some 2 := by decide +kernel
theorem cl_187 : GoodIn wt_tbl (wsV RL 187 RX4 yX4_wasted (.code yX4_wasted cX4_wasted 8 (some .int) :: wt_tbl)) := wt_gV tl_1180 tl_1181 tl_1182 tl_5 tl_1183
theorem hl_X4_wasted : yX4_wasted.cls = RX4 ∧ yX4_wasted.cls ≠ "java/lang/invoke/MethodHandle" ∧ yX4_wasted.cls ≠ "java/lang/invoke/VarHandle" ∧ (parseMethodDescriptor yX4_wasted.desc).map (fun d => d.parameters.length) = some 2 := by decide +kernel
theorem cl_188 : GoodIn wt_tbl (wsV RL 188 RX3 yX3_ahead (.code yX3_ahead cX3_ahead 5 (some .int) :: wt_tbl)) := wt_gV tl_629 tl_630 tl_631 tl_1 tl_632
theorem hl_X3_ahead : yX3_ahead.cls = RX3 ∧ yX3_ahead.cls ≠ "java/lang/invoke/MethodHandle" ∧ yX3_ahead.cls ≠ "java/lang/invoke/VarHandle" ∧ (parseMethodDescriptor yX3_ahead.desc).map (fun d => d.parameters.length) = some 2 := by decide +kernel
theorem cl_191 : GoodIn wt_tbl (wsV RL 191 RX4 yX4_ahead (.code yX4_ahead cX4_ahead 4 (some .int) :: wt_tbl)) := wt_gV tl_1184 tl_1185 tl_1186 tl_5 tl_1187
theorem hl_X4_ahead : yX4_ahead.cls = RX4 ∧ yX4_ahead.cls ≠ "java/lang/invoke/MethodHandle" ∧ yX4_ahead.cls ≠ "java/lang/invoke/VarHandle" ∧ (parseMethodDescriptor yX4_ahead.desc).map (fun d => d.parameters.length) = some 2 := by decide +kernel
theorem cl_192 : GoodIn wt_tbl (wsV RL 192 RX3 yX3_bestLaw (.code yX3_bestLaw cX3_bestLaw 8 (some .int) :: wt_tbl)) := wt_gV tl_633 tl_634 tl_635 tl_1 tl_636
theorem hl_X3_bestLaw : yX3_bestLaw.cls = RX3 ∧ yX3_bestLaw.cls ≠ "java/lang/invoke/MethodHandle" ∧ yX3_bestLaw.cls ≠ "java/lang/invoke/VarHandle" ∧ (parseMethodDescriptor yX3_bestLaw.desc).map (fun d => d.parameters.length) = some 2 := by decide +kernel
theorem cl_195 : GoodIn wt_tbl (wsV RL 195 RX4 yX4_bestLaw (.code yX4_bestLaw cX4_bestLaw 9 (some .int) :: wt_tbl)) := wt_gV tl_1188 tl_1189 tl_1190 tl_5 tl_1191
theorem hl_X4_bestLaw : yX4_bestLaw.cls = RX4 ∧ yX4_bestLaw.cls ≠ "java/lang/invoke/MethodHandle" ∧ yX4_bestLaw.cls ≠ "java/lang/invoke/VarHandle" ∧ (parseMethodDescriptor yX4_bestLaw.desc).map (fun d => d.parameters.length) = some 2 := by decide +kernel
theorem cl_196 : GoodIn wt_tbl (wsV RL 196 RX3 yX3_newcomer (.code yX3_newcomer cX3_newcomer 8 (some .int) :: wt_tbl)) := wt_gV tl_637 tl_638 tl_639 tl_1 tl_640
theorem hl_X3_newcomer : yX3_newcomer.cls = RX3 ∧ yX3_newcomer.cls ≠ "java/lang/invoke/MethodHandle" ∧ yX3_newcomer.cls ≠ "java/lang/invoke/VarHandle" ∧ (parseMethodDescriptor yX3_newcomer.desc).map (fun d => d.parameters.length) = some 3 := by decide +kernel
theorem cl_199 : GoodIn wt_tbl (wsV RL 199 RX4 yX4_newcomer (.code yX4_newcomer cX4_newcomer 11 (some .int) :: wt_tbl)) := wt_gV tl_1192 tl_1193 tl_1194 tl_5 tl_1195
theorem hl_X4_newcomer : yX4_newcomer.cls = RX4 ∧ yX4_newcomer.cls ≠ "java/lang/invoke/MethodHandle" ∧ yX4_newcomer.cls ≠ "java/lang/invoke/VarHandle" ∧ (parseMethodDescriptor yX4_newcomer.desc).map (fun d => d.parameters.length) = some 3 := by decide +kernel
theorem cl_200 : GoodIn wt_tbl (wsV RL 200 RX3 yX3_mostSeen (.code yX3_mostSeen cX3_mostSeen 7 (some .int) :: wt_tbl)) := wt_gV tl_645 tl_646 tl_647 tl_1 tl_648
theorem hl_X3_mostSeen : yX3_mostSeen.cls = RX3 ∧ yX3_mostSeen.cls ≠ "java/lang/invoke/MethodHandle" ∧ yX3_mostSeen.cls ≠ "java/lang/invoke/VarHandle" ∧ (parseMethodDescriptor yX3_mostSeen.desc).map (fun d => d.parameters.length) = some 1 := by decide +kernel
theorem cl_203 : GoodIn wt_tbl (wsV RL 203 RX4 yX4_mostSeen (.code yX4_mostSeen cX4_mostSeen 4 (some .int) :: wt_tbl)) := wt_gV tl_1196 tl_1197 tl_1198 tl_5 tl_1199
theorem hl_X4_mostSeen : yX4_mostSeen.cls = RX4 ∧ yX4_mostSeen.cls ≠ "java/lang/invoke/MethodHandle" ∧ yX4_mostSeen.cls ≠ "java/lang/invoke/VarHandle" ∧ (parseMethodDescriptor yX4_mostSeen.desc).map (fun d => d.parameters.length) = some 1 := by decide +kernel
theorem cl_204 : GoodIn wt_tbl (wsV RL 204 RX3 yX3_duels (.code yX3_duels cX3_duels 6 (some .int) :: wt_tbl)) := wt_gV tl_653 tl_654 tl_655 tl_1 tl_656
theorem hl_X3_duels : yX3_duels.cls = RX3 ∧ yX3_duels.cls ≠ "java/lang/invoke/MethodHandle" ∧ yX3_duels.cls ≠ "java/lang/invoke/VarHandle" ∧ (parseMethodDescriptor yX3_duels.desc).map (fun d => d.parameters.length) = some 2 := by decide +kernel
theorem cl_207 : GoodIn wt_tbl (wsV RL 207 RX4 yX4_duels (.code yX4_duels cX4_duels 5 (some .int) :: wt_tbl)) := wt_gV tl_1204 tl_1205 tl_1206 tl_5 tl_1207
theorem hl_X4_duels : yX4_duels.cls = RX4 ∧ yX4_duels.cls ≠ "java/lang/invoke/MethodHandle" ∧ yX4_duels.cls ≠ "java/lang/invoke/VarHandle" ∧ (parseMethodDescriptor yX4_duels.desc).map (fun d => d.parameters.length) = some 2 := by decide +kernel
theorem cl_208 : GoodIn wt_tbl (wsV RL 208 RX3 yX3_row (.code yX3_row cX3_row 3 (some .int) :: wt_tbl)) := wt_gV tl_657 tl_658 tl_659 tl_1 tl_660
theorem hl_X3_row : yX3_row.cls = RX3 ∧ yX3_row.cls ≠ "java/lang/invoke/MethodHandle" ∧ yX3_row.cls ≠ "java/lang/invoke/VarHandle" ∧ (parseMethodDescriptor yX3_row.desc).map (fun d => d.parameters.length) = some 1 := by decide +kernel
theorem cl_211 : GoodIn wt_tbl (wsV RL 211 RX4 yX4_row (.code yX4_row cX4_row 2 (some .int) :: wt_tbl)) := wt_gV tl_1208 tl_1209 tl_1210 tl_5 tl_1211
theorem hl_X4_row : yX4_row.cls = RX4 ∧ yX4_row.cls ≠ "java/lang/invoke/MethodHandle" ∧ yX4_row.cls ≠ "java/lang/invoke/VarHandle" ∧ (parseMethodDescriptor yX4_row.desc).map (fun d => d.parameters.length) = some 1 := by decide +kernel
theorem cl_212 : GoodIn wt_tbl (wsV RL 212 RX3 yX3_judge (.code yX3_judge cX3_judge 4 (some .int) :: wt_tbl)) := wt_gV tl_661 tl_662 tl_663 tl_1 tl_664
theorem hl_X3_judge : yX3_judge.cls = RX3 ∧ yX3_judge.cls ≠ "java/lang/invoke/MethodHandle" ∧ yX3_judge.cls ≠ "java/lang/invoke/VarHandle" ∧ (parseMethodDescriptor yX3_judge.desc).map (fun d => d.parameters.length) = some 1 := by decide +kernel
theorem cl_215 : GoodIn wt_tbl (wsV RL 215 RX4 yX4_judge (.code yX4_judge cX4_judge 5 (some .int) :: wt_tbl)) := wt_gV tl_1212 tl_1213 tl_1214 tl_5 tl_1215
theorem hl_X4_judge : yX4_judge.cls = RX4 ∧ yX4_judge.cls ≠ "java/lang/invoke/MethodHandle" ∧ yX4_judge.cls ≠ "java/lang/invoke/VarHandle" ∧ (parseMethodDescriptor yX4_judge.desc).map (fun d => d.parameters.length) = some 1 := by decide +kernel
theorem cl_216 : GoodIn wt_tbl (wsV RL 216 RX3 yX3_clear (.code yX3_clear cX3_clear 2 (some .int) :: wt_tbl)) := wt_gV tl_665 tl_666 tl_667 tl_1 tl_668
theorem hl_X3_clear : yX3_clear.cls = RX3 ∧ yX3_clear.cls ≠ "java/lang/invoke/MethodHandle" ∧ yX3_clear.cls ≠ "java/lang/invoke/VarHandle" ∧ (parseMethodDescriptor yX3_clear.desc).map (fun d => d.parameters.length) = some 0 := by decide +kernel
theorem cl_219 : GoodIn wt_tbl (wsV RL 219 RX4 yX4_clear (.code yX4_clear cX4_clear 2 (some .int) :: wt_tbl)) := wt_gV tl_1216 tl_1217 tl_1218 tl_5 tl_1219
theorem hl_X4_clear : yX4_clear.cls = RX4 ∧ yX4_clear.cls ≠ "java/lang/invoke/MethodHandle" ∧ yX4_clear.cls ≠ "java/lang/invoke/VarHandle" ∧ (parseMethodDescriptor yX4_clear.desc).map (fun d => d.parameters.length) = some 0 := by decide +kernel
theorem cl_220 : GoodIn wt_tbl (wsV RL 220 RX3 yX3_lots (.code yX3_lots cX3_lots 9 (some .int) :: wt_tbl)) := wt_gV tl_669 tl_670 tl_671 tl_1 tl_672
theorem hl_X3_lots : yX3_lots.cls = RX3 ∧ yX3_lots.cls ≠ "java/lang/invoke/MethodHandle" ∧ yX3_lots.cls ≠ "java/lang/invoke/VarHandle" ∧ (parseMethodDescriptor yX3_lots.desc).map (fun d => d.parameters.length) = some 3 := by decide +kernel
theorem cl_223 : GoodIn wt_tbl (wsV RL 223 RX4 yX4_lots (.code yX4_lots cX4_lots 10 (some .int) :: wt_tbl)) := wt_gV tl_1220 tl_1221 tl_1222 tl_5 tl_1223
theorem hl_X4_lots : yX4_lots.cls = RX4 ∧ yX4_lots.cls ≠ "java/lang/invoke/MethodHandle" ∧ yX4_lots.cls ≠ "java/lang/invoke/VarHandle" ∧ (parseMethodDescriptor yX4_lots.desc).map (fun d => d.parameters.length) = some 3 := by decide +kernel
theorem cl_224 : GoodIn wt_tbl (wsV RL 224 RX3 yX3_image (.code yX3_image cX3_image 1 (some .int) :: wt_tbl)) := wt_gV tl_687 tl_688 tl_689 tl_1 tl_690
theorem hl_X3_image : yX3_image.cls = RX3 ∧ yX3_image.cls ≠ "java/lang/invoke/MethodHandle" ∧ yX3_image.cls ≠ "java/lang/invoke/VarHandle" ∧ (parseMethodDescriptor yX3_image.desc).map (fun d => d.parameters.length) = some 0 := by decide +kernel
theorem cl_227 : GoodIn wt_tbl (wsV RL 227 RX4 yX4_image (.code yX4_image cX4_image 1 (some .int) :: wt_tbl)) := wt_gV tl_925 tl_926 tl_927 tl_5 tl_928
theorem hl_X4_image : yX4_image.cls = RX4 ∧ yX4_image.cls ≠ "java/lang/invoke/MethodHandle" ∧ yX4_image.cls ≠ "java/lang/invoke/VarHandle" ∧ (parseMethodDescriptor yX4_image.desc).map (fun d => d.parameters.length) = some 0 := by decide +kernel
theorem cl_228 : GoodIn wt_tbl (wsV RL 228 RX3 yX3_restore (.code yX3_restore cX3_restore 1 (some .int) :: wt_tbl)) := wt_gV tl_691 tl_692 tl_693 tl_1 tl_694
theorem hl_X3_restore : yX3_restore.cls = RX3 ∧ yX3_restore.cls ≠ "java/lang/invoke/MethodHandle" ∧ yX3_restore.cls ≠ "java/lang/invoke/VarHandle" ∧ (parseMethodDescriptor yX3_restore.desc).map (fun d => d.parameters.length) = some 0 := by decide +kernel
theorem cl_231 : GoodIn wt_tbl (wsV RL 231 RX4 yX4_restore (.code yX4_restore cX4_restore 1 (some .int) :: wt_tbl)) := wt_gV tl_929 tl_930 tl_931 tl_5 tl_932
theorem hl_X4_restore : yX4_restore.cls = RX4 ∧ yX4_restore.cls ≠ "java/lang/invoke/MethodHandle" ∧ yX4_restore.cls ≠ "java/lang/invoke/VarHandle" ∧ (parseMethodDescriptor yX4_restore.desc).map (fun d => d.parameters.length) = some 0 := by decide +kernel
theorem cl_232 : GoodIn wt_tbl (wsV RL 232 RX3 yX3_count (.code yX3_count cX3_count 2 (some .int) :: wt_tbl)) := wt_gV tl_695 tl_696 tl_697 tl_1 tl_698
theorem hl_X3_count : yX3_count.cls = RX3 ∧ yX3_count.cls ≠ "java/lang/invoke/MethodHandle" ∧ yX3_count.cls ≠ "java/lang/invoke/VarHandle" ∧ (parseMethodDescriptor yX3_count.desc).map (fun d => d.parameters.length) = some 1 := by decide +kernel
theorem cl_235 : GoodIn wt_tbl (wsV RL 235 RX4 yX4_count (.code yX4_count cX4_count 4 (some .int) :: wt_tbl)) := wt_gV tl_1231 tl_1232 tl_1233 tl_5 tl_1234
theorem hl_X4_count : yX4_count.cls = RX4 ∧ yX4_count.cls ≠ "java/lang/invoke/MethodHandle" ∧ yX4_count.cls ≠ "java/lang/invoke/VarHandle" ∧ (parseMethodDescriptor yX4_count.desc).map (fun d => d.parameters.length) = some 1 := by decide +kernel
/-- what the walk asks of feed -/
def wl_ok_0 (I : Mem → Prop) (F : Nat) : Prop := ∀ (σ : Mem) (a1 : Int32), I σ → ∃ (r1 : Int32) (σ1 : Mem) (r2 : Int32) (σ2 : Mem), f_X3_feed F a1 σ = some (r1, σ1) ∧ f_X4_feed F a1 σ1 = some (r2, σ2) ∧ I σ2
/-- what the walk asks of terrace -/
def wl_ok_1 (I : Mem → Prop) (F : Nat) : Prop := ∀ (σ : Mem), I σ → ∃ (r1 : Int32) (σ1 : Mem) (r2 : Int32) (σ2 : Mem), f_X3_terrace F σ = some (r1, σ1) ∧ f_X4_terrace F σ1 = some (r2, σ2) ∧ I σ2
/-- what the walk asks of paneOf -/
def wl_ok_2 (I : Mem → Prop) (F : Nat) : Prop := ∀ (σ : Mem) (a1 : Int32) (a2 : Int32), I σ → ∃ (r1 : Int32) (σ1 : Mem) (r2 : Int32) (σ2 : Mem), f_X3_paneOf F a1 a2 σ = some (r1, σ1) ∧ f_X4_paneOf F a1 a2 σ1 = some (r2, σ2) ∧ I σ2
/-- what the walk asks of lookerOf -/
def wl_ok_3 (I : Mem → Prop) (F : Nat) : Prop := ∀ (σ : Mem) (a1 : Int32) (a2 : Int32), I σ → ∃ (r1 : Int32) (σ1 : Mem) (r2 : Int32) (σ2 : Mem), f_X3_lookerOf F a1 a2 σ = some (r1, σ1) ∧ f_X4_lookerOf F a1 a2 σ1 = some (r2, σ2) ∧ I σ2
/-- what the walk asks of pane -/
def wl_ok_4 (I : Mem → Prop) (F : Nat) : Prop := ∀ (σ : Mem) (a1 : Int32), I σ → ∃ (r1 : Int32) (σ1 : Mem) (r2 : Int32) (σ2 : Mem), f_X3_pane F a1 σ = some (r1, σ1) ∧ f_X4_pane F a1 σ1 = some (r2, σ2) ∧ I σ2
/-- what the walk asks of looker -/
def wl_ok_5 (I : Mem → Prop) (F : Nat) : Prop := ∀ (σ : Mem) (a1 : Int32) (a2 : Int32), I σ → ∃ (r1 : Int32) (σ1 : Mem) (r2 : Int32) (σ2 : Mem), f_X3_looker F a1 a2 σ = some (r1, σ1) ∧ f_X4_looker F a1 a2 σ1 = some (r2, σ2) ∧ I σ2
/-- what the walk asks of stands -/
def wl_ok_6 (I : Mem → Prop) (F : Nat) : Prop := ∀ (σ : Mem) (a1 : Int32) (a2 : Int32) (a3 : Int32) (a4 : Int32), I σ → ∃ (r1 : Int32) (σ1 : Mem) (r2 : Int32) (σ2 : Mem), f_X3_stands F a1 a2 a3 a4 σ = some (r1, σ1) ∧ f_X4_stands F a1 a2 a3 a4 σ1 = some (r2, σ2) ∧ I σ2
/-- what the walk asks of roster -/
def wl_ok_7 (I : Mem → Prop) (F : Nat) : Prop := ∀ (σ : Mem) (a1 : Int32) (a2 : Int32), I σ → ∃ (r1 : Int32) (σ1 : Mem) (r2 : Int32) (σ2 : Mem), f_X3_roster F a1 a2 σ = some (r1, σ1) ∧ f_X4_roster F a1 a2 σ1 = some (r2, σ2) ∧ I σ2
/-- what the walk asks of wall -/
def wl_ok_8 (I : Mem → Prop) (F : Nat) : Prop := ∀ (σ : Mem) (a1 : Int32) (a2 : Int32), I σ → ∃ (r1 : Int32) (σ1 : Mem) (r2 : Int32) (σ2 : Mem), f_X3_wall F a1 a2 σ = some (r1, σ1) ∧ f_X4_wall F a1 a2 σ1 = some (r2, σ2) ∧ I σ2
/-- what the walk asks of worth -/
def wl_ok_9 (I : Mem → Prop) (F : Nat) : Prop := ∀ (σ : Mem) (a1 : Int32) (a2 : Int32), I σ → ∃ (r1 : Int32) (σ1 : Mem) (r2 : Int32) (σ2 : Mem), f_X3_worth F a1 a2 σ = some (r1, σ1) ∧ f_X4_worth F a1 a2 σ1 = some (r2, σ2) ∧ I σ2
/-- what the walk asks of law -/
def wl_ok_10 (I : Mem → Prop) (F : Nat) : Prop := ∀ (σ : Mem) (a1 : Int32), I σ → ∃ (r1 : Int32) (σ1 : Mem) (r2 : Int32) (σ2 : Mem), f_X3_law F a1 σ = some (r1, σ1) ∧ f_X4_law F a1 σ1 = some (r2, σ2) ∧ I σ2
/-- what the walk asks of days -/
def wl_ok_11 (I : Mem → Prop) (F : Nat) : Prop := ∀ (σ : Mem) (a1 : Int32), I σ → ∃ (r1 : Int32) (σ1 : Mem) (r2 : Int32) (σ2 : Mem), f_X3_days F a1 σ = some (r1, σ1) ∧ f_X4_days F a1 σ1 = some (r2, σ2) ∧ I σ2
/-- what the walk asks of back -/
def wl_ok_12 (I : Mem → Prop) (F : Nat) : Prop := ∀ (σ : Mem), I σ → ∃ (r1 : Int32) (σ1 : Mem) (r2 : Int32) (σ2 : Mem), f_X3_back F σ = some (r1, σ1) ∧ f_X4_back F σ1 = some (r2, σ2) ∧ I σ2
/-- what the walk asks of counts -/
def wl_ok_13 (I : Mem → Prop) (F : Nat) : Prop := ∀ (σ : Mem) (a1 : Int32) (a2 : Int32) (a3 : Int32), I σ → ∃ (r1 : Int32) (σ1 : Mem) (r2 : Int32) (σ2 : Mem), f_X3_counts F a1 a2 a3 σ = some (r1, σ1) ∧ f_X4_counts F a1 a2 a3 σ1 = some (r2, σ2) ∧ I σ2
/-- what the walk asks of owner -/
def wl_ok_14 (I : Mem → Prop) (F : Nat) : Prop := ∀ (σ : Mem) (a1 : Int32) (a2 : Int32), I σ → ∃ (r1 : Int32) (σ1 : Mem) (r2 : Int32) (σ2 : Mem), f_X3_owner F a1 a2 σ = some (r1, σ1) ∧ f_X4_owner F a1 a2 σ1 = some (r2, σ2) ∧ I σ2
/-- what the walk asks of owns -/
def wl_ok_15 (I : Mem → Prop) (F : Nat) : Prop := ∀ (σ : Mem) (a1 : Int32) (a2 : Int32) (a3 : Int32), I σ → ∃ (r1 : Int32) (σ1 : Mem) (r2 : Int32) (σ2 : Mem), f_X3_owns F a1 a2 a3 σ = some (r1, σ1) ∧ f_X4_owns F a1 a2 a3 σ1 = some (r2, σ2) ∧ I σ2
/-- what the walk asks of nobodys -/
def wl_ok_16 (I : Mem → Prop) (F : Nat) : Prop := ∀ (σ : Mem) (a1 : Int32), I σ → ∃ (r1 : Int32) (σ1 : Mem) (r2 : Int32) (σ2 : Mem), f_X3_nobodys F a1 σ = some (r1, σ1) ∧ f_X4_nobodys F a1 σ1 = some (r2, σ2) ∧ I σ2
/-- what the walk asks of from -/
def wl_ok_17 (I : Mem → Prop) (F : Nat) : Prop := ∀ (σ : Mem) (a1 : Int32) (a2 : Int32), I σ → ∃ (r1 : Int32) (σ1 : Mem) (r2 : Int32) (σ2 : Mem), f_X3_from F a1 a2 σ = some (r1, σ1) ∧ f_X4_from F a1 a2 σ1 = some (r2, σ2) ∧ I σ2
/-- what the walk asks of lost -/
def wl_ok_18 (I : Mem → Prop) (F : Nat) : Prop := ∀ (σ : Mem) (a1 : Int32), I σ → ∃ (r1 : Int32) (σ1 : Mem) (r2 : Int32) (σ2 : Mem), f_X3_lost F a1 σ = some (r1, σ1) ∧ f_X4_lost F a1 σ1 = some (r2, σ2) ∧ I σ2
/-- what the walk asks of richest -/
def wl_ok_19 (I : Mem → Prop) (F : Nat) : Prop := ∀ (σ : Mem) (a1 : Int32) (a2 : Int32), I σ → ∃ (r1 : Int32) (σ1 : Mem) (r2 : Int32) (σ2 : Mem), f_X3_richest F a1 a2 σ = some (r1, σ1) ∧ f_X4_richest F a1 a2 σ1 = some (r2, σ2) ∧ I σ2
/-- what the walk asks of staredOut -/
def wl_ok_20 (I : Mem → Prop) (F : Nat) : Prop := ∀ (σ : Mem) (a1 : Int32) (a2 : Int32) (a3 : Int32), I σ → ∃ (r1 : Int32) (σ1 : Mem) (r2 : Int32) (σ2 : Mem), f_X3_staredOut F a1 a2 a3 σ = some (r1, σ1) ∧ f_X4_staredOut F a1 a2 a3 σ1 = some (r2, σ2) ∧ I σ2
/-- what the walk asks of moreHours -/
def wl_ok_21 (I : Mem → Prop) (F : Nat) : Prop := ∀ (σ : Mem) (a1 : Int32) (a2 : Int32) (a3 : Int32), I σ → ∃ (r1 : Int32) (σ1 : Mem) (r2 : Int32) (σ2 : Mem), f_X3_moreHours F a1 a2 a3 σ = some (r1, σ1) ∧ f_X4_moreHours F a1 a2 a3 σ1 = some (r2, σ2) ∧ I σ2
/-- what the walk asks of bestPane -/
def wl_ok_22 (I : Mem → Prop) (F : Nat) : Prop := ∀ (σ : Mem) (a1 : Int32) (a2 : Int32) (a3 : Int32) (a4 : Int32), I σ → ∃ (r1 : Int32) (σ1 : Mem) (r2 : Int32) (σ2 : Mem), f_X3_bestPane F a1 a2 a3 a4 σ = some (r1, σ1) ∧ f_X4_bestPane F a1 a2 a3 a4 σ1 = some (r2, σ2) ∧ I σ2
/-- what the walk asks of freeHours -/
def wl_ok_23 (I : Mem → Prop) (F : Nat) : Prop := ∀ (σ : Mem) (a1 : Int32) (a2 : Int32), I σ → ∃ (r1 : Int32) (σ1 : Mem) (r2 : Int32) (σ2 : Mem), f_X3_freeHours F a1 a2 σ = some (r1, σ1) ∧ f_X4_freeHours F a1 a2 σ1 = some (r2, σ2) ∧ I σ2 ∧ r1 = r2
/-- what the walk asks of cover -/
def wl_ok_24 (I : Mem → Prop) (F : Nat) : Prop := ∀ (σ : Mem), I σ → ∃ (r1 : Int32) (σ1 : Mem) (r2 : Int32) (σ2 : Mem), f_X3_cover F σ = some (r1, σ1) ∧ f_X4_cover F σ1 = some (r2, σ2) ∧ I σ2
/-- what the walk asks of shown -/
def wl_ok_25 (I : Mem → Prop) (F : Nat) : Prop := ∀ (σ : Mem) (a1 : Int32), I σ → ∃ (r1 : Int32) (σ1 : Mem) (r2 : Int32) (σ2 : Mem), f_X3_shown F a1 σ = some (r1, σ1) ∧ f_X4_shown F a1 σ1 = some (r2, σ2) ∧ I σ2
/-- what the walk asks of walls -/
def wl_ok_26 (I : Mem → Prop) (F : Nat) : Prop := ∀ (σ : Mem) (a1 : Int32) (a2 : Int32) (a3 : Int32), I σ → ∃ (r1 : Int32) (σ1 : Mem) (r2 : Int32) (σ2 : Mem), f_X3_walls F a1 a2 a3 σ = some (r1, σ1) ∧ f_X4_walls F a1 a2 a3 σ1 = some (r2, σ2) ∧ I σ2
/-- what the walk asks of share -/
def wl_ok_27 (I : Mem → Prop) (F : Nat) : Prop := ∀ (σ : Mem) (a1 : Int32) (a2 : Int32) (a3 : Int32), I σ → ∃ (r1 : Int64) (σ1 : Mem) (r2 : Int64) (σ2 : Mem), f_X3_share F a1 a2 a3 σ = some (r1, σ1) ∧ f_X4_share F a1 a2 a3 σ1 = some (r2, σ2) ∧ I σ2
/-- what the walk asks of two -/
def wl_ok_28 (I : Mem → Prop) (F : Nat) : Prop := ∀ (σ : Mem) (a1 : Int32) (a2 : Int32) (a3 : Int32) (a4 : Int32), I σ → ∃ (r1 : Int32) (σ1 : Mem) (r2 : Int32) (σ2 : Mem), f_X3_two F a1 a2 a3 a4 σ = some (r1, σ1) ∧ f_X4_two F a1 a2 a3 a4 σ1 = some (r2, σ2) ∧ I σ2
/-- what the walk asks of whichLaw -/
def wl_ok_29 (I : Mem → Prop) (F : Nat) : Prop := ∀ (σ : Mem), I σ → ∃ (r1 : Int32) (σ1 : Mem) (r2 : Int32) (σ2 : Mem), f_X3_whichLaw F σ = some (r1, σ1) ∧ f_X4_whichLaw F σ1 = some (r2, σ2) ∧ I σ2
/-- what the walk asks of whichKind -/
def wl_ok_30 (I : Mem → Prop) (F : Nat) : Prop := ∀ (σ : Mem) (a1 : Int32) (a2 : Int32) (a3 : Int32), I σ → ∃ (r1 : Int32) (σ1 : Mem) (r2 : Int32) (σ2 : Mem), f_X3_whichKind F a1 a2 a3 σ = some (r1, σ1) ∧ f_X4_whichKind F a1 a2 a3 σ1 = some (r2, σ2) ∧ I σ2
/-- what the walk asks of ill -/
def wl_ok_31 (I : Mem → Prop) (F : Nat) : Prop := ∀ (σ : Mem) (a1 : Int32) (a2 : Int32) (a3 : Int32) (a4 : Int32) (a5 : Int32), I σ → ∃ (r1 : Int64) (σ1 : Mem) (r2 : Int64) (σ2 : Mem), f_X3_ill F a1 a2 a3 a4 a5 σ = some (r1, σ1) ∧ f_X4_ill F a1 a2 a3 a4 a5 σ1 = some (r2, σ2) ∧ I σ2
/-- what the walk asks of busy -/
def wl_ok_32 (I : Mem → Prop) (F : Nat) : Prop := ∀ (σ : Mem) (a1 : Int32), I σ → ∃ (r1 : Int32) (σ1 : Mem) (r2 : Int32) (σ2 : Mem), f_X3_busy F a1 σ = some (r1, σ1) ∧ f_X4_busy F a1 σ1 = some (r2, σ2) ∧ I σ2
/-- what the walk asks of together -/
def wl_ok_33 (I : Mem → Prop) (F : Nat) : Prop := ∀ (σ : Mem) (a1 : Int32) (a2 : Int32), I σ → ∃ (r1 : Int32) (σ1 : Mem) (r2 : Int32) (σ2 : Mem), f_X3_together F a1 a2 σ = some (r1, σ1) ∧ f_X4_together F a1 a2 σ1 = some (r2, σ2) ∧ I σ2
/-- what the walk asks of swap -/
def wl_ok_34 (I : Mem → Prop) (F : Nat) : Prop := ∀ (σ : Mem) (a1 : Int32), I σ → ∃ (r1 : Int32) (σ1 : Mem) (r2 : Int32) (σ2 : Mem), f_X3_swap F a1 σ = some (r1, σ1) ∧ f_X4_swap F a1 σ1 = some (r2, σ2) ∧ I σ2
/-- what the walk asks of heir -/
def wl_ok_35 (I : Mem → Prop) (F : Nat) : Prop := ∀ (σ : Mem) (a1 : Int32) (a2 : Int32) (a3 : Int32), I σ → ∃ (r1 : Int32) (σ1 : Mem) (r2 : Int32) (σ2 : Mem), f_X3_heir F a1 a2 a3 σ = some (r1, σ1) ∧ f_X4_heir F a1 a2 a3 σ1 = some (r2, σ2) ∧ I σ2
/-- what the walk asks of even -/
def wl_ok_36 (I : Mem → Prop) (F : Nat) : Prop := ∀ (σ : Mem) (a1 : Int32), I σ → ∃ (r1 : Int32) (σ1 : Mem) (r2 : Int32) (σ2 : Mem), f_X3_even F a1 σ = some (r1, σ1) ∧ f_X4_even F a1 σ1 = some (r2, σ2) ∧ I σ2
/-- what the walk asks of last -/
def wl_ok_37 (I : Mem → Prop) (F : Nat) : Prop := ∀ (σ : Mem), I σ → ∃ (r1 : Int32) (σ1 : Mem) (r2 : Int32) (σ2 : Mem), f_X3_last F σ = some (r1, σ1) ∧ f_X4_last F σ1 = some (r2, σ2) ∧ I σ2
/-- what the walk asks of joint -/
def wl_ok_38 (I : Mem → Prop) (F : Nat) : Prop := ∀ (σ : Mem) (a1 : Int32) (a2 : Int32) (a3 : Int32), I σ → ∃ (r1 : Int32) (σ1 : Mem) (r2 : Int32) (σ2 : Mem), f_X3_joint F a1 a2 a3 σ = some (r1, σ1) ∧ f_X4_joint F a1 a2 a3 σ1 = some (r2, σ2) ∧ I σ2
/-- what the walk asks of rank -/
def wl_ok_39 (I : Mem → Prop) (F : Nat) : Prop := ∀ (σ : Mem) (a1 : Int32) (a2 : Int32), I σ → ∃ (r1 : Int32) (σ1 : Mem) (r2 : Int32) (σ2 : Mem), f_X3_rank F a1 a2 σ = some (r1, σ1) ∧ f_X4_rank F a1 a2 σ1 = some (r2, σ2) ∧ I σ2
/-- what the walk asks of gap -/
def wl_ok_40 (I : Mem → Prop) (F : Nat) : Prop := ∀ (σ : Mem) (a1 : Int32) (a2 : Int32), I σ → ∃ (r1 : Int32) (σ1 : Mem) (r2 : Int32) (σ2 : Mem), f_X3_gap F a1 a2 σ = some (r1, σ1) ∧ f_X4_gap F a1 a2 σ1 = some (r2, σ2) ∧ I σ2
/-- what the walk asks of wasted -/
def wl_ok_41 (I : Mem → Prop) (F : Nat) : Prop := ∀ (σ : Mem) (a1 : Int32) (a2 : Int32), I σ → ∃ (r1 : Int32) (σ1 : Mem) (r2 : Int32) (σ2 : Mem), f_X3_wasted F a1 a2 σ = some (r1, σ1) ∧ f_X4_wasted F a1 a2 σ1 = some (r2, σ2) ∧ I σ2
/-- what the walk asks of ahead -/
def wl_ok_42 (I : Mem → Prop) (F : Nat) : Prop := ∀ (σ : Mem) (a1 : Int32) (a2 : Int32), I σ → ∃ (r1 : Int32) (σ1 : Mem) (r2 : Int32) (σ2 : Mem), f_X3_ahead F a1 a2 σ = some (r1, σ1) ∧ f_X4_ahead F a1 a2 σ1 = some (r2, σ2) ∧ I σ2
/-- what the walk asks of bestLaw -/
def wl_ok_43 (I : Mem → Prop) (F : Nat) : Prop := ∀ (σ : Mem) (a1 : Int32) (a2 : Int32), I σ → ∃ (r1 : Int32) (σ1 : Mem) (r2 : Int32) (σ2 : Mem), f_X3_bestLaw F a1 a2 σ = some (r1, σ1) ∧ f_X4_bestLaw F a1 a2 σ1 = some (r2, σ2) ∧ I σ2
/-- what the walk asks of newcomer -/
def wl_ok_44 (I : Mem → Prop) (F : Nat) : Prop := ∀ (σ : Mem) (a1 : Int32) (a2 : Int32) (a3 : Int32), I σ → ∃ (r1 : Int32) (σ1 : Mem) (r2 : Int32) (σ2 : Mem), f_X3_newcomer F a1 a2 a3 σ = some (r1, σ1) ∧ f_X4_newcomer F a1 a2 a3 σ1 = some (r2, σ2) ∧ I σ2
/-- what the walk asks of mostSeen -/
def wl_ok_45 (I : Mem → Prop) (F : Nat) : Prop := ∀ (σ : Mem) (a1 : Int32), I σ → ∃ (r1 : Int32) (σ1 : Mem) (r2 : Int32) (σ2 : Mem), f_X3_mostSeen F a1 σ = some (r1, σ1) ∧ f_X4_mostSeen F a1 σ1 = some (r2, σ2) ∧ I σ2
/-- what the walk asks of duels -/
def wl_ok_46 (I : Mem → Prop) (F : Nat) : Prop := ∀ (σ : Mem) (a1 : Int32) (a2 : Int32), I σ → ∃ (r1 : Int32) (σ1 : Mem) (r2 : Int32) (σ2 : Mem), f_X3_duels F a1 a2 σ = some (r1, σ1) ∧ f_X4_duels F a1 a2 σ1 = some (r2, σ2) ∧ I σ2
/-- what the walk asks of row -/
def wl_ok_47 (I : Mem → Prop) (F : Nat) : Prop := ∀ (σ : Mem) (a1 : Int32), I σ → ∃ (r1 : Int32) (σ1 : Mem) (r2 : Int32) (σ2 : Mem), f_X3_row F a1 σ = some (r1, σ1) ∧ f_X4_row F a1 σ1 = some (r2, σ2) ∧ I σ2
/-- what the walk asks of judge -/
def wl_ok_48 (I : Mem → Prop) (F : Nat) : Prop := ∀ (σ : Mem) (a1 : Int32), I σ → ∃ (r1 : Int32) (σ1 : Mem) (r2 : Int32) (σ2 : Mem), f_X3_judge F a1 σ = some (r1, σ1) ∧ f_X4_judge F a1 σ1 = some (r2, σ2) ∧ I σ2
/-- what the walk asks of clear -/
def wl_ok_49 (I : Mem → Prop) (F : Nat) : Prop := ∀ (σ : Mem), I σ → ∃ (r1 : Int32) (σ1 : Mem) (r2 : Int32) (σ2 : Mem), f_X3_clear F σ = some (r1, σ1) ∧ f_X4_clear F σ1 = some (r2, σ2) ∧ I σ2
/-- what the walk asks of lots -/
def wl_ok_50 (I : Mem → Prop) (F : Nat) : Prop := ∀ (σ : Mem) (a1 : Int32) (a2 : Int32) (a3 : Int32), I σ → ∃ (r1 : Int32) (σ1 : Mem) (r2 : Int32) (σ2 : Mem), f_X3_lots F a1 a2 a3 σ = some (r1, σ1) ∧ f_X4_lots F a1 a2 a3 σ1 = some (r2, σ2) ∧ I σ2
/-- what the walk asks of image -/
def wl_ok_51 (I : Mem → Prop) (F : Nat) : Prop := ∀ (σ : Mem), I σ → ∃ (r1 : Int32) (σ1 : Mem) (r2 : Int32) (σ2 : Mem), f_X3_image F σ = some (r1, σ1) ∧ f_X4_image F σ1 = some (r2, σ2) ∧ I σ2
/-- what the walk asks of restore -/
def wl_ok_52 (I : Mem → Prop) (F : Nat) : Prop := ∀ (σ : Mem), I σ → ∃ (r1 : Int32) (σ1 : Mem) (r2 : Int32) (σ2 : Mem), f_X3_restore F σ = some (r1, σ1) ∧ f_X4_restore F σ1 = some (r2, σ2) ∧ I σ2
/-- what the walk asks of count -/
def wl_ok_53 (I : Mem → Prop) (F : Nat) : Prop := ∀ (σ : Mem) (a1 : Int32), I σ → ∃ (r1 : Int32) (σ1 : Mem) (r2 : Int32) (σ2 : Mem), f_X3_count F a1 σ = some (r1, σ1) ∧ f_X4_count F a1 σ1 = some (r2, σ2) ∧ I σ2
/-- what the walk of the law asks of the program's answers -/
def wl_OK (I : Mem → Prop) (F : Nat) : Prop := wl_ok_0 I F ∧ wl_ok_1 I F ∧ wl_ok_2 I F ∧ wl_ok_3 I F ∧ wl_ok_4 I F ∧ wl_ok_5 I F ∧ wl_ok_6 I F ∧ wl_ok_7 I F ∧ wl_ok_8 I F ∧ wl_ok_9 I F ∧ wl_ok_10 I F ∧ wl_ok_11 I F ∧ wl_ok_12 I F ∧ wl_ok_13 I F ∧ wl_ok_14 I F ∧ wl_ok_15 I F ∧ wl_ok_16 I F ∧ wl_ok_17 I F ∧ wl_ok_18 I F ∧ wl_ok_19 I F ∧ wl_ok_20 I F ∧ wl_ok_21 I F ∧ wl_ok_22 I F ∧ wl_ok_23 I F ∧ wl_ok_24 I F ∧ wl_ok_25 I F ∧ wl_ok_26 I F ∧ wl_ok_27 I F ∧ wl_ok_28 I F ∧ wl_ok_29 I F ∧ wl_ok_30 I F ∧ wl_ok_31 I F ∧ wl_ok_32 I F ∧ wl_ok_33 I F ∧ wl_ok_34 I F ∧ wl_ok_35 I F ∧ wl_ok_36 I F ∧ wl_ok_37 I F ∧ wl_ok_38 I F ∧ wl_ok_39 I F ∧ wl_ok_40 I F ∧ wl_ok_41 I F ∧ wl_ok_42 I F ∧ wl_ok_43 I F ∧ wl_ok_44 I F ∧ wl_ok_45 I F ∧ wl_ok_46 I F ∧ wl_ok_47 I F ∧ wl_ok_48 I F ∧ wl_ok_49 I F ∧ wl_ok_50 I F ∧ wl_ok_51 I F ∧ wl_ok_52 I F ∧ wl_ok_53 I F
