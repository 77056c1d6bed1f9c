/-! an instruction read out of its bytes: one row an opcode, once -/
theorem qs_sz (c : ByteArray) : c.size = c.data.toList.length := by cases c; rfl
theorem qs_get (c : ByteArray) (i : Nat) (h : i < c.size) : c.data.toList[i]? = some (c[i]'h) := by
  cases c with
  | mk a => exact List.getElem?_eq_getElem h
theorem qs_be {α β : Type} (R : Decoder α) (f : α → Decoder β) (B : ByteArray) (q : Nat) : Reader.runAt (R >>= f) B q = match Reader.runAt R B q with | .ok x => Reader.runAt (f x.1) B x.2 | .error er => .error er := by
  show (Except.bind (Reader.runAt R B q) (fun x => Reader.runAt (f x.1) B x.2)) = _
  cases Reader.runAt R B q <;> rfl
theorem qs_ue (B : ByteArray) (q : Nat) : Reader.runAt (Reader.u1 : Decoder Nat) B q = if h : q < B.size then .ok ((B[q]'h).toNat, q + 1) else .error (.truncated q) := by
  show (if h : q < B.size then ((do set (q + 1); pure (B[q]'h).toNat) : Decoder Nat) else throw (HasTruncated.truncated q)) B q = _
  by_cases h : q < B.size
  · rw [dif_pos h, dif_pos h]; rfl
  · rw [dif_neg h, dif_neg h]; rfl
theorem qs_de (B : ByteArray) (q : Nat) : decode B q = match Reader.runAt (Decoder.instr q) B q with | .ok x => .ok (x.1, x.2 - q) | .error er => .error er := by
  show (Except.bind (Reader.runAt (Decoder.instr q) B q) (fun x => Except.ok (x.1, x.2 - q))) = _
  cases Reader.runAt (Decoder.instr q) B q <;> rfl
def qa (c : ByteArray) (k b : Nat) : Bool := match c.data.toList[k]? with | some u => Nat.beq u.toNat b | none => false
theorem qa_get {c : ByteArray} {k b : Nat} (h : qa c k b = true) : ∃ h' : k < c.size, (c[k]'h').toNat = b := by
  unfold qa at h
  by_cases hk : k < c.size
  · refine ⟨hk, ?_⟩
    rw [qs_get c k hk] at h
    exact Nat.eq_of_beq_eq_true h
  · rw [qs_sz] at hk
    rw [List.getElem?_eq_none (Nat.not_lt.mp hk)] at h
    cases h
theorem qr_1 {c : ByteArray} {k b : Nat} (h : qa c k b = true) : Reader.runAt (Reader.u1 : Decoder Nat) c k = .ok (b, k + 1) := by
  obtain ⟨h', e⟩ := qa_get h
  rw [qs_ue, dif_pos h', e]
theorem qr_b {α β : Type} {R : Decoder α} {f : α → Decoder β} {B : ByteArray} {q n : Nat} {a : α} (h : Reader.runAt R B q = .ok (a, n)) : Reader.runAt (R >>= f) B q = Reader.runAt (f a) B n := by rw [qs_be, h]
theorem qr_m {α β : Type} {R : Decoder α} (f : α → β) {B : ByteArray} {q n : Nat} {a : α} (h : Reader.runAt R B q = .ok (a, n)) : Reader.runAt (f <$> R) B q = .ok (f a, n) := qr_b (f := fun a => (pure (f a) : Decoder β)) h
theorem qr_2 {c : ByteArray} {k x y : Nat} (h1 : qa c k x = true) (h2 : qa c (k + 1) y = true) : Reader.runAt (Reader.u2 : Decoder Nat) c k = .ok (x * 256 + y, k + 2) := (qr_b (f := fun hi => Reader.u1 >>= fun lo => (pure (hi * 256 + lo) : Decoder Nat)) (qr_1 h1)).trans (qr_b (f := fun lo => (pure (x * 256 + lo) : Decoder Nat)) (qr_1 h2))
def qo (b : Nat) (R : Decoder Instr) : Prop := ∀ k : Nat, ∃ g : Nat → Decoder Instr, Decoder.instr k = (Reader.u1 >>= g) ∧ g b = R
theorem qd {c : ByteArray} {pc b m : Nat} {i : Instr} {R : Decoder Instr} (o : qo b R) (h0 : qa c pc b = true) (hr : Reader.runAt R c (pc + 1) = .ok (i, pc + 1 + m)) : decode c pc = .ok (i, 1 + m) := by
  obtain ⟨g, e, hg⟩ := o pc
  rw [qs_de, e, qr_b (qr_1 h0), hg, hr]
  show Except.ok (i, pc + 1 + m - pc) = _
  rw [show pc + 1 + m - pc = 1 + m by omega]
def q3 (a b : Bool) : Bool := a && b
theorem q3_l {a b : Bool} (h : q3 a b = true) : a = true := by cases a <;> first | rfl | cases h
theorem q3_r {a b : Bool} (h : q3 a b = true) : b = true := by cases a <;> first | exact h | cases h
theorem qd_p {c : ByteArray} {pc b : Nat} {i : Instr} (o : qo b (pure i)) (h : qa c pc b = true) : decode c pc = .ok (i, 1) := qd (m := 0) o h rfl
theorem qd_1 {c : ByteArray} {pc b x : Nat} {f : Nat → Instr} (o : qo b (Reader.u1 >>= fun v => pure (f v))) (h : q3 (qa c pc b) (qa c (pc + 1) x) = true) : decode c pc = .ok (f x, 2) := qd (m := 1) o (q3_l h) (qr_b (qr_1 (q3_r h)))
theorem qd_s1 {c : ByteArray} {pc b x : Nat} {f : Int → Instr} {v : Int} (o : qo b (Reader.s1 >>= fun v => pure (f v))) (h : q3 (qa c pc b) (qa c (pc + 1) x) = true) (hv : Reader.signed 8 x = v) : decode c pc = .ok (f v, 2) := by
  subst hv
  exact qd (m := 1) o (q3_l h) (qr_b (qr_m _ (qr_1 (q3_r h))))
theorem qd_2 {c : ByteArray} {pc b x y n : Nat} {f : Nat → Instr} (o : qo b (Reader.u2 >>= fun v => pure (f v))) (h : q3 (qa c pc b) (q3 (qa c (pc + 1) x) (qa c (pc + 2) y)) = true) (hn : x * 256 + y = n) : decode c pc = .ok (f n, 3) := by
  subst hn
  exact qd (m := 2) o (q3_l h) (qr_b (qr_2 (q3_l (q3_r h)) (q3_r (q3_r h))))
theorem qd_s2 {c : ByteArray} {pc b x y : Nat} {f : Int → Instr} {v : Int} (o : qo b (Reader.s2 >>= fun v => pure (f v))) (h : q3 (qa c pc b) (q3 (qa c (pc + 1) x) (qa c (pc + 2) y)) = true) (hv : Reader.signed 16 (x * 256 + y) = v) : decode c pc = .ok (f v, 3) := by
  subst hv
  exact qd (m := 2) o (q3_l h) (qr_b (qr_m _ (qr_2 (q3_l (q3_r h)) (q3_r (q3_r h)))))
theorem qd_i {c : ByteArray} {pc b x y : Nat} {v : Int} (o : qo b (Reader.u1 >>= fun n => Reader.s1 >>= fun v => pure (.iinc n v))) (h : q3 (qa c pc b) (q3 (qa c (pc + 1) x) (qa c (pc + 2) y)) = true) (hv : Reader.signed 8 y = v) : decode c pc = .ok (.iinc x v, 3) := by
  subst hv
  exact qd (m := 2) o (q3_l h) ((qr_b (qr_1 (q3_l (q3_r h)))).trans (qr_b (qr_m _ (qr_1 (q3_r (q3_r h))))))
theorem qo_2 : qo 2 (pure (.iconst (-1))) := fun _ => ⟨_, rfl, rfl⟩
theorem qo_3 : qo 3 (pure (.iconst 0)) := fun _ => ⟨_, rfl, rfl⟩
theorem qo_4 : qo 4 (pure (.iconst 1)) := fun _ => ⟨_, rfl, rfl⟩
theorem qo_5 : qo 5 (pure (.iconst 2)) := fun _ => ⟨_, rfl, rfl⟩
theorem qo_6 : qo 6 (pure (.iconst 3)) := fun _ => ⟨_, rfl, rfl⟩
theorem qo_7 : qo 7 (pure (.iconst 4)) := fun _ => ⟨_, rfl, rfl⟩
theorem qo_8 : qo 8 (pure (.iconst 5)) := fun _ => ⟨_, rfl, rfl⟩
theorem qo_9 : qo 9 (pure (.lconst 0)) := fun _ => ⟨_, rfl, rfl⟩
theorem qo_10 : qo 10 (pure (.lconst 1)) := fun _ => ⟨_, rfl, rfl⟩
theorem qo_16 : qo 16 (Reader.s1 >>= fun v => pure (.bipush v)) := fun _ => ⟨_, rfl, rfl⟩
theorem qo_17 : qo 17 (Reader.s2 >>= fun v => pure (.sipush v)) := fun _ => ⟨_, rfl, rfl⟩
theorem qo_18 : qo 18 (Reader.u1 >>= fun v => pure (.ldc v)) := fun _ => ⟨_, rfl, rfl⟩
theorem qo_19 : qo 19 (Reader.u2 >>= fun v => pure (.ldc_w v)) := fun _ => ⟨_, rfl, rfl⟩
theorem qo_20 : qo 20 (Reader.u2 >>= fun v => pure (.ldc2_w v)) := fun _ => ⟨_, rfl, rfl⟩
theorem qo_21 : qo 21 (Reader.u1 >>= fun v => pure (.iload v)) := fun _ => ⟨_, rfl, rfl⟩
theorem qo_22 : qo 22 (Reader.u1 >>= fun v => pure (.lload v)) := fun _ => ⟨_, rfl, rfl⟩
theorem qo_26 : qo 26 (pure (.iload_n 0)) := fun _ => ⟨_, rfl, rfl⟩
theorem qo_27 : qo 27 (pure (.iload_n 1)) := fun _ => ⟨_, rfl, rfl⟩
theorem qo_28 : qo 28 (pure (.iload_n 2)) := fun _ => ⟨_, rfl, rfl⟩
theorem qo_29 : qo 29 (pure (.iload_n 3)) := fun _ => ⟨_, rfl, rfl⟩
theorem qo_30 : qo 30 (pure (.lload_n 0)) := fun _ => ⟨_, rfl, rfl⟩
theorem qo_32 : qo 32 (pure (.lload_n 2)) := fun _ => ⟨_, rfl, rfl⟩
theorem qo_42 : qo 42 (pure (.aload_n 0)) := fun _ => ⟨_, rfl, rfl⟩
theorem qo_43 : qo 43 (pure (.aload_n 1)) := fun _ => ⟨_, rfl, rfl⟩
theorem qo_44 : qo 44 (pure (.aload_n 2)) := fun _ => ⟨_, rfl, rfl⟩
theorem qo_46 : qo 46 (pure (.iaload)) := fun _ => ⟨_, rfl, rfl⟩
theorem qo_50 : qo 50 (pure (.aaload)) := fun _ => ⟨_, rfl, rfl⟩
theorem qo_54 : qo 54 (Reader.u1 >>= fun v => pure (.istore v)) := fun _ => ⟨_, rfl, rfl⟩
theorem qo_55 : qo 55 (Reader.u1 >>= fun v => pure (.lstore v)) := fun _ => ⟨_, rfl, rfl⟩
theorem qo_59 : qo 59 (pure (.istore_n 0)) := fun _ => ⟨_, rfl, rfl⟩
theorem qo_60 : qo 60 (pure (.istore_n 1)) := fun _ => ⟨_, rfl, rfl⟩
theorem qo_61 : qo 61 (pure (.istore_n 2)) := fun _ => ⟨_, rfl, rfl⟩
theorem qo_62 : qo 62 (pure (.istore_n 3)) := fun _ => ⟨_, rfl, rfl⟩
theorem qo_76 : qo 76 (pure (.astore_n 1)) := fun _ => ⟨_, rfl, rfl⟩
theorem qo_77 : qo 77 (pure (.astore_n 2)) := fun _ => ⟨_, rfl, rfl⟩
theorem qo_79 : qo 79 (pure (.iastore)) := fun _ => ⟨_, rfl, rfl⟩
theorem qo_87 : qo 87 (pure (.pop)) := fun _ => ⟨_, rfl, rfl⟩
theorem qo_88 : qo 88 (pure (.pop2)) := fun _ => ⟨_, rfl, rfl⟩
theorem qo_89 : qo 89 (pure (.dup)) := fun _ => ⟨_, rfl, rfl⟩
theorem qo_92 : qo 92 (pure (.dup2)) := fun _ => ⟨_, rfl, rfl⟩
theorem qo_96 : qo 96 (pure (.iadd)) := fun _ => ⟨_, rfl, rfl⟩
theorem qo_97 : qo 97 (pure (.ladd)) := fun _ => ⟨_, rfl, rfl⟩
theorem qo_100 : qo 100 (pure (.isub)) := fun _ => ⟨_, rfl, rfl⟩
theorem qo_101 : qo 101 (pure (.lsub)) := fun _ => ⟨_, rfl, rfl⟩
theorem qo_104 : qo 104 (pure (.imul)) := fun _ => ⟨_, rfl, rfl⟩
theorem qo_105 : qo 105 (pure (.lmul)) := fun _ => ⟨_, rfl, rfl⟩
theorem qo_108 : qo 108 (pure (.idiv)) := fun _ => ⟨_, rfl, rfl⟩
theorem qo_109 : qo 109 (pure (.ldiv)) := fun _ => ⟨_, rfl, rfl⟩
theorem qo_112 : qo 112 (pure (.irem)) := fun _ => ⟨_, rfl, rfl⟩
theorem qo_113 : qo 113 (pure (.lrem)) := fun _ => ⟨_, rfl, rfl⟩
theorem qo_116 : qo 116 (pure (.ineg)) := fun _ => ⟨_, rfl, rfl⟩
theorem qo_120 : qo 120 (pure (.ishl)) := fun _ => ⟨_, rfl, rfl⟩
theorem qo_122 : qo 122 (pure (.ishr)) := fun _ => ⟨_, rfl, rfl⟩
theorem qo_124 : qo 124 (pure (.iushr)) := fun _ => ⟨_, rfl, rfl⟩
theorem qo_126 : qo 126 (pure (.iand)) := fun _ => ⟨_, rfl, rfl⟩
theorem qo_128 : qo 128 (pure (.ior)) := fun _ => ⟨_, rfl, rfl⟩
theorem qo_130 : qo 130 (pure (.ixor)) := fun _ => ⟨_, rfl, rfl⟩
theorem qo_132 : qo 132 (Reader.u1 >>= fun n => Reader.s1 >>= fun v => pure (.iinc n v)) := fun _ => ⟨_, rfl, rfl⟩
theorem qo_133 : qo 133 (pure (.i2l)) := fun _ => ⟨_, rfl, rfl⟩
theorem qo_148 : qo 148 (pure (.lcmp)) := fun _ => ⟨_, rfl, rfl⟩
theorem qo_153 : qo 153 (Reader.s2 >>= fun v => pure (.ifCond .eq v)) := fun _ => ⟨_, rfl, rfl⟩
theorem qo_154 : qo 154 (Reader.s2 >>= fun v => pure (.ifCond .ne v)) := fun _ => ⟨_, rfl, rfl⟩
theorem qo_155 : qo 155 (Reader.s2 >>= fun v => pure (.ifCond .lt v)) := fun _ => ⟨_, rfl, rfl⟩
theorem qo_156 : qo 156 (Reader.s2 >>= fun v => pure (.ifCond .ge v)) := fun _ => ⟨_, rfl, rfl⟩
theorem qo_157 : qo 157 (Reader.s2 >>= fun v => pure (.ifCond .gt v)) := fun _ => ⟨_, rfl, rfl⟩
theorem qo_158 : qo 158 (Reader.s2 >>= fun v => pure (.ifCond .le v)) := fun _ => ⟨_, rfl, rfl⟩
theorem qo_159 : qo 159 (Reader.s2 >>= fun v => pure (.if_icmp .eq v)) := fun _ => ⟨_, rfl, rfl⟩
theorem qo_160 : qo 160 (Reader.s2 >>= fun v => pure (.if_icmp .ne v)) := fun _ => ⟨_, rfl, rfl⟩
theorem qo_161 : qo 161 (Reader.s2 >>= fun v => pure (.if_icmp .lt v)) := fun _ => ⟨_, rfl, rfl⟩
theorem qo_162 : qo 162 (Reader.s2 >>= fun v => pure (.if_icmp .ge v)) := fun _ => ⟨_, rfl, rfl⟩
theorem qo_163 : qo 163 (Reader.s2 >>= fun v => pure (.if_icmp .gt v)) := fun _ => ⟨_, rfl, rfl⟩
theorem qo_164 : qo 164 (Reader.s2 >>= fun v => pure (.if_icmp .le v)) := fun _ => ⟨_, rfl, rfl⟩
theorem qo_167 : qo 167 (Reader.s2 >>= fun v => pure (.goto v)) := fun _ => ⟨_, rfl, rfl⟩
theorem qo_172 : qo 172 (pure (.ireturn)) := fun _ => ⟨_, rfl, rfl⟩
theorem qo_173 : qo 173 (pure (.lreturn)) := fun _ => ⟨_, rfl, rfl⟩
theorem qo_177 : qo 177 (pure (.return_)) := fun _ => ⟨_, rfl, rfl⟩
theorem qo_180 : qo 180 (Reader.u2 >>= fun v => pure (.getfield v)) := fun _ => ⟨_, rfl, rfl⟩
theorem qo_181 : qo 181 (Reader.u2 >>= fun v => pure (.putfield v)) := fun _ => ⟨_, rfl, rfl⟩
theorem qo_182 : qo 182 (Reader.u2 >>= fun v => pure (.invokevirtual v)) := fun _ => ⟨_, rfl, rfl⟩
theorem qo_183 : qo 183 (Reader.u2 >>= fun v => pure (.invokespecial v)) := fun _ => ⟨_, rfl, rfl⟩
theorem qo_184 : qo 184 (Reader.u2 >>= fun v => pure (.invokestatic v)) := fun _ => ⟨_, rfl, rfl⟩
theorem qo_187 : qo 187 (Reader.u2 >>= fun v => pure (.new v)) := fun _ => ⟨_, rfl, rfl⟩
theorem qo_190 : qo 190 (pure (.arraylength)) := fun _ => ⟨_, rfl, rfl⟩
theorem qz_b {n m : Nat} (h : Nat.ble n m = true) : n ≤ m := Nat.le_of_ble_eq_true h
theorem qz_1 {c : ByteArray} {pc b : Nat} (f : Nat → Instr) (x : Nat) (o : qo b (Reader.u1 >>= fun v => pure (f v))) (h : q3 (qa c pc b) (qa c (pc + 1) x) = true) : decode c pc = .ok (f x, 2) := qd_1 o h
theorem qz_s1 {c : ByteArray} {pc b : Nat} {v : Int} (f : Int → Instr) (x : Nat) (o : qo b (Reader.s1 >>= fun v => pure (f v))) (h : q3 (qa c pc b) (qa c (pc + 1) x) = true) (hv : Reader.signed 8 x = v) : decode c pc = .ok (f v, 2) := qd_s1 o h hv
theorem qz_2 {c : ByteArray} {pc b n : Nat} (f : Nat → Instr) (x y : Nat) (o : qo b (Reader.u2 >>= fun v => pure (f v))) (h : q3 (qa c pc b) (q3 (qa c (pc + 1) x) (qa c (pc + 2) y)) = true) (hn : x * 256 + y = n) : decode c pc = .ok (f n, 3) := qd_2 o h hn
theorem qz_s2 {c : ByteArray} {pc b : Nat} {v : Int} (f : Int → Instr) (x y : Nat) (o : qo b (Reader.s2 >>= fun v => pure (f v))) (h : q3 (qa c pc b) (q3 (qa c (pc + 1) x) (qa c (pc + 2) y)) = true) (hv : Reader.signed 16 (x * 256 + y) = v) : decode c pc = .ok (f v, 3) := qd_s2 o h hv
