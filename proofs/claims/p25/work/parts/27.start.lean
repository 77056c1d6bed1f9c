/-- new C() in the law: nothing half born around it -/
theorem wl_child {p : Program} {l : Launch} {e : Env} {R : Room} {s : State} {m : MethodId} {args : Array Value} {below : List Frame} {meth : Method} {c : Code} {H : Heap} {locs : List Loc} {cells slots : Nat} {Q : State → Prop} {cc : ByteArray} {pc : Nat} {ls : Array Slot} {rest : List Value} {D : va_G} {tI tII : ClassId} {B k : Nat} {σ : Mem} {y : MethodName} {cy : ByteArray} {nY : Nat} {rm : Room} {ch h n : Nat} {dfs : List Value} {nL idx idx2 : Nat} {own : String} (hx : p.tables.exec = Jvm.exec) (hb : c.code = cc) (hml : c.maxLocals = nL) (hsz : ls.size = nL) (hts : ∀ w ∈ wt_tbl, w.before args s = true) (hown : s.vm.findClass own = some m.cls) (hK : wt_K D tI tII s) (hAA : wn_AA tI tII s) (hP : va_P D vwCl (wn_pw tI tII B σ 0 k) H) (hz : H.size = B + k) (hS : va_S (fun q => B ≤ q) s.heap H locs) (hlk : k = h) {C : String} {T : u_T} {N : Nat} (hc : vwCl[ch]? = some (C, T, N)) (hin : ∀ w ∈ u_ws C T N, w ∈ wt_tbl) (ty : Nat → FieldType) (hty : ∀ k, k < N → parseFieldDescriptor (T k).2.2.1 = some (ty k)) (hcl : Cond.classLink own idx C ∈ wt_tbl) (hinst : Cond.instantiable C N ∈ wt_tbl) (hini : Cond.initialized C ∈ wt_tbl) (hdfs : ∀ j, j < N → defaultValue (ty j) = vp_V dfs j) (hI : wn_I l y cy nY rm ch h n dfs σ)
    (hyc : y.cls = C) (hy1 : y.name = "<init>") (hd : y.cls ≠ "java/lang/invoke/MethodHandle" ∧ y.cls ≠ "java/lang/invoke/VarHandle" ∧ (parseMethodDescriptor y.desc).map (fun d => d.parameters.length) = some 0) (hml2 : Cond.methodLink own idx2 y ∈ wt_tbl) (hinm : Cond.instanceMethod y ∈ wt_tbl) (hcode : Cond.code y cy nY none ∈ wt_tbl) (hR : rm.frames + 1 ≤ R.frames ∧ 8 + (nY + 11) + rm.locals ≤ R.locals) (hcells : cells + 1 + rm.cells ≤ R.cells) (hslots : slots + N + rm.slots ≤ R.slots) (hcat : (rest.map fun v => v.category).sum ≤ 7) (hd0 : decode cc pc = .ok (.new idx, 3)) (hd1 : decode cc (pc + 3) = .ok (.dup, 1)) (hd2 : decode cc (pc + 4) = .ok (.invokespecial idx2, 3))
    (kk : ∀ (H1 : Heap) (locs1 : List Loc), va_P D vwCl (wn_pw tI tII B σ 0 (k + n)) H1 → H1.size = B + (k + n) → va_S (fun q => B ≤ q) s.heap H1 locs1 → W p l e R s m args below meth c H1 locs1 (cells + 1 + rm.cells) (slots + N + rm.slots) Q (F0 m (pc + 7) ls (.ref (B + h) :: rest))) : W p l e R s m args below meth c H locs cells slots Q (F0 m pc ls rest) := by
  subst hlk
  have hKn := hK.1 ch _ hc
  refine W.newcK hx hb hown (hts _ hcl) (hts _ hinst) (hts _ hini) rfl hd0 (by omega) (by omega) hKn.2.1 hz fun H1 kC hkC e1 z1 o1 => ?_
  have hS1 : va_S (fun q => B ≤ q) s.heap H1 locs := ⟨by rw [z1, ← hz]; exact Nat.le_succ_of_le hS.1, fun q h1 h2 => (o1 q (by rw [← hz]; exact Nat.lt_of_lt_of_le h1 hS.1)).trans (hS.2.1 q h1 h2), hS.2.2⟩
  have hP1 : va_P D vwCl [(B + k, .inr (ch, dfs))] H1 := fun j q hq => by
    have h0 : j < 1 := (List.getElem?_eq_some_iff.mp hq).1
    rw [show j = 0 by omega] at hq
    cases hq
    exact ⟨_, hc, (u_born ty hts hin hKn hkC e1 hty).to hdfs⟩
  refine W.eq (g2 := F0 m (pc + 3) ls (.ref (B + k) :: rest)) rfl ?_
  refine lv_dup hx hb hd1 rfl ?_
  have hG : GoodIn wt_tbl (.code y cy nY none :: wt_tbl) := fun w hw => by
    rcases List.mem_cons.mp hw with rfl | hw
    · exact wt_good hcode
    · exact wt_good hw
  have hcat' : ((Value.ref (B + k) :: rest).map fun v => v.category).sum ≤ 8 := by
    rw [List.map_cons, List.sum_cons]
    show 1 + _ ≤ 8
    omega
  refine va_callv (A0 := fun q => B ≤ q) (A1 := fun q => B + k ≤ q) (free := fun q => B + k ≤ q) (va_runI (As := []) (rest := .ref (B + k) :: rest) ⟨hx, hb, hml, hown, hts⟩ (hI D tI tII B) (cwI 0 hts hG rfl rfl rfl (by rw [hyc]; exact hts _ hini) (hts _ hml2) (hts _ hinm) hy1 hd hR) ⟨fun a U g mk q => ?_, fun U hU hW => ⟨rfl, by rw [hU, z1, Nat.add_assoc], by rw [hU]; exact hP1, wt_K.moved hW.alike hK, wn_AA.moved hW.alike hAA⟩⟩ rfl rfl hsz rfl (lv_room hcat') hd2 ⟨by omega, by omega⟩) hS1 (fun q _ h => Nat.le_trans (Nat.le_add_right _ _) h) (fun q h => Nat.le_trans (Nat.le_add_right _ _) h) (fun u t H2 locs2 ht hvm _ hB hz2 hk2 hS2 => ?_)
  · obtain ⟨a1, a2, a3, a4, a5⟩ := q
    exact ⟨a1, a2, a3, wt_K.moved (u := U) (U := U.calling g mk a) (Vm.Alike.refl U.vm) a4, wn_AA.moved (u := U) (U := U.calling g mk a) (Vm.Alike.refl U.vm) a5⟩
  · obtain ⟨b1, b2, b3⟩ := hB
    rw [ht] at b1 b2
    refine kk H2 locs2 ?_ b1 hS2
    rw [← wn_cat, Nat.zero_add]
    refine va_P.app (hP.kept (fun j q hq => ?_)) b2
    have hlt := (hP j q hq).lt
    rw [hz] at hlt
    rw [hk2 q.1 (by rw [z1]; omega) (by omega)]
    exact o1 q.1 hlt
theorem wl_over {A : Array Value} {s : State} (h : (Cond.arrayOver (.array .int)).before A s = true) : ∃ (comp c : ClassId) (k : Class), s.vm.findClass (FieldType.array .int).toString = some comp ∧ s.vm.classes[c]? = some k ∧ k.kind = .array comp (.array .int) ∧ s.vm.findClass ("[" ++ (FieldType.array .int).toString) = some c := by
  unfold Cond.before Cond.holds at h
  simp only [Cond.value, beq_iff_eq] at h
  cases hc : s.vm.findClass (FieldType.array .int).toString with
  | none => rw [hc] at h; simp at h
  | some comp =>
    rw [hc] at h
    simp only [Option.bind_some, Option.bind_eq_some_iff, Option.map_eq_some_iff] at h
    obtain ⟨c, hi, k, hk, hv⟩ := h
    obtain ⟨hlt, hp, -⟩ := Array.findIdx?_eq_some_iff_getElem.mp hi
    have hkk : s.vm.classes[c] = k := (Array.getElem?_eq_some_iff.mp hk).2
    rw [hkk] at hp
    cases hkind : k.kind with
    | array component ty =>
      rw [hkind] at hv hp
      simp at hv hp
      exact ⟨comp, c, k, rfl, hk, by rw [hkind, hp, hv.1], hv.2⟩
    | _ => rw [hkind] at hv; simp at hv
theorem wl_wld {tI tII : ClassId} {B : Nat} {σ : Mem} : wn_pw tI tII B σ 0 122 = wt_wld tI tII B σ := by
  unfold wn_pw wt_wld
  rw [List.range_eq_range']
set_option maxHeartbeats 4000000 in
set_option maxRecDepth 100000 in
/-- the law from its entry, if the program's answers are as wl_OK says -/
theorem whole_open {I : Mem → Prop} {F : Nat} (hok : wl_OK I F) (h0 : I wt_m0) {p : Program} {e : Env} {s : State} {m : MethodId} {below : List Frame} {meth : Method} {c : Code} (l : Launch) {b L : Nat} {xs : Nat → Int32} (hL : L ≤ 3072) (C0 : lw_At p s m meth c b L xs) : W p l e room_1 s m #[Value.ref b] below meth c s.heap [] 0 0 (lw_Z below #[Value.ref b] s) (entryFrame m ([Value.ref b] : List Value).toArray 4) := by
  obtain ⟨hx, hb, hr, hml, hown0, hts0, hX, hbl, hlocks, -⟩ := C0
  have hown : s.vm.findClass RL = some m.cls := hown0
  have hts : ∀ w ∈ wt_tbl, w.before #[Value.ref b] s = true := fun w hw => hts0 w (List.mem_filter.mp hw).1
  obtain ⟨c0, iS0, hK0⟩ := u_known (C := RX0) (T := TX0) (N := 11) (n := 11) hts wt_inX0 (hts (.instantiable RX0 11) (wt_tI 18 (by decide +kernel) rfl))
  obtain ⟨c1, iS1, hK1⟩ := u_known (C := RX1) (T := TX1) (N := 2) (n := 2) hts wt_inX1 (hts (.instantiable RX1 2) (wt_tI 100 (by decide +kernel) rfl))
  obtain ⟨c2, iS2, hK2⟩ := u_known (C := RX2) (T := TX2) (N := 6) (n := 6) hts wt_inX2 (hts (.instantiable RX2 6) (wt_tI 73 (by decide +kernel) rfl))
  obtain ⟨c3, iS3, hK3⟩ := u_known (C := RX3) (T := TX3) (N := 11) (n := 11) hts wt_inX3 (hts (.instantiable RX3 11) (wt_tI 10 (by decide +kernel) rfl))
  obtain ⟨c4, iS4, hK4⟩ := u_known (C := RX4) (T := TX4) (N := 36) (n := 36) hts wt_inX4 (hts (.instantiable RX4 36) (wt_tI 705 (by decide +kernel) rfl))
  obtain ⟨dC, dI, hKc⟩ : ∃ (dC : Nat → ClassId) (dI : Nat → Nat → Nat), ∀ (k : Nat) (q : vw_C), vwCl[k]? = some q → u_Kn s q.1 q.2.1 q.2.2 (dC k) (dI k) := by
    refine ⟨fun k => if k = 0 then c0 else if k = 1 then c1 else if k = 2 then c2 else if k = 3 then c3 else c4, fun k => if k = 0 then iS0 else if k = 1 then iS1 else if k = 2 then iS2 else if k = 3 then iS3 else iS4, ?_⟩
    intro k q hq
    match k, hq with
    | 0, hq => cases hq; exact hK0
    | 1, hq => cases hq; exact hK1
    | 2, hq => cases hq; exact hK2
    | 3, hq => cases hq; exact hK3
    | 4, hq => cases hq; exact hK4
    | k + 5, hq => simp [vwCl] at hq
  have hac : (Cond.arrayClass .int).before #[Value.ref b] s = true := hts _ (wt_tI 71 (by decide +kernel) rfl)
  have hao : (Cond.arrayOver (.array .int)).before #[Value.ref b] s = true := hts0 _ (List.mem_append_right _ (List.mem_of_getElem? (i := 24) (by decide +kernel)))
  obtain ⟨tI, kI, cc, f1, g1, g2⟩ := Cond.arrayClass_spec hac
  obtain ⟨comp, tII, kII, f2, g3, g4, f3⟩ := wl_over hao
  have ec : comp = tI := Option.some.inj (f2.symm.trans f1)
  subst ec
  have hK : wt_K (dC, dI) comp tII s := ⟨hKc, fun k q hq => by
    match k, hq with
    | 0, hq => cases hq; exact ⟨fun n z => ⟨fun k h => (by cases h), kI, g1, cc, g2⟩, f1⟩
    | 1, hq => cases hq; exact ⟨fun n z => ⟨fun k h => (by cases h), kII, g3, comp, g4⟩, f3⟩
    | k + 2, hq => simp at hq⟩
  have hAA : wn_AA comp tII s := ⟨kII, kI, cc, g3, g4, g1, g2⟩
  have hS : va_S (fun q : Nat => s.heap.size ≤ q) s.heap s.heap [] := va_S.rf
  have hP : va_P (dC, dI) vwCl (wn_pw comp tII s.heap.size wt_m0 0 0) s.heap := fun k q h => by simp [wn_pw] at h
  have hl := lv_entry ([.ref b]) (n := 4) (qz_b rfl)
  rw [lg_entry_eq]
  generalize (lg_sl ([.ref b]) ++ List.replicate (4 - (lg_sl ([.ref b])).length) Slot.unset).toArray = ls at hl ⊢
  have hl : lv_has ls 4 [(0, .ref b)] := hl
  refine wl_child (nL := 4) (h := 0) (n := 101) (ch := 3) (N := 11) hx hb hml hl.1 hts hown hK hAA hP rfl hS rfl rfl wt_inX3 tyX3 tyX3_ok (wt_tI 9 (by decide +kernel) rfl) (wt_tI 10 (by decide +kernel) rfl) (wt_tI 1 (by decide +kernel) rfl) (dfs := [.null, .null, .null, .int 0, .null, .null, .null, .int 0, .null, .null, .null]) (fun j hj => by rcases (show j = 0 ∨ j = 1 ∨ j = 2 ∨ j = 3 ∨ j = 4 ∨ j = 5 ∨ j = 6 ∨ j = 7 ∨ j = 8 ∨ j = 9 ∨ j = 10 by omega) with rfl | rfl | rfl | rfl | rfl | rfl | rfl | rfl | rfl | rfl | rfl <;> rfl) ctor_X3 rfl rfl hd_X3_init (wt_tI 11 (by decide +kernel) rfl) (wt_tI 12 (by decide +kernel) rfl) (wt_tI 13 (by decide +kernel) rfl) ⟨qz_b rfl, qz_b rfl⟩ (qz_b rfl) (qz_b rfl) (qz_b rfl) dL_law_0 dL_law_3 dL_law_4 (fun H locs hP hz hS => ?_)
  refine lv_astore_n (lv' := [(1, .ref (s.heap.size + 0)), (0, .ref b)]) hx hb dL_law_7 rfl hl (by decide) rfl (fun ls hl => ?_)
  refine wl_child (nL := 4) (h := 101) (n := 21) (ch := 4) (N := 36) hx hb hml hl.1 hts hown hK hAA hP hz hS rfl rfl wt_inX4 tyX4 tyX4_ok (wt_tI 704 (by decide +kernel) rfl) (wt_tI 705 (by decide +kernel) rfl) (wt_tI 5 (by decide +kernel) rfl) (dfs := [.null, .int 0, .null, .int 0, .null, .null, .null, .null, .int 0, .int 0, .int 0, .null, .null, .null, .null, .int 0, .int 0, .int 0, .int 0, .null, .null, .null, .null, .null, .int 0, .int 0, .int 0, .null, .null, .null, .int 0, .null, .null, .null, .int 0, .int 0]) (fun j hj => by rcases (show j = 0 ∨ j = 1 ∨ j = 2 ∨ j = 3 ∨ j = 4 ∨ j = 5 ∨ j = 6 ∨ j = 7 ∨ j = 8 ∨ j = 9 ∨ j = 10 ∨ j = 11 ∨ j = 12 ∨ j = 13 ∨ j = 14 ∨ j = 15 ∨ j = 16 ∨ j = 17 ∨ j = 18 ∨ j = 19 ∨ j = 20 ∨ j = 21 ∨ j = 22 ∨ j = 23 ∨ j = 24 ∨ j = 25 ∨ j = 26 ∨ j = 27 ∨ j = 28 ∨ j = 29 ∨ j = 30 ∨ j = 31 ∨ j = 32 ∨ j = 33 ∨ j = 34 ∨ j = 35 by omega) with rfl | rfl | rfl | rfl | rfl | rfl | rfl | rfl | rfl | rfl | rfl | rfl | rfl | rfl | rfl | rfl | rfl | rfl | rfl | rfl | rfl | rfl | rfl | rfl | rfl | rfl | rfl | rfl | rfl | rfl | rfl | rfl | rfl | rfl | rfl | rfl <;> rfl) ctor_X4 rfl rfl hd_X4_init (wt_tI 706 (by decide +kernel) rfl) (wt_tI 707 (by decide +kernel) rfl) (wt_tI 708 (by decide +kernel) rfl) ⟨qz_b rfl, qz_b rfl⟩ (qz_b rfl) (qz_b rfl) (qz_b rfl) dL_law_8 dL_law_11 dL_law_12 (fun H locs hP hz hS => ?_)
  refine lv_astore_n (lv' := [(2, .ref (s.heap.size + 101)), (1, .ref (s.heap.size + 0)), (0, .ref b)]) hx hb dL_law_15 rfl hl (by decide) rfl (fun ls hl => ?_)
  refine lv_iconst (v := 0) hx hb dL_law_16 (by decide) ?_
  refine lv_istore_n (lv' := [(3, .int 0), (2, .ref (s.heap.size + 101)), (1, .ref (s.heap.size + 0)), (0, .ref b)]) hx hb dL_law_17 rfl hl (by decide) rfl (fun ls hl => ?_)
  refine W.widen (k := 600000) (n := 7302250) (qz_b rfl) (qz_b rfl) ?_
  rw [wl_wld] at hP
  exact lw_loop hok hL ⟨hx, hb, hts, hown, hml, hX, hbl, Nat.not_le.mpr hbl, hK⟩ hr hlocks (L + 1) 0 0 wt_m0 _ _ _ (by omega) (Nat.zero_le _) rfl h0 ⟨hP, hS⟩ (lv_sub hl [0, 3, 2, 1] rfl)
