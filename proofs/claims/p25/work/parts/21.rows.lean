/-- the contract of a constructor: from the bare object at region o to the n cells o .. o + n - 1 by σ -/
def wn_I (l : Launch) (y : MethodName) (cy : ByteArray) (nY : Nat) (rm : Room) (ci o n : Nat) (dfs : List Value) (σ : Mem) : Prop := ∀ (D : va_G) (tI tII : ClassId) (B : Nat), Met l y (.code y cy nY none :: wt_tbl) rm (va_Pc [.ref (B + o)] (fun U => U.heap.size = B + (o + 1) ∧ va_P D vwCl [(B + o, .inr (ci, dfs))] U.heap ∧ wt_K D tI tII U ∧ wn_AA tI tII U)) (va_Qv (fun _ : Unit => True) (fun _ t => t.heap.size = B + (o + n) ∧ va_P D vwCl (wn_pw tI tII B σ o n) t.heap ∧ wt_K D tI tII t) (fun q => B + o ≤ q)) rm.cells rm.slots (fun q => B + o ≤ q)
section WN
variable {p : Program} {l : Launch} {e : Env} {R : Room} {s : State} {m : MethodId} {args : Array Value} {below : List Frame} {meth : Method} {c : Code} {H : Heap} {locs : List Loc} {cells slots : Nat} {Q : State → Prop}
variable {cc : ByteArray} {pc : Nat} {ls : Array Slot} {rest : List Value} {D : va_G} {tI tII : ClassId} {B o ci lo k : Nat} {σ : Mem} {fs : List Value}
theorem wn_putF (hx : p.tables.exec = Jvm.exec) (hb : c.code = cc) {own : String} (hts : ∀ w ∈ wt_tbl, w.before args s = true) (hown : s.vm.findClass own = some m.cls) (hin2 : meth.name = "<init>") (hK : wt_K D tI tII s) (hM : wn_St D tI tII B o ci fs σ lo k s H locs) {C : String} {T : u_T} {N idx : Nat} (hc : vwCl[ci]? = some (C, T, N)) (hin : ∀ w ∈ u_ws C T N, w ∈ wt_tbl) (ty0 : Nat → FieldType) (hty : ∀ k, k < N → parseFieldDescriptor (T k).2.2.1 = some (ty0 k)) (hnm : ∀ a, a < N → ∀ b, b < N → a ≠ b → (T a).2.1 ≠ (T b).2.1) (j : Nat) (hj : j < N) (hlink : Cond.fieldLink own idx (T j).1 (T j).2.1 (T j).2.2.1 ∈ wt_tbl) (hfin : (T j).2.2.2 = true) (hdecl : (T j).1 = own) {ty : FieldType} {v : Value} (hd : parseFieldDescriptor (T j).2.2.1 = some ty) (hn : narrow ty v = v) (hfit : fits ty v = true) (hl : j < fs.length) (hdg : decode cc pc = .ok (.putfield idx, 3))
    (kk : ∀ (H1 : Heap) (locs1 : List Loc), wn_St D tI tII B o ci (fs.set j v) σ lo k s H1 locs1 → W p l e R s m args below meth c H1 locs1 cells slots Q (F0 m (pc + 3) ls rest)) : W p l e R s m args below meth c H locs cells slots Q (F0 m pc ls (v :: .ref (B + o) :: rest)) := by
  obtain ⟨hP, hz, ho, hS⟩ := hM
  have hap := va_apart (own := own) hts hin ty0 hty hnm hK hc
  obtain ⟨r, h1, cell, q1, q2, q3, q4⟩ := hP 0 _ rfl
  have hr : r = (C, T, N) := Option.some.inj (h1.symm.trans hc)
  subst hr
  obtain ⟨hSl, hfc, kC, hkC, hkind⟩ := hK.1 ci _ hc
  obtain ⟨cf, kf, fi, f, hi, hsl⟩ := hSl j hj
  have hlay := hts _ (hin _ (u_in_lay hj))
  unfold u_lay at hlay
  rw [if_pos hfin] at hlay
  have hst := (u_facts hfc hkC (u_lays hts hin hj) hi).1
  have hcf : m.cls = cf := by
    obtain ⟨_, _, c', _, _, _, -, -, hf', -, -, -, hown2, -⟩ := Cond.laysFinal_spec hlay
    have e1 : c' = cf := by have := hi.symm.trans hf'; simp at this; exact this.1.symm
    rw [hdecl] at hown2
    rw [← e1]; exact Option.some.inj (hown.symm.trans hown2)
  have h6 := u_fits hfc hkC hkind (Or.inr hlay) hi hd hn hfit
  refine W.putFinK hx hb hown (hts _ hlink) hi hst hcf hin2 (by rw [q2]; exact h6) q1 q3 (by rw [hsl]; exact k2_hasslot (q4 j hj)) rfl rfl hdg (fun H' e1 e2 e3 => ?_)
  rw [hsl] at e1 ⊢
  have hP1 := hP.set (wn_D ho) (p := 0) (e := .inr (ci, fs.set j v)) rfl ⟨_, hc, t_OB.to (V := updV (vp_V fs) j v) ⟨_, e1, q2, q3, t_set q4 hap hj v⟩ (fun j' _ => vp_updV_set hl v j')⟩ e3
  exact kk H' _ ⟨hP1, e2.trans hz, ho, hS.put e2 e3 (Nat.le_refl _)⟩
theorem wn_puti (hx : p.tables.exec = Jvm.exec) (hb : c.code = cc) {own : String} (hts : ∀ w ∈ wt_tbl, w.before args s = true) (hown : s.vm.findClass own = some m.cls) (hK : wt_K D tI tII s) (hM : wn_St D tI tII B o ci fs σ lo k s H locs) {C : String} {T : u_T} {N idx : Nat} (hc : vwCl[ci]? = some (C, T, N)) (hin : ∀ w ∈ u_ws C T N, w ∈ wt_tbl) (ty0 : Nat → FieldType) (hty : ∀ k, k < N → parseFieldDescriptor (T k).2.2.1 = some (ty0 k)) (hnm : ∀ a, a < N → ∀ b, b < N → a ≠ b → (T a).2.1 ≠ (T b).2.1) (j : Nat) (hj : j < N) (hlink : Cond.fieldLink own idx (T j).1 (T j).2.1 (T j).2.2.1 ∈ wt_tbl) (hfin : (T j).2.2.2 = false) {ty : FieldType} {v : Value} (hd : parseFieldDescriptor (T j).2.2.1 = some ty) (hn : narrow ty v = v) (hfit : fits ty v = true) (hl : j < fs.length) (hdg : decode cc pc = .ok (.putfield idx, 3))
    (kk : ∀ (H1 : Heap) (locs1 : List Loc), wn_St D tI tII B o ci (fs.set j v) σ lo k s H1 locs1 → W p l e R s m args below meth c H1 locs1 cells slots Q (F0 m (pc + 3) ls rest)) : W p l e R s m args below meth c H locs cells slots Q (F0 m pc ls (v :: .ref (B + o) :: rest)) := by
  obtain ⟨hP, hz, ho, hS⟩ := hM
  have hap := va_apart (own := own) hts hin ty0 hty hnm hK hc
  obtain ⟨r, h1, cell, q1, q2, q3, q4⟩ := hP 0 _ rfl
  have hr : r = (C, T, N) := Option.some.inj (h1.symm.trans hc)
  subst hr
  obtain ⟨hSl, hfc, kC, hkC, hkind⟩ := hK.1 ci _ hc
  obtain ⟨cf, kf, fi, f, hi, hsl⟩ := hSl j hj
  have hlay := hts _ (hin _ (u_in_lay hj))
  unfold u_lay at hlay
  rw [if_neg (by rw [hfin]; decide)] at hlay
  have hst := (u_facts hfc hkC (u_lays hts hin hj) hi).1
  have h6 := u_store hfc hkC hkind hlay hi hd hn hfit
  refine W.putK hx hb (f := f) ⟨hown, hts _ hlink, ⟨_, _, _, hi⟩, hst⟩ (by rw [q2]; exact h6) q1 q3 (by rw [hsl]; exact k2_hasslot (q4 j hj)) rfl rfl hdg (fun H' e1 e2 e3 => ?_)
  rw [hsl] at e1 ⊢
  have hP1 := hP.set (wn_D ho) (p := 0) (e := .inr (ci, fs.set j v)) rfl ⟨_, hc, t_OB.to (V := updV (vp_V fs) j v) ⟨_, e1, q2, q3, t_set q4 hap hj v⟩ (fun j' _ => vp_updV_set hl v j')⟩ e3
  exact kk H' _ ⟨hP1, e2.trans hz, ho, hS.put e2 e3 (Nat.le_refl _)⟩
theorem wn_getr (hx : p.tables.exec = Jvm.exec) (hb : c.code = cc) {own : String} (hts : ∀ w ∈ wt_tbl, w.before args s = true) (hown : s.vm.findClass own = some m.cls) (hK : wt_K D tI tII s) (hM : wn_St D tI tII B o ci fs σ lo k s H locs) {C : String} {T : u_T} {N idx : Nat} (hc : vwCl[ci]? = some (C, T, N)) (hin : ∀ w ∈ u_ws C T N, w ∈ wt_tbl) (j : Nat) (hj : j < N) (hlink : Cond.fieldLink own idx (T j).1 (T j).2.1 (T j).2.2.1 ∈ wt_tbl) {v : Value} (hv : fs[j]? = some v) (hdg : decode cc pc = .ok (.getfield idx, 3))
    (kk : W p l e R s m args below meth c H locs cells slots Q (F0 m (pc + 3) ls (v :: rest))) : W p l e R s m args below meth c H locs cells slots Q (F0 m pc ls (.ref (B + o) :: rest)) :=
  va_get (D := D) (ci := ci) hx hb hts hin hown hK hM.1 0 rfl hc j hj (hts _ hlink) (fun _ h => h) hv hdg kk
theorem wn_ist (hx : p.tables.exec = Jvm.exec) (hb : c.code = cc) (hK : wt_K D tI tII s) (hM : wn_St D tI tII B o ci fs σ lo k s H locs) {j n : Nat} {i x : Int32} (hj : j < k) (hA : wt_isA (lo + j) n) (hin : vp_in i n) (hdg : decode cc pc = .ok (.iastore, 1))
    (kk : ∀ (H1 : Heap) (locs1 : List Loc), wn_St D tI tII B o ci fs (up2 σ (lo + j) i.toNatClampNeg x) lo k s H1 locs1 → W p l e R s m args below meth c H1 locs1 cells slots Q (F0 m (pc + 1) ls rest)) : W p l e R s m args below meth c H locs cells slots Q (F0 m pc ls (.int x :: .int i :: .ref (B + (lo + j)) :: rest)) := by
  obtain ⟨hP, hz, ho, hS⟩ := hM
  have ha : ((B + o, .inr (ci, fs)) :: wn_pw tI tII B σ lo k)[j + 1]? = some (B + (lo + j), .inl (tI, n, .inl (σ (lo + j)))) := by
    show (wn_pw tI tII B σ lo k)[j]? = _
    rw [wn_get hj, hA.2]
  refine W.iast hx hb (hP (j + 1) _ ha) ((hK.2 0 (tI, .int) rfl).1 n (fun q => .int (σ (lo + j) q))) (fun q => by cases q) (by show ¬ (i < 0 ∨ (arrV _ _ _).slots.size ≤ _); rw [arrV_size]; exact hin) rfl rfl hdg fun H1 e1 z oq => ?_
  have hP1 := hP.set (wn_D ho) (e := .inl (tI, n, .inl (upd (σ (lo + j)) i.toNatClampNeg x))) ha ?_ oq
  · refine kk H1 _ ⟨?_, z.trans hz, ho, hS.put z oq (show B + o ≤ B + (lo + j) by omega)⟩
    have e2 : ((B + o, .inr (ci, fs)) :: wn_pw tI tII B σ lo k).set (j + 1) (B + (lo + j), .inl (tI, n, .inl (upd (σ (lo + j)) i.toNatClampNeg x))) = (B + o, .inr (ci, fs)) :: wn_pw tI tII B (up2 σ (lo + j) i.toNatClampNeg x) lo k := by
      rw [List.set_cons_succ, ← hA.2 tI tII B, wn_put hj, up2_A]
    rw [← e2]
    exact hP1
  · show H1[B + (lo + j)]? = some (vp_cell _ _)
    rw [e1, vp_cell_i, vp_cell_i, arrV_store]
    congr 2
    funext q
    by_cases hq : q = i.toNatClampNeg
    · subst hq
      simp [updV, upd]
    · simp [updV, upd, hq]
/-- new C(): the object, its constructor, and what that makes -/
theorem wn_child {y : MethodName} {cy : ByteArray} {nY : Nat} {rm : Room} {ch h n : Nat} {dfs : List Value} {nL idx idx2 : Nat} {own : String} (hx : p.tables.exec = Jvm.exec) (hb : c.code = cc) (hml : c.maxLocals = nL) (hsz : ls.size = nL) (hts : ∀ w ∈ wt_tbl, w.before args s = true) (hown : s.vm.findClass own = some m.cls) (hK : wt_K D tI tII s) (hAA : wn_AA tI tII s) (hM : wn_St D tI tII B o ci fs σ lo k s H locs) (hlk : lo + k = h) {C : String} {T : u_T} {N : Nat} (hc : vwCl[ch]? = some (C, T, N)) (hin : ∀ w ∈ u_ws C T N, w ∈ wt_tbl) (ty : Nat → FieldType) (hty : ∀ k, k < N → parseFieldDescriptor (T k).2.2.1 = some (ty k)) (hcl : Cond.classLink own idx C ∈ wt_tbl) (hinst : Cond.instantiable C N ∈ wt_tbl) (hini : Cond.initialized C ∈ wt_tbl) (hdfs : ∀ j, j < N → defaultValue (ty j) = vp_V dfs j) (hI : wn_I l y cy nY rm ch h n dfs σ)
    (hyc : y.cls = C) (hy1 : y.name = "<init>") (hd : y.cls ≠ "java/lang/invoke/MethodHandle" ∧ y.cls ≠ "java/lang/invoke/VarHandle" ∧ (parseMethodDescriptor y.desc).map (fun d => d.parameters.length) = some 0) (hml2 : Cond.methodLink own idx2 y ∈ wt_tbl) (hinm : Cond.instanceMethod y ∈ wt_tbl) (hcode : Cond.code y cy nY none ∈ wt_tbl) (hR : rm.frames + 1 ≤ R.frames ∧ 8 + (nY + 11) + rm.locals ≤ R.locals) (hn : 0 < n) (hcells : cells + 1 + rm.cells ≤ R.cells) (hslots : slots + N + rm.slots ≤ R.slots) (hcat : (rest.map fun v => v.category).sum ≤ 7) (hd0 : decode cc pc = .ok (.new idx, 3)) (hd1 : decode cc (pc + 3) = .ok (.dup, 1)) (hd2 : decode cc (pc + 4) = .ok (.invokespecial idx2, 3))
    (kk : ∀ (H1 : Heap) (locs1 : List Loc), wn_St D tI tII B o ci fs σ lo (k + n) s H1 locs1 → W p l e R s m args below meth c H1 locs1 (cells + 1 + rm.cells) (slots + N + rm.slots) Q (F0 m (pc + 7) ls (.ref (B + h) :: rest))) : W p l e R s m args below meth c H locs cells slots Q (F0 m pc ls rest) := by
  subst hlk
  obtain ⟨hP, hz, ho, hS⟩ := hM
  have hKn := hK.1 ch _ hc
  refine W.newcK hx hb hown (hts _ hcl) (hts _ hinst) (hts _ hini) rfl hd0 (by omega) (by omega) hKn.2.1 hz fun H1 kC hkC e1 z1 o1 => ?_
  have hS1 : va_S (fun q => B + o ≤ q) s.heap H1 locs := ⟨by rw [z1, ← hz]; exact Nat.le_succ_of_le hS.1, fun q h1 h2 => (o1 q (by rw [← hz]; exact Nat.lt_of_lt_of_le h1 hS.1)).trans (hS.2.1 q h1 h2), hS.2.2⟩
  have hP1 : va_P D vwCl [(B + (lo + k), .inr (ch, dfs))] H1 := fun j q hq => by
    have h0 : j < 1 := (List.getElem?_eq_some_iff.mp hq).1
    rw [show j = 0 by omega] at hq
    cases hq
    exact ⟨_, hc, (u_born ty hts hin hKn hkC e1 hty).to hdfs⟩
  refine W.eq (g2 := F0 m (pc + 3) ls (.ref (B + (lo + k)) :: rest)) rfl ?_
  refine lv_dup hx hb hd1 rfl ?_
  have hG : GoodIn wt_tbl (.code y cy nY none :: wt_tbl) := fun w hw => by
    rcases List.mem_cons.mp hw with rfl | hw
    · exact wt_good hcode
    · exact wt_good hw
  have hcat' : ((Value.ref (B + (lo + k)) :: rest).map fun v => v.category).sum ≤ 8 := by
    rw [List.map_cons, List.sum_cons]
    show 1 + _ ≤ 8
    omega
  refine va_callv (A0 := fun q => B + o ≤ q) (A1 := fun q => B + (lo + k) ≤ q) (free := fun q => B + (lo + k) ≤ q) (va_runI (As := []) (rest := .ref (B + (lo + k)) :: rest) ⟨hx, hb, hml, hown, hts⟩ (hI D tI tII B) (cwI 0 hts hG rfl rfl rfl (by rw [hyc]; exact hts _ hini) (hts _ hml2) (hts _ hinm) hy1 hd hR) ⟨fun a U g mk q => ?_, fun U hU hW => ⟨rfl, by rw [hU, z1, Nat.add_assoc], by rw [hU]; exact hP1, wt_K.moved hW.alike hK, wn_AA.moved hW.alike hAA⟩⟩ rfl rfl hsz rfl (lv_room hcat') hd2 ⟨by omega, by omega⟩) hS1 (fun q _ h => Nat.le_trans (show B + o ≤ B + (lo + k) by omega) h) (fun q h => Nat.le_trans (show B + o ≤ B + (lo + k) by omega) h) (fun u t H2 locs2 ht hvm _ hB hz2 hk2 hS2 => ?_)
  · obtain ⟨a1, a2, a3, a4, a5⟩ := q
    exact ⟨a1, a2, a3, wt_K.moved (u := U) (U := U.calling g mk a) (Vm.Alike.refl U.vm) a4, wn_AA.moved (u := U) (U := U.calling g mk a) (Vm.Alike.refl U.vm) a5⟩
  · obtain ⟨b1, b2, b3⟩ := hB
    rw [ht] at b1 b2
    refine kk H2 locs2 ⟨?_, by rw [b1, Nat.add_assoc lo k n], ho, hS2⟩
    rw [← wn_cat, ← List.cons_append]
    refine va_P.app (hP.kept (fun j q hq => ?_)) b2
    have hlt := (hP j q hq).lt
    rw [hz] at hlt
    rw [hk2 q.1 (by rw [z1]; omega) (by omega)]
    exact o1 q.1 hlt
end WN
theorem wn_arr_eq {tI : ClassId} {n : Nat} {f g : Nat → Int32} (h : ∀ j, j < n → f j = g j) : vp_cell tI (n, .inl f) = vp_cell tI (n, .inl g) := by
  rw [vp_cell_i, vp_cell_i]
  unfold arrV
  rw [show (fun (j : Fin n) => Value.int (f j.val)) = fun j => Value.int (g j.val) from funext fun j => by rw [h j.val j.isLt]]
theorem wn_eqv {D : va_G} {tI tII : ClassId} {B lo c : Nat} {σ τ : Mem} {H : Heap} (h : ∀ k, lo ≤ k → k < lo + c → σ k = τ k ∨ ∃ n, wt_isA k n ∧ ∀ j, j < n → σ k j = τ k j) (hP : va_P D vwCl (wn_pw tI tII B σ lo c) H) : va_P D vwCl (wn_pw tI tII B τ lo c) H := by
  intro j q hq
  have hj : j < c := by
    have := (List.getElem?_eq_some_iff.mp hq).1
    rw [wn_len] at this
    exact this
  rw [wn_get hj] at hq
  cases hq
  have h1 := hP j _ (wn_get hj)
  rcases h (lo + j) (Nat.le_add_right _ _) (by omega) with e | ⟨n, hA, hf⟩
  · rw [← e]; exact h1
  · rw [hA.2] at h1 ⊢
    show H[B + (lo + j)]? = some (vp_cell _ _)
    rw [← wn_arr_eq hf]
    exact h1
theorem wn_fin {D : va_G} {tI tII : ClassId} {B o ci k : Nat} {fs : List Value} {σ τ : Mem} {s : State} {H : Heap} {locs : List Loc} (hM : wn_St D tI tII B o ci fs σ (o + 1) k s H locs) (he : wt_cell tI tII B o (τ o) = .inr (ci, fs)) (h : ∀ q, o + 1 ≤ q → q < o + 1 + k → σ q = τ q ∨ ∃ n, wt_isA q n ∧ ∀ j, j < n → σ q j = τ q j) : va_P D vwCl (wn_pw tI tII B τ o (k + 1)) H := by
  rw [wn_cons, he]
  have h1 : va_P D vwCl (wn_pw tI tII B τ (o + 1) k) H := wn_eqv h (fun j q hq => hM.1 (j + 1) q hq)
  intro j q hq
  cases j with
  | zero => exact hM.1 0 q hq
  | succ j => exact h1 j q hq
