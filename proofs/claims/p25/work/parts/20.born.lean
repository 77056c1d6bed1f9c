/-! how the system is born: cell by cell, each at the next address -/
def wn_pw (tI tII : ClassId) (B : Nat) (σ : Mem) (lo c : Nat) : va_W := (List.range' lo c).map (fun k => (B + k, wt_cell tI tII B k (σ k)))
theorem wn_get {tI tII : ClassId} {B : Nat} {σ : Mem} {lo c j : Nat} (h : j < c) : (wn_pw tI tII B σ lo c)[j]? = some (B + (lo + j), wt_cell tI tII B (lo + j) (σ (lo + j))) := by
  unfold wn_pw
  rw [List.getElem?_map, List.getElem?_range' h]
  simp
theorem wn_len {tI tII : ClassId} {B : Nat} {σ : Mem} {lo c : Nat} : (wn_pw tI tII B σ lo c).length = c := by simp [wn_pw]
theorem wn_snoc {tI tII : ClassId} {B : Nat} {σ : Mem} {lo c : Nat} : wn_pw tI tII B σ lo (c + 1) = wn_pw tI tII B σ lo c ++ [(B + (lo + c), wt_cell tI tII B (lo + c) (σ (lo + c)))] := by
  unfold wn_pw
  rw [List.range'_concat, List.map_append]
  simp
theorem wn_cat {tI tII : ClassId} {B : Nat} {σ : Mem} {lo c d : Nat} : wn_pw tI tII B σ lo c ++ wn_pw tI tII B σ (lo + c) d = wn_pw tI tII B σ lo (c + d) := by
  induction d with
  | zero => simp [wn_pw]
  | succ d ih => rw [wn_snoc, ← List.append_assoc, ih, show c + (d + 1) = (c + d) + 1 from rfl, wn_snoc, show lo + c + d = lo + (c + d) by omega]
theorem wn_cons {tI tII : ClassId} {B : Nat} {σ : Mem} {lo c : Nat} : wn_pw tI tII B σ lo (c + 1) = (B + lo, wt_cell tI tII B lo (σ lo)) :: wn_pw tI tII B σ (lo + 1) c := by
  unfold wn_pw
  rw [List.range'_succ, List.map_cons]
theorem wn_ent {tI tII : ClassId} {B o : Nat} {x : va_E} {σ : Mem} {lo c j : Nat} {q : Nat × va_E} (h : ((B + o, x) :: wn_pw tI tII B σ lo c)[j]? = some q) : (j = 0 ∧ q = (B + o, x)) ∨ (∃ i, j = i + 1 ∧ i < c ∧ q = (B + (lo + i), wt_cell tI tII B (lo + i) (σ (lo + i)))) := by
  cases j with
  | zero => exact Or.inl ⟨rfl, (Option.some.inj h).symm⟩
  | succ i =>
    have h1 : (wn_pw tI tII B σ lo c)[i]? = some q := h
    have hi : i < c := by
      have := (List.getElem?_eq_some_iff.mp h1).1
      rw [wn_len] at this
      exact this
    rw [wn_get hi] at h1
    exact Or.inr ⟨i, rfl, hi, (Option.some.inj h1).symm⟩
theorem wn_D {tI tII : ClassId} {B o : Nat} {x : va_E} {σ : Mem} {lo c : Nat} (ho : o < lo) : va_D (fun q => B ≤ q) ((B + o, x) :: wn_pw tI tII B σ lo c) := by
  refine ⟨fun i j p q hp hq e => ?_, fun k q hq => ?_⟩
  · rcases wn_ent hp with ⟨rfl, rfl⟩ | ⟨i1, rfl, h1, rfl⟩ <;> rcases wn_ent hq with ⟨rfl, rfl⟩ | ⟨j1, rfl, h2, rfl⟩
    · rfl
    · have : B + o = B + (lo + j1) := e
      omega
    · have : B + (lo + i1) = B + o := e
      omega
    · have : B + (lo + i1) = B + (lo + j1) := e
      omega
  · rcases wn_ent hq with ⟨rfl, rfl⟩ | ⟨i1, rfl, h1, rfl⟩
    · exact Nat.le_add_right _ _
    · exact Nat.le_add_right _ _
theorem wn_put {tI tII : ClassId} {B : Nat} {σ : Mem} {lo c j : Nat} {f : Nat → Int32} (hj : j < c) : (wn_pw tI tII B σ lo c).set j (B + (lo + j), wt_cell tI tII B (lo + j) f) = wn_pw tI tII B (upA σ (lo + j) f) lo c := by
  apply List.ext_getElem?
  intro i
  by_cases hi : i < c
  · rw [wn_get hi]
    by_cases e : j = i
    · subst e
      rw [List.getElem?_set_self (by rw [wn_len]; exact hj)]
      simp [upA]
    · rw [List.getElem?_set_ne e, wn_get hi]
      have h9 : ¬ lo + i = lo + j := by omega
      unfold upA
      rw [if_neg h9]
  · rw [List.getElem?_eq_none (by rw [List.length_set, wn_len]; omega), List.getElem?_eq_none (by rw [wn_len]; omega)]
/-- what the tables say of int[][] and its rows -/
def wn_AA (tI tII : ClassId) (U : State) : Prop := ∃ (k kc : Class) (cc : ClassId), U.vm.classes[tII]? = some k ∧ k.kind = .array tI (.array .int) ∧ U.vm.classes[tI]? = some kc ∧ kc.kind = .array cc .int
theorem wn_AA.moved {tI tII : ClassId} {u U : State} (h : u.vm.Alike U.vm) (k : wn_AA tI tII u) : wn_AA tI tII U := by
  obtain ⟨k1, k2, cc, h1, h2, h3, h4⟩ := k
  obtain ⟨a1, b1, e1⟩ := h.2.2 _ _ h1
  obtain ⟨a2, b2, e2⟩ := h.2.2 _ _ h3
  exact ⟨a1, a2, cc, b1, by rw [e1]; exact h2, b2, by rw [e2]; exact h4⟩
/-- a system half born: the object at region o with the fields fs, and the cells lo .. lo + c - 1 by σ -/
def wn_St (D : va_G) (tI tII : ClassId) (B o ci : Nat) (fs : List Value) (σ : Mem) (lo c : Nat) (s : State) (H : Heap) (locs : List Loc) : Prop := va_P D vwCl ((B + o, .inr (ci, fs)) :: wn_pw tI tII B σ lo c) H ∧ H.size = B + (lo + c) ∧ o < lo ∧ va_S (fun q => B + o ≤ q) s.heap H locs
def wt_z : Mem := fun _ _ => 0
section WN
variable {p : Program} {l : Launch} {e : Env} {R : Room} {s : State} {m : MethodId} {args : Array Value} {below : List Frame} {meth : Method} {c : Code} {H : Heap} {locs : List Loc} {cells slots : Nat} {Q : State → Prop}
variable {cc : ByteArray} {pc : Nat} {ls : Array Slot} {rest : List Value} {D : va_G} {tI tII : ClassId} {B o ci lo k : Nat} {σ : Mem} {fs : List Value}
theorem wn_newa (hx : p.tables.exec = Jvm.exec) (hb : c.code = cc) (harr : (Cond.arrayClass .int).before args s = true) (hK : wt_K D tI tII s) (hM : wn_St D tI tII B o ci fs σ lo k s H locs) {n : Int32} {N : Nat} (hn : ¬ n < 0) (hN : n.toNatClampNeg = N) (hbytes : N * 4 ≤ 536870912) (hcell : wt_cell tI tII B (lo + k) (σ (lo + k)) = .inl (tI, N, .inl (fun _ => 0))) (hcells : cells + 1 ≤ R.cells) (hslots : slots + N ≤ R.slots) (hdg : decode cc pc = .ok (.newarray .int, 2))
    (kk : ∀ H1 : Heap, wn_St D tI tII B o ci fs σ lo (k + 1) s H1 locs → W p l e R s m args below meth c H1 locs (cells + 1) (slots + N) Q (F0 m (pc + 2) ls (.ref (B + (lo + k)) :: rest))) : W p l e R s m args below meth c H locs cells slots Q (F0 m pc ls (.int n :: rest)) := by
  obtain ⟨hP, hz, ho, hS⟩ := hM
  refine va_newaK hx hb (atype := .int) harr (g := F0 m pc ls (.int n :: rest)) rfl hdg rfl hn hN hbytes hcells hslots hz fun H1 cA e1 z1 o1 hAr hNm => ?_
  have ec : cA = tI := Option.some.inj (hNm.symm.trans (hK.2 0 (tI, .int) rfl).2)
  subst ec
  refine kk H1 ⟨?_, by rw [z1]; omega, ho, ⟨by rw [z1, ← hz]; exact Nat.le_succ_of_le hS.1, fun q h1 h2 => (o1 q (by rw [← hz]; exact Nat.lt_of_lt_of_le h1 hS.1)).trans (hS.2.1 q h1 h2), hS.2.2⟩⟩
  rw [wn_snoc, ← List.cons_append]
  refine va_P.app (hP.kept (fun j q hq => o1 q.1 (by rw [← hz]; exact (hP j q hq).lt))) (fun j q hq => ?_)
  have h0 : j < 1 := (List.getElem?_eq_some_iff.mp hq).1
  rw [show j = 0 by omega] at hq
  cases hq
  rw [hcell]
  exact e1
theorem wn_mna (hx : p.tables.exec = Jvm.exec) (hb : c.code = cc) {own : String} {idx : Nat} (hown : s.vm.findClass own = some m.cls) (hcl : (Cond.classLink own idx "[[I").before args s = true) (hAA : wn_AA tI tII s) (hK : wt_K D tI tII s) (hM : wn_St D tI tII B o ci fs σ lo k s H locs) {n m0 : Int32} {N K : Nat} (hn : ¬ n < 0) (hm : ¬ m0 < 0) (hN : n.toNatClampNeg = N) (hK' : m0.toNatClampNeg = K) (hb1 : N * 4 ≤ 536870912) (hb2 : K * 4 ≤ 536870912)
    (hc0 : wt_cell tI tII B (lo + k) (σ (lo + k)) = .inl (tII, N, .inr (.inr (.inr (.inr (fun i => if i < N then some (B + (lo + k + 1 + i)) else none)))))) (hc1 : ∀ j, j < N → wt_cell tI tII B (lo + (k + 1 + j)) (σ (lo + (k + 1 + j))) = .inl (tI, K, .inl (fun _ => 0)))
    (hcells : cells + (1 + N) ≤ R.cells) (hslots : slots + (N + N * K) ≤ R.slots) (hdg : decode cc pc = .ok (.multianewarray idx 2, 4))
    (kk : ∀ (H1 : Heap) (locs1 : List Loc), wn_St D tI tII B o ci fs σ lo (k + 1 + N) s H1 locs1 → W p l e R s m args below meth c H1 locs1 (cells + 1 + N) (slots + N + N * K) Q (F0 m (pc + 4) ls (.ref (B + (lo + k)) :: rest))) : W p l e R s m args below meth c H locs cells slots Q (F0 m pc ls (.int m0 :: .int n :: rest)) := by
  subst hN
  subst hK'
  obtain ⟨hP, hz, ho, hS⟩ := hM
  intro T hT X
  obtain ⟨k1, k2, cc2, g1, g2, g3, g4⟩ := hAA
  obtain ⟨c0, hfc0, hl0⟩ := Cond.classLink_spec hown hcl e.platform (by rw [X.admits.platform])
  have ec : c0 = tII := Option.some.inj (hfc0.symm.trans (hK.2 1 (tII, .array .int) rfl).2)
  subst ec
  obtain ⟨hg₁, hwarm, hready⟩ := State.classEntry (e := e) X.warmed hl0
  generalize T.vm.noted m.cls idx (.cls c0) = vm₁ at hg₁ hwarm hready
  obtain ⟨a1, b1, e1⟩ := hwarm.alike.2.2 _ _ g1
  obtain ⟨a2, b2, e2⟩ := hwarm.alike.2.2 _ _ g3
  have X₁ := X.noted hwarm
  obtain ⟨r1, r2⟩ := X.roomAbove hcells hslots
  have hTh : (T.setVm vm₁).heap = H := hT
  -- the rows made, the stand goes along
  have hst : ∀ i, Stand p l e R s m args below meth c (wn_st tI c0 n.toNatClampNeg m0.toNatClampNeg (T.setVm vm₁) i) (locs ++ (List.range i).map fun j => ⟨H.size, j⟩) (cells + 1 + i) (slots + n.toNatClampNeg + i * m0.toNatClampNeg) := by
    intro i
    induction i with
    | zero =>
      have h := X₁.pushed (wn_out c0 n.toNatClampNeg (T.setVm vm₁).heap.size 0)
      rw [wn_out_sz] at h
      simpa [wn_st] using h
    | succ i ih =>
      obtain ⟨f1, f2, f3, f4⟩ := wn_facts tI c0 n.toNatClampNeg m0.toNatClampNeg (T.setVm vm₁) i
      have hlt0 : (T.setVm vm₁).heap.size < (wn_st tI c0 n.toNatClampNeg m0.toNatClampNeg (T.setVm vm₁) i).heap.size := by rw [f1]; omega
      have hcell : ((wn_st tI c0 n.toNatClampNeg m0.toNatClampNeg (T.setVm vm₁) i).pushCell (wn_row tI m0.toNatClampNeg)).heap[(T.setVm vm₁).heap.size]? = some (wn_out c0 n.toNatClampNeg (T.setVm vm₁).heap.size i) := by rw [State.heap_pushCell_of_lt (h := hlt0)]; exact f2
      have h := (ih.pushed (wn_row tI m0.toNatClampNeg)).stored hcell i (.ref ((T.setVm vm₁).heap.size + 1 + i))
      rw [wn_step, wn_row_sz] at h
      rw [hTh] at h
      have e3 : slots + n.toNatClampNeg + (i + 1) * m0.toNatClampNeg = slots + n.toNatClampNeg + i * m0.toNatClampNeg + m0.toNatClampNeg := by rw [Nat.succ_mul]; omega
      have e4 : (locs ++ (List.range (i + 1)).map fun j => (⟨H.size, j⟩ : Loc)) = (locs ++ (List.range i).map fun j => (⟨H.size, j⟩ : Loc)) ++ [⟨H.size, i⟩] := by simp [List.range_succ, List.append_assoc]
      rw [e3, e4]
      show Stand p l e R s m args below meth c (((wn_st tI c0 n.toNatClampNeg m0.toNatClampNeg (T.setVm vm₁) i).pushCell (wn_row tI m0.toNatClampNeg)).setCell (T.setVm vm₁).heap.size (wn_out c0 n.toNatClampNeg (T.setVm vm₁).heap.size (i + 1))) _ _ _
      rw [hTh]
      exact h
  have XF := hst n.toNatClampNeg
  generalize hF : wn_st tI c0 n.toNatClampNeg m0.toNatClampNeg (T.setVm vm₁) n.toNatClampNeg = F at XF
  obtain ⟨f1, f2, f3, -⟩ := wn_facts tI c0 n.toNatClampNeg m0.toNatClampNeg (T.setVm vm₁) n.toNatClampNeg
  rw [hF, hTh] at f1 f2
  have hold : ∀ q : Nat, q < H.size → F.heap[q]? = H[q]? := fun q hq => by
    have := wn_old tI c0 n.toNatClampNeg m0.toNatClampNeg (T.setVm vm₁) (a := q) (by rw [hTh]; exact hq) n.toNatClampNeg
    rw [hF, hTh] at this
    exact this
  have hrow : ∀ j : Nat, j < n.toNatClampNeg → F.heap[H.size + 1 + j]? = some (wn_row tI m0.toNatClampNeg) := fun j hj => by
    have := wn_rows tI c0 n.toNatClampNeg m0.toNatClampNeg (T.setVm vm₁) n.toNatClampNeg j hj
    rw [hF, hTh] at this
    exact this
  have hPF : ∀ d, d ≤ n.toNatClampNeg → va_P D vwCl ((B + o, .inr (ci, fs)) :: wn_pw tI c0 B σ lo (k + 1 + d)) F.heap := by
    intro d
    induction d with
    | zero =>
      intro _
      rw [Nat.add_zero, wn_snoc, ← List.cons_append]
      refine va_P.app (hP.kept (fun j q hq => hold q.1 (hP j q hq).lt)) (fun j q hq => ?_)
      have h0 : j < 1 := (List.getElem?_eq_some_iff.mp hq).1
      rw [show j = 0 by omega] at hq
      cases hq
      rw [hc0]
      show F.heap[B + (lo + k)]? = some (vp_cell _ _)
      rw [← hz, f2, vp_cell_q]
      unfold wn_out
      refine congrArg some (congrArg (arrV c0 _) (funext fun j => ?_))
      by_cases hj : j < n.toNatClampNeg
      · rw [if_pos hj, if_pos hj]
        show Value.ref (H.size + 1 + j) = Value.ref (B + (lo + k + 1 + j))
        rw [show H.size + 1 + j = B + (lo + k + 1 + j) by omega]
      · rw [if_neg hj, if_neg hj]; rfl
    | succ d ih =>
      intro hd
      rw [← Nat.add_assoc, wn_snoc, ← List.cons_append]
      refine va_P.app (ih (by omega)) (fun j q hq => ?_)
      have h0 : j < 1 := (List.getElem?_eq_some_iff.mp hq).1
      rw [show j = 0 by omega] at hq
      cases hq
      rw [hc1 d (by omega)]
      show F.heap[B + (lo + (k + 1 + d))]? = some (vp_cell _ _)
      rw [show B + (lo + (k + 1 + d)) = H.size + 1 + d by omega, hrow d (by omega)]
      rfl
  have hW := kk F.heap (locs ++ (List.range n.toNatClampNeg).map fun j => ⟨H.size, j⟩) ⟨hPF _ (Nat.le_refl _), by rw [f1]; omega, ho, ⟨by rw [f1]; have := hS.1; omega, fun q h1 h2 => (hold q (Nat.lt_of_lt_of_le h1 hS.1)).trans (hS.2.1 q h1 h2), fun q hq => by
    rcases List.mem_append.mp hq with h | h
    · exact hS.2.2 q h
    · obtain ⟨j, -, rfl⟩ := List.mem_map.mp h
      show B + o ≤ H.size
      omega⟩⟩
  obtain ⟨t, st1, q1⟩ := hW F rfl XF
  refine ⟨t, ?_, q1⟩
  jvm_step X.here [hx, hb, hdg]
  simp only [Jvm.Op.multianewarray.sem, wp_bind', W.resolveClassAt_links (State.method?_setTop (F0 m pc ls (.int m0 :: .int n :: rest)) X.here.top) hg₁]
  rw [W.popN, if_neg (by decide)]
  refine ⟨F0 m pc ls (.int m0 :: .int n :: rest), State.topJava?_setTop' (s := T.setVm vm₁) _ X.here.top, [.int n, .int m0], rest, rfl, rfl, ?_⟩
  simp only [List.mapM_cons, List.mapM_nil, wp_bind', wp_pure']
  have eS : ((T.setTop (F0 m pc ls (.int m0 :: .int n :: rest))).setVm vm₁).setTop (F0 m pc ls rest) = (T.setVm vm₁).setTop (F0 m pc ls rest) := by
    show ((T.setVm vm₁).setTop _).setTop _ = _
    rw [State.setTop_setTop]
  refine wn_make (k := a1) (kc := a2) (cc := cc2) rfl rfl b1 (by rw [e1]; exact g2) b2 (by rw [e2]; exact g4) hn hm (by rw [Launch.admits_arrayLengthLimit X.admits]; omega) (by rw [Launch.admits_maxHeapBytes X.admits]; exact hb1) (by rw [Launch.admits_arrayLengthLimit X.admits]; omega) (by rw [Launch.admits_maxHeapBytes X.admits]; exact hb2) (by show T.heap.size + 1 + _ ≤ _; omega) (by show T.slotsUsed + _ + _ ≤ _; omega) (fun d' acts' => ?_)
  show wp _ _ _ _ _ _ (wn_st tI c0 n.toNatClampNeg m0.toNatClampNeg (((T.setTop (F0 m pc ls (.int m0 :: .int n :: rest))).setVm vm₁).setTop (F0 m pc ls rest)) n.toNatClampNeg)
  rw [eS, wn_top, hF]
  simp only [wp_bind', W.mark, W.pushRef, State.topJava?_setTop' _ XF.here.top, Option.some.injEq, exists_eq_left', State.setTop_setTop, State.heap_setTop]
  intro acts
  simp [jvm, XF.here.top]
  rw [hT, hz]
  exact st1
end WN
