/-! new int[N][K]: the outer array first, then its rows, each put into it at once -/
def wn_row (tI : ClassId) (K : Nat) : Cell := arrV tI K (fun _ => .int 0)
def wn_out (tII : ClassId) (N h0 i : Nat) : Cell := arrV tII N (fun j => if j < i then .ref (h0 + 1 + j) else .null)
def wn_st (tI tII : ClassId) (N K : Nat) (s : State) : Nat → State
  | 0 => s.pushCell (wn_out tII N s.heap.size 0)
  | i + 1 => ((wn_st tI tII N K s i).pushCell (wn_row tI K)).setCell s.heap.size (wn_out tII N s.heap.size (i + 1))
theorem wn_step (tII : ClassId) (N h0 i : Nat) : (wn_out tII N h0 i).setSlot i (.ref (h0 + 1 + i)) = wn_out tII N h0 (i + 1) := by
  unfold wn_out
  rw [arrV_store]
  refine congrArg (arrV tII N) (funext fun j => ?_)
  unfold updV
  by_cases e : j = i
  · subst e; simp
  · by_cases h : j < i
    · simp [e, h, Nat.lt_succ_of_lt h]
    · simp [e, h, show ¬ j < i + 1 by omega]
theorem wn_row_sz (tI : ClassId) (K : Nat) : (wn_row tI K).slots.size = K := arrV_size _ _ _
theorem wn_out_sz (tII : ClassId) (N h0 i : Nat) : (wn_out tII N h0 i).slots.size = N := arrV_size _ _ _
theorem wn_facts (tI tII : ClassId) (N K : Nat) (s : State) : ∀ i, (wn_st tI tII N K s i).heap.size = s.heap.size + 1 + i ∧ (wn_st tI tII N K s i).heap[s.heap.size]? = some (wn_out tII N s.heap.size i) ∧ (wn_st tI tII N K s i).vm = s.vm ∧ (wn_st tI tII N K s i).slotsUsed = s.slotsUsed + N + i * K
  | 0 => ⟨by simp [wn_st], by simp [wn_st], rfl, by simp [wn_st, wn_out_sz]⟩
  | i + 1 => by
    obtain ⟨a, b, d, u⟩ := wn_facts tI tII N K s i
    have hlt : s.heap.size < (wn_st tI tII N K s i).heap.size := by omega
    refine ⟨by simp [wn_st, State.setCell, a]; omega, State.heap_setCell_self (c := wn_out tII N s.heap.size i) (by rw [State.heap_pushCell_of_lt (h := hlt)]; exact b), by simp [wn_st, d], ?_⟩
    simp [wn_st, u, wn_row_sz, Nat.succ_mul]
    omega
theorem wn_old (tI tII : ClassId) (N K : Nat) (s : State) {a : Addr} (ha : a < s.heap.size) : ∀ i, (wn_st tI tII N K s i).heap[a]? = s.heap[a]?
  | 0 => State.heap_pushCell_of_lt _ _ ha
  | i + 1 => by
    have f1 := (wn_facts tI tII N K s i).1
    show (((wn_st tI tII N K s i).pushCell (wn_row tI K)).setCell s.heap.size _).heap[a]? = _
    have hlt : a < (wn_st tI tII N K s i).heap.size := Nat.lt_of_lt_of_le ha (by rw [f1]; omega)
    rw [State.heap_setCell_other (Nat.ne_of_gt ha), State.heap_pushCell_of_lt (h := hlt)]
    exact wn_old tI tII N K s ha i
theorem wn_rows (tI tII : ClassId) (N K : Nat) (s : State) : ∀ i j, j < i → (wn_st tI tII N K s i).heap[s.heap.size + 1 + j]? = some (wn_row tI K)
  | 0, _, h => absurd h (Nat.not_lt_zero _)
  | i + 1, j, h => by
    have f1 := (wn_facts tI tII N K s i).1
    show (((wn_st tI tII N K s i).pushCell (wn_row tI K)).setCell s.heap.size _).heap[s.heap.size + 1 + j]? = _
    rw [State.heap_setCell_other (show s.heap.size ≠ s.heap.size + 1 + j by omega)]
    by_cases e : j = i
    · subst e
      rw [← f1]
      exact State.heap_pushCell_size _ _
    · have hlt : s.heap.size + 1 + j < (wn_st tI tII N K s i).heap.size := by omega
      rw [State.heap_pushCell_of_lt (h := hlt)]
      exact wn_rows tI tII N K s i j (by omega)
theorem wn_top (tI tII : ClassId) (N K : Nat) (s : State) (g : JFrame) : ∀ i, wn_st tI tII N K (s.setTop g) i = (wn_st tI tII N K s i).setTop g
  | 0 => rfl
  | i + 1 => by simp only [wn_st, wn_top tI tII N K s g i, State.heap_setTop, State.pushCell_setTop, State.setCell_setTop]
section MK
variable {E : CtlPost} {e : Env} {d : Bool} {acts : List Action} {s : State}
/-- one array of len places, all v -/
theorem wn_arr {c comp : ClassId} {k : Class} {ty : FieldType} {len : Nat} {v : Value} (hk : s.vm.classes[c]? = some k) (hkind : k.kind = .array comp ty) (h3 : len ≤ e.platform.arrayLengthLimit) (h4 : len * componentBytes ty ≤ e.platform.maxHeapBytes) (hfit : fits ty v = true) (hdef : v.isDefault = true) (h1 : s.heap.size < e.platform.maxCells) (h2 : s.slotsUsed + len ≤ e.platform.maxSlots) {Q : Addr → Pre} (hq : Q s.heap.size d acts (s.pushCell (arrV c len (fun _ => v)))) : wp (Jvm.newArray c len v) Q E e d acts s := by
  rw [← arrV_new] at hq
  have h5 : ∀ i w, (Array.replicate len v)[i]? = some w → s.fitsSlot c .none i w = true := by
    intro i w hw
    rw [Array.getElem?_replicate] at hw
    by_cases hi : i < len
    · rw [if_pos hi] at hw; cases hw; simp [State.fitsSlot, State.slotType?, hk, hkind, hfit]
    · rw [if_neg hi] at hw; cases hw
  have h6 : allocActs (Array.replicate len v) s.heap.size acts = acts := by
    unfold allocActs
    rw [if_pos]
    rw [Array.all_replicate]
    split <;> simp [hdef]
  simp only [Jvm.newArray, Jvm.arrayFits, wp_bind', W.ask, W.ite, Nat.not_lt.mpr h3, gt_iff_lt, if_false, wp_pure', W.theClass, hk, hkind, Nat.not_lt.mpr h4, W.alloc, W.stop, Option.some.injEq, exists_eq_left', Array.size_replicate, h6]
  rw [if_neg (by omega)]
  exact ⟨h1, h2, h5, hq⟩
theorem wn_make {tI tII cc : ClassId} {k kc : Class} {n m : Int32} {N K : Nat} (hN : n.toNatClampNeg = N) (hK : m.toNatClampNeg = K) (hk : s.vm.classes[tII]? = some k) (hkind : k.kind = .array tI (.array .int)) (hkc : s.vm.classes[tI]? = some kc) (hkindc : kc.kind = .array cc .int) (hn : ¬ n < 0) (hm : ¬ m < 0) (l1 : N ≤ e.platform.arrayLengthLimit) (l2 : N * componentBytes (.array .int) ≤ e.platform.maxHeapBytes) (l3 : K ≤ e.platform.arrayLengthLimit) (l4 : K * componentBytes .int ≤ e.platform.maxHeapBytes) (hc : s.heap.size + 1 + N ≤ e.platform.maxCells) (hs : s.slotsUsed + N + N * K ≤ e.platform.maxSlots)
    {Q : Addr → Pre} (hq : ∀ d' acts', Q s.heap.size d' acts' (wn_st tI tII N K s N)) : wp (Jvm.Op.multianewarray.make tII [n, m]) Q E e d acts s := by
  subst hN
  subst hK
  have hf : ([m].find? (· < 0)) = none := by simp [hm]
  rw [Jvm.Op.multianewarray.make]
  simp only [wp_bind', W.ite, hn, if_false, wp_pure', W.theClass, hk, hkind, Option.some.injEq, exists_eq_left']
  refine wn_arr hk hkind l1 l2 rfl rfl (by omega) (by omega) ?_
  simp only [hf]
  rw [ite_self, wp_bind', Std.Legacy.Range.forIn_eq_forIn_range']
  rw [show ([:n.toNatClampNeg] : Std.Legacy.Range).size = n.toNatClampNeg by simp [Std.Legacy.Range.size]]
  show wp (forIn (List.range' 0 n.toNatClampNeg 1) PUnit.unit _) _ E e d acts _
  refine wp_forIn_inv (fun r s' => ∃ i, i ≤ n.toNatClampNeg ∧ r = List.range' i (n.toNatClampNeg - i) ∧ s' = wn_st tI tII n.toNatClampNeg m.toNatClampNeg s i) _ _ ⟨0, Nat.zero_le _, rfl, by simp [wn_st, wn_out]⟩ ?_ ?_
  · rintro x r s' d' acts' Q' ⟨i, hi, hl, rfl⟩ hnext
    have hlt : i < n.toNatClampNeg := by
      rcases Nat.lt_or_ge i n.toNatClampNeg with h | h
      · exact h
      · rw [show n.toNatClampNeg - i = 0 by omega] at hl; cases hl
    rw [show n.toNatClampNeg - i = (n.toNatClampNeg - (i + 1)) + 1 by omega, List.range'_succ] at hl
    obtain ⟨rfl, hr⟩ := List.cons.inj hl
    obtain ⟨f1, f2, f3, f4⟩ := wn_facts tI tII n.toNatClampNeg m.toNatClampNeg s x
    have hmul : x * m.toNatClampNeg + m.toNatClampNeg ≤ n.toNatClampNeg * m.toNatClampNeg := by
      have := Nat.mul_le_mul_right m.toNatClampNeg (show x + 1 ≤ n.toNatClampNeg from hlt)
      rw [Nat.succ_mul] at this
      exact this
    have hkc' : (wn_st tI tII n.toNatClampNeg m.toNatClampNeg s x).vm.classes[tI]? = some kc := by rw [f3]; exact hkc
    simp only [wp_bind']
    rw [Jvm.Op.multianewarray.make]
    simp only [wp_bind', W.ite, hm, if_false, wp_pure', W.theClass, hkc', hkindc, Option.some.injEq, exists_eq_left']
    refine wn_arr hkc' hkindc l3 l4 rfl rfl (by omega) (by omega) ?_
    have hlt0 : s.heap.size < (wn_st tI tII n.toNatClampNeg m.toNatClampNeg s x).heap.size := by omega
    simp only [wp_bind', W.writeLoc, wp_pure']
    refine ⟨wn_out tII n.toNatClampNeg s.heap.size x, by rw [State.heap_pushCell_of_lt (h := hlt0)]; exact f2, by simp [wn_out, arrV], by rw [wn_out_sz]; exact hlt, ?_, hnext _ _ _ ⟨x + 1, hlt, hr, ?_⟩⟩
    · simp [State.fitsSlot, State.slotType?, f3, hk, hkind, wn_out, arrV, fits]
    · rw [f1, wn_step]; rfl
  · rintro s' d' acts' ⟨i, hi, hl, rfl⟩
    have hiN : i = n.toNatClampNeg := by
      rcases Nat.lt_or_ge i n.toNatClampNeg with h | h
      · rw [show n.toNatClampNeg - i = (n.toNatClampNeg - (i + 1)) + 1 by omega, List.range'_succ] at hl; cases hl
      · omega
    subst hiN
    simp only [wp_pure']
    exact hq _ _
end MK
