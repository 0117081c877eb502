/-! AN ARRAY OF ARRAYS OF INTS, MADE AT ONCE -/
/-- the outer array when i of its places are set -/
def mnO (c : ClassId) (N h0 i : Nat) : Cell := arrV c N (fun j => if j < i then .ref (h0 + 1 + j) else .null)
def mnI (ci : ClassId) (K : Nat) : Cell := arrV ci K (fun _ => .int 0)
def mnS (s : State) (c ci : ClassId) (N K : Nat) : Nat → State
  | 0 => s.pushCell (mnO c N s.heap.size 0)
  | i + 1 => ((mnS s c ci N K i).pushCell (mnI ci K)).setCell s.heap.size (mnO c N s.heap.size (i + 1))
theorem mnO_next (c : ClassId) (N h0 i : Nat) : (mnO c N h0 i).setSlot i (.ref (h0 + 1 + i)) = mnO c N h0 (i + 1) := by
  unfold mnO
  rw [arrV_store]
  congr 1
  funext j
  unfold updV
  by_cases e : j = i
  · rw [if_pos e, if_pos (by omega), e]
  · rw [if_neg e]
    show (if j < i then Value.ref (h0 + 1 + j) else Value.null) = _
    by_cases l : j < i
    · rw [if_pos l, if_pos (by omega)]
    · rw [if_neg l, if_neg (by omega)]
theorem mnO_first (c : ClassId) (N h0 : Nat) : ({ cls := c, slots := Array.replicate N .null, vm := .none } : Cell) = mnO c N h0 0 := by
  rw [arrV_new]
  unfold mnO
  congr 1
theorem mnO_size (c : ClassId) (N h0 i : Nat) : (mnO c N h0 i).slots.size = N := arrV_size _ _ _
theorem mnI_size (ci : ClassId) (K : Nat) : (mnI ci K).slots.size = K := arrV_size _ _ _
theorem mnS_facts (s : State) (c ci : ClassId) (N K : Nat) : ∀ i, (mnS s c ci N K i).heap.size = s.heap.size + 1 + i ∧ (mnS s c ci N K i).heap[s.heap.size]? = some (mnO c N s.heap.size i) ∧ (mnS s c ci N K i).vm = s.vm ∧ (mnS s c ci N K i).slotsUsed = s.slotsUsed + N + i * K
  | 0 => ⟨by simp [mnS], by simp [mnS], rfl, by simp [mnS, mnO_size]⟩
  | i + 1 => by
    obtain ⟨a, b, v, u⟩ := mnS_facts s c ci N K i
    have hlt : s.heap.size < (mnS s c ci N K i).heap.size := by omega
    have hb : ((mnS s c ci N K i).pushCell (mnI ci K)).heap[s.heap.size]? = some (mnO c N s.heap.size i) := by rw [State.heap_pushCell_of_lt (h := hlt)]; exact b
    refine ⟨?_, State.heap_setCell_self hb, by simp [mnS, v], ?_⟩
    · simp [mnS, State.setCell, a]; omega
    · simp [mnS, u, mnI_size, Nat.succ_mul]; omega
theorem mnS_top (s : State) (f : JFrame) (c ci : ClassId) (N K : Nat) : ∀ i, mnS (s.setTop f) c ci N K i = (mnS s c ci N K i).setTop f
  | 0 => rfl
  | i + 1 => by simp only [mnS, mnS_top s f c ci N K i, State.heap_setTop, State.pushCell_setTop, State.setCell_setTop]
theorem mnS_old (s : State) (c ci : ClassId) (N K : Nat) {a : Addr} (ha : a < s.heap.size) : ∀ i, (mnS s c ci N K i).heap[a]? = s.heap[a]?
  | 0 => State.heap_pushCell_of_lt _ _ ha
  | i + 1 => by
    have f := (mnS_facts s c ci N K i).1
    have hlt : a < (mnS s c ci N K i).heap.size := Nat.lt_of_lt_of_le ha (by rw [f]; omega)
    show (((mnS s c ci N K i).pushCell (mnI ci K)).setCell s.heap.size _).heap[a]? = _
    rw [State.heap_setCell_other (Nat.ne_of_gt ha), State.heap_pushCell_of_lt (h := hlt)]
    exact mnS_old s c ci N K ha i
theorem mnS_inner (s : State) (c ci : ClassId) (N K : Nat) : ∀ i j, j < i → (mnS s c ci N K i).heap[s.heap.size + 1 + j]? = some (mnI ci K)
  | 0, _, h => absurd h (Nat.not_lt_zero _)
  | i + 1, j, h => by
    have f := (mnS_facts s c ci N K i).1
    show (((mnS s c ci N K i).pushCell (mnI ci K)).setCell s.heap.size _).heap[s.heap.size + 1 + j]? = _
    rw [State.heap_setCell_other (show s.heap.size ≠ s.heap.size + 1 + j by omega)]
    by_cases e : j = i
    · rw [e, ← f]
      exact State.heap_pushCell_size _ _
    · have hlt : s.heap.size + 1 + j < (mnS s c ci N K i).heap.size := by omega
      rw [State.heap_pushCell_of_lt (h := hlt)]
      exact mnS_inner s c ci N K i j (by omega)
section MNW
variable {E : CtlPost} {e : Env} {d : Bool} {acts : List Action} {s : State}
theorem wp_mnNew {c comp : ClassId} {k : Class} {type : FieldType} {len : Nat} {init : Value} (hk : s.vm.classes[c]? = some k) (hkind : k.kind = .array comp type) (hlimit : ¬ len > e.platform.arrayLengthLimit) (hheap : ¬ len * componentBytes type > e.platform.maxHeapBytes) (hfit : fits type init = true) (hdef : init.isDefault = true)
    (h1 : s.heap.size < e.platform.maxCells) (h2 : s.slotsUsed + len ≤ e.platform.maxSlots) {Q : Addr → Pre} (hq : Q s.heap.size d acts (s.pushCell { cls := c, slots := Array.replicate len init, vm := .none })) : wp (Jvm.newArray c len init) Q E e d acts s := by
  have hfits : ∀ (i : Nat) (v : Value), (Array.replicate len init)[i]? = some v → s.fitsSlot c .none i v = true := fun i v hv => by
    rw [Array.getElem?_replicate] at hv
    split at hv
    · cases hv
      simp [State.fitsSlot, State.slotType?, hk, hkind, hfit]
    · cases hv
  have hact : allocActs (Array.replicate len init) s.heap.size acts = acts := by
    have hall : ((Array.replicate len init).all (·.isDefault)) = true := by
      rw [Array.all_replicate]
      split <;> simp [hdef]
    unfold allocActs
    rw [if_pos hall]
  simp only [Jvm.newArray, Jvm.arrayFits, wp_bind', W.ask, W.ite, hlimit, if_false, wp_pure', W.theClass, hk, hkind, hheap, W.alloc, W.stop, Option.some.injEq, exists_eq_left', Array.size_replicate, hact]
  rw [if_neg (by omega)]
  exact ⟨h1, h2, hfits, hq⟩
theorem fits_aint (v : Value) (hv : v = .null ∨ ∃ a, v = .ref a) : fits (.array .int) v = true := by
  rcases hv with rfl | ⟨a, rfl⟩ <;> rfl
theorem wp_mn1 {ci cc : ClassId} {kc : Class} {m : Int32} (hkc : s.vm.classes[ci]? = some kc) (hkindc : kc.kind = .array cc .int) (hm : ¬ m < 0) (hl : ¬ m.toNatClampNeg > e.platform.arrayLengthLimit) (hh : ¬ m.toNatClampNeg * componentBytes .int > e.platform.maxHeapBytes)
    (h1 : s.heap.size < e.platform.maxCells) (h2 : s.slotsUsed + m.toNatClampNeg ≤ e.platform.maxSlots) {Q : Addr → Pre} (hq : Q s.heap.size d acts (s.pushCell (mnI ci m.toNatClampNeg))) : wp (multianewarray.make ci [m]) Q E e d acts s := by
  rw [multianewarray.make]
  simp only [wp_bind', W.ite, hm, if_false, wp_pure', W.theClass, hkc, hkindc, Option.some.injEq, exists_eq_left']
  refine wp_mnNew hkc hkindc hl hh rfl rfl h1 h2 ?_
  rw [arrV_new]
  exact hq
theorem wp_mn2 {c ci cc : ClassId} {k kc : Class} {n m : Int32} (hk : s.vm.classes[c]? = some k) (hkind : k.kind = .array ci (.array .int)) (hkc : s.vm.classes[ci]? = some kc) (hkindc : kc.kind = .array cc .int) (hn : ¬ n < 0) (hm : ¬ m < 0)
    (hl1 : ¬ n.toNatClampNeg > e.platform.arrayLengthLimit) (hh1 : ¬ n.toNatClampNeg * componentBytes (.array .int) > e.platform.maxHeapBytes) (hl2 : ¬ m.toNatClampNeg > e.platform.arrayLengthLimit) (hh2 : ¬ m.toNatClampNeg * componentBytes .int > e.platform.maxHeapBytes)
    (hc : s.heap.size + 1 + n.toNatClampNeg ≤ e.platform.maxCells) (hs : s.slotsUsed + n.toNatClampNeg + n.toNatClampNeg * m.toNatClampNeg ≤ e.platform.maxSlots)
    {Q : Addr → Pre} (hq : ∀ d' acts', Q s.heap.size d' acts' (mnS s c ci n.toNatClampNeg m.toNatClampNeg n.toNatClampNeg)) : wp (multianewarray.make c [n, m]) Q E e d acts s := by
  have hfind : ([m].find? (· < 0)) = none := by simp [hm]
  generalize hN : n.toNatClampNeg = N at *
  rw [multianewarray.make]
  simp only [wp_bind', W.ite, hn, if_false, wp_pure', W.theClass, hk, hkind, Option.some.injEq, exists_eq_left', hN]
  refine wp_mnNew hk hkind hl1 hh1 rfl rfl (by omega) (by have := Nat.zero_le (N * m.toNatClampNeg); omega) ?_
  rw [mnO_first c N s.heap.size]
  simp only [hfind]
  rw [ite_self, wp_bind', Std.Legacy.Range.forIn_eq_forIn_range']
  have hsz : ([:N] : Std.Legacy.Range).size = N := by simp [Std.Legacy.Range.size]
  rw [hsz]
  show wp (forIn (List.range' 0 N 1) PUnit.unit _) _ E e d acts _
  refine wp_forIn_inv (fun rest s' => ∃ i, i ≤ N ∧ rest = List.range' i (N - i) ∧ s' = mnS s c ci N m.toNatClampNeg i) _ _ ⟨0, Nat.zero_le _, rfl, rfl⟩ ?_ ?_
  · rintro x rest s' d' acts' Q' ⟨i, hi, hl, rfl⟩ hnext
    have hlt : i < N := by
      rcases Nat.lt_or_ge i N with h | h
      · exact h
      · rw [show N - i = 0 from by omega] at hl; simp at hl
    obtain ⟨rfl, hrest⟩ : x = i ∧ rest = List.range' (i + 1) (N - (i + 1)) := by
      rw [show N - i = (N - (i + 1)) + 1 from by omega, List.range'_succ] at hl
      exact ⟨(List.cons.inj hl).1, (List.cons.inj hl).2⟩
    obtain ⟨f1, f2, f3, f4⟩ := mnS_facts s c ci N m.toNatClampNeg x
    have hmul : x * m.toNatClampNeg + m.toNatClampNeg ≤ N * m.toNatClampNeg := by
      have := Nat.mul_le_mul_right m.toNatClampNeg (show x + 1 ≤ N from hlt)
      rw [Nat.succ_mul] at this
      exact this
    simp only [wp_bind']
    refine wp_mn1 (by rw [f3]; exact hkc) hkindc hm hl2 hh2 (by rw [f1]; omega) (by rw [f4]; omega) ?_
    have hlt0 : s.heap.size < (mnS s c ci N m.toNatClampNeg x).heap.size := by rw [f1]; omega
    simp only [wp_bind', W.writeLoc, wp_pure']
    refine ⟨mnO c N s.heap.size x, by rw [State.heap_pushCell_of_lt (h := hlt0)]; exact f2, by show VmData.none ≠ _; simp, by rw [mnO_size]; exact hlt, ?_, hnext _ _ _ ⟨x + 1, hlt, hrest, ?_⟩⟩
    · show State.fitsSlot _ c .none _ _ = true
      simp [State.fitsSlot, State.slotType?, f3, hk, hkind, fits_aint _ (Or.inr ⟨_, rfl⟩)]
    · rw [f1, mnO_next]; rfl
  · rintro s' d' acts' ⟨i, hi, hl, rfl⟩
    have hiN : i = N := by
      rcases Nat.lt_or_ge i N with h | h
      · rw [show N - i = (N - (i + 1)) + 1 from by omega, List.range'_succ] at hl; cases hl
      · omega
    subst hiN
    simp only [wp_pure']
    exact hq _ _
end MNW
