/-- what a cell is: an object (class, slots; a slot: a number, null, or a reference), an array of ints (kind, length), of references, of longs -/
abbrev Dsc : Type := (Nat × Nat × (Nat → Option (Option Nat))) ⊕ (Nat × Nat) ⊕ (Nat × Nat × (Nat → Option Nat)) ⊕ Nat
def fv (ad : Nat → Nat) (m : Nat → Int32) (f : Nat → Option (Option Nat)) (k : Nat) : Value := match f k with
  | none => .int (m k)
  | some none => .null
  | some (some j) => .ref (ad j)
def el (dA : Nat → ClassId) (ad : Nat → Nat) (m : Nat → Int32) : Dsc → va_E
  | .inl (ci, n, f) => .inr (ci, (List.range n).map (fv ad m f))
  | .inr (.inl (t, n)) => .inl (dA t, n, .inl m)
  | .inr (.inr (.inl (t, n, f))) => .inl (dA t, n, .inr (.inr (.inr (.inr fun k => (f k).map ad))))
  | .inr (.inr (.inr n)) => .inl (dA 3, n, .inl m)
/-- the class tables, the array classes, the region, the three static arrays -/
abbrev GG : Type := va_G × (Nat → ClassId) × (Nat → Prop) × (Nat → Nat)
/-- addresses, what the cells are, which there are -/
abbrev ZZ : Type := (Nat → Nat) × (Nat → Dsc) × List Nat
def wv (G : GG) (Z : ZZ) (M : Mem) : va_W := Z.2.2.map fun i => (Z.1 i, el G.2.1 Z.1 (M i) (Z.2.1 i))
def tys (G : GG) : List (ClassId × FieldType) := [(G.2.1 0, .int), (G.2.1 1, .boolean), (G.2.1 2, .char), (G.2.1 3, .int), (G.2.1 4, .array .int), (G.2.1 5, .object RX3), (G.2.1 6, .object RX0)]
def At (Z : ZZ) (i : Nat) (D : Dsc) : Prop := i ∈ Z.2.2 ∧ Z.2.1 i = D
def ZOk (G : GG) (Z : ZZ) : Prop := Z.2.2.Nodup ∧ (∀ i ∈ Z.2.2, ∀ j ∈ Z.2.2, Z.1 i = Z.1 j → i = j) ∧ ∀ i ∈ Z.2.2, G.2.2.1 (Z.1 i)
theorem wv_get {G : GG} {Z : ZZ} {M : Mem} {i : Nat} {D : Dsc} (h : At Z i D) : ∃ k : Nat, Z.2.2[k]? = some i ∧ (wv G Z M)[k]? = some (Z.1 i, el G.2.1 Z.1 (M i) D) := by
  obtain ⟨h1, rfl⟩ := h
  obtain ⟨k, hk⟩ := List.mem_iff_getElem?.mp h1
  exact ⟨k, hk, by unfold wv; rw [List.getElem?_map, hk]; rfl⟩
theorem map_set {α : Type} (f g : Nat → α) {i : Nat} : ∀ (l : List Nat) (k : Nat), l[k]? = some i → l.Nodup → (∀ j, j ≠ i → g j = f j) → (l.map f).set k (g i) = l.map g
  | [], k, h, _, _ => by simp at h
  | a :: l, 0, h, hn, hg => by
    simp at h; subst h
    rw [List.nodup_cons] at hn
    show g a :: l.map f = g a :: l.map g
    congr 1
    exact List.map_congr_left fun j hj => (hg j (fun e => hn.1 (e ▸ hj))).symm
  | a :: l, k + 1, h, hn, hg => by
    simp at h
    rw [List.nodup_cons] at hn
    have hi : i ∈ l := List.mem_of_getElem? h
    show f a :: (l.map f).set k (g i) = g a :: l.map g
    rw [map_set f g l k h hn.2 hg, hg a (fun e => hn.1 (e ▸ hi))]
theorem wv_set {G : GG} {Z : ZZ} {M : Mem} {i k : Nat} (hz : ZOk G Z) (hk : Z.2.2[k]? = some i) (f : Nat → Int32) : (wv G Z M).set k (Z.1 i, el G.2.1 Z.1 f (Z.2.1 i)) = wv G Z (ms M i f) := by
  unfold wv
  have := map_set (fun j => (Z.1 j, el G.2.1 Z.1 (M j) (Z.2.1 j))) (fun j => (Z.1 j, el G.2.1 Z.1 (ms M i f j) (Z.2.1 j))) Z.2.2 k hk hz.1 (fun j hj => by simp [ms, hj])
  rw [← this]
  simp [ms]
theorem wv_D {G : GG} {Z : ZZ} (hz : ZOk G Z) (M : Mem) : va_D G.2.2.1 (wv G Z M) := by
  obtain ⟨h1, h2, h3⟩ := hz
  unfold wv
  refine ⟨fun i j p q hi hj e => ?_, fun k q hk => ?_⟩
  · rw [List.getElem?_map] at hi hj
    cases a : Z.2.2[i]? with
    | none => rw [a] at hi; cases hi
    | some x =>
      cases b : Z.2.2[j]? with
      | none => rw [b] at hj; cases hj
      | some y =>
        rw [a] at hi; rw [b] at hj
        cases hi; cases hj
        have hxy := h2 x (List.mem_of_getElem? a) y (List.mem_of_getElem? b) e
        subst hxy
        have hl := (List.getElem?_eq_some_iff.mp a).1
        exact (List.getElem?_inj hl h1).mp (a.trans b.symm)
  · rw [List.getElem?_map] at hk
    cases a : Z.2.2[k]? with
    | none => rw [a] at hk; cases hk
    | some x =>
      rw [a] at hk; cases hk
      exact h3 x (List.mem_of_getElem? a)
/-- the statics that the program reads or that a throw carries -/
abbrev lnG (G : GG) : Nat := G.2.2.2 4
abbrev scG (G : GG) : Nat → Int32 := fun k => Int32.ofNat (G.2.2.2 (5 + k))
/-- the law's own script -/
def SX (G : GG) (U : State) (H : Heap) : Prop := va_X (G.2.2.2 3) (lnG G) (scG G) U H ∧ ¬ G.2.2.1 (G.2.2.2 3)
theorem SX.lt {G : GG} {U : State} {H : Heap} (h : SX G U H) : G.2.2.2 3 < H.size := by
  obtain ⟨⟨scr, h1, -⟩, -⟩ := h
  exact (Array.getElem?_eq_some_iff.mp h1).1
def Sg (G : GG) (U : State) (H : Heap) : Prop :=
  (va_Z "HandSpans" "SETTING_AT_FIRST" "[I" (.ref (G.2.2.2 0)) G.2.2.1 U H ∧ va_T .int (G.2.2.2 0) 6 (fun k => .int (sa_first.getD k 0)) G.2.2.1 U H) ∧
  (va_Z "HandSpans" "LEAST_SETTING" "[I" (.ref (G.2.2.2 1)) G.2.2.1 U H ∧ va_T .int (G.2.2.2 1) 6 (fun k => .int (sa_least.getD k 0)) G.2.2.1 U H) ∧
  (va_Z "HandSpans" "MOST_SETTING" "[I" (.ref (G.2.2.2 2)) G.2.2.1 U H ∧ va_T .int (G.2.2.2 2) 6 (fun k => .int (sa_most.getD k 0)) G.2.2.1 U H) ∧
  vx_Zq Bundle.tN "UNASSIGNED_STACK" Bundle.steD G.2.2.1 U H ∧ vx_Zq Bundle.tN "SUPPRESSED_SENTINEL" Bundle.listD G.2.2.1 U H ∧
  (∀ a b : Nat, a < 3 → b < 3 → a ≠ b → va_Nc (exn a) (exn b) U) ∧ SX G U H
theorem Sg.moved {G : GG} {u U : State} {H : Heap} (hvm : u.vm.Alike U.vm) (h : Sg G u H) : Sg G U H := by
  obtain ⟨⟨a1, a2⟩, ⟨b1, b2⟩, ⟨c1, c2⟩, d, e, f, x1, x2⟩ := h
  exact ⟨⟨va_Z.moved hvm a1, va_T.moved hvm a2⟩, ⟨va_Z.moved hvm b1, va_T.moved hvm b2⟩, ⟨va_Z.moved hvm c1, va_T.moved hvm c2⟩, vx_Zq.moved hvm d, vx_Zq.moved hvm e, fun a b ha hb hab => va_Nc.moved hvm (f a b ha hb hab), x1.moved hvm, x2⟩
theorem Sg.kept {G : GG} {U : State} {H H1 : Heap} (h : Sg G U H) (hq : ∀ a : Nat, a < H.size → ¬ G.2.2.1 a → H1[a]? = H[a]?) : Sg G U H1 := by
  obtain ⟨⟨a1, a2⟩, ⟨b1, b2⟩, ⟨c1, c2⟩, d, e, f, x1, x2⟩ := h
  exact ⟨⟨va_Z.kept a1 hq, va_T.kept a2 hq⟩, ⟨va_Z.kept b1 hq, va_T.kept b2 hq⟩, ⟨va_Z.kept c1 hq, va_T.kept c2 hq⟩, vx_Zq.kept d hq, vx_Zq.kept e hq, f, x1.kept (hq _ (SX.lt ⟨x1, x2⟩) x2), x2⟩
/-- the world at a state: the memory, the tables, the statics, the words -/
def Wd (G : GG) (Z : ZZ) (M : Mem) (U : State) : Prop := va_P G.1 vwCl (wv G Z M) U.heap ∧ va_K G.1 vwCl (tys G) U ∧ (∀ q : Nat, U.heap.size ≤ q → G.2.2.1 q) ∧ Sg G U U.heap ∧ Tw U
theorem Wd.blind {G : GG} {Z : ZZ} {M : Mem} (As : List Value) : FrameBlind (va_Pc As (Wd G Z M)) := by
  intro a U g mk ⟨h0, h1, h2, h3, h4, h5⟩
  exact ⟨h0, h1, va_K.moved (u := U) (U := U.calling g mk a) (Vm.Alike.refl U.vm) h2, h3, Sg.moved (u := U) (U := U.calling g mk a) (Vm.Alike.refl U.vm) h4, Tw.same (s := U) (U := U.calling g mk a) rfl h5⟩
/-! THE PLACE IN A METHOD -/
abbrev XX : Type := Program × Launch × Env × Room × State × MethodId × Array Value × List Frame × Method × Code × Nat
abbrev xp (X : XX) : Program := X.1
abbrev xl (X : XX) : Launch := X.2.1
abbrev xe (X : XX) : Env := X.2.2.1
abbrev xR (X : XX) : Room := X.2.2.2.1
abbrev xs (X : XX) : State := X.2.2.2.2.1
abbrev xm (X : XX) : MethodId := X.2.2.2.2.2.1
abbrev xa (X : XX) : Array Value := X.2.2.2.2.2.2.1
abbrev xb (X : XX) : List Frame := X.2.2.2.2.2.2.2.1
abbrev xM (X : XX) : Method := X.2.2.2.2.2.2.2.2.1
abbrev xc (X : XX) : Code := X.2.2.2.2.2.2.2.2.2.1
abbrev xn (X : XX) : Nat := X.2.2.2.2.2.2.2.2.2.2
abbrev WX (X : XX) (H : Heap) (locs : List Loc) (k n : Nat) (Q : State → Prop) (pc : Nat) (ls : Array Slot) (st : List Value) : Prop :=
  W (xp X) (xl X) (xe X) (xR X) (xs X) (xm X) (xa X) (xb X) (xM X) (xc X) H locs k n Q (F0 (xm X) pc ls st)
def V (X : XX) (G : GG) (Z : ZZ) (M : Mem) (k n : Nat) (Q : State → Prop) (pc : Nat) (L : List (Nat × Value)) (st : List Value) : Prop :=
  ∀ (H : Heap) (locs : List Loc) (ls : Array Slot), va_P G.1 vwCl (wv G Z M) H → va_S G.2.2.1 (xs X).heap H locs → lv_has ls (xn X) L → WX X H locs k n Q pc ls st
def rmd (d mc ms : Nat) : Room := { frames := d, cells := mc, slots := ms, locals := 40 * d }
/-- what holds all along a body -/
def Cx (X : XX) (G : GG) (own : String) (cc : ByteArray) (ret : Option FieldType) (d mc ms nL : Nat) : Prop :=
  ((xp X).tables.exec = Jvm.exec ∧ (xc X).code = cc ∧ (xM X).sig.returnType = ret ∧ (xc X).maxLocals = nL ∧ xn X = nL) ∧ (xs X).vm.findClass own = some (xm X).cls ∧ Tw (xs X) ∧ (xM X).locks = false ∧
  va_K G.1 vwCl (tys G) (xs X) ∧ (∀ q : Nat, (xs X).heap.size ≤ q → G.2.2.1 q) ∧ Sg G (xs X) (xs X).heap ∧ (xl X).stackTraces = false ∧ (xR X).frames = d ∧ 40 * d ≤ (xR X).locals ∧ (xR X).cells = mc ∧ (xR X).slots = ms
theorem Wd.mk {X : XX} {G : GG} {Z : ZZ} {M : Mem} {own : String} {cc : ByteArray} {ret : Option FieldType} {d mc ms nL : Nat} (hC : Cx X G own cc ret d mc ms nL) {H : Heap} {locs : List Loc} (hP : va_P G.1 vwCl (wv G Z M) H) (hS : va_S G.2.2.1 (xs X).heap H locs) {U : State} (hU : U.heap = H) (hW : (xs X).WarmedH U.vm) : Wd G Z M U := by
  obtain ⟨-, -, h2, -, h4, h5, h6, -⟩ := hC
  subst hU
  exact ⟨hP, va_K.moved hW.alike h4, fun q hq => h5 q (Nat.le_trans hS.1 hq), Sg.moved hW.alike (h6.kept hS.2.1), h2.warm hW⟩
