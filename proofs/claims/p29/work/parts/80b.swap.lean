/-! THE TWO OBJECTS CHANGE PLACES -/
def dsw : Dsc → Dsc
  | .inl (ci, n, f) => .inl (ci, n, fun k => (f k).map fun o => o.map sgm)
  | .inr (.inl x) => .inr (.inl x)
  | .inr (.inr (.inl (t, n, f))) => .inr (.inr (.inl (t, n, fun k => (f k).map sgm)))
  | .inr (.inr (.inr n)) => .inr (.inr (.inr n))
def swZ (Z : ZZ) : ZZ := (fun i => Z.1 (sgm i), fun i => dsw (Z.2.1 (sgm i)), Z.2.2.map sgm)
theorem el_dsw (tA : Nat → ClassId) (ad : Nat → Nat) (m : Nat → Int32) : ∀ D : Dsc, el tA (fun i => ad (sgm i)) m (dsw D) = el tA ad m D
  | .inl (ci, n, f) => by
    show Sum.inr (ci, (List.range n).map (fv (fun i => ad (sgm i)) m fun k => (f k).map fun o => o.map sgm)) = Sum.inr (ci, (List.range n).map (fv ad m f))
    congr 2
    apply List.map_congr_left
    intro k _
    cases h : f k with
    | none => simp [fv, h]
    | some o => cases o with
      | none => simp [fv, h]
      | some j => simp [fv, h, sgm2]
  | .inr (.inl (t, n)) => rfl
  | .inr (.inr (.inl (t, n, f))) => by
    have e : (fun k => (((f k).map sgm).map fun i => ad (sgm i))) = fun k => (f k).map ad := by
      funext k
      cases h : f k with
      | none => rfl
      | some j =>
        show some (ad (sgm (sgm j))) = some (ad j)
        rw [sgm2]
    show Sum.inl (tA t, n, Sum.inr (Sum.inr (Sum.inr (Sum.inr fun k => ((f k).map sgm).map fun i => ad (sgm i))))) = _
    rw [e]
    rfl
  | .inr (.inr (.inr n)) => rfl
theorem wv_sw (G : GG) (Z : ZZ) (M : Mem) : wv G (swZ Z) (sw M) = wv G Z M := by
  unfold wv
  show (Z.2.2.map sgm).map (fun i => (Z.1 (sgm i), el G.2.1 (fun j => Z.1 (sgm j)) (M (sgm i)) (dsw (Z.2.1 (sgm i))))) = _
  rw [List.map_map]
  apply List.map_congr_left
  intro i _
  show (Z.1 (sgm (sgm i)), el G.2.1 (fun j => Z.1 (sgm j)) (M (sgm (sgm i))) (dsw (Z.2.1 (sgm (sgm i))))) = _
  rw [sgm2, el_dsw]
theorem V_sw {X : XX} {G : GG} {Z : ZZ} {M : Mem} {k n : Nat} {Q : State → Prop} {pc : Nat} {L : List (Nat × Value)} {st : List Value} (h : V X G (swZ Z) (sw M) k n Q pc L st) : V X G Z M k n Q pc L st := fun H locs ls hP hS hl => h H locs ls (by rw [wv_sw]; exact hP) hS hl
theorem V_sb {X : XX} {G : GG} {Z : ZZ} {M : Mem} {k n : Nat} {Q : State → Prop} {pc : Nat} {L : List (Nat × Value)} {st : List Value} (h : V X G Z (sw M) k n Q pc L st) : V X G (swZ Z) M k n Q pc L st := fun H locs ls hP hS hl => h H locs ls (by
  have e := wv_sw G Z (sw M)
  rw [sw2] at e
  rw [← e]
  exact hP) hS hl
theorem At.sw {Z : ZZ} {i : Nat} {D : Dsc} (h : At Z (sgm i) D) : At (swZ Z) i (dsw D) := by
  refine ⟨?_, ?_⟩
  · show i ∈ Z.2.2.map sgm
    exact List.mem_map.mpr ⟨sgm i, h.1, sgm2 i⟩
  · show dsw (Z.2.1 (sgm i)) = dsw D
    rw [h.2]
theorem nodup_sw : ∀ {l : List Nat}, l.Nodup → (l.map sgm).Nodup
  | [], _ => List.nodup_nil
  | a :: l, h => by
    rw [List.nodup_cons] at h
    show (sgm a :: l.map sgm).Nodup
    rw [List.nodup_cons]
    refine ⟨fun z => ?_, nodup_sw h.2⟩
    obtain ⟨b, hb, e⟩ := List.mem_map.mp z
    have e2 : sgm (sgm b) = sgm (sgm a) := by rw [e]
    rw [sgm2, sgm2] at e2
    exact h.1 (e2 ▸ hb)
theorem ZOk.sw {G : GG} {Z : ZZ} (h : ZOk G Z) : ZOk G (swZ Z) := by
  obtain ⟨h1, h2, h3⟩ := h
  refine ⟨nodup_sw h1, fun i hi j hj e => ?_, fun i hi => ?_⟩
  · obtain ⟨a, ha, rfl⟩ := List.mem_map.mp hi
    obtain ⟨b, hb, rfl⟩ := List.mem_map.mp hj
    have e : Z.1 (sgm (sgm a)) = Z.1 (sgm (sgm b)) := e
    rw [sgm2, sgm2] at e
    rw [h2 a ha b hb e]
  · obtain ⟨a, ha, rfl⟩ := List.mem_map.mp hi
    show G.2.2.1 (Z.1 (sgm (sgm a)))
    rw [sgm2]
    exact h3 a ha
