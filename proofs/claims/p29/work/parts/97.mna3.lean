theorem grow2 {G : GG} {Z : ZZ} {M : Mem} {H : Heap} {i a : Nat} {D : Dsc} {f : Nat → Int32} (hz : ZK G Z) (hi : i ∉ Z.2.2) (hP : va_P G.1 vwCl (wv G Z M) H) (hne : ∀ j ∈ Z.2.2, Z.1 j ≠ a) (hA : G.2.2.1 a) (he : va_at G.1 vwCl (a, el G.2.1 (zadd Z i a D).1 f D) H) (hr : ∀ r, rfs D r → r ∈ Z.2.2) : ZK G (zadd Z i a D) ∧ va_P G.1 vwCl (wv G (zadd Z i a D) (ms M i f)) H := by
  have one : ∀ (k : Nat) (q : Nat × va_E), [(a, el G.2.1 (zadd Z i a D).1 f D)][k]? = some q → k = 0 ∧ q = (a, el G.2.1 (zadd Z i a D).1 f D) := fun k q hk => by
    cases k with
    | zero => cases hk; exact ⟨rfl, rfl⟩
    | succ k => cases hk
  refine grow (e := el G.2.1 (zadd Z i a D).1 f D) hz hi (hP.app (fun k q hk => ?_)) (va_D.app (wv_D hz.1 M) ⟨fun x y p q hx hy _ => ?_, fun k q hk => ?_⟩ (fun x y p q hx hy e => ?_)) (fun h => h) hr
  · obtain ⟨-, rfl⟩ := one k q hk
    exact he
  · rw [(one x p hx).1, (one y q hy).1]
  · obtain ⟨-, rfl⟩ := one k q hk
    exact hA
  · obtain ⟨-, rfl⟩ := one y q hy
    have := List.mem_of_getElem? hx
    unfold wv at this
    obtain ⟨j, hj, rfl⟩ := List.mem_map.mp this
    exact hne j hj e
theorem mn_grow {G : GG} {Z : ZZ} {M : Mem} {H : Heap} {N b : Nat} {g : Nat → Nat} (hz : ZK G Z) (hP : va_P G.1 vwCl (wv G Z M) H) (hA : ∀ q, b ≤ q → G.2.2.1 q) (hlt : ∀ j ∈ Z.2.2, Z.1 j < b) (hg : ∀ j, j < N → g j ∉ Z.2.2) (hinj : ∀ i j, i < N → j < N → g i = g j → i = j) (hI : ∀ j, j < N → H[b + j]? = some (mnI (G.2.1 0) 5)) : ∀ i, i ≤ N → ∃ Z' M', ZK G Z' ∧ va_P G.1 vwCl (wv G Z' M') H ∧ Ex (fun q => ∃ j, j < i ∧ q = g j) Z M Z' M' ∧ (∀ j ∈ Z'.2.2, Z'.1 j < b + i) ∧ (∀ j, j < i → At Z' (g j) (dA 0 5) ∧ Z'.1 (g j) = b + j ∧ ∀ q, M' (g j) q = 0)
  | 0, _ => ⟨Z, M, hz, hP, Ex.rf, fun j hj => hlt j hj, fun j hj => absurd hj (Nat.not_lt_zero j)⟩
  | i + 1, hi => by
    obtain ⟨Z1, M1, z1, p1, e1, l1, a1⟩ := mn_grow hz hP hA hlt hg hinj hI i (by omega)
    have hn : g i ∉ Z1.2.2 := fun h => by
      rcases e1.2.2 _ h with h | ⟨j, hj, h⟩
      · exact hg i (by omega) h
      · have := hinj i j (by omega) (by omega) h
        omega
    have g2 := grow2 (a := b + i) (D := dA 0 5) (f := fun _ => 0) z1 hn p1 (fun j hj => by have := l1 j hj; omega) (hA _ (by omega)) (hI i (by omega)) (fun r hr => False.elim hr)
    refine ⟨zadd Z1 (g i) (b + i) (dA 0 5), ms M1 (g i) (fun _ => 0), g2.1, g2.2, Ex.add (e1.wk (fun q ⟨j, hj, h⟩ => ⟨j, by omega, h⟩)) hn ⟨i, by omega, rfl⟩, fun j hj => ?_, fun j hj => ?_⟩
    · rcases List.mem_append.mp hj with h | h
      · rw [zadd_1 (fun e : j = g i => hn (by rw [← e]; exact h))]
        have := l1 j h
        omega
      · rcases List.mem_singleton.mp h with rfl
        rw [zadd_11]
        omega
    · by_cases e : j = i
      · subst e
        exact ⟨⟨List.mem_append_right _ (List.mem_singleton.mpr rfl), zadd_21⟩, zadd_11, fun q => by rw [ms_same]⟩
      · obtain ⟨x1, x2, x3⟩ := a1 j (by omega)
        have ne : g j ≠ g i := fun h => e (hinj j i (by omega) (by omega) h)
        exact ⟨⟨List.mem_append_left _ x1.1, (zadd_2 ne).trans x1.2⟩, (zadd_1 ne).trans x2, fun q => by rw [ms_ne ne]; exact x3 q⟩
section RM2
variable {X : XX} {G : GG} {Z : ZZ} {M : Mem} {k n : Nat} {Q : State → Prop} {pc : Nat} {L : List (Nat × Value)} {rest : List Value} {own : String} {cc : ByteArray} {ret : Option FieldType} {d mc ms' nL : Nat}
theorem w_ai : Cond.arrayClass .int ∈ TW := tw_in (List.mem_of_getElem? (i := 102) (by decide +kernel)) rfl
theorem w_aai : Cond.arrayOver (.array .int) ∈ TW := tw_in (List.mem_of_getElem? (i := 117) (by decide +kernel)) rfl
theorem r_mna {N io idx : Nat} {g : Nat → Nat} {v : Int32} (w1 : Cond.classLink own idx "[[I" ∈ TW) (hv : ¬ v < 0) (hN : v.toNatClampNeg = N) (hN2 : N ≤ 16)
    (hC : Cx X G own cc ret d mc ms' nL) (hz : ZK G Z) (hio : io ∉ Z.2.2) (hg : ∀ j, j < N → g j ∉ Z.2.2 ∧ g j ≠ io) (hinj : ∀ i j, i < N → j < N → g i = g j → i = j) (hk : k + (1 + N) ≤ mc) (hn : n + (N + N * 5) ≤ ms') (hdg : decode cc pc = .ok (.multianewarray idx 2, 4))
    (kk : ∀ (Z' : ZZ) (M' : Mem) (a : Nat), ZK G Z' → Ex (fun q => q = io ∨ ∃ j, j < N ∧ q = g j) Z M Z' M' → At Z' io (.inr (.inr (.inl (4, N, fun j => some (g j))))) → Z'.1 io = a → (∀ j, j < N → At Z' (g j) (dA 0 5) ∧ ∀ q, M' (g j) q = 0) → V X G Z' M' (k + 1 + N) (n + N + N * 5) Q (pc + 4) L (.ref a :: rest)) : V X G Z M k n Q pc L (.int 5 :: .int v :: rest) := by
  obtain ⟨⟨hx, hb, hr, hml, hn'⟩, hown, htw, hlk, hK, hA, hsg, hst', hR⟩ := hC
  intro H locs ls hP hS hl
  obtain ⟨hR1, hR2, hR3, hR4⟩ := hR
  refine W_mna (N := N) (K := 5) hx hb hown (htw.use _ _ w1) (htw.use _ _ w_aai) (htw.use _ _ w_ai) hv (by decide) hN (by decide) (by omega) (by omega) (by rw [hR3]; exact hk) (by rw [hR4]; exact hn) hdg (fun H1 cA ci c1 c2 z1 o1 e1 i1 => ?_)
  have e4 : (xs X).vm.findClass ("[" ++ (FieldType.array .int).toString) = some (G.2.1 4) := (hK.2 4 (G.2.1 4, .array .int) rfl).2
  have e0 : (xs X).vm.findClass ("[" ++ FieldType.int.toString) = some (G.2.1 0) := (hK.2 0 (G.2.1 0, .int) rfl).2
  rw [show "[" ++ (FieldType.array .int).toString = "[[I" by decide] at e4
  rw [show "[" ++ FieldType.int.toString = "[I" by decide] at e0
  have ec : cA = G.2.1 4 := Option.some.inj (c1.symm.trans e4)
  have ec0 : ci = G.2.1 0 := Option.some.inj (c2.symm.trans e0)
  subst ec ec0
  have hlt : ∀ j ∈ Z.2.2, Z.1 j < H.size := fun j hj => (wvP.mp hP j hj).lt
  have hP1 : va_P G.1 vwCl (wv G Z M) H1 := hP.kept (fun k q hk => o1 q.1 (hP k q hk).lt)
  obtain ⟨Z1, M1, z1', p1, x1, l1, a1⟩ := mn_grow (b := H.size + 1) (N := N) (g := g) hz hP1 (fun q hq => hA q (Nat.le_trans hS.1 (by omega))) (fun j hj => by have := hlt j hj; omega) (fun j hj => (hg j hj).1) hinj i1 N (Nat.le_refl N)
  have hni : io ∉ Z1.2.2 := fun h => by
    rcases x1.2.2 _ h with h | ⟨j, hj, h⟩
    · exact hio h
    · exact (hg j hj).2 h.symm
  have hne : ∀ j ∈ Z1.2.2, Z1.1 j ≠ H.size := fun j hj e => by
    rcases x1.2.2 j hj with h | ⟨q, hq, h⟩
    · have := hlt j h
      rw [(x1.1 j h).2] at e
      omega
    · have := (a1 q hq).2.1
      rw [h] at e
      omega
  have g2 := grow2 (a := H.size) (D := .inr (.inr (.inl (4, N, fun j => some (g j))))) (f := fun _ => 0) z1' hni p1 hne (hA _ hS.1) (by
    show H1[H.size]? = some (arrV (G.2.1 4) N (fun j => va_rf ((some (g j)).map (zadd Z1 io H.size (.inr (.inr (.inl (4, N, fun j => some (g j)))))).1)))
    rw [e1]
    unfold mnO
    refine congrArg some (arrV_cong (G.2.1 4) N (fun q hq => ?_))
    show (if q < N then Value.ref (H.size + 1 + q) else .null) = Value.ref ((zadd Z1 io H.size _).1 (g q))
    rw [if_pos hq, zadd_1 (hg q hq).2, (a1 q hq).2.1]) (fun r ⟨q, hq, h⟩ => by
    cases h
    exact (a1 q hq).1.1)
  refine kk _ _ H.size g2.1 (Ex.add (x1.wk (fun q h => Or.inr h)) hni (Or.inl rfl)) ⟨List.mem_append_right _ (List.mem_singleton.mpr rfl), zadd_21⟩ zadd_11 (fun j hj => ?_) H1 locs ls g2.2 ⟨Nat.le_trans hS.1 (by omega), fun q h1 h2 => (o1 q (Nat.lt_of_lt_of_le h1 hS.1)).trans (hS.2.1 q h1 h2), hS.2.2⟩ hl
  obtain ⟨y1, y2, y3⟩ := a1 j hj
  exact ⟨⟨List.mem_append_left _ y1.1, (zadd_2 (hg j hj).2).trans y1.2⟩, fun q => by rw [ms_ne (hg j hj).2]; exact y3 q⟩
end RM2
