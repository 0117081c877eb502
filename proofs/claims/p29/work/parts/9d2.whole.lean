/-! THE START OF THE LAW -/
theorem wt_46 : Cond.methodLink "HandSpansLaw" (231 : Nat) ({ cls := "HandSpans", name := "<init>", desc := "()V" } : MethodName) ∈ TW := tw_in (List.mem_of_getElem? (i := 46) (by decide +kernel)) rfl
theorem kL_X5 : CsI RL 231 yX5_init cX5_init 2 := ⟨⟨good1 wt_48 rfl, wt_30, wt_46, wt_47⟩, rfl, by decide +kernel⟩
theorem dsw2 : ∀ D : Dsc, dsw (dsw D) = D
  | .inl (ci, n, f) => by
    have e : (fun k => ((f k).map fun o => o.map sgm).map fun o => o.map sgm) = f := by
      funext k
      cases h : f k with
      | none => rfl
      | some o => cases o with
        | none => rfl
        | some j =>
          show some (some (sgm (sgm j))) = some (some j)
          rw [sgm2]
    show Sum.inl (ci, n, fun k => ((f k).map fun o => o.map sgm).map fun o => o.map sgm) = Sum.inl (ci, n, f)
    rw [e]
  | .inr (.inl x) => rfl
  | .inr (.inr (.inl (t, n, f))) => by
    have e : (fun k => ((f k).map sgm).map sgm) = f := by
      funext k
      cases h : f k with
      | none => rfl
      | some j =>
        show some (sgm (sgm j)) = some j
        rw [sgm2]
    show Sum.inr (Sum.inr (Sum.inl (t, n, fun k => ((f k).map sgm).map sgm))) = Sum.inr (Sum.inr (Sum.inl (t, n, f)))
    rw [e]
  | .inr (.inr (.inr n)) => rfl
theorem rfs_dsw : ∀ (D : Dsc) (r : Nat), rfs (dsw D) r → rfs D (sgm r)
  | .inl (ci, n, f), r, h => by
    obtain ⟨k, hk, e⟩ := h
    refine ⟨k, hk, ?_⟩
    have e : ((f k).map fun o => o.map sgm) = some (some r) := e
    cases hf : f k with
    | none => rw [hf] at e; cases e
    | some o =>
      cases o with
      | none => rw [hf] at e; cases e
      | some j =>
        rw [hf] at e
        have e : some (some (sgm j)) = some (some r) := e
        cases e
        rw [sgm2]
  | .inr (.inl x), r, h => h.elim
  | .inr (.inr (.inl (t, n, f))), r, h => by
    obtain ⟨k, hk, e⟩ := h
    refine ⟨k, hk, ?_⟩
    have e : (f k).map sgm = some r := e
    cases hf : f k with
    | none => rw [hf] at e; cases e
    | some j =>
      rw [hf] at e
      have e : some (sgm j) = some r := e
      cases e
      rw [sgm2]
  | .inr (.inr (.inr n)), r, h => h.elim
theorem ZK.sw {G : GG} {Z : ZZ} (h : ZK G Z) : ZK G (swZ Z) := by
  refine ⟨h.1.sw, fun i hi r hr => ?_⟩
  obtain ⟨a, ha, rfl⟩ := List.mem_map.mp hi
  have hr : rfs (dsw (Z.2.1 (sgm (sgm a)))) r := hr
  rw [sgm2] at hr
  have := h.2 a ha _ (rfs_dsw _ _ hr)
  exact List.mem_map.mpr ⟨_, this, sgm2 r⟩
theorem sw_mem {Z : ZZ} {i : Nat} (h : i ∈ (swZ Z).2.2) : sgm i ∈ Z.2.2 := by
  obtain ⟨a, ha, rfl⟩ := List.mem_map.mp h
  rw [sgm2]
  exact ha
theorem rel0 {M : Mem} (h1 : EHs M) : CRel M D0 := by
  obtain ⟨a1, a2, a3, a4, a5⟩ := h1
  refine ⟨⟨a1 1, fun i hi => absurd hi (Nat.not_lt_zero i)⟩, a2, ⟨0, by decide, a3 1, a3 2, fun j hj => absurd hj (Nat.not_lt_zero j)⟩, fun s _ => ⟨a4 s, fun e => absurd (show false = true from e) (by decide)⟩, fun c hc => ?_, ?_⟩
  · exact (a5 c (by omega)).1
  · obtain ⟨x1, x2, x3, x4⟩ := a5 16 (Or.inr rfl)
    exact ⟨x2, x3, x4, x1⟩
theorem SHs_CI {q : Nat} : SHs 2 q ↔ CI q := by
  unfold SHs CI
  omega
theorem sgm_lo {q : Nat} (h : q < 302) : sgm q = q + 400 := by
  unfold sgm
  rw [if_pos h]
theorem sgm_up {q : Nat} (h : q < 302) : sgm (q + 400) = q := by
  have := sgm2 q
  rw [sgm_lo h] at this
  exact this
theorem whole_start {p : Program} {e : Env} {s : State} {m : MethodId} {below : List Frame} {meth : Method} {c : Code} (l : Launch) (hflags : l.flags = flags0) {b L : Nat} {xs : Nat → Int32} (hL : L ≤ 260) (C0 : lw_At p s m meth c b L xs) : W p l e room_1 s m #[Value.ref b] below meth c s.heap [] 0 0 (lw_Z below #[Value.ref b] s) (entryFrame m ([Value.ref b] : List Value).toArray 9) := by
  obtain ⟨G, hGA, hK, hSg, hGb, hGL⟩ := start_G C0
  subst hGb
  obtain ⟨hx, hb, hr, hml, hown, hts, hX, hbl, hlocks, hgv⟩ := C0
  have hst : l.stackTraces = false := by
    show (!l.flags.contains noTraceFlag) = false
    rw [hflags]
    decide +kernel
  have hA : ∀ q : Nat, s.heap.size ≤ q → G.2.2.1 q := fun q hq => by rw [hGA]; exact hq
  have hC : Cx (p, l, e, room_1, s, m, #[Value.ref (G.2.2.2 3)], below, meth, c, 9) G RL cL_law (some .boolean) 14 600130 7301080 9 := ⟨⟨hx, hb, hr, hml, rfl⟩, hown, Tw.of hts, hlocks, hK, hA, hSg, hst, rfl, (by decide : 40 * 14 ≤ room_1.locals), rfl, rfl⟩
  have hl : LawOk (p, l, e, room_1, s, m, #[Value.ref (G.2.2.2 3)], below, meth, c, 9) G := ⟨rfl, rfl, fun q hq => by rw [hGA] at hq; exact hq⟩
  have K : V (p, l, e, room_1, s, m, #[Value.ref (G.2.2.2 3)], below, meth, c, 9) G (fun _ => 0, TB, []) (fun _ _ => 0) 0 0 (QL (p, l, e, room_1, s, m, #[Value.ref (G.2.2.2 3)], below, meth, c, 9)) 0 [(0, .ref (G.2.2.2 3))] [] := by
    have h : Iv G (fun _ => False) TB (fun _ => True) (fun _ => 0, TB, []) (fun _ _ => 0) (fun _ => 0, TB, []) (fun _ _ => 0) := ⟨⟨⟨List.nodup_nil, (fun i hi => by cases hi), (fun i hi => by cases hi)⟩, (fun j hj => by cases hj)⟩, Ex.rf, fun j hj => hj.elim, trivial, fun _ _ _ _ => trivial⟩
    refine r_nw (i := 0) (S1 := SHs 2) h (fun q hq => ⟨fun hm => (by cases hm), fun f => f, rfl⟩) (Or.inl (by decide)) (cn_HS (cx_st hC)) tw_wsX5 tyX5 tyX5_ok rfl wt_44 wt_45 wt_30 (fun q hq => match q, hq with | 0, _ => Or.inr ⟨rfl, rfl⟩ | 1, _ => Or.inr ⟨rfl, rfl⟩ | 2, _ => Or.inr ⟨rfl, rfl⟩ | 3, _ => Or.inr ⟨rfl, rfl⟩ | 4, _ => Or.inr ⟨rfl, rfl⟩ | 5, _ => Or.inr ⟨rfl, rfl⟩ | 6, _ => Or.inr ⟨rfl, rfl⟩ | n + 7, hq => absurd hq (by omega)) (Or.inl kL_X5) hC (by decide) (by decide) (Nat.le_of_ble_eq_true rfl) (by decide) (by decide) dL_law_0 dL_law_3 dL_law_4 (fun Z1 M1 a1 ha1 _ h1 => ?_)
    refine r_astore_n (L' := [(1, .ref a1), (0, .ref (G.2.2.2 3))]) hC dL_law_7 (by decide) rfl ?_
    obtain ⟨z1, x1, t1, ⟨-, e1⟩, g1⟩ := h1
    have t1 : ∀ q, CI q → At Z1 q (TB q) := fun q hq => t1 q (Or.inr (SHs_CI.mpr hq))
    have m1 : ∀ q, q ∈ Z1.2.2 → CI q := fun q hq => by
      rcases x1.2.2 q hq with f | f | f
      · cases f
      · exact f.elim
      · exact SHs_CI.mp f
    -- the places change; the second object
    refine V_sw ?_
    have h2 : Iv G (fun _ => False) TB (fun _ => True) (swZ Z1) (sw M1) (swZ Z1) (sw M1) := ⟨ZK.sw z1, Ex.rf, fun j hj => hj.elim, trivial, fun _ _ _ _ => trivial⟩
    refine r_nw (i := 0) (S1 := SHs 2) h2 (fun q hq => ⟨fun hm => ?_, fun f => f, rfl⟩) (Or.inl (by decide)) (cn_HS (cx_st hC)) tw_wsX5 tyX5 tyX5_ok rfl wt_44 wt_45 wt_30 (fun q hq => match q, hq with | 0, _ => Or.inr ⟨rfl, rfl⟩ | 1, _ => Or.inr ⟨rfl, rfl⟩ | 2, _ => Or.inr ⟨rfl, rfl⟩ | 3, _ => Or.inr ⟨rfl, rfl⟩ | 4, _ => Or.inr ⟨rfl, rfl⟩ | 5, _ => Or.inr ⟨rfl, rfl⟩ | 6, _ => Or.inr ⟨rfl, rfl⟩ | n + 7, hq => absurd hq (by omega)) (Or.inl kL_X5) hC (by decide) (by decide) (Nat.le_of_ble_eq_true rfl) (by decide) (by decide) dL_law_8 dL_law_11 dL_law_12 (fun Z2 M2 a2 ha2 _ h3 => ?_)
    · have a := m1 _ (sw_mem hm)
      have b := SHs_CI.mp hq
      rw [sgm_hi b] at a
      unfold CI at a b
      omega
    refine r_astore_n (L' := [(2, .ref a2), (1, .ref a1), (0, .ref (G.2.2.2 3))]) hC dL_law_15 (by decide) rfl ?_
    obtain ⟨z2, x2, t2, ⟨-, e2⟩, g2⟩ := h3
    have t2 : ∀ q, CI q → At Z2 q (TB q) := fun q hq => t2 q (Or.inr (SHs_CI.mpr hq))
    have m2 : ∀ q, q ∈ Z2.2.2 → CI q ∨ CI (sgm q) := fun q hq => by
      rcases x2.2.2 q hq with f | f | f
      · exact Or.inr (m1 _ (sw_mem f))
      · exact f.elim
      · exact Or.inl (SHs_CI.mp f)
    -- what the first object is by now
    have in1 : ∀ q, CI q → q + 400 ∈ (swZ Z1).2.2 := fun q hq => List.mem_map.mpr ⟨q, (t1 q hq).1, sgm_hi hq⟩
    have ns : ∀ q, ¬ (False ∨ SHs 2 (q + 400)) := fun q f => by
      rcases f with f | f
      · exact f
      · unfold SHs at f
        omega
    have o1 : ∀ q, CI q → At Z2 (sgm q) (dsw (TB q)) := fun q hq => by
      have l : q < 302 := by unfold CI at hq; omega
      have a := x2.2.1 (q + 400) (in1 q hq) (ns q)
      rw [sgm_hi hq]
      refine ⟨(x2.1 _ (in1 q hq)).1, a.1.trans ?_⟩
      show dsw (Z1.2.1 (sgm (q + 400))) = _
      rw [sgm_up l, (t1 q hq).2]
    have hZ : ZM (swZ Z2) := fun i h3 h4 => by
      have hq : CI i := by unfold CI; omega
      have := At.sw (o1 i hq)
      rw [dsw2] at this
      exact this
    have hZq : ZM (swZ (swZ Z2)) := fun i h3 h4 => by
      have hq : CI i := by unfold CI; omega
      have a := t2 i hq
      rw [← dsw2 (TB i)]
      refine At.sw (At.sw ?_)
      rw [sgm2]
      exact a
    have n43 : 43 ∉ (swZ Z2).2.2 := fun hm => by
      have a := m2 _ (sw_mem hm)
      rw [sgm2, sgm_lo (by omega)] at a
      unfold CI at a
      omega
    have f0 : CI 0 := Or.inl (by omega)
    have ea1 : a1 = (swZ Z2).1 0 := by
      show a1 = Z2.1 (sgm 0)
      rw [sgm_hi f0, (x2.1 _ (in1 0 f0)).2]
      show a1 = Z1.1 (sgm (0 + 400))
      rw [sgm_up (by omega), ha1]
    have ea2 : a2 = (swZ Z2).1 400 := by
      show a2 = Z2.1 (sgm (0 + 400))
      rw [sgm_up (by omega), ha2]
    have mm : ∀ q, CI q → sw M2 q = M1 q := fun q hq => by
      have l : q < 302 := by unfold CI at hq; omega
      show M2 (sgm q) = M1 q
      rw [sgm_hi hq, (x2.2.1 (q + 400) (in1 q hq) (ns q)).2]
      show M1 (sgm (q + 400)) = M1 q
      rw [sgm_up l]
    have s2 : S2 D0 D0 (sw M2) := ⟨rel0 (EHs.st (j := 2) M1 (sw M2) (fun q hq => mm q (SHs_CI.mp hq)) e1), by rw [sw2]; exact rel0 e2⟩
    refine V_sw ?_
    rw [ea1, ea2]
    refine r_L [2, 1, 0] rfl ?_
    obtain ⟨M', hf⟩ := law_ok (scr := scG G) (scl := lnG G) (by rw [hGL]; exact hL) s2
    refine w_L_law16 hC hl z2.1.sw hZ z2.1.sw.sw hZq (ZK.sw z2) n43 (sw M2) ?_ ?_ hf
    · omega
    · omega
  have hl0 := lv_entry ([Value.ref (G.2.2.2 3)]) (n := 9) (Nat.le_of_ble_eq_true rfl)
  rw [lg_entry_eq]
  exact K s.heap [] _ (wvP.mpr (fun j hj => by cases hj)) va_S.rf hl0
