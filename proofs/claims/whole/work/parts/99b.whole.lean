/-! THE START OF THE LAW -/
theorem r_nl {X : XX} {G : GG} {S : Nat → Prop} {T : Nat → Dsc} {E : Mem → Prop} {Z0 Z : ZZ} {M0 M : Mem} {k n : Nat} {Q : State → Prop} {pc : Nat} {L : List (Nat × Value)} {rest : List Value} {own : String} {cc : ByteArray} {ret : Option FieldType} {d mc ms' nL : Nat} {i : Nat} {v : Int32} (h : Iv G S T E Z0 M0 Z M) (hT : T i = dOut) (h0 : i ∉ Z0.2.2) (hs : ¬ S i) (hv : ¬ v < 0) (hN : v.toNatClampNeg = 1) (hC : Cx X G own cc ret d mc ms' nL) (hk : k + 1 ≤ mc) (hn : n + 1 ≤ ms') (hdg : decode cc pc = .ok (.newarray .long, 2)) (kk : ∀ (Z' : ZZ) (M' : Mem) (a : Nat), Z'.1 i = a → (∀ j, S j → Z'.1 j = Z.1 j) → Iv G (fun q => S q ∨ q = i) T (fun m => E m ∧ ∀ q, m i q = 0) Z0 M0 Z' M' → V X G Z' M' (k + 1) (n + 1) Q (pc + 2) L (.ref a :: rest)) : V X G Z M k n Q pc L (.int v :: rest) :=
  r_newl w_al hv hN hC h.1 (h.fresh h0 hs) hk hn hdg (fun a hz => kk _ _ a zadd_11 (fun j hj => zadd_1 (fun e => hs (e ▸ hj))) (h.add (h.fresh h0 hs) hz hT))
theorem kL_X5 : CsI RL 89 yX5_init cX5_init 2 := ⟨⟨good1 wt_84 rfl, wt_65, wt_82, wt_83⟩, rfl, by decide +kernel⟩
theorem kL_X6 : CsI RL 92 yX6_init cX6_init 1 := ⟨⟨good1 wt_887 rfl, wt_71, wt_885, wt_886⟩, rfl, by decide +kernel⟩
def D0 : Ds := ((0, fun _ => 0), P0, (0, fun _ => P0), (fun _ => false, fun _ => P0))
theorem P0_ok : PgOk P0 := by
  refine ⟨⟨⟨⟨by decide, by decide⟩, ⟨by decide, by decide⟩⟩, ⟨⟨by decide, by decide⟩, ⟨by decide, by decide⟩, ⟨by decide, by decide⟩, ⟨by decide, by decide⟩, ⟨by decide, by decide⟩, ⟨by decide, by decide⟩⟩, fun s b _ _ => Or.inl rfl⟩, fun s b _ _ e => absurd (show (-9 : Int) = 99 from e) (by decide)⟩
theorem Gd0 {M : Mem} (h1 : EHs M) (h2 : EMo M) : Gd M := by
  obtain ⟨a1, a2, a3, a4, a5⟩ := h1
  obtain ⟨b1, b2, b3⟩ := h2
  refine ⟨D0, ⟨by decide, fun i hi => absurd hi (Nat.not_lt_zero i), P0_ok, by decide, fun j hj => absurd hj (Nat.not_lt_zero j), fun s _ e => absurd (show false = true from e) (by decide)⟩, ⟨⟨a1 1, fun i hi => absurd hi (Nat.not_lt_zero i)⟩, a2, ⟨0, by decide, a3 1, a3 2, fun j hj => absurd hj (Nat.not_lt_zero j)⟩, fun s _ => ⟨a4 s, fun e => absurd (show false = true from e) (by decide)⟩, fun c hc => ?_, ?_⟩, ⟨⟨b1 2, fun i hi => absurd hi (Nat.not_lt_zero i)⟩, b2, ⟨b1 9, fun j hj => absurd hj (Nat.not_lt_zero j)⟩, fun s _ => ⟨b3 s, fun e => absurd (show false = true from e) (by decide)⟩⟩⟩
  · exact (a5 c (by omega)).1
  · obtain ⟨x1, x2, x3, x4⟩ := a5 16 (Or.inr rfl)
    exact ⟨x2, x3, x4, x1⟩
theorem law_run {X : XX} {G : GG} {Z : ZZ} {b L : Nat} {sc : Nat → Int32} (hC : Cx X G RL cL_law (some .boolean) 13 601024 7293033 7) (hl : LawOk X G b L sc) (hz : ZOk G Z) (hZ : ZM Z) {M' : Mem} : ∀ (m k n : Nat), k + 3 * m ≤ 601024 → n + 18 * m ≤ 7293033 → ∀ (u : Int32) (M : Mem), lq1 (f_L_law_b23 sc L) m u M = some ((), M') → V X G Z M k n (QL X) 23 [(0, .ref b), (1, .ref (Z.1 0)), (2, .ref (Z.1 27)), (3, .ref (Z.1 43)), (4, .int u)] []
  | 0, _, _, _, _, _, _, hf => by cases hf
  | m + 1, k, n, hk, hn, u, M, hf => by
    rw [lq1_s] at hf
    exact w_L_law_b23 hC hl hz hZ k n (by omega) (by omega) _ (fun k' n' h1 h2 u4 M1 hf1 => law_run hC hl hz hZ m k' n' (by omega) (by omega) u4 M1 hf1) u M hf
theorem whole_start {p : Program} {e : Env} {s : State} {m : MethodId} {below : List Frame} {meth : Method} {c : Code} (l : Launch) (hflags : l.flags = flags0) {b L : Nat} {xs : Nat → Int32} (hL : L ≤ 2048) (C0 : lw_At p s m meth c b L xs) : W p l e room_1 s m #[Value.ref b] below meth c s.heap [] 0 0 (lw_Z below #[Value.ref b] s) (entryFrame m ([Value.ref b] : List Value).toArray 7) := by
  obtain ⟨G, hGA, hK, hSg⟩ := start_G C0
  obtain ⟨hx, hb, hr, hml, hown, hts, hX, hbl, hlocks, hgv⟩ := C0
  have hst : l.stackTraces = false := by
    show (!l.flags.contains noTraceFlag) = false
    rw [hflags]
    decide +kernel
  have hA : ∀ q : Nat, s.heap.size ≤ q → G.2.2.1 q := fun q hq => by rw [hGA]; exact hq
  have hC : Cx (p, l, e, room_1, s, m, #[Value.ref b], below, meth, c, 7) G RL cL_law (some .boolean) 13 601024 7293033 7 := ⟨⟨hx, hb, hr, hml, rfl⟩, hown, Tw.of hts, hlocks, hK, hA, hSg, hst, rfl, (by decide : 40 * 13 ≤ room_1.locals), rfl, rfl⟩
  have hl : LawOk (p, l, e, room_1, s, m, #[Value.ref b], below, meth, c, 7) G b L xs := ⟨hX, hbl, by rw [hGA]; exact Nat.not_le.mpr hbl, rfl, rfl, fun q hq => by rw [hGA] at hq; exact hq⟩
  have K : V (p, l, e, room_1, s, m, #[Value.ref b], below, meth, c, 7) G (fun _ => 0, TB, []) (fun _ _ => 0) 0 0 (QL (p, l, e, room_1, s, m, #[Value.ref b], below, meth, c, 7)) 0 [(0, .ref b)] [] := by
    have h : Iv G (fun _ => False) TB (fun _ => True) (fun _ => 0, TB, []) (fun _ _ => 0) (fun _ => 0, TB, []) (fun _ _ => 0) := ⟨⟨⟨List.nodup_nil, (fun i hi => by cases hi), (fun i hi => by cases hi)⟩, (fun j hj => by cases hj)⟩, Ex.rf, fun j hj => hj.elim, trivial, fun _ _ _ _ => trivial⟩
    refine r_nw (i := 0) (S1 := SHs 2) h (fun q hq => ⟨fun hm => (by cases hm), fun f => f, rfl⟩) (Or.inl (by decide)) (cn_HS (cx_st hC)) tw_wsX5 tyX5 tyX5_ok rfl wt_80 wt_81 wt_65 (fun q hq => match q, hq with | 0, _ => Or.inr ⟨rfl, rfl⟩ | 1, _ => Or.inr ⟨rfl, rfl⟩ | 2, _ => Or.inr ⟨rfl, rfl⟩ | 3, _ => Or.inr ⟨rfl, rfl⟩ | 4, _ => Or.inr ⟨rfl, rfl⟩ | 5, _ => Or.inr ⟨rfl, rfl⟩ | 6, _ => Or.inr ⟨rfl, rfl⟩ | n + 7, hq => absurd hq (by omega)) (Or.inl kL_X5) hC (by decide) (by decide) (Nat.le_of_ble_eq_true rfl) (by decide) (by decide) dL_law_0 dL_law_3 dL_law_4 (fun Z1 M1 a1 ha1 _ h => ?_)
    refine r_astore_n (L' := [(1, .ref a1), (0, .ref b)]) hC dL_law_7 (by decide) rfl ?_
    refine r_nw (i := 27) (S1 := SMo) h (fun q hq => ⟨fun hm => (by cases hm), ?_, rfl⟩) ⟨by decide, by decide⟩ (cn_Mo (cx_st hC)) tw_wsX6 tyX6 tyX6_ok rfl wt_883 wt_884 wt_71 (fun q hq => match q, hq with | 0, _ => Or.inl ⟨rfl, rfl⟩ | 1, _ => Or.inr ⟨rfl, rfl⟩ | 2, _ => Or.inl ⟨rfl, rfl⟩ | 3, _ => Or.inl ⟨rfl, rfl⟩ | 4, _ => Or.inr ⟨rfl, rfl⟩ | 5, _ => Or.inr ⟨rfl, rfl⟩ | 6, _ => Or.inr ⟨rfl, rfl⟩ | 7, _ => Or.inr ⟨rfl, rfl⟩ | 8, _ => Or.inr ⟨rfl, rfl⟩ | 9, _ => Or.inl ⟨rfl, rfl⟩ | 10, _ => Or.inr ⟨rfl, rfl⟩ | 11, _ => Or.inr ⟨rfl, rfl⟩ | 12, _ => Or.inr ⟨rfl, rfl⟩ | 13, _ => Or.inr ⟨rfl, rfl⟩ | 14, _ => Or.inr ⟨rfl, rfl⟩ | 15, _ => Or.inr ⟨rfl, rfl⟩ | 16, _ => Or.inr ⟨rfl, rfl⟩ | 17, _ => Or.inr ⟨rfl, rfl⟩ | 18, _ => Or.inr ⟨rfl, rfl⟩ | n + 19, hq => absurd hq (by omega)) (Or.inl kL_X6) hC (by decide) (by decide) (Nat.le_of_ble_eq_true rfl) (by decide) (by decide) dL_law_8 dL_law_11 dL_law_12 (fun Z2 M2 a2 ha2 had2 h => ?_)
    · rintro (f | f)
      · exact f
      · unfold SMo at hq
        unfold SHs at f
        omega
    refine r_astore_n (L' := [(2, .ref a2), (1, .ref a1), (0, .ref b)]) hC dL_law_15 (by decide) rfl ?_
    refine r_iconst (v := 1) hC dL_law_16 rfl ?_
    refine r_nl (i := 43) h rfl (fun hm => by cases hm) (by rintro ((f | f) | f); exact f; unfold SHs at f; omega; unfold SMo at f; omega) (by decide) rfl hC (by decide) (by decide) dL_law_17 (fun Z3 M3 a3 ha3 had3 h => ?_)
    refine r_astore_n (L' := [(3, .ref a3), (2, .ref a2), (1, .ref a1), (0, .ref b)]) hC dL_law_19 (by decide) rfl ?_
    refine r_iconst (v := 0) hC dL_law_20 rfl ?_
    refine r_istore (L' := [(4, .int 0), (3, .ref a3), (2, .ref a2), (1, .ref a1), (0, .ref b)]) hC dL_law_21 (by decide) rfl ?_
    refine r_L [4, 3, 2, 1, 0] rfl ?_
    have e1 : a1 = Z3.1 0 := by rw [had3 0 (Or.inl (Or.inr (Or.inl (by decide)))), had2 0 (Or.inr (Or.inl (by decide))), ha1]
    have e2 : a2 = Z3.1 27 := by rw [had3 27 (Or.inr ⟨by decide, by decide⟩), ha2]
    rw [e1, e2, ← ha3]
    have hZ : ZM Z3 := fun i hi => h.2.2.1 i (by unfold SHs SMo; omega)
    obtain ⟨M', hf⟩ := law_ok (sc := xs) hL (Gd0 (M := M3) h.2.2.2.1.1.1.2 h.2.2.2.1.1.2)
    exact law_run hC hl h.1.1 hZ 600 _ _ (by decide) (by decide) 0 M3 hf
  have hl0 := lv_entry ([Value.ref b]) (n := 7) (Nat.le_of_ble_eq_true rfl)
  rw [lg_entry_eq]
  exact K s.heap [] _ (wvP.mpr (fun j hj => by cases hj)) va_S.rf hl0
