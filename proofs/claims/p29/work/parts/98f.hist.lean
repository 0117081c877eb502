/-! HISTORY AND REDUCTION -/
theorem r_aa {X : XX} {G : GG} {S : Nat → Prop} {T T' : Nat → Dsc} {E : Mem → Prop} {Z0 Z : ZZ} {M0 M : Mem} {k n : Nat} {Q : State → Prop} {pc : Nat} {L : List (Nat × Value)} {rest : List Value} {own : String} {cc : ByteArray} {ret : Option FieldType} {d mc ms' nL : Nat} {t N r i ci N2 a b : Nat} {F : Nat → Option Nat} {F2 : Nat → Option (Option Nat)} {c : vw_C} {x : Int32} (h : Iv G S T E Z0 M0 Z M) (hr : S r) (hTr : T r = .inr (.inr (.inl (t, N, F)))) (hi : S i) (hTi : T i = .inl (ci, N2, F2)) (ht : (tys G)[t]? = some (G.2.1 t, .object c.1)) (hc : vwCl[ci]? = some c) (hin : vp_in x N) (ha : Z.1 r = a) (hb : Z.1 i = b) (h1 : T' r = .inr (.inr (.inl (t, N, va_up F x.toNatClampNeg (some i))))) (h2 : ∀ j, j ≠ r → T' j = T j) (hC : Cx X G own cc ret d mc ms' nL) (hdg : decode cc pc = .ok (.aastore, 1)) (kk : ∀ Z' : ZZ, Z'.1 = Z.1 → Iv G S T' E Z0 M0 Z' M → V X G Z' M k n Q (pc + 1) L rest) : V X G Z M k n Q pc L (.ref b :: .int x :: .ref a :: rest) := by
  have ar := h.2.2.1 r hr
  rw [hTr] at ar
  have ai := h.2.2.1 i hi
  rw [hTi] at ai
  exact r_aast hC h.1 ar ht ai hc hin ha hb hdg (fun hz => kk _ rfl (h.put hr hz h1 h2))
def fUp (g : Nat → Nat) (j : Nat) : Nat → Option Nat := fun q => if q < j then some (g q) else none
theorem fUp_s (g : Nat → Nat) (j : Nat) (x : Int32) (hx : x.toNatClampNeg = j) : va_up (fUp g j) x.toNatClampNeg (some (g j)) = fUp g (j + 1) := by
  rw [hx]
  funext q
  unfold va_up fUp
  by_cases e : q = j
  · rw [if_pos e, if_pos (by omega), e]
  · rw [if_neg e]
    by_cases c : q < j
    · rw [if_pos c, if_pos (by omega)]
    · rw [if_neg c, if_neg (by omega)]
abbrev fHi0 : Nat → Option (Option Nat) := fun j => match j with | 0 => some none | _ => none
abbrev oR (r t N : Nat) (g : Nat → Nat) (j : Nat) : Nat → Dsc := ov r (.inr (.inr (.inl (t, N, fUp g j)))) TB
theorem hi_loop {X : XX} {G : GG} {Z0 : ZZ} {M0 : Mem} (hC : Cx X G RX1 cX1_init none 2 43 1050 2) (ho : 3 ∈ Z0.2.2) (fr : ∀ q, 56 ≤ q → q < 98 → q ∉ Z0.2.2) {Q : State → Prop} (kk : ∀ (Z : ZZ) (M : Mem), Iv G (fun q => (q = 3 ∨ q = 4) ∨ (56 ≤ q ∧ q < 98)) (oR 4 5 14 (fun j => iSt (4 + j)) 14) (fun m => ∀ q, m 3 q = 0) Z0 M0 Z M → V X G Z M 43 1050 Q 40 [(1, .int (iz (14 : Nat))), (0, .ref (Z0.1 3))] []) : ∀ (r j : Nat) (k n : Nat) (Z : ZZ) (M : Mem), j + r = 14 → k + 3 * r = 43 → n + 74 * r = 1050 → Iv G (fun q => (q = 3 ∨ q = 4) ∨ (56 ≤ q ∧ q < 56 + 3 * j)) (oR 4 5 14 (fun j => iSt (4 + j)) j) (fun m => ∀ q, m 3 q = 0) Z0 M0 Z M → V X G Z M k n Q 15 [(1, .int (iz j)), (0, .ref (Z0.1 3))] []
  | 0, j, k, n, Z, M, hj, hk, hn, h => by
    have : j = 14 := by omega
    subst this
    have : k = 43 := by omega
    subst this
    have : n = 1050 := by omega
    subst this
    refine r_iload_n hC dX1_init_15 0 rfl ?_
    refine r_bipush (v := 14) hC dX1_init_16 rfl ?_
    refine r_icmp_ge 40 hC dX1_init_18 (by decide) (fun c => ?_) (fun c => absurd (by decide) c)
    exact kk Z M h
  | r + 1, j, k, n, Z, M, hj, hk, hn, h => by
    have is := iSt_eq
    refine r_iload_n hC dX1_init_15 0 rfl ?_
    refine r_bipush (v := iz 14) hC dX1_init_16 rfl ?_
    refine r_icmp_ge 40 hC dX1_init_18 (by decide) (fun c => ?_) (fun c => ?_)
    · rw [iz_le (by omega) (by omega) (by omega) (by omega)] at c
      omega
    · refine r_aload_n hC dX1_init_21 1 rfl ?_
      have a3 : At Z 3 dHist := h.2.2.1 3 (Or.inl (Or.inl rfl))
      rw [← h.ad ho]
      refine gf_X1_11 (v := .ref (Z.1 4)) hC a3 rfl dX1_init_22 ?_
      rw [h.ad ho]
      refine r_iload_n hC dX1_init_25 0 rfl ?_
      have eS : TB (iSt (4 + j)) = dSt (4 + j) := TB_S (j := 0) (by omega) (by decide)
      refine r_nw (i := iSt (4 + j)) (S1 := RSt (4 + j)) h (fun q hq => ⟨fr q (by have := hq.1; have := is (4 + j); omega) (by have := hq.2; have := is (4 + j); omega), by have := hq.1; have := is (4 + j); omega, ov_2 (by have := hq.1; have := is (4 + j); omega)⟩) ⟨by omega, by omega⟩ (cn_State (cx_st hC) (by omega)) tw_wsX3 tyX3 tyX3_ok rfl wt_191 wt_70 wt_32 (fun q hq => match q, hq with | 0, _ => Or.inr ⟨rfl, rfl⟩ | 1, _ => Or.inr ⟨rfl, rfl⟩ | 2, _ => Or.inl ⟨rfl, rfl⟩ | 3, _ => Or.inl ⟨rfl, rfl⟩ | n + 4, hq => absurd hq (by omega)) (Or.inl kX1_X3_17) hC (by decide) (by decide) (Nat.le_of_ble_eq_true rfl) (by omega) (by omega) dX1_init_26 dX1_init_29 dX1_init_30 (fun Z2 M2 a2 ha2 had h => ?_)
      refine r_aa (T' := oR 4 5 14 (fun j => iSt (4 + j)) (j + 1)) (r := 4) (i := iSt (4 + j)) h (Or.inl (Or.inl (Or.inr rfl))) ov_1 (Or.inr ⟨by omega, by omega⟩) ((ov_2 (by have := is (4 + j); omega)).trans eS) (c := (RX3, TX3, 4)) rfl rfl (inb_vp (inb_n (by omega) (by omega))) (had 4 (Or.inl (Or.inr rfl))) ha2 (ov_1.trans (by rw [fUp_s (fun j => iSt (4 + j)) j _ (cl_n (by omega))])) (fun q hq => (ov_2 hq).trans (ov_2 hq).symm) hC dX1_init_33 (fun Z3 _ h => ?_)
      refine r_iinc (v := iz ((j + 1 : Nat) : Int)) (L' := [(1, .int (iz ((j + 1 : Nat) : Int))), (0, .ref (Z0.1 3))]) hC dX1_init_34 0 rfl (by rw [show Int32.ofInt 1 = iz 1 from rfl, iz_add]; rfl) (by decide) rfl ?_
      refine r_goto 15 hC dX1_init_37 (by decide) ?_
      refine hi_loop hC ho fr kk r (j + 1) _ _ Z3 M2 (by omega) (by omega) (by omega) (h.cv (fun q => ?_) (fun _ _ => rfl) Off.rf h.2.2.2.1.1 (fun M1 M2 e h1 q => by rw [e 3 (Or.inl (Or.inl rfl))]; exact h1 q))
      unfold RSt
      have := is (4 + j)
      omega
theorem cn_Hist {l : Launch} (hl : l.stackTraces = false) {G : GG} : Ctr G l yX1_init cX1_init 2 2 43 1050 3 1 3 fHi0 (fun q => (q = 3 ∨ q = 4) ∨ (56 ≤ q ∧ q < 98)) (fun m => ∀ q, m 3 q = 0) := by
  intro Z M hz ha hm hf
  refine CNw.of [(0, .ref (Z.1 3))] hl (by decide +kernel) rfl (Nat.le_of_ble_eq_true rfl) rfl (fun X hC hI => ?_)
  have ho := ha.1
  have h := Iv.start (T0 := oR 4 5 14 (fun j => iSt (4 + j)) 0) hz ha hm
  refine r_aload_n hC dX1_init_0 0 rfl ?_
  refine r_objInit wt_190 hC (by decide) dX1_init_1 ?_
  refine r_aload_n hC dX1_init_4 0 rfl ?_
  refine r_bipush (v := 14) hC dX1_init_5 rfl ?_
  have e0 : fUp (fun j => iSt (4 + j)) 0 = fun _ => none := by
    funext q
    unfold fUp
    rw [if_neg (by omega)]
  refine r_na (i := 4) (t := 5) (N := 14) h ((ov_2 (by decide)).trans (ov_1.trans (by rw [e0]))) (hf _ (Or.inl (Or.inr rfl)) (by decide)) (by decide) wt_191 wt_192 rfl (by decide) rfl (by decide) hC (by decide) (by decide) dX1_init_7 (fun Z1 M1 a1 ha1 h => ?_)
  refine r_pF (ty := .array (.object "HandSpans$State")) (j := 4) h ho (Or.inl rfl) (Or.inr rfl) ha1 tw_wsX1 tyX1 tyX1_ok nmX1 rfl 0 (by decide) rfl rfl rfl (by decide +kernel) (fun _ => ⟨rfl, rfl⟩) wt_194 hC hI dX1_init_10 (fun Z2 h => ?_)
  refine r_seeO h (Or.inl rfl) (F' := fun k => match k with | 0 => rf 4 | _ => none) ((ov_2 (by decide)).trans rfl) (fun j hj => match j, hj with | 0, _ => rfl | 1, _ => rfl | 2, _ => rfl | n + 3, hj => absurd hj (by omega)) (fun Z3 h => ?_)
  refine r_iconst (v := iz (0 : Nat)) hC dX1_init_13 rfl ?_
  refine r_istore_n (L' := [(1, .int (iz (0 : Nat))), (0, .ref (Z.1 3))]) hC dX1_init_14 (by decide) rfl ?_
  refine hi_loop hC ho (fun q h1 h2 => hf q (Or.inr ⟨h1, h2⟩) (by omega)) (fun Z4 M4 h => ?_) 14 0 _ _ Z3 M1 (by decide) (by decide) (by decide) (h.cv (fun q => by omega) (fun _ _ => rfl) Off.rf h.2.2.2.1.1 (fun M1 M2 e h1 q => by rw [e 3 (Or.inl (Or.inl rfl))]; exact h1 q))
  refine r_seeA (o := 4) (T0 := TB) h (Or.inl (Or.inr rfl)) ov_1 (F' := fun j => some (iSt (4 + j))) rfl (fun j hj => (ov_2 hj).symm) (fun j hj => by unfold fUp; rw [if_pos hj]) (fun Z5 h => ?_)
  exact r_vretN h hC (by decide) (by decide) dX1_init_40
