/-! THE STATE'S CONSTRUCTOR -/
theorem Iv.cv {G : GG} {S S' : Nat → Prop} {T T' : Nat → Dsc} {E E' : Mem → Prop} {Z0 Z : ZZ} {M0 M M' : Mem} (h : Iv G S T E Z0 M0 Z M) (hS : ∀ j, S j ↔ S' j) (hT : ∀ j, S' j → T j = T' j) (o : Off S M M') (hE : E' M') (st : ∀ M1 M2 : Mem, (∀ j, S' j → M2 j = M1 j) → E' M1 → E' M2) : Iv G S' T' E' Z0 M0 Z M' := by
  obtain ⟨k1, k2, k3, k4, k5⟩ := h
  refine ⟨k1, (k2.mem o).wk (fun j hj => (hS j).mp hj), fun j hj => ?_, hE, st⟩
  rw [← hT j hj]
  exact k3 j ((hS j).mpr hj)
section SEE
variable {X : XX} {G : GG} {S : Nat → Prop} {T0 : Nat → Dsc} {E : Mem → Prop} {Z0 Z : ZZ} {M0 M : Mem} {k n : Nat} {Q : State → Prop} {pc : Nat} {L : List (Nat × Value)} {rest : List Value}
theorem r_seeO {o ci N : Nat} {F F' : Nat → Option (Option Nat)} (h : Iv G S (ov o (.inl (ci, N, F)) T0) E Z0 M0 Z M) (ho : S o) (hT : T0 o = .inl (ci, N, F')) (hF : ∀ j, j < N → F j = F' j) (kk : ∀ Z' : ZZ, Iv G S T0 E Z0 M0 Z' M → V X G Z' M k n Q pc L rest) : V X G Z M k n Q pc L rest := by
  have ha := h.2.2.1 o ho
  rw [ov_1] at ha
  refine r_see (D' := .inl (ci, N, F')) ha ⟨rfl, rfl, fun j hj => by unfold fv; rw [hF j hj]⟩ (kk _ (h.put ho (h.1.put (fun r ⟨j, hj, e⟩ => ?_)) hT (fun j hj => (ov_2 hj).symm)))
  have := h.1.2 o ha.1 r
  rw [ha.2] at this
  exact this ⟨j, hj, (hF j hj).trans e⟩
theorem r_seeA {o t N : Nat} {T1 : Nat → Dsc} {F F' : Nat → Option Nat} (h : Iv G S T1 E Z0 M0 Z M) (ho : S o) (h1 : T1 o = .inr (.inr (.inl (t, N, F)))) (hT : T0 o = .inr (.inr (.inl (t, N, F')))) (h2 : ∀ j, j ≠ o → T0 j = T1 j) (hF : ∀ j, j < N → F j = F' j) (kk : ∀ Z' : ZZ, Iv G S T0 E Z0 M0 Z' M → V X G Z' M k n Q pc L rest) : V X G Z M k n Q pc L rest := by
  have ha := h.2.2.1 o ho
  rw [h1] at ha
  refine r_see (D' := .inr (.inr (.inl (t, N, F')))) ha ⟨rfl, rfl, fun j hj => by rw [hF j hj]⟩ (kk _ (h.put ho (h.1.put (fun r ⟨j, hj, e⟩ => ?_)) hT h2))
  have := h.1.2 o ha.1 r
  rw [ha.2] at this
  exact this ⟨j, hj, (hF j hj).trans e⟩
end SEE
def P0 : Pg := (fE, 1, 1, fun _ _ => -9)
abbrev fSt0 : Nat → Option (Option Nat) := fun j => match j with | 0 => some none | 1 => some none | _ => none
theorem StRep.st {k : Nat} {P : Pg} (M1 M2 : Mem) (e : ∀ j, RSt k j → M2 j = M1 j) (h : StRep M1 k P) : StRep M2 k P := h.same (fun d h1 h2 => e d ⟨h1, h2⟩)
theorem sa_fE : ∀ j, j < 6 → sa_first.getD j 0 = iz (fE j) := by decide
theorem cn_State {l : Launch} (hl : l.stackTraces = false) {G : GG} {k : Nat} (hk : k < 18) : Ctr G l yX3_init cX3_init 1 1 2 70 (iSt k) 3 4 fSt0 (RSt k) (fun m => StRep m k P0) := by
  intro Z M hz ha hm hf
  have io := iSt_eq k
  refine CNw.of [(0, .ref (Z.1 (iSt k)))] hl (by decide +kernel) rfl (Nat.le_of_ble_eq_true rfl) rfl (fun X hC hI => ?_)
  have ho := ha.1
  have e0 : TB (iSt k) = dSt k := TB_S (j := 0) hk (by decide)
  have e1 : TB (iSt k + 1) = dA 0 6 := TB_S (j := 1) hk (by decide)
  have e2 : TB (iSt k + 2) = dA 0 64 := TB_S (j := 2) hk (by decide)
  have h := Iv.start (T0 := TB) hz ha hm
  refine r_aload_n hC dX3_init_0 0 rfl ?_
  refine r_objInit wt_74 hC (by decide) dX3_init_1 ?_
  refine r_aload_n hC dX3_init_4 0 rfl ?_
  refine r_bipush (v := 6) hC dX3_init_5 rfl ?_
  refine r_ni (i := iSt k + 1) (N := 6) h (by rw [ov_2 (by omega), e1]) (hf _ ⟨by omega, by omega⟩ (by omega)) (by omega) (by decide) rfl (by decide) hC (by decide) (by decide) dX3_init_7 (fun Z1 M1 a1 ha1 h => ?_)
  refine r_pF (ty := .array .int) (j := iSt k + 1) h ho (Or.inl rfl) (Or.inr rfl) ha1 tw_wsX3 tyX3 tyX3_ok nmX3 rfl 0 (by decide) rfl rfl rfl (by decide +kernel) (fun _ => ⟨rfl, rfl⟩) wt_85 hC hI dX3_init_9 (fun Z2 h => ?_)
  refine r_aload_n hC dX3_init_12 0 rfl ?_
  refine r_bipush (v := 64) hC dX3_init_13 rfl ?_
  refine r_ni (i := iSt k + 2) (N := 64) h (by rw [ov_2 (by omega), e2]) (hf _ ⟨by omega, by omega⟩ (by omega)) (by omega) (by decide) rfl (by decide) hC (by decide) (by decide) dX3_init_15 (fun Z3 M3 a3 ha3 h => ?_)
  refine r_pF (ty := .array .int) (j := iSt k + 2) h ho (Or.inl (Or.inl rfl)) (Or.inr rfl) ha3 tw_wsX3 tyX3 tyX3_ok nmX3 rfl 1 (by decide) rfl rfl rfl (by decide +kernel) (fun _ => ⟨rfl, rfl⟩) wt_86 hC hI dX3_init_17 (fun Z4 h => ?_)
  refine r_seeO h (Or.inl (Or.inl rfl)) e0 (fun j hj => match j, hj with | 0, _ => rfl | 1, _ => rfl | 2, _ => rfl | 3, _ => rfl | n + 4, hj => absurd hj (by omega)) (fun Z5 h => ?_)
  have H0 : ∀ q, q < 18 → q = k → At Z5 (iSt q) (dSt q) ∧ At Z5 (iSt q + 1) (dA 0 6) ∧ At Z5 (iSt q + 2) (dA 0 64) := fun q _ hq => by
    subst hq
    exact ⟨e0 ▸ h.2.2.1 _ (Or.inl (Or.inl rfl)), e1 ▸ h.2.2.1 _ (Or.inl (Or.inr rfl)), e2 ▸ h.2.2.1 _ (Or.inr rfl)⟩
  have ad := h.ad ho
  rw [← ad]
  obtain ⟨⟨u, M6⟩, e6, p1, p2, p3, p4⟩ := becomeRests_tot k 1 1 M3
  obtain ⟨⟨u7, M7⟩, e7, p5, p6⟩ := resetSettings_tot k M6
  refine r_aload_n hC dX3_init_20 0 rfl ?_
  refine r_iconst (v := 1) hC dX3_init_21 rfl ?_
  refine r_iconst (v := 1) hC dX3_init_22 rfl ?_
  refine r_callVV (K := fun _ m => some m) (res := M6) [] (fun r m hr => uc_X3_becomeRests (cx_st hC) h.1.1 H0 k 1 1 M3 hk rfl r m hr) (by rw [e6]; rfl) (csV_of (List.mem_of_getElem? (i := 75) (by decide +kernel)) mm_76 mm_77 mm_32 mm_78 (by decide +kernel)) hC (H0 k hk rfl).1 (q0 := (RX3, TX3, 4)) rfl rfl [.int 1, .int 1] rfl rfl rfl (by decide) (by decide) (Nat.le_of_ble_eq_true rfl) (by decide) (by decide) dX3_init_23 (fun x m hx => ?_)
  cases hx
  refine r_aload_n hC dX3_init_26 0 rfl ?_
  refine r_callVV (K := fun _ m => some m) (res := M7) [] (fun r m hr => uc_X3_resetSettings (cx_st hC) h.1.1 H0 k M6 hk rfl r m hr) (by rw [e7]; rfl) (csV_of (List.mem_of_getElem? (i := 79) (by decide +kernel)) mm_80 mm_81 mm_32 mm_82 (by decide +kernel)) hC (H0 k hk rfl).1 (q0 := (RX3, TX3, 4)) rfl rfl [] rfl rfl rfl (by decide) (by decide) (Nat.le_of_ble_eq_true rfl) (by decide) (by decide) dX3_init_27 (fun x m hx => ?_)
  cases hx
  refine r_vretN (h.cv (fun j => ?_) (fun j _ => rfl) (fun d hd => (p6 d (by omega)).trans (p4 d (by omega))) ?_ StRep.st) hC (by decide) (by decide) dX3_init_30
  · unfold RSt
    omega
  · dsimp only at p1 p2 p3 p5
    have q6 : ∀ d, d ≠ iSt k + 1 → M7 d = M6 d := p6
    refine ⟨?_, ?_, fun j hj => ?_, fun s b hs hb => ?_⟩
    · rw [q6 _ (by omega)]; exact p1
    · rw [q6 _ (by omega)]; exact p2
    · rw [p5 j hj]; exact sa_fE j hj
    · have hs : s < 1 := hs
      have hb : b < 1 := hb
      rw [q6 _ (by omega)]
      exact p3 _ (by omega)
