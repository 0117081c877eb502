/-! THE CONSTRUCTOR OF HANDSPANS -/
abbrev fHs0 : Nat → Option (Option Nat) := fun _ => some none
def SHs (j q : Nat) : Prop := q < 27 ∨ (44 ≤ q ∧ q < 50 + 3 * j) ∨ (56 ≤ q ∧ q < 302)
def EHs (m : Mem) : Prop := (∀ q, m 1 q = 0) ∧ StRep m 0 P0 ∧ (∀ q, m 3 q = 0) ∧ (∀ q, m 6 q = 0) ∧ ERe 16 m
theorem EHs.st {j : Nat} (M1 M2 : Mem) (e : ∀ q, SHs j q → M2 q = M1 q) (h : EHs M1) : EHs M2 := by
  obtain ⟨a, b, c, d, f⟩ := h
  refine ⟨fun q => ?_, StRep.st M1 M2 (fun q hq => e q ?_) b, fun q => ?_, fun q => ?_, ERe.st (by decide) M1 M2 (fun q hq => e q ?_) f⟩
  · rw [e 1 (Or.inl (by decide))]; exact a q
  · have h1 := hq.1
    have h2 := hq.2
    have := iSt_eq 0
    unfold SHs
    omega
  · rw [e 3 (Or.inl (by decide))]; exact c q
  · rw [e 6 (Or.inl (by decide))]; exact d q
  · unfold SRe at hq
    unfold SHs
    omega
abbrev gSl : Nat → Nat := fun j => iSt (2 + j)
theorem hs_step {X : XX} {G : GG} {Z0 : ZZ} {M0 : Mem} (hC : Cx X G RX5 cX5_init none 3 284 2598 2) (ho : 0 ∈ Z0.2.2) (fr : ∀ q, 50 ≤ q → q < 56 → q ∉ Z0.2.2) {Q : State → Prop} {j k n : Nat} {Z : ZZ} {M : Mem} (hj : j < 2) (hk : k + 3 ≤ 284) (hn : n + 74 ≤ 2598) (h : Iv G (SHs j) (oR 5 5 2 gSl j) EHs Z0 M0 Z M) (kk : ∀ (Z : ZZ) (M : Mem), Iv G (SHs (j + 1)) (oR 5 5 2 gSl (j + 1)) EHs Z0 M0 Z M → V X G Z M (k + 1 + 2) (n + 4 + 70) Q 76 [(1, .int (iz ((j + 1 : Nat) : Int))), (0, .ref (Z0.1 0))] []) : V X G Z M k n Q 76 [(1, .int (iz j)), (0, .ref (Z0.1 0))] [] := by
  have is := iSt_eq (2 + j)
  refine r_iload_n hC dX5_init_76 0 rfl ?_
  refine r_iconst (v := iz 2) hC dX5_init_77 rfl ?_
  refine r_icmp_ge 100 hC dX5_init_78 (by decide) (fun c => ?_) (fun c => ?_)
  · rw [iz_le (by omega) (by omega) (by omega) (by omega)] at c
    omega
  · have s0 : SHs j 0 := Or.inl (by decide)
    have s5 : SHs j 5 := Or.inl (by decide)
    refine r_aload_n hC dX5_init_81 1 rfl ?_
    have a3 : At Z 0 dHS := h.2.2.1 0 s0
    rw [← h.ad ho]
    refine gf_X5_40 (v := .ref (Z.1 5)) hC a3 rfl dX5_init_82 ?_
    rw [h.ad ho]
    refine r_iload_n hC dX5_init_85 0 rfl ?_
    have eS : TB (iSt (2 + j)) = dSt (2 + j) := TB_S (j := 0) (by omega) (by decide)
    refine r_nw (i := iSt (2 + j)) (S1 := RSt (2 + j)) h (fun q hq => ?_) ⟨by omega, by omega⟩ (cn_State (cx_st hC) (by omega)) tw_wsX3 tyX3 tyX3_ok rfl wt_69 wt_70 wt_32 (fun q hq => match q, hq with | 0, _ => Or.inr ⟨rfl, rfl⟩ | 1, _ => Or.inr ⟨rfl, rfl⟩ | 2, _ => Or.inl ⟨rfl, rfl⟩ | 3, _ => Or.inl ⟨rfl, rfl⟩ | n + 4, hq => absurd hq (by omega)) (Or.inl kX5_X3_18) hC (by decide) (by decide) (Nat.le_of_ble_eq_true rfl) (by omega) (by omega) dX5_init_86 dX5_init_89 dX5_init_90 (fun Z2 M2 a2 ha2 had h => ?_)
    · have h1 := hq.1
      have h2 := hq.2
      exact ⟨fr q (by omega) (by omega), by unfold SHs; omega, ov_2 (by omega)⟩
    refine r_aa (T' := oR 5 5 2 gSl (j + 1)) (r := 5) (i := iSt (2 + j)) h (Or.inl s5) ov_1 (Or.inr ⟨by omega, by omega⟩) ((ov_2 (by omega)).trans eS) (c := (RX3, TX3, 4)) rfl rfl (inb_vp (inb_n (by omega) (by omega))) (had 5 s5) ha2 (ov_1.trans (by rw [fUp_s gSl j _ (cl_n (by omega))])) (fun q hq => (ov_2 hq).trans (ov_2 hq).symm) hC dX5_init_93 (fun Z3 _ h => ?_)
    refine r_iinc (v := iz ((j + 1 : Nat) : Int)) (L' := [(1, .int (iz ((j + 1 : Nat) : Int))), (0, .ref (Z0.1 0))]) hC dX5_init_94 0 rfl (by rw [show Int32.ofInt 1 = iz 1 from rfl, iz_add]; rfl) (by decide) rfl ?_
    refine r_goto 76 hC dX5_init_97 (by decide) ?_
    refine kk Z3 M2 (h.cv (fun q => ?_) (fun _ _ => rfl) Off.rf h.2.2.2.1.1 EHs.st)
    unfold RSt SHs
    omega
theorem cn_HS {l : Launch} (hl : l.stackTraces = false) {G : GG} : Ctr G l yX5_init cX5_init 2 3 284 2598 0 5 7 fHs0 (SHs 2) EHs := by
  intro Z M hz ha hm hf
  have is0 := iSt_eq 0
  have is1 := iSt_eq 1
  refine CNw.of [(0, .ref (Z.1 0))] hl (by decide +kernel) rfl (Nat.le_of_ble_eq_true rfl) rfl (fun X hC hI => ?_)
  have ho := ha.1
  have fr : ∀ q, q ≠ 0 → (q < 27 ∨ (44 ≤ q ∧ q < 302)) → q ∉ Z.2.2 := fun q h1 h2 => hf q (by unfold SHs; omega) h1
  have h := Iv.start (T0 := oR 5 5 2 gSl 0) hz ha hm
  have e0 : fUp gSl 0 = fun _ => none := by
    funext q
    unfold fUp
    rw [if_neg (by omega)]
  refine r_aload_n hC dX5_init_0 0 rfl ?_
  refine r_objInit wt_49 hC (by decide) dX5_init_1 ?_
  refine r_aload_n hC dX5_init_4 0 rfl ?_
  refine r_nw (i := 1) (S1 := fun q => q = 1 ∨ q = 2) h (fun q hq => ⟨fr q (by omega) (by omega), by omega, (ov_2 (by omega)).trans (ov_2 (by omega))⟩) (Or.inl rfl) (cn_Text (cx_st hC)) tw_wsX4 tyX4 tyX4_ok rfl wt_52 wt_53 wt_31 (fun q hq => match q, hq with | 0, _ => Or.inr ⟨rfl, rfl⟩ | 1, _ => Or.inl ⟨rfl, rfl⟩ | 2, _ => Or.inl ⟨rfl, rfl⟩ | n + 3, hq => absurd hq (by omega)) (Or.inr kX5_X4_11) hC (by decide) (by decide) (Nat.le_of_ble_eq_true rfl) (by decide) (by decide) dX5_init_5 dX5_init_8 dX5_init_9 (fun Z1 M1 a1 ha1 _ h => ?_)
  refine r_pF (ty := .object "HandSpans$Text") (j := 1) h ho (by omega) (by omega) ha1 tw_wsX5 tyX5 tyX5_ok nmX5 rfl 0 (by decide) rfl rfl rfl (by decide +kernel) (fun _ => ⟨rfl, rfl⟩) wt_204 hC hI dX5_init_12 (fun Z2 h => ?_)
  refine r_aload_n hC dX5_init_15 0 rfl ?_
  refine r_nw (i := iSt 0) (S1 := RSt 0) h (fun q hq => ?_) ⟨by omega, by omega⟩ (cn_State (cx_st hC) (by decide)) tw_wsX3 tyX3 tyX3_ok rfl wt_69 wt_70 wt_32 (fun q hq => match q, hq with | 0, _ => Or.inr ⟨rfl, rfl⟩ | 1, _ => Or.inr ⟨rfl, rfl⟩ | 2, _ => Or.inl ⟨rfl, rfl⟩ | 3, _ => Or.inl ⟨rfl, rfl⟩ | n + 4, hq => absurd hq (by omega)) (Or.inl kX5_X3_18) hC (by decide) (by decide) (Nat.le_of_ble_eq_true rfl) (by decide) (by decide) dX5_init_16 dX5_init_19 dX5_init_20 (fun Z3 M3 a3 ha3 _ h => ?_)
  · unfold RSt at hq
    exact ⟨fr q (by omega) (by omega), by omega, (ov_2 (by omega)).trans (ov_2 (by omega))⟩
  refine r_pF (ty := .object "HandSpans$State") (j := iSt 0) h ho (Or.inl (by omega)) (Or.inr ⟨by omega, by omega⟩) ha3 tw_wsX5 tyX5 tyX5_ok nmX5 rfl 1 (by decide) rfl rfl rfl (by decide +kernel) (fun _ => ⟨rfl, rfl⟩) wt_205 hC hI dX5_init_23 (fun Z4 h => ?_)
  refine r_aload_n hC dX5_init_26 0 rfl ?_
  refine r_nw (i := iSt 1) (S1 := RSt 1) h (fun q hq => ?_) ⟨by omega, by omega⟩ (cn_State (cx_st hC) (by decide)) tw_wsX3 tyX3 tyX3_ok rfl wt_69 wt_70 wt_32 (fun q hq => match q, hq with | 0, _ => Or.inr ⟨rfl, rfl⟩ | 1, _ => Or.inr ⟨rfl, rfl⟩ | 2, _ => Or.inl ⟨rfl, rfl⟩ | 3, _ => Or.inl ⟨rfl, rfl⟩ | n + 4, hq => absurd hq (by omega)) (Or.inl kX5_X3_18) hC (by decide) (by decide) (Nat.le_of_ble_eq_true rfl) (by decide) (by decide) dX5_init_27 dX5_init_30 dX5_init_31 (fun Z5 M5 a5 ha5 _ h => ?_)
  · unfold RSt at hq ⊢
    exact ⟨fr q (by omega) (by omega), by omega, (ov_2 (by omega)).trans (ov_2 (by omega))⟩
  refine r_pF (ty := .object "HandSpans$State") (j := iSt 1) h ho (Or.inl (Or.inl (by omega))) (Or.inr ⟨by omega, by omega⟩) ha5 tw_wsX5 tyX5 tyX5_ok nmX5 rfl 2 (by decide) rfl rfl rfl (by decide +kernel) (fun _ => ⟨rfl, rfl⟩) wt_206 hC hI dX5_init_34 (fun Z6 h => ?_)
  refine r_aload_n hC dX5_init_37 0 rfl ?_
  refine r_nw (i := 7) (S1 := SRe 16) h (fun q hq => ?_) (Or.inl ⟨by decide, by decide⟩) (cn_Red (cx_st hC)) tw_wsX2 tyX2 tyX2_ok rfl wt_103 wt_104 wt_33 (fun q hq => match q, hq with | 0, _ => Or.inr ⟨rfl, rfl⟩ | 1, _ => Or.inr ⟨rfl, rfl⟩ | 2, _ => Or.inr ⟨rfl, rfl⟩ | 3, _ => Or.inr ⟨rfl, rfl⟩ | 4, _ => Or.inl ⟨rfl, rfl⟩ | n + 5, hq => absurd hq (by omega)) (Or.inl kX5_X2_28) hC (by decide) (by decide) (Nat.le_of_ble_eq_true rfl) (by decide) (by decide) dX5_init_38 dX5_init_41 dX5_init_42 (fun Z7 M7 a7 ha7 _ h => ?_)
  · unfold SRe at hq
    unfold RSt
    exact ⟨fr q (by omega) (by omega), by omega, (ov_2 (by omega)).trans (ov_2 (by omega))⟩
  refine r_pF (ty := .object "HandSpans$Reduction") (j := 7) h ho (Or.inl (Or.inl (Or.inl (by omega)))) (Or.inr (Or.inl ⟨by decide, by decide⟩)) ha7 tw_wsX5 tyX5 tyX5_ok nmX5 rfl 3 (by decide) rfl rfl rfl (by decide +kernel) (fun _ => ⟨rfl, rfl⟩) wt_207 hC hI dX5_init_45 (fun Z8 h => ?_)
  refine r_aload_n hC dX5_init_48 0 rfl ?_
  refine r_nw (i := 3) (S1 := fun q => (q = 3 ∨ q = 4) ∨ (56 ≤ q ∧ q < 98)) h (fun q hq => ?_) (Or.inl (Or.inl rfl)) (cn_Hist (cx_st hC)) tw_wsX1 tyX1 tyX1_ok rfl wt_185 wt_186 wt_35 (fun q hq => match q, hq with | 0, _ => Or.inr ⟨rfl, rfl⟩ | 1, _ => Or.inl ⟨rfl, rfl⟩ | 2, _ => Or.inl ⟨rfl, rfl⟩ | n + 3, hq => absurd hq (by omega)) (Or.inl kX5_X1_35) hC (by decide) (by decide) (Nat.le_of_ble_eq_true rfl) (by decide) (by decide) dX5_init_49 dX5_init_52 dX5_init_53 (fun Z9 M9 a9 ha9 _ h => ?_)
  · unfold RSt SRe
    exact ⟨fr q (by omega) (by omega), by omega, (ov_2 (by omega)).trans (ov_2 (by omega))⟩
  refine r_pF (ty := .object "HandSpans$History") (j := 3) h ho (Or.inl (Or.inl (Or.inl (Or.inl (by omega))))) (Or.inr (Or.inl (Or.inl rfl))) ha9 tw_wsX5 tyX5 tyX5_ok nmX5 rfl 4 (by decide) rfl rfl rfl (by decide +kernel) (fun _ => ⟨rfl, rfl⟩) wt_208 hC hI dX5_init_56 (fun Z10 h => ?_)
  refine r_aload_n hC dX5_init_59 0 rfl ?_
  refine r_iconst (v := 2) hC dX5_init_60 rfl ?_
  refine r_na (i := 5) (t := 5) (N := 2) h ((ov_2 (by decide)).trans (ov_1.trans (by rw [e0]))) (fr _ (by decide) (by decide)) (by unfold RSt SRe; omega) wt_69 wt_192 rfl (by decide) rfl (by decide) hC (by decide) (by decide) dX5_init_61 (fun Z11 M11 a11 ha11 h => ?_)
  refine r_pF (ty := .array (.object "HandSpans$State")) (j := 5) h ho (Or.inl (Or.inl (Or.inl (Or.inl (Or.inl (by omega)))))) (Or.inr rfl) ha11 tw_wsX5 tyX5 tyX5_ok nmX5 rfl 5 (by decide) rfl rfl rfl (by decide +kernel) (fun _ => ⟨rfl, rfl⟩) wt_209 hC hI dX5_init_64 (fun Z12 h => ?_)
  refine r_aload_n hC dX5_init_67 0 rfl ?_
  refine r_iconst (v := 2) hC dX5_init_68 rfl ?_
  refine r_nz (i := 6) (N := 2) h ((ov_2 (by decide)).trans ((ov_2 (by decide)).trans rfl)) (fr _ (by decide) (by decide)) (by unfold RSt SRe; omega) (by decide) rfl (by decide) hC (by decide) (by decide) dX5_init_69 (fun Z13 M13 a13 ha13 h => ?_)
  refine r_pF (ty := .array .boolean) (j := 6) h ho (Or.inl (Or.inl (Or.inl (Or.inl (Or.inl (Or.inl (by omega))))))) (Or.inr rfl) ha13 tw_wsX5 tyX5 tyX5_ok nmX5 rfl 6 (by decide) rfl rfl rfl (by decide +kernel) (fun _ => ⟨rfl, rfl⟩) wt_210 hC hI dX5_init_71 (fun Z14 h => ?_)
  refine r_seeO h (Or.inl (Or.inl (Or.inl (Or.inl (Or.inl (Or.inl (by omega))))))) (F' := fun k => match k with | 0 => rf 1 | 1 => rf (iSt 0) | 2 => rf (iSt 1) | 3 => rf 7 | 4 => rf 3 | 5 => rf 5 | _ => rf 6) ((ov_2 (by decide)).trans rfl) (fun j hj => match j, hj with | 0, _ => rfl | 1, _ => rfl | 2, _ => rfl | 3, _ => rfl | 4, _ => rfl | 5, _ => rfl | 6, _ => rfl | n + 7, hj => absurd hj (by omega)) (fun Z15 h => ?_)
  refine r_iconst (v := iz (0 : Nat)) hC dX5_init_74 rfl ?_
  refine r_istore_n (L' := [(1, .int (iz (0 : Nat))), (0, .ref (Z.1 0))]) hC dX5_init_75 (by decide) rfl ?_
  have fr2 : ∀ q, 50 ≤ q → q < 56 → q ∉ Z.2.2 := fun q h1 h2 => fr q (by omega) (by omega)
  have h : Iv G (SHs 0) (oR 5 5 2 gSl 0) EHs Z M Z15 M13 := by
    refine h.cv (fun q => ?_) (fun _ _ => rfl) Off.rf ?_ EHs.st
    · unfold RSt SRe SHs
      omega
    · obtain ⟨⟨⟨⟨⟨⟨⟨_, b⟩, c⟩, _⟩, d⟩, e⟩, _⟩, f⟩ := h.2.2.2.1
      exact ⟨b.1, c, e, f, d⟩
  refine hs_step (j := 0) hC ho fr2 (by decide) (by decide) (by decide) h (fun Za Ma h => ?_)
  refine hs_step (j := 1) hC ho fr2 (by decide) (by decide) (by decide) h (fun Zb Mb h => ?_)
  refine r_iload_n hC dX5_init_76 0 rfl ?_
  refine r_iconst (v := 2) hC dX5_init_77 rfl ?_
  refine r_icmp_ge 100 hC dX5_init_78 (by decide) (fun c => ?_) (fun c => absurd (by decide) c)
  refine r_seeA (o := 5) (T0 := TB) h (Or.inl (by decide)) ov_1 (F' := fun j => some (iSt (2 + j))) rfl (fun j hj => (ov_2 hj).symm) (fun j hj => by unfold fUp; rw [if_pos hj]) (fun Z5 h => ?_)
  exact r_vretN h hC (by decide) (by decide) dX5_init_100
