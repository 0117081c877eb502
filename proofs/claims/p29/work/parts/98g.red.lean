/-! THE REDUCTION'S CONSTRUCTOR -/
abbrev fRe0 : Nat → Option (Option Nat) := fun j => match j with | 0 => some none | 1 => some none | 2 => some none | 3 => some none | _ => none
def ERe (j : Nat) (m : Mem) : Prop := ∀ c, (c < j ∨ c = 16) → ECh c m
def SRe (j q : Nat) : Prop := (7 ≤ q ∧ q < 27) ∨ (98 ≤ q ∧ q < 98 + 12 * j) ∨ (290 ≤ q ∧ q < 302)
theorem ERe.st {j : Nat} (hj : j ≤ 16) (M1 M2 : Mem) (e : ∀ q, SRe j q → M2 q = M1 q) (h : ERe j M1) : ERe j M2 := fun c hc => ECh.st M1 M2 (fun q hq => e q (by
  have := iCh_eq c
  have h1 := hq.1
  have h2 := hq.2
  unfold SRe
  omega)) (h c hc)
abbrev gCh : Nat → Nat := fun j => iCh j
theorem re_loop {X : XX} {G : GG} {Z0 : ZZ} {M0 : Mem} (hC : Cx X G RX2 cX2_init none 2 223 1097 2) (ho : 7 ∈ Z0.2.2) (fr : ∀ q, 98 ≤ q → q < 290 → q ∉ Z0.2.2) {Q : State → Prop} (kk : ∀ (Z : ZZ) (M : Mem), Iv G (SRe 16) (oR 8 6 16 gCh 16) (ERe 16) Z0 M0 Z M → V X G Z M 223 1097 Q 70 [(1, .int (iz (16 : Nat))), (0, .ref (Z0.1 7))] []) : ∀ (r j : Nat) (k n : Nat) (Z : ZZ) (M : Mem), j + r = 16 → k + 12 * r = 223 → n + 57 * r = 1097 → Iv G (SRe j) (oR 8 6 16 gCh j) (ERe j) Z0 M0 Z M → V X G Z M k n Q 45 [(1, .int (iz j)), (0, .ref (Z0.1 7))] []
  | 0, j, k, n, Z, M, hj, hk, hn, h => by
    have : j = 16 := by omega
    subst this
    have : k = 223 := by omega
    subst this
    have : n = 1097 := by omega
    subst this
    refine r_iload_n hC dX2_init_45 0 rfl ?_
    refine r_bipush (v := 16) hC dX2_init_46 rfl ?_
    refine r_icmp_ge 70 hC dX2_init_48 (by decide) (fun c => ?_) (fun c => absurd (by decide) c)
    exact kk Z M h
  | r + 1, j, k, n, Z, M, hj, hk, hn, h => by
    have is := iCh_eq j
    have s7 : SRe j 7 := Or.inl ⟨by omega, by omega⟩
    have s8 : SRe j 8 := Or.inl ⟨by omega, by omega⟩
    refine r_iload_n hC dX2_init_45 0 rfl ?_
    refine r_bipush (v := iz 16) hC dX2_init_46 rfl ?_
    refine r_icmp_ge 70 hC dX2_init_48 (by decide) (fun c => ?_) (fun c => ?_)
    · rw [iz_le (by omega) (by omega) (by omega) (by omega)] at c
      omega
    · refine r_aload_n hC dX2_init_51 1 rfl ?_
      have a3 : At Z 7 dRed := h.2.2.1 7 s7
      rw [← h.ad ho]
      refine gf_X2_11 (v := .ref (Z.1 8)) hC a3 rfl dX2_init_52 ?_
      rw [h.ad ho]
      refine r_iload_n hC dX2_init_55 0 rfl ?_
      have eS : TB (iCh j) = dCh j := TB_C (j := 0) (by decide)
      refine r_nw (i := iCh j) (S1 := RCb j) h (fun q hq => ?_) ⟨by omega, by omega⟩ (cn_Chord (cx_st hC) (by omega)) tw_wsX0 tyX0 tyX0_ok rfl wt_109 wt_111 wt_34 (fun q hq => match q, hq with | 0, _ => Or.inr ⟨rfl, rfl⟩ | 1, _ => Or.inl ⟨rfl, rfl⟩ | 2, _ => Or.inl ⟨rfl, rfl⟩ | 3, _ => Or.inl ⟨rfl, rfl⟩ | 4, _ => Or.inr ⟨rfl, rfl⟩ | 5, _ => Or.inr ⟨rfl, rfl⟩ | 6, _ => Or.inl ⟨rfl, rfl⟩ | 7, _ => Or.inl ⟨rfl, rfl⟩ | 8, _ => Or.inr ⟨rfl, rfl⟩ | 9, _ => Or.inl ⟨rfl, rfl⟩ | 10, _ => Or.inl ⟨rfl, rfl⟩ | 11, _ => Or.inr ⟨rfl, rfl⟩ | 12, _ => Or.inr ⟨rfl, rfl⟩ | 13, _ => Or.inr ⟨rfl, rfl⟩ | n + 14, hq => absurd hq (by omega)) (Or.inl kX2_X0_17) hC (by decide) (by decide) (Nat.le_of_ble_eq_true rfl) (by omega) (by omega) dX2_init_56 dX2_init_59 dX2_init_60 (fun Z2 M2 a2 ha2 had h => ?_)
      · have h1 := hq.1
        have h2 := hq.2
        exact ⟨fr q (by omega) (by omega), by unfold SRe; omega, ov_2 (by omega)⟩
      refine r_aa (T' := oR 8 6 16 gCh (j + 1)) (r := 8) (i := iCh j) h (Or.inl s8) ov_1 (Or.inr ⟨by omega, by omega⟩) ((ov_2 (by omega)).trans eS) (c := (RX0, TX0, 14)) rfl rfl (inb_vp (inb_n (by omega) (by omega))) (had 8 s8) ha2 (ov_1.trans (by rw [fUp_s gCh j _ (cl_n (by omega))])) (fun q hq => (ov_2 hq).trans (ov_2 hq).symm) hC dX2_init_63 (fun Z3 _ h => ?_)
      refine r_iinc (v := iz ((j + 1 : Nat) : Int)) (L' := [(1, .int (iz ((j + 1 : Nat) : Int))), (0, .ref (Z0.1 7))]) hC dX2_init_64 0 rfl (by rw [show Int32.ofInt 1 = iz 1 from rfl, iz_add]; rfl) (by decide) rfl ?_
      refine r_goto 45 hC dX2_init_67 (by decide) ?_
      refine re_loop hC ho fr kk r (j + 1) _ _ Z3 M2 (by omega) (by omega) (by omega) (h.cv (fun q => ?_) (fun _ _ => rfl) Off.rf (fun c hc => ?_) (ERe.st (by omega)))
      · unfold RCb SRe
        omega
      · by_cases e : c = j
        · rw [e]; exact h.2.2.2.1.2
        · exact h.2.2.2.1.1 c (by omega)
theorem cn_Red {l : Launch} (hl : l.stackTraces = false) {G : GG} : Ctr G l yX2_init cX2_init 2 2 223 1097 7 2 5 fRe0 (SRe 16) (ERe 16) := by
  intro Z M hz ha hm hf
  have is := iCh_eq 16
  refine CNw.of [(0, .ref (Z.1 7))] hl (by decide +kernel) rfl (Nat.le_of_ble_eq_true rfl) rfl (fun X hC hI => ?_)
  have ho := ha.1
  have fr : ∀ q, q ≠ 7 → ((7 ≤ q ∧ q < 27) ∨ (98 ≤ q ∧ q < 302)) → q ∉ Z.2.2 := fun q h1 h2 => hf q (by unfold SRe; omega) h1
  have h := Iv.start (T0 := oR 8 6 16 gCh 0) hz ha hm
  refine r_aload_n hC dX2_init_0 0 rfl ?_
  refine r_objInit wt_108 hC (by decide) dX2_init_1 ?_
  refine r_aload_n hC dX2_init_4 0 rfl ?_
  refine r_bipush (v := 16) hC dX2_init_5 rfl ?_
  have e0 : fUp gCh 0 = fun _ => none := by
    funext q
    unfold fUp
    rw [if_neg (by omega)]
  refine r_na (i := 8) (t := 6) (N := 16) h ((ov_2 (by decide)).trans (ov_1.trans (by rw [e0]))) (fr _ (by decide) (by decide)) (by decide) wt_109 wt_110 rfl (by decide) rfl (by decide) hC (by decide) (by decide) dX2_init_7 (fun Z1 M1 a1 ha1 h => ?_)
  refine r_pF (ty := .array (.object "HandSpans$Chord")) (j := 8) h ho (by omega) (Or.inr rfl) ha1 tw_wsX2 tyX2 tyX2_ok nmX2 rfl 0 (by decide) rfl rfl rfl (by decide +kernel) (fun _ => ⟨rfl, rfl⟩) wt_169 hC hI dX2_init_10 (fun Z2 h => ?_)
  refine r_aload_n hC dX2_init_13 0 rfl ?_
  have eS : TB (iCh 16) = dCh 16 := TB_C (j := 0) (by decide)
  refine r_nw (i := iCh 16) (S1 := RCb 16) h (fun q hq => ?_) ⟨by omega, by omega⟩ (cn_Chord (cx_st hC) (by omega)) tw_wsX0 tyX0 tyX0_ok rfl wt_109 wt_111 wt_34 (fun q hq => match q, hq with | 0, _ => Or.inr ⟨rfl, rfl⟩ | 1, _ => Or.inl ⟨rfl, rfl⟩ | 2, _ => Or.inl ⟨rfl, rfl⟩ | 3, _ => Or.inl ⟨rfl, rfl⟩ | 4, _ => Or.inr ⟨rfl, rfl⟩ | 5, _ => Or.inr ⟨rfl, rfl⟩ | 6, _ => Or.inl ⟨rfl, rfl⟩ | 7, _ => Or.inl ⟨rfl, rfl⟩ | 8, _ => Or.inr ⟨rfl, rfl⟩ | 9, _ => Or.inl ⟨rfl, rfl⟩ | 10, _ => Or.inl ⟨rfl, rfl⟩ | 11, _ => Or.inr ⟨rfl, rfl⟩ | 12, _ => Or.inr ⟨rfl, rfl⟩ | 13, _ => Or.inr ⟨rfl, rfl⟩ | n + 14, hq => absurd hq (by omega)) (Or.inl kX2_X0_17) hC (by decide) (by decide) (Nat.le_of_ble_eq_true rfl) (by decide) (by decide) dX2_init_14 dX2_init_17 dX2_init_18 (fun Z3 M3 a3 ha3 had h => ?_)
  · have h1 := hq.1
    have h2 := hq.2
    exact ⟨fr q (by omega) (by omega), by omega, (ov_2 (by omega)).trans (ov_2 (by omega))⟩
  have r16 : RCb 16 (iCh 16) := ⟨by omega, by omega⟩
  refine r_pF (ty := .object "HandSpans$Chord") (j := iCh 16) h ho (Or.inl (by omega)) (Or.inr r16) ha3 tw_wsX2 tyX2 tyX2_ok nmX2 rfl 1 (by decide) rfl rfl rfl (by decide +kernel) (fun _ => ⟨rfl, rfl⟩) wt_170 hC hI dX2_init_21 (fun Z4 h => ?_)
  refine r_aload_n hC dX2_init_24 0 rfl ?_
  refine r_bipush (v := 16) hC dX2_init_25 rfl ?_
  refine r_ni (i := 9) (N := 16) h ((ov_2 (by decide)).trans ((ov_2 (by decide)).trans rfl)) (fr _ (by decide) (by decide)) (by unfold RCb; omega) (by decide) rfl (by decide) hC (by decide) (by decide) dX2_init_27 (fun Z5 M5 a5 ha5 h => ?_)
  refine r_pF (ty := .array .int) (j := 9) h ho (Or.inl (Or.inl (by omega))) (Or.inr rfl) ha5 tw_wsX2 tyX2 tyX2_ok nmX2 rfl 2 (by decide) rfl rfl rfl (by decide +kernel) (fun _ => ⟨rfl, rfl⟩) wt_171 hC hI dX2_init_29 (fun Z6 h => ?_)
  refine r_aload_n hC dX2_init_32 0 rfl ?_
  refine r_bipush (v := 16) hC dX2_init_33 rfl ?_
  refine r_iconst (v := 5) hC dX2_init_35 rfl ?_
  refine r_mn (io := 10) (N := 16) h ((ov_2 (by decide)).trans ((ov_2 (by decide)).trans rfl)) (fun j hj => ?_) (fun q h1 h2 => ⟨fr q (by omega) (by omega), by unfold RCb; omega⟩) wt_168 (by decide) rfl (by decide) hC (by decide) (by decide) dX2_init_36 (fun Z7 M7 a7 ha7 h => ?_)
  · refine (ov_2 (by omega)).trans ((ov_2 (by omega)).trans ?_)
    match j, hj with
    | 0, _ => rfl | 1, _ => rfl | 2, _ => rfl | 3, _ => rfl | 4, _ => rfl | 5, _ => rfl | 6, _ => rfl | 7, _ => rfl | 8, _ => rfl | 9, _ => rfl | 10, _ => rfl | 11, _ => rfl | 12, _ => rfl | 13, _ => rfl | 14, _ => rfl | 15, _ => rfl | n + 16, h => exact absurd h (by omega)
  refine r_pF (ty := .array (.array .int)) (j := 10) h ho (Or.inl (Or.inl (Or.inl (by omega)))) (Or.inr (by decide)) ha7 tw_wsX2 tyX2 tyX2_ok nmX2 rfl 3 (by decide) rfl rfl rfl (by decide +kernel) (fun _ => ⟨rfl, rfl⟩) wt_172 hC hI dX2_init_40 (fun Z8 h => ?_)
  refine r_seeO h (Or.inl (Or.inl (Or.inl (by omega)))) (F' := fun k => match k with | 0 => rf 8 | 1 => rf (iCh 16) | 2 => rf 9 | 3 => rf 10 | _ => none) ((ov_2 (by decide)).trans rfl) (fun j hj => match j, hj with | 0, _ => rfl | 1, _ => rfl | 2, _ => rfl | 3, _ => rfl | 4, _ => rfl | n + 5, hj => absurd hj (by omega)) (fun Z9 h => ?_)
  refine r_iconst (v := iz (0 : Nat)) hC dX2_init_43 rfl ?_
  refine r_istore_n (L' := [(1, .int (iz (0 : Nat))), (0, .ref (Z.1 7))]) hC dX2_init_44 (by decide) rfl ?_
  refine re_loop hC ho (fun q h1 h2 => fr q (by omega) (by omega)) (fun Z4 M4 h => ?_) 16 0 _ _ Z9 M7 (by decide) (by decide) (by decide) (h.cv (fun q => by unfold RCb SRe; omega) (fun _ _ => rfl) Off.rf (fun c hc => ?_) (ERe.st (by decide)))
  · refine r_seeA (o := 8) (T0 := TB) h (Or.inl ⟨by decide, by decide⟩) ov_1 (F' := fun j => some (iCh j)) rfl (fun j hj => (ov_2 hj).symm) (fun j hj => by unfold fUp; rw [if_pos hj]) (fun Z5 h => ?_)
    exact r_vretN h hC (by decide) (by decide) dX2_init_70
  · have : c = 16 := by omega
    subst this
    exact h.2.2.2.1.1.1.2
