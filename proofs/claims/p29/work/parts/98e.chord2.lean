/-! THE CHORD'S CONSTRUCTOR -/
theorem cn_Chord {l : Launch} (hl : l.stackTraces = false) {G : GG} {b : Nat} (hb : b < 17) : Ctr G l yX0_init cX0_init 3 1 11 43 (iCh b) 0 14 fCh0 (RCb b) (ECh b) := by
  intro Z M hz ha hm hf
  have io := iCh_eq b
  refine CNw.of [(0, .ref (Z.1 (iCh b)))] hl (by decide +kernel) rfl (Nat.le_of_ble_eq_true rfl) rfl (fun X hC hI => ?_)
  have ho := ha.1
  have e0 : TB (iCh b) = dCh b := TB_C (j := 0) (by decide)
  have eT : ∀ j, j < 12 → TB (iCh b + j) = TBC b j := fun j hj => TB_C hj
  have fr : ∀ j, 0 < j → j < 12 → iCh b + j ∉ Z.2.2 := fun j h1 h2 => hf _ ⟨by omega, by omega⟩ (by omega)
  have h := Iv.start (T0 := TB) hz ha hm
  refine r_aload_n hC dX0_init_0 0 rfl ?_
  refine r_objInit wt_115 hC (by decide) dX0_init_1 ?_
  refine r_aload_n hC dX0_init_4 0 rfl ?_
  refine r_iconst (v := 2) hC dX0_init_5 rfl ?_
  refine r_ni (i := iCh b + 1) (N := 2) h ((ov_2 (by omega)).trans (eT 1 (by decide))) (fr 1 (by decide) (by decide)) (by omega) (by decide) rfl (by decide) hC (by decide) (by decide) dX0_init_6 (fun Z1 M1 a1 ha1 h => ?_)
  refine r_pF (ty := .array .int) (j := iCh b + 1) h ho (by omega) (Or.inr rfl) ha1 tw_wsX0 tyX0 tyX0_ok nmX0 rfl 0 (by decide) rfl rfl rfl (by decide +kernel) (fun _ => ⟨rfl, rfl⟩) wt_118 hC hI dX0_init_8 (fun Z2 h => ?_)
  refine r_aload_n hC dX0_init_11 0 rfl ?_
  refine r_iconst (v := 4) hC dX0_init_12 rfl ?_
  refine r_ni (i := iCh b + 2) (N := 4) h ((ov_2 (by omega)).trans (eT 2 (by decide))) (fr 2 (by decide) (by decide)) (by omega) (by decide) rfl (by decide) hC (by decide) (by decide) dX0_init_13 (fun Z3 M2 a2 ha2 h => ?_)
  refine r_pF (ty := .array .int) (j := iCh b + 2) h ho (by omega) (Or.inr rfl) ha2 tw_wsX0 tyX0 tyX0_ok nmX0 rfl 4 (by decide) rfl rfl rfl (by decide +kernel) (fun _ => ⟨rfl, rfl⟩) wt_122 hC hI dX0_init_15 (fun Z4 h => ?_)
  refine r_aload_n hC dX0_init_18 0 rfl ?_
  refine r_iconst (v := 4) hC dX0_init_19 rfl ?_
  refine r_ni (i := iCh b + 3) (N := 4) h ((ov_2 (by omega)).trans (eT 3 (by decide))) (fr 3 (by decide) (by decide)) (by omega) (by decide) rfl (by decide) hC (by decide) (by decide) dX0_init_20 (fun Z5 M3 a3 ha3 h => ?_)
  refine r_pF (ty := .array .int) (j := iCh b + 3) h ho (by omega) (Or.inr rfl) ha3 tw_wsX0 tyX0 tyX0_ok nmX0 rfl 5 (by decide) rfl rfl rfl (by decide +kernel) (fun _ => ⟨rfl, rfl⟩) wt_123 hC hI dX0_init_22 (fun Z6 h => ?_)
  refine r_aload_n hC dX0_init_25 0 rfl ?_
  refine r_iconst (v := 4) hC dX0_init_26 rfl ?_
  refine r_ni (i := iCh b + 4) (N := 4) h ((ov_2 (by omega)).trans (eT 4 (by decide))) (fr 4 (by decide) (by decide)) (by omega) (by decide) rfl (by decide) hC (by decide) (by decide) dX0_init_27 (fun Z7 M4 a4 ha4 h => ?_)
  refine r_pF (ty := .array .int) (j := iCh b + 4) h ho (by omega) (Or.inr rfl) ha4 tw_wsX0 tyX0 tyX0_ok nmX0 rfl 8 (by decide) rfl rfl rfl (by decide +kernel) (fun _ => ⟨rfl, rfl⟩) wt_129 hC hI dX0_init_29 (fun Z8 h => ?_)
  refine r_aload_n hC dX0_init_32 0 rfl ?_
  refine r_iconst (v := 5) hC dX0_init_33 rfl ?_
  refine r_ni (i := iCh b + 5) (N := 5) h ((ov_2 (by omega)).trans (eT 5 (by decide))) (fr 5 (by decide) (by decide)) (by omega) (by decide) rfl (by decide) hC (by decide) (by decide) dX0_init_34 (fun Z9 M5 a5 ha5 h => ?_)
  refine r_pF (ty := .array .int) (j := iCh b + 5) h ho (by omega) (Or.inr rfl) ha5 tw_wsX0 tyX0 tyX0_ok nmX0 rfl 11 (by decide) rfl rfl rfl (by decide +kernel) (fun _ => ⟨rfl, rfl⟩) wt_134 hC hI dX0_init_36 (fun Z10 h => ?_)
  refine r_aload_n hC dX0_init_39 0 rfl ?_
  refine r_iconst (v := 2) hC dX0_init_40 rfl ?_
  refine r_iconst (v := 5) hC dX0_init_41 rfl ?_
  refine r_mn (io := iCh b + 6) (N := 2) h ((ov_2 (by omega)).trans (eT 6 (by decide))) (fun j hj => ?_) (fun q h1 h2 => ⟨hf q ⟨by omega, by omega⟩ (by omega), by omega⟩) wt_116 (by decide) rfl (by decide) hC (by decide) (by decide) dX0_init_42 (fun Z11 M6 a6 ha6 h => ?_)
  · match j, hj with
    | 0, _ => exact (ov_2 (by omega)).trans (eT 7 (by decide))
    | 1, _ => exact (ov_2 (by omega)).trans (eT 8 (by decide))
  refine r_pF (ty := .array (.array .int)) (j := iCh b + 6) h ho (by omega) (by omega) ha6 tw_wsX0 tyX0 tyX0_ok nmX0 rfl 12 (by decide) rfl rfl rfl (by decide +kernel) (fun _ => ⟨rfl, rfl⟩) wt_135 hC hI dX0_init_46 (fun Z12 h => ?_)
  refine r_aload_n hC dX0_init_49 0 rfl ?_
  refine r_iconst (v := 2) hC dX0_init_50 rfl ?_
  refine r_iconst (v := 5) hC dX0_init_51 rfl ?_
  refine r_mn (io := iCh b + 9) (N := 2) h ((ov_2 (by omega)).trans (eT 9 (by decide))) (fun j hj => ?_) (fun q h1 h2 => ⟨hf q ⟨by omega, by omega⟩ (by omega), by omega⟩) wt_116 (by decide) rfl (by decide) hC (by decide) (by decide) dX0_init_52 (fun Z17 M9 a9 ha9 h => ?_)
  · match j, hj with
    | 0, _ => exact (ov_2 (by omega)).trans (eT 10 (by decide))
    | 1, _ => exact (ov_2 (by omega)).trans (eT 11 (by decide))
  refine r_pF (ty := .array (.array .int)) (j := iCh b + 9) h ho (by omega) (by omega) ha9 tw_wsX0 tyX0 tyX0_ok nmX0 rfl 13 (by decide) rfl rfl rfl (by decide +kernel) (fun _ => ⟨rfl, rfl⟩) wt_137 hC hI dX0_init_56 (fun Z18 h => ?_)
  refine r_seeO h (by omega) e0 (fun j hj => match j, hj with | 0, _ => rfl | 1, _ => rfl | 2, _ => rfl | 3, _ => rfl | 4, _ => rfl | 5, _ => rfl | 6, _ => rfl | 7, _ => rfl | 8, _ => rfl | 9, _ => rfl | 10, _ => rfl | 11, _ => rfl | 12, _ => rfl | 13, _ => rfl | n + 14, hj => absurd hj (by omega)) (fun Z20 h => ?_)
  have ad := h.ad ho
  rw [← ad]
  have k0 : At Z20 (iCh b) (dCh b) := e0 ▸ h.2.2.1 _ (by omega)
  have at' : ∀ j, j < 12 → At Z20 (iCh b + j) (TBC b j) := fun j hj => by
    rw [← eT j hj]
    exact h.2.2.1 _ (by omega)
  have k6 : At Z20 (iCh b + 6) (dPos b) := at' 6 (by decide)
  have k7 : ∀ h, h < 2 → At Z20 (iCh b + 7 + h) (dA 0 5) := fun x hx => by
    match x, hx with
    | 0, _ => exact at' 7 (by decide)
    | 1, _ => exact at' 8 (by decide)
  obtain ⟨⟨⟨⟨⟨⟨⟨z0, z1⟩, z2⟩, z3⟩, z4⟩, z5⟩, z6⟩, z9⟩ := h.2.2.2.1
  refine r_iconst (v := iz (0 : Nat)) hC dX0_init_59 rfl ?_
  refine r_istore_n (L' := [(1, .int (iz (0 : Nat))), (0, .ref (Z20.1 (iCh b)))]) hC dX0_init_60 (by decide) rfl ?_
  refine r_iload_n hC dX0_init_61 0 rfl ?_
  refine r_iconst (v := 2) hC dX0_init_62 rfl ?_
  refine r_icmp_ge 95 hC dX0_init_63 (by decide) (fun c => absurd c (by decide)) (fun _ => ?_)
  refine r_iconst (v := iz (0 : Nat)) hC dX0_init_66 rfl ?_
  refine r_istore_n (L' := [(2, .int (iz (0 : Nat))), (1, .int (iz (0 : Nat))), (0, .ref (Z20.1 (iCh b)))]) hC dX0_init_67 (by decide) rfl ?_
  refine ch_inner (h := 0) (Ma := M9) (by decide) hC h.1.1 k0 k6 (k7 0 (by decide)) (fun Ma pa oa => ?_) 5 0 M9 (by decide) (fun c => absurd c (by decide)) Off.rf
  refine r_iinc (v := iz (1 : Nat)) (L' := [(1, .int (iz (1 : Nat))), (2, .int (iz (5 : Nat))), (0, .ref (Z20.1 (iCh b)))]) hC dX0_init_89 1 rfl rfl (by decide) rfl ?_
  refine r_goto 61 hC dX0_init_92 (by decide) ?_
  refine r_iload_n hC dX0_init_61 0 rfl ?_
  refine r_iconst (v := 2) hC dX0_init_62 rfl ?_
  refine r_icmp_ge 95 hC dX0_init_63 (by decide) (fun c => absurd c (by decide)) (fun _ => ?_)
  refine r_iconst (v := iz (0 : Nat)) hC dX0_init_66 rfl ?_
  refine r_istore_n (L' := [(2, .int (iz (0 : Nat))), (1, .int (iz (1 : Nat))), (0, .ref (Z20.1 (iCh b)))]) hC dX0_init_67 (by decide) rfl ?_
  refine ch_inner (h := 1) (Ma := Ma) (by decide) hC h.1.1 k0 k6 (k7 1 (by decide)) (fun Mb pb ob => ?_) 5 0 Ma (by decide) (fun c => absurd c (by decide)) Off.rf
  refine r_iinc (v := iz (2 : Nat)) (L' := [(1, .int (iz (2 : Nat))), (2, .int (iz (5 : Nat))), (0, .ref (Z20.1 (iCh b)))]) hC dX0_init_89 1 rfl rfl (by decide) rfl ?_
  refine r_goto 61 hC dX0_init_92 (by decide) ?_
  refine r_iload_n hC dX0_init_61 0 rfl ?_
  refine r_iconst (v := 2) hC dX0_init_62 rfl ?_
  refine r_icmp_ge 95 hC dX0_init_63 (by decide) (fun _ => ?_) (fun c => absurd (by decide) c)
  have qa : ∀ d, d ≠ iCh b + 7 + 0 → Ma d = M9 d := oa
  have qb : ∀ d, d ≠ iCh b + 7 + 1 → Mb d = Ma d := ob
  refine r_vretN (h.cv (fun j => ?_) (fun j _ => rfl) (fun d hd => (qb d (by omega)).trans (qa d (by omega))) ?_ ECh.st) hC (by decide) (by decide) dX0_init_95
  · unfold RCb
    omega
  · refine ⟨?_, ?_, ?_, ?_⟩
    · rw [qb _ (by omega), qa _ (by omega)]; exact z5 0
    · rw [qb _ (by omega), qa _ (by omega)]; exact z0 9
    · rw [qb _ (by omega)]; exact pa
    · exact pb
