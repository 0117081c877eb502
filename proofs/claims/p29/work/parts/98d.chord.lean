/-! TEXT AND CHORD -/
abbrev fTx0 : Nat → Option (Option Nat) := fun j => match j with | 0 => some none | _ => none
theorem cn_Text {l : Launch} (hl : l.stackTraces = false) {G : GG} : Ctr G l yX4_init cX4_init 1 1 1 140 1 4 3 fTx0 (fun q => q = 1 ∨ q = 2) (fun m => (∀ q, m 1 q = 0) ∧ ∀ q, m 2 q = 0) := by
  intro Z M hz ha hm hf
  refine CNw.of [(0, .ref (Z.1 1))] hl (by decide +kernel) rfl (Nat.le_of_ble_eq_true rfl) rfl (fun X hC hI => ?_)
  have ho := ha.1
  have h := Iv.start (T0 := TB) hz ha hm
  refine r_aload_n hC dX4_init_0 0 rfl ?_
  refine r_objInit wt_57 hC (by decide) dX4_init_1 ?_
  refine r_aload_n hC dX4_init_4 0 rfl ?_
  refine r_sipush (v := 140) hC dX4_init_5 rfl ?_
  refine r_nc (i := 2) (N := 140) h rfl (hf _ (Or.inr rfl) (by decide)) (by decide) (by decide) rfl (by decide) hC (by decide) (by decide) dX4_init_8 (fun Z1 M1 a1 ha1 h => ?_)
  refine r_pF (ty := .array .char) (j := 2) h ho (Or.inl rfl) (Or.inr rfl) ha1 tw_wsX4 tyX4 tyX4_ok nmX4 rfl 0 (by decide) rfl rfl rfl (by decide +kernel) (fun _ => ⟨rfl, rfl⟩) wt_58 hC hI dX4_init_10 (fun Z2 h => ?_)
  refine r_seeO h (Or.inl rfl) (F' := fun k => match k with | 0 => rf 2 | _ => none) rfl (fun j hj => match j, hj with | 0, _ => rfl | 1, _ => rfl | 2, _ => rfl | n + 3, hj => absurd hj (by omega)) (fun Z3 h => ?_)
  exact r_vretN h hC (by decide) (by decide) dX4_init_13
abbrev fCh0 : Nat → Option (Option Nat) := fun j => match j with | 0 => some none | 4 => some none | 5 => some none | 8 => some none | 11 => some none | 12 => some none | 13 => some none | _ => none
def RCb (b d : Nat) : Prop := iCh b ≤ d ∧ d < iCh b + 12
def ECh (b : Nat) (m : Mem) : Prop := m (iCh b + 5) 0 = iz 0 ∧ m (iCh b) 9 = iz 0 ∧ m (iCh b + 7) 0 = iz (-9) ∧ m (iCh b + 8) 0 = iz (-9)
theorem ECh.st {b : Nat} (M1 M2 : Mem) (e : ∀ j, RCb b j → M2 j = M1 j) (h : ECh b M1) : ECh b M2 := by
  unfold ECh
  rw [e (iCh b) ⟨by omega, by omega⟩, e (iCh b + 5) ⟨by omega, by omega⟩, e (iCh b + 7) ⟨by omega, by omega⟩, e (iCh b + 8) ⟨by omega, by omega⟩]
  exact h
theorem ch_inner {X : XX} {G : GG} {Z : ZZ} {k n : Nat} {Q : State → Prop} {b h : Nat} (hh : h < 2) {Ma : Mem} (hC : Cx X G RX0 cX0_init none 1 11 43 3) (hz : ZOk G Z) (h0 : At Z (iCh b) (dCh b)) (h6 : At Z (iCh b + 6) (dPos b)) (h7 : At Z (iCh b + 7 + h) (dA 0 5)) (kk : ∀ M : Mem, M (iCh b + 7 + h) 0 = iz (-9) → Off (fun d => d = iCh b + 7 + h) Ma M → V X G Z M k n Q 89 [(2, .int (iz (5 : Nat))), (1, .int (iz h)), (0, .ref (Z.1 (iCh b)))] []) : ∀ (r j : Nat) (M : Mem), j + r = 5 → (0 < j → M (iCh b + 7 + h) 0 = iz (-9)) → Off (fun d => d = iCh b + 7 + h) Ma M → V X G Z M k n Q 68 [(2, .int (iz j)), (1, .int (iz h)), (0, .ref (Z.1 (iCh b)))] []
  | 0, j, M, hj, h1, ho => by
    have : j = 5 := by omega
    subst this
    refine r_iload_n hC dX0_init_68 0 rfl ?_
    refine r_iconst (v := 5) hC dX0_init_69 rfl ?_
    refine r_icmp_ge 89 hC dX0_init_70 (by decide) (fun c => ?_) (fun c => ?_)
    · exact kk M (h1 (by omega)) ho
    · exact absurd (by decide) c
  | r + 1, j, M, hj, h1, ho => by
    refine r_iload_n hC dX0_init_68 0 rfl ?_
    refine r_iconst (v := iz 5) hC dX0_init_69 rfl ?_
    refine r_icmp_ge 89 hC dX0_init_70 (by decide) (fun c => ?_) (fun c => ?_)
    · rw [iz_le (by omega) (by omega) (by omega) (by omega)] at c
      omega
    · refine r_aload_n hC dX0_init_73 2 rfl ?_
      refine gf_X0_29 hC h0 rfl dX0_init_74 ?_
      refine r_iload_n hC dX0_init_77 1 rfl ?_
      refine r_gald (j := iCh b + 7 + h) hC h6 (inb_vp (inb_n (by omega) (by omega))) (by rw [cl_n (by omega)]) dX0_init_78 ?_
      refine r_iload_n hC dX0_init_79 0 rfl ?_
      refine r_bipush (v := iz (-9)) hC dX0_init_80 rfl ?_
      refine r_iast hC hz h7 (inb_vp (inb_n (by omega) (by omega))) dX0_init_82 ?_
      refine r_iinc (v := iz ((j + 1 : Nat) : Int)) (L' := [(2, .int (iz ((j + 1 : Nat) : Int))), (1, .int (iz h)), (0, .ref (Z.1 (iCh b)))]) hC dX0_init_83 0 rfl (by rw [show Int32.ofInt 1 = iz 1 from rfl, iz_add]; rfl) (by decide) rfl ?_
      refine r_goto 68 hC dX0_init_86 (by decide) ?_
      refine ch_inner hh hC hz h0 h6 h7 kk r (j + 1) _ (by omega) (fun _ => ?_) (ho.put rfl)
      rw [cl_n (by omega), mw_at]
      split
      · rfl
      · exact h1 (by omega)
