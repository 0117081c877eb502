/-! THE CONSTRUCTOR OF THE MODEL -/
theorem begin_tot30 (M : Mem) : Tot (f_X6_begin 30 M) (fun x => (∀ j, j < 6 → x.2 30 j = iz (fE j)) ∧ (∀ j, 8 ≤ j → j < 72 → x.2 30 j = iz (-9)) ∧ Off (fun d => d = 30) M x.2) := by
  unfold f_X6_begin
  rw [show lnA 30 = 72 from rfl, if_pos (by decide), if_pos (by decide), if_pos (by decide), if_pos (by decide), if_pos (by decide), if_pos (by decide), c0, c1, c2, c3, c4, c5, show (8 : Int32) = iz ((8 : Nat) : Int) from rfl]
  refine up_tot 72 (fun i M' => 8 ≤ i ∧ (∀ j, j < 6 → M' 30 j = iz (fE j)) ∧ (∀ j, 8 ≤ j → j < i → M' 30 j = iz (-9)) ∧ Off (fun d => d = 30) M M') ?_ ?_ 9999 8 _ (by omega) ⟨by omega, fun j hj => ?_, fun j h1 h2 => absurd h2 (by omega), fun d hd => (mw_ne hd).trans ((mw_ne hd).trans ((mw_ne hd).trans ((mw_ne hd).trans ((mw_ne hd).trans (mw_ne hd)))))⟩ (by omega)
  · intro K i M' hi ⟨h8, h1, h2, h3⟩ hK
    unfold f_X6_begin_b29
    rw [if_neg (by rw [show (72 : Int32) = iz ((72 : Nat) : Int) from rfl, lez (by omega) (by omega)]; omega), show lnA 30 = 72 from rfl, if_pos (inb_n hi (by omega)), cl_n (by omega), a1z]
    refine hK _ ⟨by omega, fun j hj => ?_, fun j j1 j2 => ?_, h3.put rfl⟩
    · rw [mw_at, if_neg (by omega)]; exact h1 j hj
    · rw [mw_at]
      by_cases e : j = i
      · rw [if_pos e]; rfl
      · rw [if_neg e]; exact h2 j j1 (by omega)
  · intro K M' ⟨_, h1, h2, h3⟩
    unfold f_X6_begin_b29
    rw [if_pos (by decide)]
    exact Tot.mk ⟨h1, h2, h3⟩
  · have : j = 0 ∨ j = 1 ∨ j = 2 ∨ j = 3 ∨ j = 4 ∨ j = 5 := by omega
    rcases this with e | e | e | e | e | e <;> (subst e; simp only [mw_at]; rfl)
abbrev fMo0 : Nat → Option (Option Nat) := fun j => match j with | 0 => none | 2 => none | 3 => none | 9 => none | _ => some none
def SMo (q : Nat) : Prop := 27 ≤ q ∧ q < 43
def EMo (m : Mem) : Prop := (∀ q, m 27 q = 0) ∧ PR m 30 0 P0 ∧ ∀ q, m 35 q = 0
theorem EMo.st (M1 M2 : Mem) (e : ∀ q, SMo q → M2 q = M1 q) (h : EMo M1) : EMo M2 := by
  unfold EMo PR
  rw [e 27 ⟨by decide, by decide⟩, e 30 ⟨by decide, by decide⟩, e 35 ⟨by decide, by decide⟩]
  exact h
theorem cn_Mo {l : Launch} (hl : l.stackTraces = false) {G : GG} : Ctr G l yX6_init cX6_init 1 1 15 1902 27 6 19 fMo0 SMo EMo := by
  intro Z M hz ha hm hf
  refine CNw.of [(0, .ref (Z.1 27))] hl (by decide +kernel) rfl (Nat.le_of_ble_eq_true rfl) rfl (fun X hC hI => ?_)
  have ho := ha.1
  have h := Iv.start (T0 := TB) hz ha hm
  refine r_aload_n hC dX6_init_0 0 rfl ?_
  refine r_objInit wt_888 hC (by decide) dX6_init_1 ?_
  refine r_aload_n hC dX6_init_4 0 rfl ?_
  refine r_sipush (v := 140) hC dX6_init_5 rfl ?_
  refine r_ni (i := 28) (N := 140) h ((ov_2 (by decide)).trans rfl) (hf _ ⟨by decide, by decide⟩ (by decide)) (by omega) (by decide) rfl (by decide) hC (by decide) (by decide) dX6_init_8 (fun Z1 M1 a0 ha0 h => ?_)
  refine r_pF (ty := .array .int) (j := 28) h ho (by omega) (Or.inr rfl) ha0 tw_wsX6 tyX6 tyX6_ok nmX6 rfl 1 (by decide) rfl rfl rfl (by decide +kernel) (fun _ => ⟨rfl, rfl⟩) wt_893 hC hI dX6_init_10 (fun Z2 h => ?_)
  refine r_aload_n hC dX6_init_13 0 rfl ?_
  refine r_bipush (v := 72) hC dX6_init_14 rfl ?_
  refine r_ni (i := 29) (N := 72) h ((ov_2 (by decide)).trans rfl) (hf _ ⟨by decide, by decide⟩ (by decide)) (by omega) (by decide) rfl (by decide) hC (by decide) (by decide) dX6_init_16 (fun Z3 M2 a1 ha1 h => ?_)
  refine r_pF (ty := .array .int) (j := 29) h ho (by omega) (Or.inr rfl) ha1 tw_wsX6 tyX6 tyX6_ok nmX6 rfl 4 (by decide) rfl rfl rfl (by decide +kernel) (fun _ => ⟨rfl, rfl⟩) wt_896 hC hI dX6_init_18 (fun Z4 h => ?_)
  refine r_aload_n hC dX6_init_21 0 rfl ?_
  refine r_bipush (v := 72) hC dX6_init_22 rfl ?_
  refine r_ni (i := 30) (N := 72) h ((ov_2 (by decide)).trans rfl) (hf _ ⟨by decide, by decide⟩ (by decide)) (by omega) (by decide) rfl (by decide) hC (by decide) (by decide) dX6_init_24 (fun Z5 M3 a2 ha2 h => ?_)
  refine r_pF (ty := .array .int) (j := 30) h ho (by omega) (Or.inr rfl) ha2 tw_wsX6 tyX6 tyX6_ok nmX6 rfl 5 (by decide) rfl rfl rfl (by decide +kernel) (fun _ => ⟨rfl, rfl⟩) wt_897 hC hI dX6_init_26 (fun Z6 h => ?_)
  refine r_aload_n hC dX6_init_29 0 rfl ?_
  refine r_bipush (v := 72) hC dX6_init_30 rfl ?_
  refine r_ni (i := 31) (N := 72) h ((ov_2 (by decide)).trans rfl) (hf _ ⟨by decide, by decide⟩ (by decide)) (by omega) (by decide) rfl (by decide) hC (by decide) (by decide) dX6_init_32 (fun Z7 M4 a3 ha3 h => ?_)
  refine r_pF (ty := .array .int) (j := 31) h ho (by omega) (Or.inr rfl) ha3 tw_wsX6 tyX6 tyX6_ok nmX6 rfl 6 (by decide) rfl rfl rfl (by decide +kernel) (fun _ => ⟨rfl, rfl⟩) wt_898 hC hI dX6_init_34 (fun Z8 h => ?_)
  refine r_aload_n hC dX6_init_37 0 rfl ?_
  refine r_bipush (v := 72) hC dX6_init_38 rfl ?_
  refine r_ni (i := 32) (N := 72) h ((ov_2 (by decide)).trans rfl) (hf _ ⟨by decide, by decide⟩ (by decide)) (by omega) (by decide) rfl (by decide) hC (by decide) (by decide) dX6_init_40 (fun Z9 M5 a4 ha4 h => ?_)
  refine r_pF (ty := .array .int) (j := 32) h ho (by omega) (Or.inr rfl) ha4 tw_wsX6 tyX6 tyX6_ok nmX6 rfl 7 (by decide) rfl rfl rfl (by decide +kernel) (fun _ => ⟨rfl, rfl⟩) wt_899 hC hI dX6_init_42 (fun Z10 h => ?_)
  refine r_aload_n hC dX6_init_45 0 rfl ?_
  refine r_sipush (v := 1008) hC dX6_init_46 rfl ?_
  refine r_ni (i := 33) (N := 1008) h ((ov_2 (by decide)).trans rfl) (hf _ ⟨by decide, by decide⟩ (by decide)) (by omega) (by decide) rfl (by decide) hC (by decide) (by decide) dX6_init_49 (fun Z11 M6 a5 ha5 h => ?_)
  refine r_pF (ty := .array .int) (j := 33) h ho (by omega) (Or.inr rfl) ha5 tw_wsX6 tyX6 tyX6_ok nmX6 rfl 8 (by decide) rfl rfl rfl (by decide +kernel) (fun _ => ⟨rfl, rfl⟩) wt_900 hC hI dX6_init_51 (fun Z12 h => ?_)
  refine r_aload_n hC dX6_init_54 0 rfl ?_
  refine r_sipush (v := 144) hC dX6_init_55 rfl ?_
  refine r_ni (i := 34) (N := 144) h ((ov_2 (by decide)).trans rfl) (hf _ ⟨by decide, by decide⟩ (by decide)) (by omega) (by decide) rfl (by decide) hC (by decide) (by decide) dX6_init_58 (fun Z13 M7 a6 ha6 h => ?_)
  refine r_pF (ty := .array .int) (j := 34) h ho (by omega) (Or.inr rfl) ha6 tw_wsX6 tyX6 tyX6_ok nmX6 rfl 10 (by decide) rfl rfl rfl (by decide +kernel) (fun _ => ⟨rfl, rfl⟩) wt_902 hC hI dX6_init_60 (fun Z14 h => ?_)
  refine r_aload_n hC dX6_init_63 0 rfl ?_
  refine r_iconst (v := 2) hC dX6_init_64 rfl ?_
  refine r_nz (i := 35) (N := 2) h ((ov_2 (by decide)).trans rfl) (hf _ ⟨by decide, by decide⟩ (by decide)) (by omega) (by decide) rfl (by decide) hC (by decide) (by decide) dX6_init_65 (fun Z15 M8 a7 ha7 h => ?_)
  refine r_pF (ty := .array .boolean) (j := 35) h ho (by omega) (Or.inr rfl) ha7 tw_wsX6 tyX6 tyX6_ok nmX6 rfl 11 (by decide) rfl rfl rfl (by decide +kernel) (fun _ => ⟨rfl, rfl⟩) wt_903 hC hI dX6_init_67 (fun Z16 h => ?_)
  refine r_aload_n hC dX6_init_70 0 rfl ?_
  refine r_bipush (v := 64) hC dX6_init_71 rfl ?_
  refine r_ni (i := 36) (N := 64) h ((ov_2 (by decide)).trans rfl) (hf _ ⟨by decide, by decide⟩ (by decide)) (by omega) (by decide) rfl (by decide) hC (by decide) (by decide) dX6_init_73 (fun Z17 M9 a8 ha8 h => ?_)
  refine r_pF (ty := .array .int) (j := 36) h ho (by omega) (Or.inr rfl) ha8 tw_wsX6 tyX6 tyX6_ok nmX6 rfl 12 (by decide) rfl rfl rfl (by decide +kernel) (fun _ => ⟨rfl, rfl⟩) wt_904 hC hI dX6_init_75 (fun Z18 h => ?_)
  refine r_aload_n hC dX6_init_78 0 rfl ?_
  refine r_bipush (v := 64) hC dX6_init_79 rfl ?_
  refine r_ni (i := 37) (N := 64) h ((ov_2 (by decide)).trans rfl) (hf _ ⟨by decide, by decide⟩ (by decide)) (by omega) (by decide) rfl (by decide) hC (by decide) (by decide) dX6_init_81 (fun Z19 M10 a9 ha9 h => ?_)
  refine r_pF (ty := .array .int) (j := 37) h ho (by omega) (Or.inr rfl) ha9 tw_wsX6 tyX6 tyX6_ok nmX6 rfl 13 (by decide) rfl rfl rfl (by decide +kernel) (fun _ => ⟨rfl, rfl⟩) wt_905 hC hI dX6_init_83 (fun Z20 h => ?_)
  refine r_aload_n hC dX6_init_86 0 rfl ?_
  refine r_bipush (v := 64) hC dX6_init_87 rfl ?_
  refine r_ni (i := 38) (N := 64) h ((ov_2 (by decide)).trans rfl) (hf _ ⟨by decide, by decide⟩ (by decide)) (by omega) (by decide) rfl (by decide) hC (by decide) (by decide) dX6_init_89 (fun Z21 M11 a10 ha10 h => ?_)
  refine r_pF (ty := .array .int) (j := 38) h ho (by omega) (Or.inr rfl) ha10 tw_wsX6 tyX6 tyX6_ok nmX6 rfl 14 (by decide) rfl rfl rfl (by decide +kernel) (fun _ => ⟨rfl, rfl⟩) wt_906 hC hI dX6_init_91 (fun Z22 h => ?_)
  refine r_aload_n hC dX6_init_94 0 rfl ?_
  refine r_bipush (v := 16) hC dX6_init_95 rfl ?_
  refine r_ni (i := 39) (N := 16) h ((ov_2 (by decide)).trans rfl) (hf _ ⟨by decide, by decide⟩ (by decide)) (by omega) (by decide) rfl (by decide) hC (by decide) (by decide) dX6_init_97 (fun Z23 M12 a11 ha11 h => ?_)
  refine r_pF (ty := .array .int) (j := 39) h ho (by omega) (Or.inr rfl) ha11 tw_wsX6 tyX6 tyX6_ok nmX6 rfl 15 (by decide) rfl rfl rfl (by decide +kernel) (fun _ => ⟨rfl, rfl⟩) wt_907 hC hI dX6_init_99 (fun Z24 h => ?_)
  refine r_aload_n hC dX6_init_102 0 rfl ?_
  refine r_bipush (v := 16) hC dX6_init_103 rfl ?_
  refine r_ni (i := 40) (N := 16) h ((ov_2 (by decide)).trans rfl) (hf _ ⟨by decide, by decide⟩ (by decide)) (by omega) (by decide) rfl (by decide) hC (by decide) (by decide) dX6_init_105 (fun Z25 M13 a12 ha12 h => ?_)
  refine r_pF (ty := .array .int) (j := 40) h ho (by omega) (Or.inr rfl) ha12 tw_wsX6 tyX6 tyX6_ok nmX6 rfl 16 (by decide) rfl rfl rfl (by decide +kernel) (fun _ => ⟨rfl, rfl⟩) wt_908 hC hI dX6_init_107 (fun Z26 h => ?_)
  refine r_aload_n hC dX6_init_110 0 rfl ?_
  refine r_bipush (v := 16) hC dX6_init_111 rfl ?_
  refine r_ni (i := 41) (N := 16) h ((ov_2 (by decide)).trans rfl) (hf _ ⟨by decide, by decide⟩ (by decide)) (by omega) (by decide) rfl (by decide) hC (by decide) (by decide) dX6_init_113 (fun Z27 M14 a13 ha13 h => ?_)
  refine r_pF (ty := .array .int) (j := 41) h ho (by omega) (Or.inr rfl) ha13 tw_wsX6 tyX6 tyX6_ok nmX6 rfl 17 (by decide) rfl rfl rfl (by decide +kernel) (fun _ => ⟨rfl, rfl⟩) wt_909 hC hI dX6_init_115 (fun Z28 h => ?_)
  refine r_aload_n hC dX6_init_118 0 rfl ?_
  refine r_bipush (v := 80) hC dX6_init_119 rfl ?_
  refine r_ni (i := 42) (N := 80) h ((ov_2 (by decide)).trans rfl) (hf _ ⟨by decide, by decide⟩ (by decide)) (by omega) (by decide) rfl (by decide) hC (by decide) (by decide) dX6_init_121 (fun Z29 M15 a14 ha14 h => ?_)
  refine r_pF (ty := .array .int) (j := 42) h ho (by omega) (Or.inr rfl) ha14 tw_wsX6 tyX6 tyX6_ok nmX6 rfl 18 (by decide) rfl rfl rfl (by decide +kernel) (fun _ => ⟨rfl, rfl⟩) wt_910 hC hI dX6_init_123 (fun Z30 h => ?_)
  refine r_seeO h (by omega) (F' := fun k => match k with | 0 => none | 1 => rf 28 | 2 => none | 3 => none | 4 => rf 29 | 5 => rf 30 | 6 => rf 31 | 7 => rf 32 | 8 => rf 33 | 9 => none | 10 => rf 34 | 11 => rf 35 | 12 => rf 36 | 13 => rf 37 | 14 => rf 38 | 15 => rf 39 | 16 => rf 40 | 17 => rf 41 | _ => rf 42) rfl (fun j hj => match j, hj with | 0, _ => rfl | 1, _ => rfl | 2, _ => rfl | 3, _ => rfl | 4, _ => rfl | 5, _ => rfl | 6, _ => rfl | 7, _ => rfl | 8, _ => rfl | 9, _ => rfl | 10, _ => rfl | 11, _ => rfl | 12, _ => rfl | 13, _ => rfl | 14, _ => rfl | 15, _ => rfl | 16, _ => rfl | 17, _ => rfl | 18, _ => rfl | n + 19, hj => absurd hj (by omega)) (fun Z40 h => ?_)
  have ad := h.ad ho
  rw [← ad]
  have k0 : At Z40 27 dMod := h.2.2.1 27 (by omega)
  have k30 : At Z40 30 (dA 0 72) := h.2.2.1 30 (by omega)
  obtain ⟨⟨u, Mb⟩, eb, p1, p2, p3⟩ := begin_tot30 M15
  refine r_aload_n hC dX6_init_126 0 rfl ?_
  refine gf_X6_16 (v := .ref (Z40.1 30)) hC k0 rfl dX6_init_127 ?_
  refine r_callSV (K := fun _ m => some m) (res := Mb) [] (fun r m hr => uc_X6_begin (cx_st hC) h.1.1 30 M15 k30 r m hr) (by rw [eb]; rfl) cs_X6_56 hC rfl rfl (by decide) (by decide) (Nat.le_of_ble_eq_true rfl) (by decide) (by decide) dX6_init_130 (fun x m hx => ?_)
  cases hx
  refine r_aload_n hC dX6_init_133 0 rfl ?_
  refine gf_X6_16 (v := .ref (Z40.1 30)) hC k0 rfl dX6_init_134 ?_
  refine r_bipush (v := 6) hC dX6_init_137 rfl ?_
  refine r_iconst (v := 1) hC dX6_init_139 rfl ?_
  refine r_iast hC h.1.1 k30 (inb_vp (by decide)) dX6_init_140 ?_
  refine r_aload_n hC dX6_init_141 0 rfl ?_
  refine gf_X6_16 (v := .ref (Z40.1 30)) hC k0 rfl dX6_init_142 ?_
  refine r_bipush (v := 7) hC dX6_init_145 rfl ?_
  refine r_iconst (v := 1) hC dX6_init_147 rfl ?_
  refine r_iast hC h.1.1 k30 (inb_vp (by decide)) dX6_init_148 ?_
  dsimp only at p1 p2
  have q3 : ∀ d, d ≠ 30 → Mb d = M15 d := p3
  have q : ∀ d, d ≠ 30 → mw (mw Mb 30 6 1) 30 7 1 d = M15 d := fun d hd => ((mw_ne hd).trans (mw_ne hd)).trans (q3 d hd)
  have at3 : ∀ x, mw (mw Mb 30 6 1) 30 7 1 30 x = if x = 7 then 1 else if x = 6 then 1 else Mb 30 x := fun x => by
    rw [mw_at, mw_at]
  refine r_vretN (h.cv (M' := mw (mw Mb 30 6 1) 30 7 1) (fun j => ?_) (fun j _ => rfl) (fun d hd => q d (by omega)) ?_ EMo.st) hC (by decide) (by decide) dX6_init_149
  · unfold SMo
    omega
  · obtain ⟨⟨⟨⟨⟨⟨⟨⟨⟨⟨⟨⟨⟨⟨⟨z27, _⟩, _⟩, _⟩, _⟩, _⟩, _⟩, _⟩, z35⟩, _⟩, _⟩, _⟩, _⟩, _⟩, _⟩, _⟩ := h.2.2.2.1
    refine ⟨fun x => ?_, ⟨fun j hj => ?_, ?_, ?_, fun s b hs hb => ?_⟩, fun x => ?_⟩
    · rw [q 27 (by decide)]; exact z27 x
    · rw [at3, if_neg (by omega), if_neg (by omega), Nat.zero_add]; exact p1 j hj
    · rw [at3]; rfl
    · rw [at3]; rfl
    · have hs : s < 1 := hs
      have hb : b < 1 := hb
      have e : s = 0 ∧ b = 0 := ⟨by omega, by omega⟩
      rw [e.1, e.2, at3]
      exact p2 8 (by decide) (by decide)
    · rw [q 35 (by decide)]; exact z35 x
