/-! THE LAW -/
def Gd (M : Mem) : Prop := ∃ D, DOk D ∧ CRel M D ∧ MRel M D
theorem br {h : Nat → Option Int32} {fc : Mem → Option (Except Nat Int32 × Mem)} {fm : Mem → Option (Int32 × Mem)} {D : Ds} {M : Mem} (a : Agree h fc fm D) (hC : CRel M D) (hM : MRel M D) (K : Mem → Option (Unit × Mem)) {Q : Unit × Mem → Prop} (hK : ∀ M', Gd M' → Tot (K M') Q) :
    Tot (ob (wrp h (fc M)) (fun x1 M2 => ob (fm M2) (fun x3 M4 => ob (f_X6_thrown M4) (fun x5 M6 => if x5 = x1 then (if x1 = 0 then (if (lg_cmp (Int32.toInt64 (M6 43 (Int32.toNatClampNeg 0))) (Int32.toInt64 x3)) = 0 then K M6 else none) else K M6) else none)))) Q := by
  obtain ⟨D', code, val, hD', c, m⟩ := a
  obtain ⟨⟨x1, M2⟩, e1, p1, p2, p3, p4⟩ := c M hC
  have p1 : x1 = code := p1
  have p2 : code = 0 → M2 43 0 = val := p2
  have p3 : CRel M2 D' := p3
  have p4 : Off (fun d => CI d ∨ d = 43) M M2 := p4
  have hM2 : MRel M2 D := hM.gen (by rw [p4 27 (by unfold CI; omega)]) (by rw [p4 27 (by unfold CI; omega)]) (fun d hd => p4 d (by unfold CI; omega))
  obtain ⟨⟨x3, M4⟩, e2, q1, q2, q3, q4⟩ := m M2 hM2
  have q1 : code = 0 → x3 = val := q1
  have q2 : M4 27 0 = code := q2
  have q3 : MRel M4 D' := q3
  have q4 : Off MI M2 M4 := q4
  have g : Gd M4 := ⟨D', hD', p3.off q4, q3⟩
  rw [e1, ob_some, e2, ob_some]
  unfold f_X6_thrown
  rw [ob_some, q2, p1, if_pos rfl]
  by_cases z : code = 0
  · have e43 : M4 43 = M2 43 := q4 43 (by unfold MI; omega)
    rw [if_pos z, c0, e43, p2 z, q1 z, if_pos (lgc_self val)]
    exact hK M4 g
  · rw [if_neg z]
    exact hK M4 g
theorem brD {fc fm : Mem → Option (Int32 × Mem)} {D : Ds} {M : Mem} (a : AgreeD fc fm D) (hC : CRel M D) (hM : MRel M D) (K : Mem → Option (Unit × Mem)) {Q : Unit × Mem → Prop} (hK : ∀ M', Gd M' → Tot (K M') Q) :
    Tot (ob (fc M) (fun x1 M2 => ob (fm M2) (fun x3 M4 => if x1 = x3 then K M4 else none))) Q := by
  obtain ⟨D', val, hD', c, m⟩ := a
  obtain ⟨⟨x1, M2⟩, e1, p1, p3, p4⟩ := c M hC
  have p1 : x1 = val := p1
  have p3 : CRel M2 D' := p3
  have p4 : Off CI M M2 := p4
  obtain ⟨⟨x3, M4⟩, e2, q1, q3, q4⟩ := m M2 (hM.off p4)
  have q1 : x3 = val := q1
  have q3 : MRel M4 D' := q3
  have q4 : Off MI M2 M4 := q4
  rw [e1, ob_some, e2, ob_some, p1, q1, if_pos rfl]
  exact hK M4 ⟨D', hD', p3.off q4, q3⟩
theorem law_step {sc : Nat → Int32} {L : Nat} (hL : L ≤ 2048) {i : Nat} (hi : i + 4 ≤ L) {M : Mem} (hG : Gd M) (kk : Int32 → Mem → Option (Unit × Mem)) {Q : Unit × Mem → Prop} (hK : ∀ M', Gd M' → Tot (kk (iz ((i + 4 : Nat) : Int)) M') Q) : Tot (f_L_law_b23 sc L kk (iz i) M) Q := by
  obtain ⟨D, hD, hC, hM⟩ := hG
  unfold f_L_law_b23
  have eL : Int32.ofNat L - 4 = iz ((L - 4 : Nat) : Int) := by
    rw [show Int32.ofNat L = iz (L : Int) from (Int32.ofInt_eq_ofNat).symm, show (4 : Int32) = iz 4 from rfl, iz_sub]
    congr 1
    omega
  have s : ∀ n : Nat, iz (i : Int) + iz (n : Int) = iz ((i + n : Nat) : Int) := fun n => by rw [iz_add]; rfl
  have s1 : iz (i : Int) + 1 = iz ((i + 1 : Nat) : Int) := s 1
  have s2 : iz (i : Int) + 2 = iz ((i + 2 : Nat) : Int) := s 2
  have s3 : iz (i : Int) + 3 = iz ((i + 3 : Nat) : Int) := s 3
  have s4 : iz (i : Int) + 4 = iz ((i + 4 : Nat) : Int) := s 4
  have b0 : inb (iz (i : Int)) L := inb_n (by omega) (by omega)
  have b1 : inb (iz ((i + 1 : Nat) : Int)) L := inb_n (by omega) (by omega)
  have b2 : inb (iz ((i + 2 : Nat) : Int)) L := inb_n (by omega) (by omega)
  have b3 : inb (iz ((i + 3 : Nat) : Int)) L := inb_n (by omega) (by omega)
  rw [eL, if_neg (by rw [ltz (by omega) (by omega)]; omega), if_pos b0, s1, s2, s3, s4]
  generalize sc (Int32.toNatClampNeg (iz (i : Int))) &&& 31 = op
  generalize sc (Int32.toNatClampNeg (iz ((i + 1 : Nat) : Int))) = u1
  generalize sc (Int32.toNatClampNeg (iz ((i + 2 : Nat) : Int))) = u2
  generalize sc (Int32.toNatClampNeg (iz ((i + 3 : Nat) : Int))) = u3
  by_cases k0 : op = 0
  · rw [if_pos k0]
    simp only [if_pos b1, if_pos b2, if_pos b3]
    exact br (g_append D hD u1) hC hM (kk (iz ((i + 4 : Nat) : Int))) hK
  rw [if_neg k0]
  by_cases k1 : op = 1
  · rw [if_pos k1]
    exact brD (g_clear D hD) hC hM (kk (iz ((i + 4 : Nat) : Int))) hK
  rw [if_neg k1]
  by_cases k2 : op = 2
  · rw [if_pos k2]
    exact brD (g_error D hD) hC hM (kk (iz ((i + 4 : Nat) : Int))) hK
  rw [if_neg k2]
  by_cases k3 : op = 3
  · rw [if_pos k3]
    exact br (g_load D hD) hC hM (kk (iz ((i + 4 : Nat) : Int))) hK
  rw [if_neg k3]
  by_cases k4 : op = 4
  · rw [if_pos k4]
    simp only [if_pos b1, if_pos b2, if_pos b3]
    exact br (g_about D hD u1) hC hM (kk (iz ((i + 4 : Nat) : Int))) hK
  rw [if_neg k4]
  by_cases k5 : op = 5
  · rw [if_pos k5]
    simp only [if_pos b1, if_pos b2, if_pos b3]
    by_cases z : u3 = 0
    · simp only [if_pos z]
      exact br (g_cell D hD u1 u2 0) hC hM (kk (iz ((i + 4 : Nat) : Int))) hK
    · simp only [if_neg z]
      exact br (g_cell D hD u1 u2 1) hC hM (kk (iz ((i + 4 : Nat) : Int))) hK
  rw [if_neg k5]
  by_cases k6 : op = 6
  · rw [if_pos k6]
    simp only [if_pos b1, if_pos b2, if_pos b3]
    exact br (g_set D hD u1 u2) hC hM (kk (iz ((i + 4 : Nat) : Int))) hK
  rw [if_neg k6]
  by_cases k7 : op = 7
  · rw [if_pos k7]
    simp only [if_pos b1, if_pos b2, if_pos b3]
    exact br (g_write D hD u1 u2 u3) hC hM (kk (iz ((i + 4 : Nat) : Int))) hK
  rw [if_neg k7]
  by_cases k8 : op = 8
  · rw [if_pos k8]
    simp only [if_pos b1, if_pos b2, if_pos b3]
    exact br (g_transpose D hD u1 u2) hC hM (kk (iz ((i + 4 : Nat) : Int))) hK
  rw [if_neg k8]
  by_cases k9 : op = 9
  · rw [if_pos k9]
    simp only [if_pos b1, if_pos b2, if_pos b3]
    exact br (g_exchange D hD u1 u2) hC hM (kk (iz ((i + 4 : Nat) : Int))) hK
  rw [if_neg k9]
  by_cases k10 : op = 10
  · rw [if_pos k10]
    simp only [if_pos b1, if_pos b2, if_pos b3]
    by_cases z : u1 = 0
    · simp only [if_pos z]
      exact br (g_staff D hD 0) hC hM (kk (iz ((i + 4 : Nat) : Int))) hK
    · simp only [if_neg z]
      exact br (g_staff D hD 1) hC hM (kk (iz ((i + 4 : Nat) : Int))) hK
  rw [if_neg k10]
  by_cases k11 : op = 11
  · rw [if_pos k11]
    simp only [if_pos b1, if_pos b2, if_pos b3]
    exact br (g_insertBeat D hD u1) hC hM (kk (iz ((i + 4 : Nat) : Int))) hK
  rw [if_neg k11]
  by_cases k12 : op = 12
  · rw [if_pos k12]
    simp only [if_pos b1, if_pos b2, if_pos b3]
    exact br (g_removeBeat D hD u1) hC hM (kk (iz ((i + 4 : Nat) : Int))) hK
  rw [if_neg k12]
  by_cases k13 : op = 13
  · rw [if_pos k13]
    exact br (g_undo D hD) hC hM (kk (iz ((i + 4 : Nat) : Int))) hK
  rw [if_neg k13]
  by_cases k14 : op = 14
  · rw [if_pos k14]
    simp only [if_pos b1, if_pos b2, if_pos b3]
    exact br (g_note D hD u1 u2 u3) hC hM (kk (iz ((i + 4 : Nat) : Int))) hK
  rw [if_neg k14]
  by_cases k15 : op = 15
  · rw [if_pos k15]
    simp only [if_pos b1, if_pos b2, if_pos b3]
    exact br (g_hand D hD u1 u2 u3) hC hM (kk (iz ((i + 4 : Nat) : Int))) hK
  rw [if_neg k15]
  by_cases k16 : op = 16
  · rw [if_pos k16]
    simp only [if_pos b1, if_pos b2, if_pos b3]
    exact br (g_beat D hD u1 u2) hC hM (kk (iz ((i + 4 : Nat) : Int))) hK
  rw [if_neg k16]
  by_cases k17 : op = 17
  · rw [if_pos k17]
    simp only [if_pos b1, if_pos b2, if_pos b3]
    exact br (g_whole D hD u1) hC hM (kk (iz ((i + 4 : Nat) : Int))) hK
  rw [if_neg k17]
  by_cases k18 : op = 18
  · rw [if_pos k18]
    simp only [if_pos b1, if_pos b2, if_pos b3]
    exact br (g_whatIf D hD u1 u2 u3) hC hM (kk (iz ((i + 4 : Nat) : Int))) hK
  rw [if_neg k18]
  by_cases k19 : op = 19
  · rw [if_pos k19]
    exact brD (g_smallest D hD) hC hM (kk (iz ((i + 4 : Nat) : Int))) hK
  rw [if_neg k19]
  by_cases k20 : op = 20
  · rw [if_pos k20]
    exact brD (g_dearest D hD) hC hM (kk (iz ((i + 4 : Nat) : Int))) hK
  rw [if_neg k20]
  by_cases k21 : op = 21
  · rw [if_pos k21]
    simp only [if_pos b1, if_pos b2, if_pos b3]
    exact br (g_best D hD u1) hC hM (kk (iz ((i + 4 : Nat) : Int))) hK
  rw [if_neg k21]
  by_cases k22 : op = 22
  · rw [if_pos k22]
    simp only [if_pos b1, if_pos b2, if_pos b3]
    exact br (g_runScript D hD u1 (((Int32.toInt64 u2) <<< (Int32.toInt64 32 &&& 63)) ||| ((Int32.toInt64 u3) &&& 4294967295))) hC hM (kk (iz ((i + 4 : Nat) : Int))) hK
  rw [if_neg k22]
  by_cases k23 : op = 23
  · rw [if_pos k23]
    simp only [if_pos b1, if_pos b2, if_pos b3]
    exact br (g_simulate D hD (((Int32.toInt64 u1) <<< (Int32.toInt64 32 &&& 63)) ||| ((Int32.toInt64 u2) &&& 4294967295)) u3) hC hM (kk (iz ((i + 4 : Nat) : Int))) hK
  rw [if_neg k23]
  by_cases k24 : op = 24
  · rw [if_pos k24]
    simp only [if_pos b1, if_pos b2, if_pos b3]
    exact br (g_save D hD u1) hC hM (kk (iz ((i + 4 : Nat) : Int))) hK
  rw [if_neg k24]
  by_cases k25 : op = 25
  · rw [if_pos k25]
    simp only [if_pos b1, if_pos b2, if_pos b3]
    exact br (g_restore D hD u1) hC hM (kk (iz ((i + 4 : Nat) : Int))) hK
  rw [if_neg k25]
  exact hK M ⟨D, hD, hC, hM⟩
theorem law_loop {sc : Nat → Int32} {L : Nat} (hL : L ≤ 2048) : ∀ (n i : Nat) (M : Mem), i ≤ L → L - i < 4 * n → Gd M → Tot (lq1 (f_L_law_b23 sc L) n (iz i) M) (fun _ => True)
  | 0, i, M, _, h, _ => absurd h (by omega)
  | n + 1, i, M, hi, hn, hG => by
    rw [lq1_s]
    by_cases c : i + 4 ≤ L
    · exact law_step hL c hG _ (fun M' hG' => law_loop hL n (i + 4) M' c (by omega) hG')
    · unfold f_L_law_b23
      have eL : Int32.ofNat L - 4 = iz ((L : Int) - 4) := by
        rw [show Int32.ofNat L = iz (L : Int) from (Int32.ofInt_eq_ofNat).symm, show (4 : Int32) = iz 4 from rfl, iz_sub]
      rw [eL, if_pos (by rw [iz_lt (by omega) (by omega) (by omega) (by omega)]; omega)]
      exact Tot.mk trivial
theorem law_ok {sc : Nat → Int32} {L : Nat} (hL : L ≤ 2048) {M : Mem} (hG : Gd M) : ∃ M', f_L_law sc L M = some ((), M') := by
  obtain ⟨⟨u, M'⟩, h, _⟩ := law_loop (sc := sc) hL 600 0 M (by omega) (by omega) hG
  exact ⟨M', h⟩
