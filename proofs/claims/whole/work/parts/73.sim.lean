/-! SIMULATIONS -/
def r33 (w : Int64) : Int32 := Int64.toInt32 ((Int64.toUInt64 w >>> ((Int32.toInt64 33).toUInt64 &&& Int64.toUInt64 63)).toInt64)
def r31 (w : Int64) : Nat := (Int64.toUInt64 w >>> 33).toNat
theorem r33_nat (w : Int64) : r33 w = iz (r31 w : Int) ∧ r31 w < 2147483648 := by
  have hs : ((Int32.toInt64 33).toUInt64 &&& Int64.toUInt64 63) = 33 := by decide
  unfold r33 r31
  rw [hs]
  have hn : (Int64.toUInt64 w >>> 33).toNat < 2147483648 := by
    rw [UInt64.toNat_shiftRight, Nat.shiftRight_eq_div_pow]
    have := (Int64.toUInt64 w).toNat_lt
    have e : 2 ^ ((33 : UInt64).toNat % 64) = 8589934592 := by decide
    rw [e]
    omega
  generalize Int64.toUInt64 w >>> 33 = u at hn ⊢
  have h1 : u.toInt64.toInt = (u.toNat : Int) := by
    show u.toBitVec.toInt = _
    rw [BitVec.toInt_eq_toNat_of_lt]
    · rfl
    · show 2 * u.toNat < 2 ^ 64
      omega
  refine ⟨?_, hn⟩
  rw [← iz_self (Int64.toInt32 u.toInt64), Int64.toInt_toInt32, h1]
  refine congrArg iz (Int.bmod_eq_of_le ?_ ?_) <;> omega
theorem izm {n k : Nat} (hn : n < 2147483648) (hk : 0 < k) (hk2 : k < 2147483648) : iz (n : Int) - iz (n : Int) / iz (k : Int) * iz (k : Int) = iz ((n % k : Nat) : Int) := by
  rw [iz_div (by omega) (by omega) (by omega) (by omega), iz_mul, iz_sub]
  congr 1
  rw [Int.natCast_emod, Int.emod_def, Int.mul_comm]
theorem izd {n k : Nat} (hn : n < 2147483648) (hk : 0 < k) (hk2 : k < 2147483648) : iz (n : Int) / iz (k : Int) = iz ((n / k : Nat) : Int) := by
  rw [iz_div (by omega) (by omega) (by omega) (by omega)]
  rfl
section CELL
variable {M : Mem} {D : Ds} {P : Pg} {s b : Nat}
theorem c_cell (h : CRel M D) (st : StRep M 1 P) (hP : PgW P) (hs : s < 1000) (hb : b < 1000) {v : Int} (hv : v = -9 ∨ v = 99 ∨ (0 ≤ v ∧ v ≤ 60)) : Tot (f_X5_triedCell (iz s) (iz b) (iz v) M) (fun x => x.1 = bz (s < gS P ∧ b < gB P) ∧ StRep x.2 1 (if s < gS P ∧ b < gB P then pmend (pput P s b v) else P) ∧ CRel x.2 D ∧ Off CT M x.2) := by
  unfold f_X5_triedCell
  have i1 := iSt_eq 1
  rw [hasCell_eq st hP.1 (by omega) (by omega) (by omega) (by omega), ob_some]
  by_cases c : s < gS P ∧ b < gB P
  · rw [if_neg (by rw [bz_t (by omega)]; decide), put_eq st hP.1 c.1 c.2, ob_some]
    have o1 : Off (RSt 1) M (mw M (iSt 1 + 2) (s * 16 + b) (iz v)) := Off.rf.put ⟨by omega, by omega⟩
    refine Tot.ob ((dropLooseHolds_tot (st_put st hP.1 c.1 c.2 v) (pput_W hP s b hv)).mono ?_)
    intro ⟨_, M2⟩ ⟨a, o2⟩
    have o2 : Off (RSt 1) (mw M (iSt 1 + 2) (s * 16 + b) (iz v)) M2 := o2
    have oo : Off (RSt 1) M M2 := o1.tr o2
    refine Tot.mk ⟨(bz_t c).symm, ?_, h.tri oo, oo.wk (fun d hd => Or.inl hd)⟩
    rw [if_pos c]
    exact a
  · rw [if_pos (show bz _ = 0 from bz_f (by omega)), if_neg c]
    exact Tot.mk ⟨(bz_f c).symm, st, h, Off.rf⟩
theorem m_cell (h : MRel M D) (st : PR M 31 0 P) (hP : PgW P) (hs : s < 1000) (hb : b < 1000) {v : Int} (hv : (-1000 ≤ v ∧ v < 0) ∨ v = 99 ∨ (0 ≤ v ∧ v ≤ 60)) : Tot (f_X6_writes (iz s) (iz b) (iz v) M) (fun x => x.1 = bz ((s < gS P ∧ b < gB P) ∧ canW P s b v) ∧ PR x.2 31 0 (if (s < gS P ∧ b < gB P) ∧ canW P s b v then pwr P s b v else P) ∧ MRel x.2 D ∧ x.2 27 = M 27 ∧ Off MI M x.2) := by
  unfold f_X6_writes
  rw [isCell_eq st hP.1 rfl (by omega) (by omega) (by omega) (by omega), ob_some]
  by_cases c : s < gS P ∧ b < gB P
  · rw [if_neg (by rw [bz_t (by omega)]; decide), canWrite_eq st hP rfl c.1 c.2 (by omega) (by omega), ob_some]
    by_cases d : canW P s b v
    · rw [if_neg (by rw [bz_t d]; decide)]
      refine Tot.ob ((mput_tot st hP rfl c.1 c.2 hv).mono ?_)
      intro ⟨_, M2⟩ ⟨a, o⟩
      have t := h.tri (Or.inl rfl) o
      refine Tot.mk ⟨(bz_t ⟨c, d⟩).symm, ?_, t⟩
      rw [if_pos ⟨c, d⟩]
      exact a
    · rw [if_pos (show bz (canW P s b v) = 0 from bz_f d), if_neg (fun z => d z.2)]
      exact Tot.mk ⟨(bz_f (fun z => d z.2)).symm, st, h, rfl, Off.rf⟩
  · rw [if_pos (show bz _ = 0 from bz_f (by omega)), if_neg (fun z => c z.1)]
    exact Tot.mk ⟨(bz_f (fun z => c z.1)).symm, st, h, rfl, Off.rf⟩
theorem canW_wr (hs : s < gS P) (hb : b < gB P) : (wr P s ((b : Int) - 1) ≠ -9) ↔ canW P s b 99 := by
  by_cases c : b = 0
  · have : wr P s ((b : Int) - 1) = -9 := by unfold wr; rw [if_neg (by omega)]
    rw [this]
    exact ⟨fun z => absurd rfl z, fun z => by rcases z with z | z; exact absurd rfl z; omega⟩
  · rw [show (b : Int) - 1 = ((b - 1 : Nat) : Int) by omega, wr_in hs (by omega)]
    exact ⟨fun z => Or.inr ⟨by omega, z⟩, fun z => by rcases z with z | z; exact absurd rfl z; exact z.2⟩
end CELL
def rnd (P : Pg) (n : Nat) : Pg := if n / 64 % 64 ≤ 60 then pwr P (n % gS P) (n / 4 % gB P) ((n / 64 % 64 : Nat) : Int) else if n / 64 % 64 = 61 then pwr P (n % gS P) (n / 4 % gB P) (-1) else if canW P (n % gS P) (n / 4 % gB P) 99 then pwr P (n % gS P) (n / 4 % gB P) 99 else P
theorem rnd_Ok {P : Pg} (h : PgOk P) (n : Nat) : PgOk (rnd P n) := by
  unfold rnd
  by_cases c : n / 64 % 64 ≤ 60
  · rw [if_pos c]; exact pwr_Ok h.1 (by omega)
  · rw [if_neg c]
    by_cases d : n / 64 % 64 = 61
    · rw [if_pos d]; exact pwr_Ok h.1 (by omega)
    · rw [if_neg d]
      by_cases e : canW P (n % gS P) (n / 4 % gB P) 99
      · rw [if_pos e]; exact pwr_Ok h.1 (by omega)
      · rw [if_neg e]; exact h
theorem c_round {M : Mem} {D : Ds} {P : Pg} {n : Nat} (hn : n < 2147483648) (h : CRel M D) (st : StRep M 1 P) (hP : PgOk P) : Tot (f_X5_simulateRound (iz n) M) (fun x => StRep x.2 1 (rnd P n) ∧ CRel x.2 D ∧ Off CT M x.2) := by
  have hS := hP.1.1.1
  have hB := hP.1.1.2
  have hs : n % gS P < gS P := Nat.mod_lt _ (by omega)
  have hb : n / 4 % gB P < gB P := Nat.mod_lt _ (by omega)
  have hv : n / 64 % 64 < 64 := Nat.mod_lt _ (by omega)
  unfold f_X5_simulateRound
  rw [st.1, st.2.1, show (64 : Int32) = iz ((64 : Nat) : Int) from rfl, show (4 : Int32) = iz ((4 : Nat) : Int) from rfl, show (1 : Int32) = iz ((1 : Nat) : Int) from rfl, if_neg (by rw [ltz (by omega) (by omega)]; omega), if_pos (by rw [lez (by omega) (by omega)]; omega), izd (k := 64) hn (by omega) (by omega), izm (k := 64) (by omega) (by omega) (by omega), izd (k := 4) hn (by omega) (by omega), izm (n := n) (k := gS P) hn (by omega) (by omega), izm (n := n / 4) (k := gB P) (by omega) (by omega) (by omega), isPitch_eq (by omega) (by omega), ob_some]
  have nz : ∀ k : Nat, 0 < k → k < 100 → ¬ (iz (k : Int) = 0) := fun k k0 k1 => by rw [show (0 : Int32) = iz 0 from rfl, iz_eq (by omega) (by omega) (by omega) (by omega)]; omega
  rw [if_pos (nz _ (by omega) (by omega)), if_pos (nz _ (by omega) (by omega))]
  have cin : n % gS P < gS P ∧ n / 4 % gB P < gB P := ⟨hs, hb⟩
  have e61 : (iz ((n / 64 % 64 : Nat) : Int) = 61) = (n / 64 % 64 = 61) := by
    rw [show (61 : Int32) = iz 61 from rfl, iz_eq (by omega) (by omega) (by omega) (by omega)]
    exact propext ⟨fun h => by omega, fun h => by omega⟩
  unfold rnd
  by_cases c : n / 64 % 64 ≤ 60
  · rw [if_neg (by rw [bz_t (by omega)]; decide), if_pos c]
    refine Tot.ob ((c_cell h st hP.1 (s := n % gS P) (b := n / 4 % gB P) (by omega) (by omega) (by omega)).mono ?_)
    intro ⟨_, M2⟩ ⟨_, a, b⟩
    rw [if_pos cin] at a
    refine Tot.mk ⟨?_, b⟩
    unfold pwr
    rw [if_neg (by omega)]
    exact a
  · rw [if_pos (show bz _ = 0 from bz_f (by omega)), if_neg c]
    by_cases d : n / 64 % 64 = 61
    · rw [if_pos (by rw [e61]; exact d), if_pos d, show (-9 : Int32) = iz (-9) from rfl]
      refine Tot.ob ((c_cell h st hP.1 (s := n % gS P) (b := n / 4 % gB P) (by omega) (by omega) (Or.inl rfl)).mono ?_)
      intro ⟨_, M2⟩ ⟨_, a, b⟩
      rw [if_pos cin] at a
      refine Tot.mk ⟨?_, b⟩
      unfold pwr
      rw [if_pos (by omega)]
      exact a
    · rw [if_neg (by rw [e61]; exact d), if_neg d, allowsHold_eq st hP.1 (by omega) (by omega) (by omega) (by omega), ob_some]
      have cw := canW_wr (P := P) hs hb
      by_cases e : canW P (n % gS P) (n / 4 % gB P) 99
      · rw [if_neg (by rw [bz_t (cw.mpr e)]; decide), if_pos e, show (99 : Int32) = iz 99 from rfl]
        refine Tot.ob ((c_cell h st hP.1 (s := n % gS P) (b := n / 4 % gB P) (by omega) (by omega) (Or.inr (Or.inl rfl))).mono ?_)
        intro ⟨_, M2⟩ ⟨_, a, b⟩
        rw [if_pos cin] at a
        refine Tot.mk ⟨?_, b⟩
        unfold pwr
        rw [if_neg (by omega)]
        exact a
      · rw [if_pos (show bz _ = 0 from bz_f (fun z => e (cw.mp z))), if_neg e]
        exact Tot.mk ⟨st, h, Off.rf⟩
def simS (P : Pg) (w : Int64) : Nat → Int64 × Pg
  | 0 => (w, P)
  | n + 1 => ((simS P w n).1 * 6364136223846793005 + 1442695040888963407, rnd (simS P w n).2 (r31 ((simS P w n).1 * 6364136223846793005 + 1442695040888963407)))
theorem simS_Ok {P : Pg} (h : PgOk P) (w : Int64) : ∀ n, PgOk (simS P w n).2
  | 0 => h
  | n + 1 => rnd_Ok (simS_Ok h w n) _
theorem g_simulate (D : Ds) (hD : DOk D) (w : Int64) (x : Int32) : Agree h_L_simulate (f_X5_simulate w x) (f_X6_simulate w x) D := by
  obtain ⟨v, rfl, v1, v2⟩ := izself x
  have hP := hD.2.2.1
  have i6 : inb 6 72 := by decide
  have i7 : inb 7 72 := by decide
  have mi : ∀ M, f_X6_in (Int32.toInt64 (iz v)) 1 40 M = some (bz (1 ≤ v ∧ v ≤ 40), M) := fun M => by
    rw [show (1 : Int64) = Int32.toInt64 (iz 1) by decide, show (40 : Int64) = Int32.toInt64 (iz 40) by decide, in_eq M v1 v2 (by omega) (by omega) (by omega) (by omega)]
  have l1 : (iz v < 1) = (v < 1) := by rw [show (1 : Int32) = iz 1 from rfl, iz_lt v1 v2 (by omega) (by omega)]
  have l40 : (iz v ≤ 40) = (v ≤ 40) := by rw [show (40 : Int32) = iz 40 from rfl, iz_le v1 v2 (by omega) (by omega)]
  by_cases c : 1 ≤ v ∧ v ≤ 40
  · obtain ⟨m, rfl⟩ : ∃ m : Nat, v = (m : Int) := ⟨v.toNat, by omega⟩
    have hm : m ≤ 40 := by omega
    have hF := simS_Ok hP w m
    refine Agree.yes (D' := D) hD (iz (nWhole (simS (dP D) w m).2 0 + 1000 * ((nWhole (simS (dP D) w m).2 1 + nWhole (simS (dP D) w m).2 2) + nWhole (simS (dP D) w m).2 3))) (fun M hM => ?_) (fun M hM => ?_)
    · unfold f_X5_simulate
      rw [if_neg (by rw [l1]; omega), if_pos (by rw [l40]; omega)]
      refine Tot.ob ((c_take hM hD).mono ?_)
      intro ⟨_, M2⟩ ⟨s2, h2, o2⟩
      have s2 : StRep M2 1 (dP D) := s2
      have h2 : CRel M2 D := h2
      have o2 : Off CT M M2 := o2
      rw [show (0 : Int32) = iz ((0 : Nat) : Int) from rfl]
      refine up2_tot m (fun i x M' => x = (simS (dP D) w i).1 ∧ StRep M' 1 (simS (dP D) w i).2 ∧ CRel M' D ∧ Off CT M M') ?_ ?_ 9999 0 w M2 (by omega) ⟨rfl, s2, h2, o2⟩ (by omega)
      · intro K i x M' hi ⟨e1, hs, hc, ho⟩ hK
        unfold f_X5_simulate_b36
        have r := r33_nat ((simS (dP D) w i).1 * 6364136223846793005 + 1442695040888963407)
        unfold r33 at r
        rw [if_neg (by rw [lez (by omega) (by omega)]; omega), e1, r.1]
        refine Tot.ob ((c_round r.2 hc hs (simS_Ok hP w i)).mono ?_)
        intro ⟨_, M3⟩ ⟨a, b, o⟩
        have o : Off CT M' M3 := o
        dsimp only
        rw [a1z]
        exact hK _ _ ⟨rfl, a, b, ho.tr o⟩
      · intro K x M' ⟨_, hs, hc, ho⟩
        unfold f_X5_simulate_b36 f_X5_simulate_b70
        generalize (simS (dP D) w m).2 = Q at hF hs
        rw [if_pos (Int32.le_refl _)]
        refine Tot.ob ((c_trial hc hs hF.1).mono ?_)
        intro ⟨_, M3⟩ ⟨rd, _, b, o⟩
        have rd : RD M3 Q := rd
        have b : CRel M3 D := b
        have o : Off CT M' M3 := o
        show Tot (lq2 f_X5_simulate_b87 9999 0 (iz ((1 : Nat) : Int)) M3) _
        refine up2_tot 4 (fun r v M' => M' = M3 ∧ 1 ≤ r ∧ v = iz (sg (fun r => nWhole Q (r + 1)) (r - 1))) ?_ ?_ 9999 1 0 M3 (by omega) ⟨rfl, by omega, rfl⟩ (by omega)
        · intro K r v M4 hr ⟨e1, e2, e3⟩ hK
          subst e1
          unfold f_X5_simulate_b87
          rw [if_neg (by rw [show (3 : Int32) = iz ((3 : Nat) : Int) from rfl, ltz (by omega) (by omega)]; omega), numberOfWhole_eq rd hF.1 (by omega), ob_some, a1z, e3, iz_add]
          refine hK _ _ ⟨rfl, by omega, ?_⟩
          rw [show r + 1 - 1 = (r - 1) + 1 by omega, sg, show r - 1 + 1 = r by omega]
        · intro K v M4 ⟨e1, _, e3⟩
          subst e1
          have n0 := numberOfWhole_eq rd hF.1 (what := 0) (by omega)
          unfold f_X5_simulate_b87 f_X5_simulate_b113
          rw [if_pos (by decide), show (0 : Int32) = iz ((0 : Nat) : Int) from rfl, n0, ob_some, e3, show (1000 : Int32) = iz 1000 from rfl, iz_mul, iz_add]
          refine Tot.mk ⟨?_, b, (ho.tr o).wk CI_CT⟩
          have : sg (fun r => nWhole Q (r + 1)) (4 - 1) = (nWhole Q 1 + nWhole Q 2) + nWhole Q 3 := by
            show ((0 + nWhole Q 1) + nWhole Q 2) + nWhole Q 3 = _
            rw [Int.zero_add]
          rw [this]
    · unfold f_X6_simulate
      rw [mi, ob_some, if_neg (by rw [bz_t c]; decide)]
      unfold f_X6_simulate_b18
      rw [ref_yes]
      have o0 : Off MI M (mw M 27 0 0) := Off.rf.put (by unfold MI; omega)
      refine Tot.ob ((m_copy (r := 31) (Or.inl rfl) (hM.put (j := 0) (v := 0) (Or.inl rfl)) hD).mono ?_)
      intro ⟨_, M2⟩ ⟨s2, h2, e2, o2⟩
      have s2 : PR M2 31 0 (dP D) := s2
      have h2 : MRel M2 D := h2
      have e2 : M2 27 = mw M 27 0 0 27 := e2
      have o2 : Off MI (mw M 27 0 0) M2 := o2
      have z2 : M2 27 0 = 0 := by rw [e2, mw_at, if_pos rfl]
      rw [show (0 : Int32) = iz ((0 : Nat) : Int) from rfl]
      refine up2_tot m (fun i x M' => x = (simS (dP D) w i).1 ∧ PR M' 31 0 (simS (dP D) w i).2 ∧ MRel M' D ∧ M' 27 0 = 0 ∧ Off MI M M') ?_ ?_ 9999 0 w M2 (by omega) ⟨rfl, s2, h2, z2, o0.tr o2⟩ (by omega)
      · intro K i x M' hi ⟨e1, hs, hc, hz, ho⟩ hK
        unfold f_X6_simulate_b45
        have r := r33_nat ((simS (dP D) w i).1 * 6364136223846793005 + 1442695040888963407)
        have K' := fun M'' q => hK ((simS (dP D) w i).1 * 6364136223846793005 + 1442695040888963407) M'' q
        have hQ := simS_Ok hP w i
        have eN : (simS (dP D) w (i + 1)).2 = rnd (simS (dP D) w i).2 (r31 ((simS (dP D) w i).1 * 6364136223846793005 + 1442695040888963407)) := rfl
        have eN1 : (simS (dP D) w (i + 1)).1 = (simS (dP D) w i).1 * 6364136223846793005 + 1442695040888963407 := rfl
        rw [eN, eN1] at K'
        unfold r33 at r
        rw [if_neg (by rw [lez (by omega) (by omega)]; omega), e1, r.1]
        generalize (simS (dP D) w i).1 * 6364136223846793005 + 1442695040888963407 = y at r K'
        generalize (simS (dP D) w i).2 = Q at hs hQ K'
        obtain ⟨_, hn⟩ := r
        generalize r31 y = n at hn K'
        have hS := hQ.1.1.1
        have hB := hQ.1.1.2
        have hs1 : n % gS Q < gS Q := Nat.mod_lt _ (by omega)
        have hb1 : n / 4 % gB Q < gB Q := Nat.mod_lt _ (by omega)
        have hv1 : n / 64 % 64 < 64 := Nat.mod_lt _ (by omega)
        have nz : ∀ k : Nat, 0 < k → k < 100 → ¬ (iz (k : Int) = 0) := fun k k0 k1 => by rw [show (0 : Int32) = iz 0 from rfl, iz_eq (by omega) (by omega) (by omega) (by omega)]; omega
        rw [if_pos i6, if_pos i7, c6, c7, hs.S, hs.B, if_pos (nz _ (by omega) (by omega)), if_pos (nz _ (by omega) (by omega)), show (64 : Int32) = iz ((64 : Nat) : Int) from rfl, show (4 : Int32) = iz ((4 : Nat) : Int) from rfl, izd (k := 64) hn (by omega) (by omega), izm (k := 64) (by omega) (by omega) (by omega), izd (k := 4) hn (by omega) (by omega), izm (n := n) (k := gS Q) hn (by omega) (by omega), izm (n := n / 4) (k := gB Q) (by omega) (by omega) (by omega)]
        have b129 : ∀ v : Int, ((-1000 ≤ v ∧ v < 0) ∨ v = 99 ∨ (0 ≤ v ∧ v ≤ 60)) → (if (n % gS Q < gS Q ∧ n / 4 % gB Q < gB Q) ∧ canW Q (n % gS Q) (n / 4 % gB Q) v then pwr Q (n % gS Q) (n / 4 % gB Q) v else Q) = rnd Q n → Tot (f_X6_simulate_b129 (iz (m : Int)) y (iz (i : Int)) K (iz v) (iz ((n / 4 % gB Q : Nat) : Int)) (iz ((n % gS Q : Nat) : Int)) M') (fun x => x.1 = iz (nWhole (simS (dP D) w m).2 0 + 1000 * ((nWhole (simS (dP D) w m).2 1 + nWhole (simS (dP D) w m).2 2) + nWhole (simS (dP D) w m).2 3)) ∧ x.2 27 0 = 0 ∧ MRel x.2 D ∧ Off MI M x.2) := fun v hv he => by
          unfold f_X6_simulate_b129
          refine Tot.ob ((m_cell hc hs hQ.1 (s := n % gS Q) (b := n / 4 % gB Q) (by omega) (by omega) hv).mono ?_)
          intro ⟨_, M3⟩ ⟨_, a, b, e27, o⟩
          have a : PR M3 31 0 _ := a
          rw [he] at a
          have e27 : M3 27 = M' 27 := e27
          have o : Off MI M' M3 := o
          dsimp only
          rw [a1z]
          exact K' M3 ⟨rfl, a, b, by rw [e27]; exact hz, ho.tr o⟩
        have e61 : (iz ((n / 64 % 64 : Nat) : Int) = 61) = (n / 64 % 64 = 61) := by
          rw [show (61 : Int32) = iz 61 from rfl, iz_eq (by omega) (by omega) (by omega) (by omega)]
          exact propext ⟨fun h => by omega, fun h => by omega⟩
        have l60 : ((60 : Int32) < iz ((n / 64 % 64 : Nat) : Int)) = (60 < n / 64 % 64) := by rw [show (60 : Int32) = iz ((60 : Nat) : Int) from rfl, ltz (by omega) (by omega)]
        have cin : n % gS Q < gS Q ∧ n / 4 % gB Q < gB Q := ⟨hs1, hb1⟩
        by_cases k1 : 60 < n / 64 % 64
        · rw [if_pos (by rw [l60]; exact k1)]
          by_cases k2 : n / 64 % 64 = 61
          · rw [if_pos (by rw [e61]; exact k2), show (-1 : Int32) = iz (-1) from rfl]
            refine b129 (-1) (by omega) ?_
            unfold rnd
            rw [if_pos ⟨cin, Or.inl (by omega)⟩, if_neg (by omega), if_pos k2]
          · rw [if_neg (by rw [e61]; exact k2), show (99 : Int32) = iz 99 from rfl]
            refine b129 99 (by omega) ?_
            unfold rnd
            rw [if_neg (show ¬ (n / 64 % 64 ≤ 60) by omega), if_neg k2]
            by_cases k3 : canW Q (n % gS Q) (n / 4 % gB Q) 99
            · rw [if_pos ⟨cin, k3⟩, if_pos k3]
            · rw [if_neg (fun z => k3 z.2), if_neg k3]
        · rw [if_neg (by rw [l60]; exact k1)]
          refine b129 _ (by omega) ?_
          unfold rnd
          rw [if_pos ⟨cin, Or.inl (by omega)⟩, if_pos (by omega)]
      · intro K x M' ⟨_, hs, hc, hz, ho⟩
        unfold f_X6_simulate_b45 f_X6_simulate_b139
        generalize (simS (dP D) w m).2 = Q at hF hs
        rw [if_pos (Int32.le_refl _)]
        refine Tot.ob ((m_num (r := 31) (w := 0) (by omega) hc hs hF (by omega)).mono ?_)
        intro ⟨y0, M3⟩ ⟨a0, s3, h3, e3, o3⟩
        refine Tot.ob ((m_num (r := 31) (w := 1) (by omega) h3 s3 hF (by omega)).mono ?_)
        intro ⟨y1, M4⟩ ⟨a1, s4, h4, e4, o4⟩
        refine Tot.ob ((m_num (r := 31) (w := 2) (by omega) h4 s4 hF (by omega)).mono ?_)
        intro ⟨y2, M5⟩ ⟨a2, s5, h5, e5, o5⟩
        refine Tot.ob ((m_num (r := 31) (w := 3) (by omega) h5 s5 hF (by omega)).mono ?_)
        intro ⟨y3, M6⟩ ⟨a3, s6, h6, e6, o6⟩
        have a0 : y0 = iz (nWhole Q 0) := a0
        have a1 : y1 = iz (nWhole Q 1) := a1
        have a2 : y2 = iz (nWhole Q 2) := a2
        have a3 : y3 = iz (nWhole Q 3) := a3
        have e3 : M3 27 = M' 27 := e3
        have e4 : M4 27 = M3 27 := e4
        have e5 : M5 27 = M4 27 := e5
        have e6 : M6 27 = M5 27 := e6
        have o3 : Off MI M' M3 := o3
        have o4 : Off MI M3 M4 := o4
        have o5 : Off MI M4 M5 := o5
        have o6 : Off MI M5 M6 := o6
        show Tot (some (y0 + 1000 * (y1 + y2 + y3), M6)) _
        rw [a0, a1, a2, a3, show (1000 : Int32) = iz 1000 from rfl, iz_add, iz_add, iz_mul, iz_add]
        exact Tot.mk ⟨rfl, by show M6 27 0 = 0; rw [e6, e5, e4, e3]; exact hz, h6, (((ho.tr o3).tr o4).tr o5).tr o6⟩
  · refine Agree.no hD 0 1 rfl (by omega) (fun M hM => ?_) (fun M hM => ?_)
    · unfold f_X5_simulate
      by_cases d : v < 1
      · rw [if_pos (by rw [l1]; exact d)]
      · rw [if_neg (by rw [l1]; exact d), if_neg (by rw [l40]; omega)]
    · unfold f_X6_simulate
      rw [mi, ob_some, if_pos (show bz (1 ≤ v ∧ v ≤ 40) = 0 from bz_f c)]
      unfold f_X6_simulate_b18
      exact ⟨_, ref_no (n := 1) (by omega) (by omega) M _ _⟩
