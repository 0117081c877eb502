/-! SIMULATIONS -/
def r33 (w : Int64) : Int32 := Int64.toInt32 ((Int64.toUInt64 w >>> ((Int32.toInt64 33).toUInt64 &&& Int64.toUInt64 63)).toInt64)
def r31 (w : Int64) : Nat := (Int64.toUInt64 w >>> 33).toNat
theorem r33_nat (w : Int64) : r33 w = iz (r31 w : Int) ∧ r31 w < 2147483648 := by
  have hs : ((Int32.toInt64 33).toUInt64 &&& Int64.toUInt64 63) = 33 := by decide
  unfold r33 r31
  rw [hs]
  have hn : (Int64.toUInt64 w >>> 33).toNat < 2147483648 := by
    rw [UInt64.toNat_shiftRight, Nat.shiftRight_eq_div_pow]
    have := (Int64.toUInt64 w).toNat_lt
    have e : 2 ^ ((33 : UInt64).toNat % 64) = 8589934592 := by decide
    rw [e]
    omega
  generalize Int64.toUInt64 w >>> 33 = u at hn ⊢
  have h1 : u.toInt64.toInt = (u.toNat : Int) := by
    show u.toBitVec.toInt = _
    rw [BitVec.toInt_eq_toNat_of_lt]
    · rfl
    · show 2 * u.toNat < 2 ^ 64
      omega
  refine ⟨?_, hn⟩
  rw [← iz_self (Int64.toInt32 u.toInt64), Int64.toInt_toInt32, h1]
  refine congrArg iz (Int.bmod_eq_of_le ?_ ?_) <;> omega
theorem izm {n k : Nat} (hn : n < 2147483648) (hk : 0 < k) (hk2 : k < 2147483648) : iz (n : Int) - iz (n : Int) / iz (k : Int) * iz (k : Int) = iz ((n % k : Nat) : Int) := by
  rw [iz_div (by omega) (by omega) (by omega) (by omega), iz_mul, iz_sub]
  congr 1
  rw [Int.natCast_emod, Int.emod_def, Int.mul_comm]
theorem izd {n k : Nat} (hn : n < 2147483648) (hk : 0 < k) (hk2 : k < 2147483648) : iz (n : Int) / iz (k : Int) = iz ((n / k : Nat) : Int) := by
  rw [iz_div (by omega) (by omega) (by omega) (by omega)]
  rfl
section CELL
variable {M : Mem} {D : Ds} {P : Pg} {s b : Nat}
theorem c_cell (h : CRel M D) (st : StRep M 1 P) (hP : PgW P) (hs : s < 1000) (hb : b < 1000) {v : Int} (hv : v = -9 ∨ v = 99 ∨ (0 ≤ v ∧ v ≤ 60)) : Tot (f_X5_triedCell (iz s) (iz b) (iz v) M) (fun x => x.1 = bz (s < gS P ∧ b < gB P) ∧ StRep x.2 1 (if s < gS P ∧ b < gB P then pmend (pput P s b v) else P) ∧ CRel x.2 D ∧ Off CT M x.2) := by
  unfold f_X5_triedCell
  have i1 := iSt_eq 1
  rw [hasCell_eq st hP.1 (by omega) (by omega) (by omega) (by omega), ob_some]
  by_cases c : s < gS P ∧ b < gB P
  · rw [if_neg (by rw [bz_t (by omega)]; decide), put_eq st hP.1 c.1 c.2, ob_some]
    have o1 : Off (RSt 1) M (mw M (iSt 1 + 2) (s * 16 + b) (iz v)) := Off.rf.put ⟨by omega, by omega⟩
    refine Tot.ob ((dropLooseHolds_tot (st_put st hP.1 c.1 c.2 v) (pput_W hP s b hv)).mono ?_)
    intro ⟨_, M2⟩ ⟨a, o2⟩
    have o2 : Off (RSt 1) (mw M (iSt 1 + 2) (s * 16 + b) (iz v)) M2 := o2
    have oo : Off (RSt 1) M M2 := o1.tr o2
    refine Tot.mk ⟨(bz_t c).symm, ?_, h.tri oo, oo.wk (fun d hd => Or.inl hd)⟩
    rw [if_pos c]
    exact a
  · rw [if_pos (show bz _ = 0 from bz_f (by omega)), if_neg c]
    exact Tot.mk ⟨(bz_f c).symm, st, h, Off.rf⟩
theorem canW_wr (hs : s < gS P) (hb : b < gB P) : (wr P s ((b : Int) - 1) ≠ -9) ↔ canW P s b 99 := by
  by_cases c : b = 0
  · have : wr P s ((b : Int) - 1) = -9 := by unfold wr; rw [if_neg (by omega)]
    rw [this]
    exact ⟨fun z => absurd rfl z, fun z => by rcases z with z | z; exact absurd rfl z; omega⟩
  · rw [show (b : Int) - 1 = ((b - 1 : Nat) : Int) by omega, wr_in hs (by omega)]
    exact ⟨fun z => Or.inr ⟨by omega, z⟩, fun z => by rcases z with z | z; exact absurd rfl z; exact z.2⟩
end CELL
def rnd (P : Pg) (n : Nat) : Pg := if n / 64 % 64 ≤ 60 then pwr P (n % gS P) (n / 4 % gB P) ((n / 64 % 64 : Nat) : Int) else if n / 64 % 64 = 61 then pwr P (n % gS P) (n / 4 % gB P) (-1) else if canW P (n % gS P) (n / 4 % gB P) 99 then pwr P (n % gS P) (n / 4 % gB P) 99 else P
theorem rnd_Ok {P : Pg} (h : PgOk P) (n : Nat) : PgOk (rnd P n) := by
  unfold rnd
  by_cases c : n / 64 % 64 ≤ 60
  · rw [if_pos c]; exact pwr_Ok h.1 (by omega)
  · rw [if_neg c]
    by_cases d : n / 64 % 64 = 61
    · rw [if_pos d]; exact pwr_Ok h.1 (by omega)
    · rw [if_neg d]
      by_cases e : canW P (n % gS P) (n / 4 % gB P) 99
      · rw [if_pos e]; exact pwr_Ok h.1 (by omega)
      · rw [if_neg e]; exact h
theorem c_round {M : Mem} {D : Ds} {P : Pg} {n : Nat} (hn : n < 2147483648) (h : CRel M D) (st : StRep M 1 P) (hP : PgOk P) : Tot (f_X5_simulateRound (iz n) M) (fun x => StRep x.2 1 (rnd P n) ∧ CRel x.2 D ∧ Off CT M x.2) := by
  have hS := hP.1.1.1
  have hB := hP.1.1.2
  have hs : n % gS P < gS P := Nat.mod_lt _ (by omega)
  have hb : n / 4 % gB P < gB P := Nat.mod_lt _ (by omega)
  have hv : n / 64 % 64 < 64 := Nat.mod_lt _ (by omega)
  unfold f_X5_simulateRound
  rw [st.1, st.2.1, show (64 : Int32) = iz ((64 : Nat) : Int) from rfl, show (4 : Int32) = iz ((4 : Nat) : Int) from rfl, show (1 : Int32) = iz ((1 : Nat) : Int) from rfl, if_neg (by rw [ltz (by omega) (by omega)]; omega), if_pos (by rw [lez (by omega) (by omega)]; omega), izd (k := 64) hn (by omega) (by omega), izm (k := 64) (by omega) (by omega) (by omega), izd (k := 4) hn (by omega) (by omega), izm (n := n) (k := gS P) hn (by omega) (by omega), izm (n := n / 4) (k := gB P) (by omega) (by omega) (by omega), isPitch_eq (by omega) (by omega), ob_some]
  have nz : ∀ k : Nat, 0 < k → k < 100 → ¬ (iz (k : Int) = 0) := fun k k0 k1 => by rw [show (0 : Int32) = iz 0 from rfl, iz_eq (by omega) (by omega) (by omega) (by omega)]; omega
  rw [if_pos (nz _ (by omega) (by omega)), if_pos (nz _ (by omega) (by omega))]
  have cin : n % gS P < gS P ∧ n / 4 % gB P < gB P := ⟨hs, hb⟩
  have e61 : (iz ((n / 64 % 64 : Nat) : Int) = 61) = (n / 64 % 64 = 61) := by
    rw [show (61 : Int32) = iz 61 from rfl, iz_eq (by omega) (by omega) (by omega) (by omega)]
    exact propext ⟨fun h => by omega, fun h => by omega⟩
  unfold rnd
  by_cases c : n / 64 % 64 ≤ 60
  · rw [if_neg (by rw [bz_t (by omega)]; decide), if_pos c]
    refine Tot.ob ((c_cell h st hP.1 (s := n % gS P) (b := n / 4 % gB P) (by omega) (by omega) (by omega)).mono ?_)
    intro ⟨_, M2⟩ ⟨_, a, b⟩
    rw [if_pos cin] at a
    refine Tot.mk ⟨?_, b⟩
    unfold pwr
    rw [if_neg (by omega)]
    exact a
  · rw [if_pos (show bz _ = 0 from bz_f (by omega)), if_neg c]
    by_cases d : n / 64 % 64 = 61
    · rw [if_pos (by rw [e61]; exact d), if_pos d, show (-9 : Int32) = iz (-9) from rfl]
      refine Tot.ob ((c_cell h st hP.1 (s := n % gS P) (b := n / 4 % gB P) (by omega) (by omega) (Or.inl rfl)).mono ?_)
      intro ⟨_, M2⟩ ⟨_, a, b⟩
      rw [if_pos cin] at a
      refine Tot.mk ⟨?_, b⟩
      unfold pwr
      rw [if_pos (by omega)]
      exact a
    · rw [if_neg (by rw [e61]; exact d), if_neg d, allowsHold_eq st hP.1 (by omega) (by omega) (by omega) (by omega), ob_some]
      have cw := canW_wr (P := P) hs hb
      by_cases e : canW P (n % gS P) (n / 4 % gB P) 99
      · rw [if_neg (by rw [bz_t (cw.mpr e)]; decide), if_pos e, show (99 : Int32) = iz 99 from rfl]
        refine Tot.ob ((c_cell h st hP.1 (s := n % gS P) (b := n / 4 % gB P) (by omega) (by omega) (Or.inr (Or.inl rfl))).mono ?_)
        intro ⟨_, M2⟩ ⟨_, a, b⟩
        rw [if_pos cin] at a
        refine Tot.mk ⟨?_, b⟩
        unfold pwr
        rw [if_neg (by omega)]
        exact a
      · rw [if_pos (show bz _ = 0 from bz_f (fun z => e (cw.mp z))), if_neg e]
        exact Tot.mk ⟨st, h, Off.rf⟩
def simS (P : Pg) (w : Int64) : Nat → Int64 × Pg
  | 0 => (w, P)
  | n + 1 => ((simS P w n).1 * 6364136223846793005 + 1442695040888963407, rnd (simS P w n).2 (r31 ((simS P w n).1 * 6364136223846793005 + 1442695040888963407)))
theorem simS_Ok {P : Pg} (h : PgOk P) (w : Int64) : ∀ n, PgOk (simS P w n).2
  | 0 => h
  | n + 1 => rnd_Ok (simS_Ok h w n) _
