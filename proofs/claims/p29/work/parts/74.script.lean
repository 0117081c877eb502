/-! SCRIPTS -/
def jn (n : Nat) : Int64 := Int64.ofInt (n : Int)
theorem jn_toInt {n : Nat} (h : n < 9223372036854775808) : (jn n).toInt = n := Int64.toInt_ofInt_of_le (by omega) (by omega)
theorem jn_self {w : Int64} (h : 0 ≤ w.toInt) : w = jn w.toInt.toNat := by
  unfold jn
  rw [Int.toNat_of_nonneg h, Int64.ofInt_toInt]
theorem jn_div {a b : Nat} (ha : a < 9223372036854775808) (b0 : 0 < b) (hb : b < 9223372036854775808) : jn a / jn b = jn (a / b) := by
  have hle : (a : Int) / (b : Int) ≤ a := Int.ediv_le_self _ (by omega)
  have hge : (0 : Int) ≤ (a : Int) / (b : Int) := Int.ediv_nonneg (by omega) (by omega)
  have e : (jn a / jn b).toInt = ((a / b : Nat) : Int) := by
    rw [Int64.toInt_div, jn_toInt ha, jn_toInt hb, Int.tdiv_eq_ediv_of_nonneg (by omega), Int.natCast_ediv]
    refine Int.bmod_eq_of_le ?_ ?_ <;> omega
  rw [← Int64.ofInt_toInt (jn a / jn b), e]
  rfl
theorem jn_mod {a b : Nat} (ha : a < 9223372036854775808) (b0 : 0 < b) (hb : b < 9223372036854775808) : jn a - jn a / jn b * jn b = jn (a % b) := by
  rw [jn_div ha b0 hb]
  unfold jn
  rw [← Int64.ofInt_mul, ← Int64.ofInt_sub]
  congr 1
  rw [Int.natCast_emod, Int.natCast_ediv, Int.emod_def, Int.mul_comm]
theorem jn_int {n : Nat} (h : n < 2147483648) : Int64.toInt32 (jn n) = iz (n : Int) := by
  rw [← iz_self (Int64.toInt32 (jn n)), Int64.toInt_toInt32, jn_toInt (by omega)]
  refine congrArg iz (Int.bmod_eq_of_le ?_ ?_) <;> omega
theorem lgc64_lt (x y : Int64) : (lg_cmp x y < 0) = (x.toInt < y.toInt) := propext ((lg_cmp_lt x y).trans Int64.lt_iff_toInt_lt)
theorem lgc64_gt (x y : Int64) : (0 < lg_cmp x y) = (y.toInt < x.toInt) := propext ((lg_cmp_gt x y).trans Int64.lt_iff_toInt_lt)
theorem lgc64_eq (x y : Int64) : (lg_cmp x y = 0) = (x.toInt = y.toInt) := by
  have h1 := lgc64_lt x y
  have h2 := lgc64_gt x y
  refine propext ⟨fun h => ?_, fun h => ?_⟩
  · rw [h] at h1 h2
    have n1 : ¬ (x.toInt < y.toInt) := by rw [← h1]; decide
    have n2 : ¬ (y.toInt < x.toInt) := by rw [← h2]; decide
    omega
  · have : x = y := by rw [← Int64.ofInt_toInt x, h, Int64.ofInt_toInt]
    rw [this]
    unfold lg_cmp
    rw [if_neg (show ¬ (y > y) from fun h => Int64.lt_irrefl h), if_pos rfl]
theorem bz_ite (c : Prop) [Decidable c] (M : Mem) : (if bz c = 0 then some ((0 : Int32), M) else some (1, M)) = some (bz c, M) := by
  by_cases h : c
  · rw [if_neg (by rw [bz_t h]; decide), bz_t h]; rfl
  · rw [if_pos (show bz c = 0 from bz_f h), bz_f h]; rfl
theorem ite_bz (x y : Int32) (M : Mem) : (if x = y then some ((1 : Int32), M) else some (0, M)) = some (bz (x = y), M) := by
  by_cases h : x = y
  · rw [if_pos h, bz_t h]; rfl
  · rw [if_neg h, bz_f h]; rfl
theorem bz_dec (c : Prop) [Decidable c] : bz c = iz (b01 (decide c)) := by
  by_cases h : c
  · rw [bz_t h, decide_eq_true h]; rfl
  · rw [bz_f h, decide_eq_false h]; rfl
/-- a command: whether it succeeds, and the music behind it -/
noncomputable def rsq (P : Pg) (h a b t : Nat) : Bool × Pg :=
  if h = 1 then (decide (b = 0 ∧ setOk a t), pset P a t)
  else if h = 2 then (decide (t ≤ 60 ∧ a < gS P ∧ b < gB P), pwr P a b t)
  else if h = 3 then (decide (t = 0 ∧ a < gS P ∧ b < gB P), pwr P a b (-1))
  else if h = 4 then (decide (t = 0 ∧ (a < gS P ∧ b < gB P) ∧ canW P a b 99), pwr P a b 99)
  else if h = 5 then (decide (a = 0 ∧ t % 10 = 0 ∧ b < gS P ∧ t / 10 < gS P), pswp P b (t / 10))
  else if h = 6 then (decide (t = 0 ∧ 10 * a + b < gB P ∧ 1 < gB P), pmend (pcls P (10 * a + b)))
  else if h = 7 then (decide (a < 8 ∧ iz (nWhole P a) = iz ((100 * b + t : Nat) : Int)), P)
  else if h = 8 then (decide (t / 10 = 0 ∧ (a < gS P ∧ b < gB P) ∧ iz (nNote P a b 0) = iz ((t % 10 : Nat) : Int)), P)
  else if h = 9 then (decide (t / 10 = 0 ∧ (a < gS P ∧ b < gB P) ∧ iz (nNote P a b 1) = iz ((t % 10 : Nat) : Int)), P)
  else (false, P)
theorem rsq_Ok {P : Pg} (hP : PgOk P) {h a b t : Nat} (hr : (rsq P h a b t).1 = true) : PgOk (rsq P h a b t).2 := by
  unfold rsq at hr ⊢
  by_cases k1 : h = 1
  · rw [if_pos k1] at hr ⊢; exact pset_Ok hP (of_decide_eq_true hr).2
  · rw [if_neg k1] at hr ⊢
    by_cases k2 : h = 2
    · rw [if_pos k2] at hr ⊢; have := of_decide_eq_true hr; exact pwr_Ok hP.1 (by omega)
    · rw [if_neg k2] at hr ⊢
      by_cases k3 : h = 3
      · rw [if_pos k3] at hr ⊢; exact pwr_Ok hP.1 (by omega)
      · rw [if_neg k3] at hr ⊢
        by_cases k4 : h = 4
        · rw [if_pos k4] at hr ⊢; exact pwr_Ok hP.1 (by omega)
        · rw [if_neg k4] at hr ⊢
          by_cases k5 : h = 5
          · rw [if_pos k5] at hr ⊢; have := of_decide_eq_true hr; exact pswp_Ok hP this.2.2.1 this.2.2.2
          · rw [if_neg k5] at hr ⊢
            by_cases k6 : h = 6
            · rw [if_pos k6] at hr ⊢; have := of_decide_eq_true hr; exact pmend_Ok (pcls_W hP.1 this.2.2 _)
            · rw [if_neg k6] at hr ⊢
              by_cases k7 : h = 7
              · rw [if_pos k7] at hr ⊢; exact hP
              · rw [if_neg k7] at hr ⊢
                by_cases k8 : h = 8
                · rw [if_pos k8] at hr ⊢; exact hP
                · rw [if_neg k8] at hr ⊢
                  by_cases k9 : h = 9
                  · rw [if_pos k9] at hr ⊢; exact hP
                  · rw [if_neg k9] at hr ⊢; exact hP
abbrev SCq (D : Ds) (M : Mem) (r : Bool × Pg) (x : Int32 × Mem) : Prop := x.1 = iz (b01 r.1) ∧ (r.1 = true → StRep x.2 1 r.2) ∧ CRel x.2 D ∧ Off CT M x.2
theorem c_does {M : Mem} {D : Ds} {P : Pg} (rd : RD M P) (hM : CRel M D) (st : StRep M 1 P) (hP : PgOk P) {g : Nat} (hg : g < 100000) : Tot (f_X5_succeeds (iz g) M) (SCq D M (rsq P (g / 10000) (g / 1000 % 10) (g / 100 % 10) (g % 100))) := by
  have hS := hP.1.1.1
  have hB := hP.1.1.2
  have i1 := iSt_eq 1
  have e1 : g / 10 % 10 = (g % 100) / 10 := by omega
  have e2 : g % 10 = (g % 100) % 10 := by omega
  have e3 : g % 1000 = 100 * (g / 100 % 10) + g % 100 := by omega
  have h1 : g / 10000 < 10 := by omega
  have h2 : g / 1000 % 10 < 10 := by omega
  have h3 : g / 100 % 10 < 10 := by omega
  have h4 : g % 100 < 100 := by omega
  unfold f_X5_succeeds
  rw [show (10000 : Int32) = iz ((10000 : Nat) : Int) from rfl, show (1000 : Int32) = iz ((1000 : Nat) : Int) from rfl, show (100 : Int32) = iz ((100 : Nat) : Int) from rfl, show (10 : Int32) = iz ((10 : Nat) : Int) from rfl, izm (n := g) (k := 100) (by omega) (by omega) (by omega), izm (n := g) (k := 10) (by omega) (by omega) (by omega), izm (n := g) (k := 1000) (by omega) (by omega) (by omega), izd (n := g) (k := 10000) (by omega) (by omega) (by omega), izd (n := g) (k := 1000) (by omega) (by omega) (by omega), izd (n := g) (k := 100) (by omega) (by omega) (by omega), izd (n := g) (k := 10) (by omega) (by omega) (by omega), izm (n := g / 1000) (k := 10) (by omega) (by omega) (by omega), izm (n := g / 100) (k := 10) (by omega) (by omega) (by omega), izm (n := g / 10) (k := 10) (by omega) (by omega) (by omega), e1, e2, e3]
  generalize g / 10000 = h at h1 ⊢
  generalize g / 1000 % 10 = a at h2 ⊢
  generalize g / 100 % 10 = b at h3 ⊢
  generalize g % 100 = t at h4 ⊢
  have eN : ∀ n k : Nat, n < 1000 → k < 1000 → (iz (n : Int) = iz (k : Int)) = (n = k) := fun n k hn hk => by
    rw [iz_eq (by omega) (by omega) (by omega) (by omega)]
    exact propext ⟨fun h => by omega, fun h => by omega⟩
  have q1 : (iz (h : Int) = 1) = (h = 1) := eN h 1 (by omega) (by omega)
  have q2 : (iz (h : Int) = 2) = (h = 2) := eN h 2 (by omega) (by omega)
  have q3 : (iz (h : Int) = 3) = (h = 3) := eN h 3 (by omega) (by omega)
  have q4 : (iz (h : Int) = 4) = (h = 4) := eN h 4 (by omega) (by omega)
  have q5 : (iz (h : Int) = 5) = (h = 5) := eN h 5 (by omega) (by omega)
  have q6 : (iz (h : Int) = 6) = (h = 6) := eN h 6 (by omega) (by omega)
  have q7 : (iz (h : Int) = 7) = (h = 7) := eN h 7 (by omega) (by omega)
  have q8 : (iz (h : Int) = 8) = (h = 8) := eN h 8 (by omega) (by omega)
  have q9 : (iz (h : Int) = 9) = (h = 9) := eN h 9 (by omega) (by omega)
  have zb : (iz (b : Int) = 0) = (b = 0) := eN b 0 (by omega) (by omega)
  have za : (iz (a : Int) = 0) = (a = 0) := eN a 0 (by omega) (by omega)
  have zt : (iz (t : Int) = 0) = (t = 0) := eN t 0 (by omega) (by omega)
  have ztd : (iz ((t / 10 : Nat) : Int) = 0) = (t / 10 = 0) := eN (t / 10) 0 (by omega) (by omega)
  have ztm : (iz ((t % 10 : Nat) : Int) = 0) = (t % 10 = 0) := eN (t % 10) 0 (by omega) (by omega)
  have bad : ∀ Q : Pg, Tot (some ((0 : Int32), M)) (SCq D M (false, Q)) := fun Q => Tot.mk ⟨rfl, fun z => absurd (show false = true from z) (by decide), hM, Off.rf⟩
  have hcell : f_X3_hasCell 1 (iz (a : Int)) (iz (b : Int)) M = some (bz (a < gS P ∧ b < gB P), M) := by
    rw [hasCell_eq st hP.1.1 (by omega) (by omega) (by omega) (by omega)]
    congr 2
    exact bz_iff ⟨fun z => by omega, fun z => by omega⟩
  unfold rsq
  by_cases k1 : h = 1
  · rw [if_pos (by rw [q1]; exact k1), if_pos k1]
    by_cases c : b = 0
    · rw [if_pos (by rw [zb]; exact c)]
      unfold f_X5_triedSetting
      rw [allowsSetting_eq (by omega) (by omega) (by omega) (by omega), ob_some]
      by_cases d : setOk a t
      · have ha : a < 6 := by omega
        have o1 : Off (RSt 1) M (mw M (iSt 1 + 1) a (iz (t : Int))) := Off.rf.put ⟨by omega, by omega⟩
        rw [if_neg (by rw [bz_t d]; decide), changeSetting_eq ha, ob_some, ob_some, if_neg (by decide), decide_eq_true ⟨c, d⟩]
        exact Tot.mk ⟨rfl, fun _ => st_set st a t, hM.tri o1, o1.wk (fun d hd => Or.inl hd)⟩
      · rw [if_pos (show bz (setOk a t) = 0 from bz_f d), ob_some, if_pos rfl, decide_eq_false (fun z => d z.2)]
        exact bad _
    · rw [if_neg (by rw [zb]; exact c), decide_eq_false (fun z => c z.1)]
      exact bad _
  · rw [if_neg (by rw [q1]; exact k1), if_neg k1]
    by_cases k2 : h = 2
    · rw [if_pos (by rw [q2]; exact k2), if_pos k2, isPitch_eq (by omega) (by omega), ob_some]
      by_cases c : t ≤ 60
      · rw [if_neg (by rw [bz_t (by omega)]; decide)]
        refine Tot.ob ((c_cell hM st hP.1 (s := a) (b := b) (by omega) (by omega) (v := t) (by omega)).mono ?_)
        intro ⟨x, M2⟩ ⟨x1, x2, x3, x4⟩
        have x1 : x = bz (a < gS P ∧ b < gB P) := x1
        dsimp only
        rw [x1, bz_ite, bz_dec]
        refine Tot.mk ⟨?_, fun z => ?_, x3, x4⟩
        · show iz (b01 (decide (a < gS P ∧ b < gB P))) = iz (b01 (decide (t ≤ 60 ∧ a < gS P ∧ b < gB P)))
          by_cases d : a < gS P ∧ b < gB P
          · rw [decide_eq_true d, decide_eq_true ⟨c, d⟩]
          · rw [decide_eq_false d, decide_eq_false (fun z => d z.2)]
        · have := (of_decide_eq_true z).2
          rw [if_pos this] at x2
          show StRep M2 1 (pwr P a b t)
          unfold pwr
          rw [if_neg (by omega)]
          exact x2
      · rw [if_pos (show bz _ = 0 from bz_f (by omega)), decide_eq_false (fun z => c z.1)]
        exact bad _
    · rw [if_neg (by rw [q2]; exact k2), if_neg k2]
      by_cases k3 : h = 3
      · rw [if_pos (by rw [q3]; exact k3), if_pos k3]
        by_cases c : t = 0
        · rw [if_pos (by rw [zt]; exact c), show (-9 : Int32) = iz (-9) from rfl]
          refine Tot.ob ((c_cell hM st hP.1 (s := a) (b := b) (by omega) (by omega) (v := -9) (Or.inl rfl)).mono ?_)
          intro ⟨x, M2⟩ ⟨x1, x2, x3, x4⟩
          have x1 : x = bz (a < gS P ∧ b < gB P) := x1
          dsimp only
          rw [x1, bz_ite, bz_dec]
          refine Tot.mk ⟨?_, fun z => ?_, x3, x4⟩
          · show iz (b01 (decide (a < gS P ∧ b < gB P))) = iz (b01 (decide (t = 0 ∧ a < gS P ∧ b < gB P)))
            by_cases d : a < gS P ∧ b < gB P
            · rw [decide_eq_true d, decide_eq_true ⟨c, d⟩]
            · rw [decide_eq_false d, decide_eq_false (fun z => d z.2)]
          · have := (of_decide_eq_true z).2
            rw [if_pos this] at x2
            show StRep M2 1 (pwr P a b (-1))
            unfold pwr
            rw [if_pos (by omega)]
            exact x2
        · rw [if_neg (by rw [zt]; exact c), decide_eq_false (fun z => c z.1)]
          exact bad _
      · rw [if_neg (by rw [q3]; exact k3), if_neg k3]
        by_cases k4 : h = 4
        · rw [if_pos (by rw [q4]; exact k4), if_pos k4]
          by_cases c : t = 0
          · rw [if_pos (by rw [zt]; exact c), allowsHold_eq st hP.1 (by omega) (by omega) (by omega) (by omega), ob_some]
            by_cases d : wr P a ((b : Int) - 1) ≠ -9
            · rw [if_neg (by rw [bz_t d]; decide), show (99 : Int32) = iz 99 from rfl]
              refine Tot.ob ((c_cell hM st hP.1 (s := a) (b := b) (by omega) (by omega) (v := 99) (Or.inr (Or.inl rfl))).mono ?_)
              intro ⟨x, M2⟩ ⟨x1, x2, x3, x4⟩
              have x1 : x = bz (a < gS P ∧ b < gB P) := x1
              dsimp only
              rw [x1, bz_ite, bz_dec]
              refine Tot.mk ⟨?_, fun z => ?_, x3, x4⟩
              · show iz (b01 (decide (a < gS P ∧ b < gB P))) = iz (b01 (decide (t = 0 ∧ (a < gS P ∧ b < gB P) ∧ canW P a b 99)))
                by_cases e : a < gS P ∧ b < gB P
                · rw [decide_eq_true e, decide_eq_true ⟨c, e, (canW_wr e.1 e.2).mp d⟩]
                · rw [decide_eq_false e, decide_eq_false (fun z => e z.2.1)]
              · have := (of_decide_eq_true z).2.1
                rw [if_pos this] at x2
                show StRep M2 1 (pwr P a b 99)
                unfold pwr
                rw [if_neg (by omega)]
                exact x2
            · rw [if_pos (show bz _ = 0 from bz_f d), decide_eq_false (fun z => d ((canW_wr z.2.1.1 z.2.1.2).mpr z.2.2))]
              exact bad _
          · rw [if_neg (by rw [zt]; exact c), decide_eq_false (fun z => c z.1)]
            exact bad _
        · rw [if_neg (by rw [q4]; exact k4), if_neg k4]
          by_cases k5 : h = 5
          · rw [if_pos (by rw [q5]; exact k5), if_pos k5]
            by_cases c : a = 0
            · rw [if_pos (by rw [za]; exact c)]
              by_cases d : t % 10 = 0
              · rw [if_pos (by rw [ztm]; exact d)]
                unfold f_X5_triedExchange
                rw [hasStaff_eq st hP.1.1 (by omega) (by omega), ob_some]
                by_cases e : b < gS P
                · rw [if_neg (by rw [bz_t (by omega)]; decide), hasStaff_eq st hP.1.1 (by omega) (by omega), ob_some]
                  by_cases f : t / 10 < gS P
                  · rw [if_neg (by rw [bz_t (by omega)]; decide), decide_eq_true ⟨c, d, e, f⟩]
                    obtain ⟨⟨x, M2⟩, hx, x1, x2, x3⟩ := swapStaves_tot st hP.1 e f
                    have x3 : Off (RSt 1) M M2 := x3
                    rw [hx, ob_some, ob_some, if_neg (by decide)]
                    exact Tot.mk ⟨rfl, fun _ => x2, hM.tri x3, x3.wk (fun d hd => Or.inl hd)⟩
                  · rw [if_pos (show bz _ = 0 from bz_f (by omega)), ob_some, if_pos rfl, decide_eq_false (fun z => f z.2.2.2)]
                    exact bad _
                · rw [if_pos (show bz _ = 0 from bz_f (by omega)), ob_some, if_pos rfl, decide_eq_false (fun z => e z.2.2.1)]
                  exact bad _
              · rw [if_neg (by rw [ztm]; exact d), decide_eq_false (fun z => d z.2.1)]
                exact bad _
            · rw [if_neg (by rw [za]; exact c), decide_eq_false (fun z => c z.1)]
              exact bad _
          · rw [if_neg (by rw [q5]; exact k5), if_neg k5]
            by_cases k6 : h = 6
            · rw [if_pos (by rw [q6]; exact k6), if_pos k6]
              by_cases c : t = 0
              · have em : iz ((10 : Nat) : Int) * iz (a : Int) + iz (b : Int) = iz ((10 * a + b : Nat) : Int) := by rw [iz_mul, iz_add]; rfl
                rw [if_pos (by rw [zt]; exact c), em]
                unfold f_X5_triedRemoval
                rw [hasBeat_eq st hP.1.1 (by omega) (by omega), ob_some]
                have l1 : ((1 : Int32) < iz (gB P : Int)) = (1 < gB P) := by rw [show (1 : Int32) = iz ((1 : Nat) : Int) from rfl, ltz (by omega) (by omega)]
                by_cases e : 10 * a + b < gB P
                · rw [if_neg (by rw [bz_t (by omega)]; decide), st.2.1]
                  by_cases f : 1 < gB P
                  · rw [if_pos (by rw [l1]; exact f), decide_eq_true ⟨c, e, f⟩]
                    obtain ⟨⟨_, M2⟩, hx, x2, x3⟩ := closeBeat_tot st hP.1.1 f e
                    have x2 : StRep M2 1 (pcls P (10 * a + b)) := x2
                    have x3 : Off (RSt 1) M M2 := x3
                    obtain ⟨⟨_, M3⟩, hy, y2, y3⟩ := dropLooseHolds_tot x2 (pcls_W hP.1 f _)
                    have y3 : Off (RSt 1) M2 M3 := y3
                    have o := x3.tr y3
                    rw [hx, ob_some, hy, ob_some, ob_some, if_neg (by decide)]
                    exact Tot.mk ⟨rfl, fun _ => y2, hM.tri o, o.wk (fun d hd => Or.inl hd)⟩
                  · rw [if_neg (by rw [l1]; exact f), ob_some, if_pos rfl, decide_eq_false (fun z => f z.2.2)]
                    exact bad _
                · rw [if_pos (show bz _ = 0 from bz_f (by omega)), ob_some, if_pos rfl, decide_eq_false (fun z => e z.2.1)]
                  exact bad _
              · rw [if_neg (by rw [zt]; exact c), decide_eq_false (fun z => c z.1)]
                exact bad _
            · rw [if_neg (by rw [q6]; exact k6), if_neg k6]
              by_cases k7 : h = 7
              · have l7 : ((7 : Int32) < iz (a : Int)) = (7 < a) := by rw [show (7 : Int32) = iz ((7 : Nat) : Int) from rfl, ltz (by omega) (by omega)]
                rw [if_pos (by rw [q7]; exact k7), if_pos k7]
                by_cases c : 7 < a
                · rw [if_pos (by rw [l7]; exact c), decide_eq_false (fun z => by omega)]
                  exact bad _
                · rw [if_neg (by rw [l7]; exact c), numberOfWhole_eq rd hP.1 (by omega), ob_some, ite_bz, bz_dec]
                  refine Tot.mk ⟨?_, fun _ => st, hM, Off.rf⟩
                  show iz (b01 (decide (iz (nWhole P a) = iz ((100 * b + t : Nat) : Int)))) = iz (b01 (decide (a < 8 ∧ iz (nWhole P a) = iz ((100 * b + t : Nat) : Int))))
                  by_cases e : iz (nWhole P a) = iz ((100 * b + t : Nat) : Int)
                  · rw [decide_eq_true e, decide_eq_true ⟨by omega, e⟩]
                  · rw [decide_eq_false e, decide_eq_false (fun z => e z.2)]
              · rw [if_neg (by rw [q7]; exact k7), if_neg k7]
                have note : ∀ w : Nat, w < 4 → Tot (if iz ((t / 10 : Nat) : Int) = 0 then ob (f_X3_hasCell 1 (iz (a : Int)) (iz (b : Int)) M) (fun x19 M20 => if x19 = 0 then some ((0 : Int32), M20) else ob (f_X2_numberOfNote (iz (a : Int)) (iz (b : Int)) (iz (w : Int)) M20) (fun x21 M22 => if x21 = iz ((t % 10 : Nat) : Int) then some (1, M22) else some (0, M22))) else some (0, M)) (SCq D M (decide (t / 10 = 0 ∧ (a < gS P ∧ b < gB P) ∧ iz (nNote P a b w) = iz ((t % 10 : Nat) : Int)), P)) := fun w hw => by
                  by_cases c : t / 10 = 0
                  · rw [if_pos (by rw [ztd]; exact c), hcell, ob_some]
                    by_cases d : a < gS P ∧ b < gB P
                    · rw [if_neg (by rw [bz_t d]; decide), numberOfNote_eq rd hP.1 d.2 d.1 hw, ob_some, ite_bz, bz_dec]
                      refine Tot.mk ⟨?_, fun _ => st, hM, Off.rf⟩
                      show iz (b01 (decide (iz (nNote P a b w) = iz ((t % 10 : Nat) : Int)))) = iz (b01 (decide (t / 10 = 0 ∧ (a < gS P ∧ b < gB P) ∧ iz (nNote P a b w) = iz ((t % 10 : Nat) : Int))))
                      by_cases e : iz (nNote P a b w) = iz ((t % 10 : Nat) : Int)
                      · rw [decide_eq_true e, decide_eq_true ⟨c, d, e⟩]
                      · rw [decide_eq_false e, decide_eq_false (fun z => e z.2.2)]
                    · rw [if_pos (show bz _ = 0 from bz_f d), decide_eq_false (fun z => d z.2.1)]
                      exact bad _
                  · rw [if_neg (by rw [ztd]; exact c), decide_eq_false (fun z => c z.1)]
                    exact bad _
                by_cases k8 : h = 8
                · rw [if_pos (by rw [q8]; exact k8), if_pos k8]
                  exact note 0 (by omega)
                · rw [if_neg (by rw [q8]; exact k8), if_neg k8]
                  by_cases k9 : h = 9
                  · rw [if_pos (by rw [q9]; exact k9), if_pos k9]
                    exact note 1 (by omega)
                  · rw [if_neg (by rw [q9]; exact k9), if_neg k9]
                    exact bad _
