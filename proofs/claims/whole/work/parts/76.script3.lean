noncomputable def rsg (P : Pg) (g : Nat) : Bool × Pg := rsq P (g / 10000) (g / 1000 % 10) (g / 100 % 10) (g % 100)
noncomputable def rsA (N n : Nat) : Nat → Pg → Int
  | 0, _ => -9
  | k + 1, P => if (rsg P (N / 100000 ^ k % 100000)).1 = true then rsA N n k (rsg P (N / 100000 ^ k % 100000)).2 else ((n - (k + 1) : Nat) : Int)
theorem groupFromEnd_eq {N : Nat} (hN : N < 9223372036854775808) {k : Nat} (hk : k ≤ 3) (M : Mem) : f_X5_groupFromEnd (jn N) (iz k) M = some (jn (N / 100000 ^ k), M) := by
  unfold f_X5_groupFromEnd
  refine Tot.eq ?_
  rw [show (0 : Int32) = iz ((0 : Nat) : Int) from rfl]
  refine up2_tot k (fun i x M' => M' = M ∧ x = jn (N / 100000 ^ i)) ?_ ?_ 9999 0 _ M (by omega) ⟨rfl, by rw [Nat.pow_zero, Nat.div_one]⟩ (by omega)
  · intro K i x M' hi ⟨e1, e2⟩ hK
    subst e1 e2
    unfold f_X5_groupFromEnd_b5
    have hle : N / 100000 ^ i ≤ N := Nat.div_le_self _ _
    rw [if_neg (by rw [lez (by omega) (by omega)]; omega), a1z, show (100000 : Int64) = jn 100000 from rfl, jn_div (by omega) (by omega) (by omega), Nat.div_div_eq_div_mul, ← Nat.pow_succ]
    exact hK _ _ ⟨rfl, rfl⟩
  · intro K x M' ⟨e1, e2⟩
    subst e1 e2
    unfold f_X5_groupFromEnd_b5
    rw [if_pos (Int32.le_refl _)]
    exact Tot.mk rfl
theorem pow5 {k : Nat} (h : k ≤ 3) : 0 < 100000 ^ k ∧ 100000 ^ k ≤ 1000000000000000 := by
  have : k = 0 ∨ k = 1 ∨ k = 2 ∨ k = 3 := by omega
  rcases this with rfl | rfl | rfl | rfl <;> decide
theorem g_runScript (D : Ds) (hD : DOk D) (x : Int32) (w : Int64) : Agree h_L_runScript (f_X5_runScript x w) (f_X6_runScript x w) D := by
  obtain ⟨v, rfl, v1, v2⟩ := izself x
  have hP := hD.2.2.1
  have l1 : (iz v < 1) = (v < 1) := by rw [show (1 : Int32) = iz 1 from rfl, iz_lt v1 v2 (by omega) (by omega)]
  have l3 : ((3 : Int32) < iz v) = (3 < v) := by rw [show (3 : Int32) = iz 3 from rfl, iz_lt (by omega) (by omega) v1 v2]
  have mi : ∀ M, f_X6_in (Int32.toInt64 (iz v)) 1 3 M = some (bz (1 ≤ v ∧ v ≤ 3), M) := fun M => by
    rw [show (1 : Int64) = Int32.toInt64 (iz 1) by decide, show (3 : Int64) = Int32.toInt64 (iz 3) by decide, in_eq M v1 v2 (by omega) (by omega) (by omega) (by omega)]
  have e1 : (iz v = 1) = (v = 1) := by rw [show (1 : Int32) = iz 1 from rfl, iz_eq v1 v2 (by omega) (by omega)]
  have e2 : (iz v = 2) = (v = 2) := by rw [show (2 : Int32) = iz 2 from rfl, iz_eq v1 v2 (by omega) (by omega)]
  have no : ∀ (M : Mem) (s0 : Int64), f_X6_runScript_b56 (iz v) w s0 M = some (0, mw M 27 0 (iz ((1 : Nat) : Int))) := fun M s0 => by
    unfold f_X6_runScript_b56 f_X6_runScript_b57
    exact ref_no (n := 1) (by omega) (by omega) M _ _
  have z0 : (0 : Int64).toInt = 0 := by decide
  by_cases c : 1 ≤ v ∧ v ≤ 3
  · obtain ⟨n, rfl⟩ : ∃ n : Nat, v = (n : Int) := ⟨v.toNat, by omega⟩
    have hn1 : 1 ≤ n := by omega
    have hn3 : n ≤ 3 := by omega
    have hp := pow5 hn3
    -- the model, whatever the script
    have run : ∀ M, f_X6_runScript (iz (n : Int)) w M = if 0 ≤ w.toInt ∧ w.toInt ≤ (100000 ^ n : Nat) - 1 then f_X6_runScript_b57 (iz (n : Int)) w (jn (100000 ^ n)) 0 M else f_X6_runScript_b56 (iz (n : Int)) w (jn (100000 ^ n)) M := fun M => by
      have b25 : ∀ s0 : Int64, s0 = jn (100000 ^ n) → (s0 - 1).toInt = (100000 ^ n : Nat) - 1 → f_X6_runScript_b25 (iz (n : Int)) w s0 M = if 0 ≤ w.toInt ∧ w.toInt ≤ (100000 ^ n : Nat) - 1 then f_X6_runScript_b57 (iz (n : Int)) w (jn (100000 ^ n)) 0 M else f_X6_runScript_b56 (iz (n : Int)) w (jn (100000 ^ n)) M := fun s0 h1 h2 => by
        unfold f_X6_runScript_b25
        rw [mi, ob_some, if_neg (by rw [bz_t c]; decide), in64, ob_some, z0, h2, h1]
        by_cases d : 0 ≤ w.toInt ∧ w.toInt ≤ (100000 ^ n : Nat) - 1
        · rw [if_neg (by rw [bz_t d]; decide), if_pos d]
        · rw [if_pos (show bz _ = 0 from bz_f d), if_neg d]
      unfold f_X6_runScript
      have : n = 1 ∨ n = 2 ∨ n = 3 := by omega
      rcases this with rfl | rfl | rfl
      · rw [if_pos (by decide)]
        exact b25 _ (by decide) (by decide)
      · rw [if_neg (by decide), if_pos (by decide)]
        exact b25 _ (by decide) (by decide)
      · rw [if_neg (by decide), if_neg (by decide)]
        exact b25 _ (by decide) (by decide)
    by_cases d : 0 ≤ w.toInt
    · have hw := jn_self d
      have hlt := Int64.toInt_lt w
      have hN : w.toInt.toNat < 9223372036854775808 := by omega
      generalize hNd : w.toInt.toNat = N at hw hN
      have gfe := fun M => groupFromEnd_eq hN hn3 M
      by_cases e : N < 100000 ^ n
      · have hdiv : N / 100000 ^ n = 0 := Nat.div_eq_of_lt e
        refine Agree.yes (D' := D) hD (iz (rsA N n n (dP D))) (fun M hM => ?_) (fun M hM => ?_)
        · unfold f_X5_runScript
          rw [if_neg (by rw [l1]; omega), if_neg (by rw [l3]; omega), if_neg (by rw [lgc64_lt, z0]; omega), hw, gfe, ob_some, hdiv, if_pos (by rw [lgc64_eq]; rfl)]
          refine Tot.ob ((c_take hM hD).mono ?_)
          intro ⟨_, M2⟩ ⟨s2, h2, o2⟩
          have s2 : StRep M2 1 (dP D) := s2
          have h2 : CRel M2 D := h2
          have o2 : Off CT M M2 := o2
          rw [show (0 : Int32) = iz ((0 : Nat) : Int) from rfl]
          refine up_tot n (fun i M' => CRel M' D ∧ Off CT M M' ∧ ∃ P', PgOk P' ∧ StRep M' 1 P' ∧ rsA N n n (dP D) = rsA N n (n - i) P') ?_ ?_ 9999 0 M2 (by omega) ⟨h2, o2, dP D, hP, s2, rfl⟩ (by omega)
          · intro K i M' hi ⟨hc, ho, P', hP', hs, eA⟩ hK
            unfold f_X5_runScript_b48
            rw [if_neg (by rw [lez (by omega) (by omega)]; omega)]
            refine Tot.ob ((c_trial hc hs hP'.1).mono ?_)
            intro ⟨_, M3⟩ ⟨rd, s3, h3, o3⟩
            have rd : RD M3 P' := rd
            have s3 : StRep M3 1 P' := s3
            have h3 : CRel M3 D := h3
            have o3 : Off CT M' M3 := o3
            have ei : iz (n : Int) - 1 - iz (i : Int) = iz ((n - (i + 1) : Nat) : Int) := by
              rw [show (1 : Int32) = iz 1 from rfl, iz_sub, iz_sub]
              congr 1
              omega
            dsimp only
            have hk3 : n - (i + 1) ≤ 3 := by omega
            have hle : N / 100000 ^ (n - (i + 1)) ≤ N := Nat.div_le_self _ _
            rw [ei, groupFromEnd_eq hN hk3, ob_some, show (100000 : Int64) = jn 100000 from rfl, jn_mod (by omega) (by omega) (by omega), jn_int (by have := Nat.mod_lt (N / 100000 ^ (n - (i + 1))) (show 100000 > 0 by omega); omega)]
            rw [show n - i = (n - (i + 1)) + 1 by omega, rsA] at eA
            have hg : N / 100000 ^ (n - (i + 1)) % 100000 < 100000 := Nat.mod_lt _ (by omega)
            generalize N / 100000 ^ (n - (i + 1)) % 100000 = g at hg eA
            refine Tot.ob ((c_does rd h3 s3 hP' hg).mono ?_)
            intro ⟨y, M4⟩ ⟨y1, y2, y3, y4⟩
            have y1 : y = iz (b01 (rsg P' g).1) := y1
            have y2 : (rsg P' g).1 = true → StRep M4 1 (rsg P' g).2 := y2
            have y3 : CRel M4 D := y3
            have y4 : Off CT M3 M4 := y4
            have oo : Off CT M M4 := (ho.tr o3).tr y4
            dsimp only
            by_cases k : (rsg P' g).1 = true
            · rw [if_pos k] at eA
              rw [y1, k, if_neg (by decide), a1z]
              exact hK _ ⟨y3, oo, _, rsq_Ok hP' k, y2 k, eA⟩
            · have k' : (rsg P' g).1 = false := by simpa using k
              rw [if_neg k] at eA
              rw [y1, k', if_pos (by decide), eA, show n - (n - (i + 1) + 1) = i by omega]
              exact Tot.mk ⟨rfl, y3, oo.wk CI_CT⟩
          · intro K M' ⟨hc, ho, P', hP', hs, eA⟩
            unfold f_X5_runScript_b48
            rw [if_pos (Int32.le_refl _), eA, Nat.sub_self]
            exact Tot.mk ⟨rfl, hc, ho.wk CI_CT⟩
        · rw [run M, if_pos ⟨d, by omega⟩]
          unfold f_X6_runScript_b57
          rw [ref_yes]
          have o0 : Off MI M (mw M 27 0 0) := Off.rf.put (by unfold MI; omega)
          refine Tot.ob ((m_copy (r := 31) (Or.inl rfl) (hM.put (j := 0) (v := 0) (Or.inl rfl)) hD).mono ?_)
          intro ⟨_, M2⟩ ⟨s2, h2, e27, o2⟩
          have s2 : PR M2 31 0 (dP D) := s2
          have h2 : MRel M2 D := h2
          have e27 : M2 27 = mw M 27 0 0 27 := e27
          have o2 : Off MI (mw M 27 0 0) M2 := o2
          have z2 : M2 27 0 = 0 := by rw [e27, mw_at, if_pos rfl]
          have eNw : w = jn (N % 100000 ^ (n - 0)) := by rw [Nat.sub_zero, Nat.mod_eq_of_lt e]; exact hw
          rw [show (0 : Int32) = iz ((0 : Nat) : Int) from rfl, eNw]
          refine up3_tot n (fun i a b M' => a = jn (100000 ^ (n - i)) ∧ b = jn (N % 100000 ^ (n - i)) ∧ MRel M' D ∧ M' 27 0 = 0 ∧ Off MI M M' ∧ ∃ P', PgOk P' ∧ PR M' 31 0 P' ∧ rsA N n n (dP D) = rsA N n (n - i) P') ?_ ?_ 9999 0 _ _ M2 (by omega) ⟨rfl, rfl, h2, z2, o0.tr o2, dP D, hP, s2, rfl⟩ (by omega)
          · intro K i a b M' hi ⟨ea, eb, hc, hz, ho, P', hP', hs, eA⟩ hK
            unfold f_X6_runScript_b84
            have hk3 : n - (i + 1) ≤ 3 := by omega
            have hp1 := pow5 hk3
            have hp0 := pow5 (show n - i ≤ 3 by omega)
            have esuc : n - i = (n - (i + 1)) + 1 := by omega
            have ea' : a / 100000 = jn (100000 ^ (n - (i + 1))) := by
              rw [ea, show (100000 : Int64) = jn 100000 from rfl, jn_div (by omega) (by omega) (by omega), esuc, Nat.pow_succ, Nat.mul_div_cancel _ (by omega)]
            have hm : N % 100000 ^ (n - i) < 100000 ^ (n - i) := Nat.mod_lt _ (by omega)
            have ed : b / (a / 100000) = jn (N / 100000 ^ (n - (i + 1)) % 100000) := by
              rw [ea', eb, jn_div (by omega) (by omega) (by omega), esuc, Nat.pow_succ, Nat.mod_mul_right_div_self]
            have em : b - b / (a / 100000) * (a / 100000) = jn (N % 100000 ^ (n - (i + 1))) := by
              rw [ea', eb, jn_mod (by omega) (by omega) (by omega), esuc, Nat.pow_succ, Nat.mod_mul_right_mod]
            have nz : ¬ (a / 100000 = 0) := fun z => by
              have h0 := congrArg Int64.toInt z
              rw [ea', jn_toInt (by omega), z0] at h0
              omega
            have hg : N / 100000 ^ (n - (i + 1)) % 100000 < 100000 := Nat.mod_lt _ (by omega)
            rw [if_neg (by rw [lez (by omega) (by omega)]; omega), if_pos nz, if_pos nz, em, ed, ea', jn_int (by omega)]
            rw [esuc, rsA] at eA
            generalize N / 100000 ^ (n - (i + 1)) % 100000 = g at hg eA
            rw [show (10000 : Int32) = iz ((10000 : Nat) : Int) from rfl, show (1000 : Int32) = iz ((1000 : Nat) : Int) from rfl, show (100 : Int32) = iz ((100 : Nat) : Int) from rfl, show (10 : Int32) = iz ((10 : Nat) : Int) from rfl, izm (n := g) (k := 100) (by omega) (by omega) (by omega), izd (n := g) (k := 10000) (by omega) (by omega) (by omega), izd (n := g) (k := 1000) (by omega) (by omega) (by omega), izd (n := g) (k := 100) (by omega) (by omega) (by omega), izm (n := g / 1000) (k := 10) (by omega) (by omega) (by omega), izm (n := g / 100) (k := 10) (by omega) (by omega) (by omega)]
            refine Tot.ob ((m_does hc hs hP' (h := g / 10000) (a := g / 1000 % 10) (b := g / 100 % 10) (t := g % 100) (by omega) (by omega) (by omega) (by omega)).mono ?_)
            intro ⟨y, M4⟩ ⟨y1, y2, y3, y4, y5⟩
            have y1 : y = iz (b01 (rsg P' g).1) := y1
            have y2 : (rsg P' g).1 = true → PR M4 31 0 (rsg P' g).2 := y2
            have y3 : MRel M4 D := y3
            have y4 : M4 27 = M' 27 := y4
            have y5 : Off MI M' M4 := y5
            have z4 : M4 27 0 = 0 := by rw [y4]; exact hz
            dsimp only
            by_cases k : (rsg P' g).1 = true
            · rw [if_pos k] at eA
              rw [y1, k, if_neg (by decide), a1z]
              exact hK _ _ _ ⟨rfl, rfl, y3, z4, ho.tr y5, _, rsq_Ok hP' k, y2 k, eA⟩
            · have k' : (rsg P' g).1 = false := by simpa using k
              rw [if_neg k] at eA
              rw [y1, k', if_pos (by decide), eA, show n - (n - (i + 1) + 1) = i by omega]
              exact Tot.mk ⟨rfl, z4, y3, ho.tr y5⟩
          · intro K a b M' ⟨_, _, hc, hz, ho, P', hP', hs, eA⟩
            unfold f_X6_runScript_b84
            rw [if_pos (Int32.le_refl _), eA, Nat.sub_self]
            exact Tot.mk ⟨rfl, hz, hc, ho⟩
      · refine Agree.no hD 0 1 rfl (by omega) (fun M hM => ?_) (fun M hM => ?_)
        · have hle : N / 100000 ^ n ≤ N := Nat.div_le_self _ _
          have hpos : 0 < N / 100000 ^ n := Nat.div_pos (by omega) hp.1
          unfold f_X5_runScript
          rw [if_neg (by rw [l1]; omega), if_neg (by rw [l3]; omega), if_neg (by rw [lgc64_lt, z0]; omega), hw, gfe, ob_some, if_neg (by rw [lgc64_eq, jn_toInt (by omega), z0]; omega)]
        · rw [run M, if_neg (fun z => by omega)]
          exact ⟨_, no M _⟩
    · refine Agree.no hD 0 1 rfl (by omega) (fun M hM => ?_) (fun M hM => ?_)
      · unfold f_X5_runScript
        rw [if_neg (by rw [l1]; omega), if_neg (by rw [l3]; omega), if_pos (by rw [lgc64_lt, z0]; omega)]
      · rw [run M, if_neg (fun z => d z.1)]
        exact ⟨_, no M _⟩
  · refine Agree.no hD 0 1 rfl (by omega) (fun M hM => ?_) (fun M hM => ?_)
    · unfold f_X5_runScript
      by_cases d : v < 1
      · rw [if_pos (by rw [l1]; exact d)]
      · rw [if_neg (by rw [l1]; exact d), if_pos (by rw [l3]; omega)]
    · unfold f_X6_runScript
      rw [if_neg (by rw [e1]; omega), if_neg (by rw [e2]; omega)]
      unfold f_X6_runScript_b25
      rw [mi, ob_some, if_pos (show bz (1 ≤ v ∧ v ≤ 3) = 0 from bz_f c)]
      exact ⟨_, no M _⟩
