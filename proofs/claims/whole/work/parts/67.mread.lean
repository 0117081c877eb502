theorem mw_mw (M : Mem) (c i : Nat) (a b : Int32) : mw (mw M c i a) c i b = mw M c i b := by
  funext d j
  by_cases h : d = c
  · subst h
    rw [mw_at, mw_at, mw_at]
    split <;> rfl
  · rw [mw_ne h, mw_ne h, mw_ne h]
theorem iz_p0 (p : Nat) : iz (p : Int) + 0 = iz (p : Int) := by
  rw [show (0 : Int32) = iz 0 from rfl, iz_add, Int.add_zero]
section RM
variable {M : Mem} {T : Tx} {p : Nat}
abbrev MT3 (T : Tx) (p : Nat) (M : Mem) : Prop := M 27 2 = iz T.1 ∧ (∀ i, i < T.1 → M 28 i = iz (T.2 i)) ∧ M 27 3 = iz p
theorem MT3.to (h : MT3 T p M) (q : Nat) : MT3 T q (mw M 27 3 (iz (q : Int))) := ⟨by rw [mw_at, if_neg (by omega)]; exact h.1, fun i hi => by rw [mw_ne (by omega)]; exact h.2.1 i hi, by rw [mw_at, if_pos rfl]⟩
theorem eat_eq (hT : TOk T) (h : MT3 T p M) (hp : p ≤ 140) {c : Int} (c0 : 0 ≤ c) (c1 : c ≤ 255) : f_X6_eat (iz c) M = some (bz (sgn T p = c), mw M 27 3 (iz ((if sgn T p = c then p + 1 else p : Nat) : Int))) := by
  obtain ⟨h1, h2, h3⟩ := h
  have hN := hT.1
  have z0 : f_X6_eat_b29 0 M = some (iz 0, mw M 27 3 (iz (p : Int))) := by
    unfold f_X6_eat_b29
    rw [if_pos rfl, if_pos (by decide), h3, iz_p0]; rfl
  have z1 : f_X6_eat_b29 1 M = some (iz 1, mw M 27 3 (iz ((p + 1 : Nat) : Int))) := by
    unfold f_X6_eat_b29
    rw [if_neg (by decide), if_pos (by decide), h3, a1z]; rfl
  unfold f_X6_eat f_X6_eat_b28
  by_cases d : p < T.1
  · have e : sgn T p = T.2 p := by unfold sgn; rw [if_pos d]
    have hb := hT.2 p d
    have ee : (M 28 p = iz c) = (sgn T p = c) := by rw [h2 p d, iz_eq (by omega) (by omega) (by omega) (by omega), e]
    rw [h1, h3, if_neg (by rw [lez (by omega) (by omega)]; omega), if_pos (inb_n (by omega) (by omega)), cl_n (by omega)]
    by_cases f : sgn T p = c
    · rw [if_pos (by rw [ee]; exact f), z1, bz_t f, if_pos f]
    · rw [if_neg (by rw [ee]; exact f), z0, bz_f f, if_neg f]
  · have f : ¬ sgn T p = c := by unfold sgn; rw [if_neg d]; omega
    rw [h1, h3, if_pos (by rw [lez (by omega) (by omega)]; omega), z0, bz_f f, if_neg f]
theorem digit_eq (hT : TOk T) (h : MT3 T p M) (hp : p ≤ 140) {lo hi : Int} (l0 : 0 ≤ lo) (l1 : lo ≤ 9) (u0 : 0 ≤ hi) (u1 : hi ≤ 9) : f_X6_digit (iz lo) (iz hi) M = some (iz (if lo ≤ dig T p ∧ dig T p ≤ hi then dig T p else -9), mw M 27 3 (iz ((if lo ≤ dig T p ∧ dig T p ≤ hi then p + 1 else p : Nat) : Int))) := by
  obtain ⟨h1, h2, h3⟩ := h
  have hN := hT.1
  have core : ∀ v : Int, -1000 ≤ v → v ≤ 1000 → ((lo ≤ v ∧ v ≤ hi) ↔ (lo ≤ dig T p ∧ dig T p ≤ hi)) → (lo ≤ v ∧ v ≤ hi → v = dig T p) → f_X6_digit_b28 (iz lo) (iz hi) (iz v) M = some (iz (if lo ≤ dig T p ∧ dig T p ≤ hi then dig T p else -9), mw M 27 3 (iz ((if lo ≤ dig T p ∧ dig T p ≤ hi then p + 1 else p : Nat) : Int))) := fun v v1 v2 hv he => by
    unfold f_X6_digit_b28 f_X6_digit_b55
    rw [in_eq M (by omega) (by omega) (by omega) (by omega) (by omega) (by omega), ob_some]
    by_cases c : lo ≤ v ∧ v ≤ hi
    · have c' := hv.mp c
      rw [if_neg (by rw [bz_t c]; decide), if_neg (by rw [bz_t c]; decide), h3, a1z, if_pos c', if_pos c', he c]
    · have c' : ¬ (lo ≤ dig T p ∧ dig T p ≤ hi) := fun z => c (hv.mpr z)
      have b0 : bz (lo ≤ v ∧ v ≤ hi) = 0 := bz_f c
      rw [if_pos b0, if_pos b0, h3, iz_p0, if_neg c', if_neg c']; rfl
  unfold f_X6_digit
  by_cases d : p < T.1
  · have hb := hT.2 p d
    have e : dig T p = if 48 ≤ T.2 p ∧ T.2 p ≤ 57 then T.2 p - 48 else -1 := by
      unfold dig sgn
      rw [if_pos d]
    rw [h1, h3, if_neg (by rw [lez (by omega) (by omega)]; omega), if_pos (inb_n (by omega) (by omega)), cl_n (by omega), h2 p d, show (48 : Int32) = iz 48 from rfl, iz_sub]
    by_cases f : 48 ≤ T.2 p ∧ T.2 p ≤ 57
    · rw [if_pos f] at e
      exact core _ (by omega) (by omega) (by rw [e]) (fun _ => e.symm)
    · rw [if_neg f] at e
      exact core _ (by omega) (by omega) (by rw [e]; omega) (fun z => by omega)
  · have e : dig T p = -1 := by
      unfold dig sgn
      rw [if_neg d, if_neg (by omega)]
    rw [h1, h3, if_pos (by rw [lez (by omega) (by omega)]; omega), show (-9 : Int32) = iz (-9) from rfl]
    exact core _ (by omega) (by omega) (by rw [e]; omega) (fun z => by omega)
def tw (T : Tx) (p : Nat) (a l c h : Int) : Int × Nat := if a ≤ dig T p ∧ dig T p ≤ c then (if (if dig T p = a then l else 0) ≤ dig T (p + 1) ∧ dig T (p + 1) ≤ (if dig T p = c then h else 9) then (10 * dig T p + dig T (p + 1), p + 2) else (-9, p + 1)) else (-9, p)
theorem two_eq (hT : TOk T) (h : MT3 T p M) (hp : p ≤ 140) {a l c u : Int} (a0 : 0 ≤ a) (a1 : a ≤ 9) (l0 : 0 ≤ l) (l1 : l ≤ 9) (c0 : 0 ≤ c) (c1 : c ≤ 9) (u0 : 0 ≤ u) (u1 : u ≤ 9) : f_X6_two (iz (10 * a + l)) (iz (10 * c + u)) M = some (iz (tw T p a l c u).1, mw M 27 3 (iz ((tw T p a l c u).2 : Nat))) := by
  have hN := hT.1
  have d1 := dig_rng T p
  have d2 := dig_rng T (p + 1)
  have q1 : iz (10 * a + l) / 10 = iz a := by rw [show (10 : Int32) = iz 10 from rfl, iz_div (by omega) (by omega) (by omega) (by omega), show (10 * a + l) / 10 = a by omega]
  have q2 : iz (10 * c + u) / 10 = iz c := by rw [show (10 : Int32) = iz 10 from rfl, iz_div (by omega) (by omega) (by omega) (by omega), show (10 * c + u) / 10 = c by omega]
  have r1 : iz (10 * a + l) - iz a * 10 = iz l := by rw [show (10 : Int32) = iz 10 from rfl, iz_mul, iz_sub, show 10 * a + l - a * 10 = l by omega]
  have r2 : iz (10 * c + u) - iz c * 10 = iz u := by rw [show (10 : Int32) = iz 10 from rfl, iz_mul, iz_sub, show 10 * c + u - c * 10 = u by omega]
  have core : ∀ lo hi : Int, a ≤ dig T p ∧ dig T p ≤ c → lo = (if dig T p = a then l else 0) → hi = (if dig T p = c then u else 9) → 0 ≤ lo → lo ≤ 9 → 0 ≤ hi → hi ≤ 9 → f_X6_two_b56 (iz (dig T p)) (iz hi) (iz lo) (mw M 27 3 (iz ((p + 1 : Nat) : Int))) = some (iz (tw T p a l c u).1, mw M 27 3 (iz ((tw T p a l c u).2 : Nat))) := fun lo hi k e1 e2 x1 x2 x3 x4 => by
    have hlt := dig_lt (T := T) (p := p) (by omega)
    unfold f_X6_two_b56
    rw [digit_eq hT (h.to (p + 1)) (by omega) x1 x2 x3 x4, ob_some, mw_mw]
    unfold tw
    rw [if_pos k, ← e1, ← e2]
    have e9 : ∀ v : Int, -1 ≤ v → v ≤ 9 → ¬ (iz v = -9) := fun v v0 v1 => by rw [show (-9 : Int32) = iz (-9) from rfl, iz_eq (by omega) (by omega) (by omega) (by omega)]; omega
    by_cases f : lo ≤ dig T (p + 1) ∧ dig T (p + 1) ≤ hi
    · simp only [if_pos f]
      rw [if_neg (e9 _ d2.1 d2.2), show (10 : Int32) = iz 10 from rfl, iz_mul, iz_add]
    · simp only [if_neg f]
      rw [if_pos (show iz (-9) = -9 from rfl)]; rfl
  unfold f_X6_two f_X6_two_b39
  rw [q1, q2, digit_eq hT h hp a0 a1 c0 c1, ob_some, r1, r2]
  by_cases k : a ≤ dig T p ∧ dig T p ≤ c
  · simp only [if_pos k]
    have ea : (iz (dig T p) = iz a) = (dig T p = a) := iz_eq (by omega) (by omega) (by omega) (by omega)
    have ec : (iz (dig T p) = iz c) = (dig T p = c) := iz_eq (by omega) (by omega) (by omega) (by omega)
    have e9 : ¬ (iz (dig T p) = -9) := by rw [show (-9 : Int32) = iz (-9) from rfl, iz_eq (by omega) (by omega) (by omega) (by omega)]; omega
    rw [if_neg e9]
    by_cases k1 : dig T p = a
    · rw [if_pos (by rw [ea]; exact k1)]
      by_cases k2 : dig T p = c
      · rw [if_pos (by rw [ec]; exact k2)]
        exact core l u k (by rw [if_pos k1]) (by rw [if_pos k2]) l0 l1 u0 u1
      · rw [if_neg (by rw [ec]; exact k2), show (9 : Int32) = iz 9 from rfl]
        exact core l 9 k (by rw [if_pos k1]) (by rw [if_neg k2]) l0 l1 (by omega) (by omega)
    · rw [if_neg (by rw [ea]; exact k1), show (0 : Int32) = iz 0 from rfl]
      by_cases k2 : dig T p = c
      · rw [if_pos (by rw [ec]; exact k2)]
        exact core 0 u k (by rw [if_neg k1]) (by rw [if_pos k2]) (by omega) (by omega) u0 u1
      · rw [if_neg (by rw [ec]; exact k2), show (9 : Int32) = iz 9 from rfl]
        exact core 0 9 k (by rw [if_neg k1]) (by rw [if_neg k2]) (by omega) (by omega) (by omega) (by omega)
  · simp only [if_neg k]
    unfold tw
    rw [if_pos (show iz (-9) = -9 from rfl), if_neg k]; rfl
def RMd (d : Nat) : Prop := d = 27 ∨ d = 29
abbrev RCm (M : Mem) (P : Pg) (s b : Nat) (r : Bool × Nat × Int) (x : Int32 × Mem) : Prop := x.1 = iz (b01 r.1) ∧ x.2 27 3 = iz (r.2.1 : Nat) ∧ (∀ j, j ≠ 3 → x.2 27 j = M 27 j) ∧ (r.1 = true → PR x.2 29 0 (pcel P (cset (gC P) s b r.2.2))) ∧ Off RMd M x.2
theorem mreadCell_tot {P : Pg} {s b : Nat} (hT : TOk T) (h : MT3 T p M) (hp : p ≤ T.1) (hR : PR M 29 0 P) (hP : PgD P) (hc : ∀ s b, cOk (gC P s b)) (hs : s < gS P) (hb : b < gB P) (hz : gC P s b = -9) : Tot (f_X6_readCell (iz s) (iz b) M) (RCm M P s b (rc T (pvs (gC P) s b) p)) := by
  have hx := pg_lt hP hs hb
  have hN := hT.1
  have hr := sgn_rng hT p
  have hB := hP.2
  have d1 := dig_rng T p
  have d2 := dig_rng T (p + 1)
  have b56 : ∀ M4, MT3 T p M4 → (∀ j, j ≠ 3 → M4 27 j = M 27 j) → (∀ d, d ≠ 27 → M4 d = M d) → ¬ sgn T p = 45 → ¬ (sgn T p = 61 ∧ pvs (gC P) s b ≠ -9) → Tot (f_X6_readCell_b56 (iz ((8 + (16 * s + b) : Nat) : Int)) M4) (RCm M P s b (rc T (pvs (gC P) s b) p)) := fun M4 t4 e4 n4 n1 n2 => by
    unfold f_X6_readCell_b56
    have tq : f_X6_two 0 60 M4 = some (iz (tw T p 0 0 6 0).1, mw M4 27 3 (iz ((tw T p 0 0 6 0).2 : Nat))) := two_eq (a := 0) (l := 0) (c := 6) (u := 0) hT t4 (by omega) (by omega) (by omega) (by omega) (by omega) (by omega) (by omega) (by omega) (by omega)
    have hrc : rc T (pvs (gC P) s b) p = (decide ((tw T p 0 0 6 0).1 ≠ -9), (tw T p 0 0 6 0).2, (tw T p 0 0 6 0).1) ∧ -9 ≤ (tw T p 0 0 6 0).1 ∧ (tw T p 0 0 6 0).1 ≤ 99 := by
      unfold rc tw
      rw [if_neg n1, if_neg n2]
      by_cases c : 0 ≤ dig T p ∧ dig T p ≤ 6
      · rw [if_pos c, if_pos c]
        have iff : ((if dig T p = 0 then (0 : Int) else 0) ≤ dig T (p + 1) ∧ dig T (p + 1) ≤ (if dig T p = 6 then 0 else 9)) ↔ (0 ≤ dig T (p + 1) ∧ 10 * dig T p + dig T (p + 1) ≤ 60) := by
          rw [ite_self]
          by_cases z6 : dig T p = 6
          · rw [if_pos z6]; omega
          · rw [if_neg z6]; omega
        by_cases e : 0 ≤ dig T (p + 1) ∧ 10 * dig T p + dig T (p + 1) ≤ 60
        · rw [if_pos e, if_pos (iff.mpr e)]
          refine ⟨?_, by show -9 ≤ 10 * dig T p + dig T (p + 1); omega, by show 10 * dig T p + dig T (p + 1) ≤ 99; omega⟩
          show (true, p + 2, 10 * dig T p + dig T (p + 1)) = (decide (10 * dig T p + dig T (p + 1) ≠ -9), p + 2, 10 * dig T p + dig T (p + 1))
          rw [decide_eq_true (show 10 * dig T p + dig T (p + 1) ≠ -9 by omega)]
        · rw [if_neg e, if_neg (fun z => e (iff.mp z))]
          exact ⟨rfl, by show (-9 : Int) ≤ -9; omega, by show (-9 : Int) ≤ 99; omega⟩
      · rw [if_neg c, if_neg c]
        exact ⟨rfl, by show (-9 : Int) ≤ -9; omega, by show (-9 : Int) ≤ 99; omega⟩
    obtain ⟨hrc, g1, g2⟩ := hrc
    rw [tq, ob_some, hrc]
    generalize tw T p 0 0 6 0 = t at g1 g2
    have ik : inb (iz ((8 + (16 * s + b) : Nat) : Int)) 72 := inb_n (by omega) (by omega)
    have e9 : (iz t.1 = -9) = (t.1 = -9) := by rw [show (-9 : Int32) = iz (-9) from rfl, iz_eq (by omega) (by omega) (by omega) (by omega)]
    have o : Off RMd M (mw (mw M4 27 3 (iz (t.2 : Nat))) 29 (8 + (16 * s + b)) (iz t.1)) := fun d hd => (mw_ne (fun z => hd (Or.inr z))).trans ((mw_ne (fun z => hd (Or.inl z))).trans (n4 d (fun z => hd (Or.inl z))))
    have w3 : mw (mw M4 27 3 (iz (t.2 : Nat))) 29 (8 + (16 * s + b)) (iz t.1) 27 3 = iz (t.2 : Nat) := by rw [mw_ne (by omega), mw_at, if_pos rfl]
    have wj : ∀ j, j ≠ 3 → mw (mw M4 27 3 (iz (t.2 : Nat))) 29 (8 + (16 * s + b)) (iz t.1) 27 j = M 27 j := fun j hj => by rw [mw_ne (by omega), mw_at, if_neg hj]; exact e4 j hj
    rw [if_pos ik, if_pos ik, cl_n (n := 8 + (16 * s + b)) (by omega), mw_at, if_pos rfl]
    by_cases c : t.1 = -9
    · rw [if_pos (by rw [e9]; exact c)]
      refine Tot.mk ⟨?_, w3, wj, fun z => absurd z (by show ¬ decide (t.1 ≠ -9) = true; simp [c]), o⟩
      show (0 : Int32) = iz (b01 (decide (t.1 ≠ -9)))
      rw [decide_eq_false (fun z => z c)]; rfl
    · rw [if_neg (by rw [e9]; exact c)]
      have hp' : PR (mw M4 27 3 (iz (t.2 : Nat))) 29 0 P := hR.same ((mw_ne (by omega)).trans (n4 29 (by omega)))
      refine Tot.mk ⟨?_, w3, wj, fun _ => pr_putc hp' hP hs hb t.1 (fun _ _ _ _ => rfl), o⟩
      show (1 : Int32) = iz (b01 (decide (t.1 ≠ -9)))
      rw [decide_eq_true c]; rfl
  unfold f_X6_readCell
  rw [at_eq, ob_some, l8, show (45 : Int32) = iz 45 from rfl, eat_eq hT h (by omega) (c := 45) (by omega) (by omega), ob_some]
  by_cases c1 : sgn T p = 45
  · have hv : rc T (pvs (gC P) s b) p = (true, p + 1, -9) := by unfold rc; rw [if_pos c1]
    rw [if_neg (by rw [bz_t c1]; decide), if_pos c1, hv]
    have o : Off RMd M (mw M 27 3 (iz ((p + 1 : Nat) : Int))) := Off.rf.put (Or.inl rfl)
    have hp' : PR (mw M 27 3 (iz ((p + 1 : Nat) : Int))) 29 0 P := hR.same (mw_ne (by omega))
    refine Tot.mk ⟨rfl, ?_, fun j hj => ?_, fun _ => hp'.to rfl rfl (fun _ _ => rfl) (fun s' b' _ _ => ?_), o⟩
    · show mw M 27 3 (iz ((p + 1 : Nat) : Int)) 27 3 = _
      rw [mw_at, if_pos rfl]
    · show mw M 27 3 (iz ((p + 1 : Nat) : Int)) 27 j = _
      rw [mw_at, if_neg hj]
    · show (if s' = s ∧ b' = b then -9 else gC P s' b') = gC P s' b'
      by_cases e : s' = s ∧ b' = b
      · rw [if_pos e, e.1, e.2, hz]
      · rw [if_neg e]
  · have t4 := h.to p
    have e4 : ∀ j, j ≠ 3 → mw M 27 3 (iz (p : Int)) 27 j = M 27 j := fun j hj => by rw [mw_at, if_neg hj]
    have n4 : ∀ d, d ≠ 27 → mw M 27 3 (iz (p : Int)) d = M d := fun d hd => mw_ne hd
    rw [if_pos (show bz (sgn T p = 45) = 0 from bz_f c1), if_neg c1]
    by_cases cb : b = 0
    · have pz : pvs (gC P) s b = -9 := by unfold pvs; rw [if_pos cb]
      rw [if_pos (by rw [cb]; decide)]
      exact b56 _ t4 e4 n4 c1 (fun z => z.2 pz)
    · have pz : pvs (gC P) s b = gC P s (b - 1) := by unfold pvs; rw [if_neg cb]
      have hg := cOk_lt (hc s (b - 1))
      have hcell : mw M 27 3 (iz (p : Int)) 29 (8 + (16 * s + b) - 1) = iz (gC P s (b - 1)) := by
        rw [mw_ne (by omega), show 8 + (16 * s + b) - 1 = 8 + (16 * s + (b - 1)) by omega]
        exact hR.C hs (by omega)
      have e9 : (iz (gC P s (b - 1)) = -9) = (gC P s (b - 1) = -9) := by rw [show (-9 : Int32) = iz (-9) from rfl, iz_eq (by omega) (by omega) (by omega) (by omega)]
      rw [if_neg (by rw [show (0 : Int32) = iz ((0 : Nat) : Int) from rfl, lez (by omega) (by omega)]; omega), pm1 _ (by omega), if_pos (inb_n (n := 8 + (16 * s + b) - 1) (by omega) (by omega)), cl_n (n := 8 + (16 * s + b) - 1) (by omega), hcell]
      by_cases c9 : gC P s (b - 1) = -9
      · rw [if_pos (by rw [e9]; exact c9)]
        exact b56 _ t4 e4 n4 c1 (fun z => z.2 (pz.trans c9))
      · rw [if_neg (by rw [e9]; exact c9), show (61 : Int32) = iz 61 from rfl, eat_eq hT t4 (by omega) (c := 61) (by omega) (by omega), ob_some, mw_mw]
        by_cases c2 : sgn T p = 61
        · have hv : rc T (pvs (gC P) s b) p = (true, p + 1, 99) := by unfold rc; rw [if_neg c1, if_pos ⟨c2, by rw [pz]; exact c9⟩]
          have hp' : PR (mw M 27 3 (iz ((p + 1 : Nat) : Int))) 29 0 P := hR.same (mw_ne (by omega))
          have o : Off RMd M (mw (mw M 27 3 (iz ((p + 1 : Nat) : Int))) 29 (8 + (16 * s + b)) (iz 99)) := (Off.rf.put (Or.inl rfl)).put (Or.inr rfl)
          rw [if_neg (by rw [bz_t c2]; decide), if_pos c2, hv, if_pos (inb_n (n := 8 + (16 * s + b)) (by omega) (by omega)), cl_n (n := 8 + (16 * s + b)) (by omega), show (99 : Int32) = iz 99 from rfl]
          refine Tot.mk ⟨rfl, ?_, fun j hj => ?_, fun _ => pr_putc hp' hP hs hb 99 (fun _ _ _ _ => rfl), o⟩
          · show mw (mw M 27 3 (iz ((p + 1 : Nat) : Int))) 29 (8 + (16 * s + b)) (iz 99) 27 3 = _
            rw [mw_ne (by omega), mw_at, if_pos rfl]
          · show mw (mw M 27 3 (iz ((p + 1 : Nat) : Int))) 29 (8 + (16 * s + b)) (iz 99) 27 j = _
            rw [mw_ne (by omega), mw_at, if_neg hj]
        · rw [if_pos (show bz (sgn T p = 61) = 0 from bz_f c2), if_neg c2]
          exact b56 _ t4 e4 n4 c1 (fun z => c2 z.1)
end RM
