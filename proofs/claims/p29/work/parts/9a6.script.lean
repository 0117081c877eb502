/-! SCRIPTS TELL WHAT IS SO -/
theorem jn_add (a b : Nat) : jn a + jn b = jn (a + b) := by
  unfold jn
  rw [← Int64.ofInt_add]
  rfl
theorem jn_mul (a b : Nat) : jn a * jn b = jn (a * b) := by
  unfold jn
  rw [← Int64.ofInt_mul]
  rfl
theorem i2l_n {n : Nat} (h : n < 2147483648) : Int32.toInt64 (iz (n : Int)) = jn n := by
  apply Int64.toInt.inj
  rw [Int32.toInt_toInt64, iz_toInt (by omega) (by omega), jn_toInt (by omega)]
theorem rsA1 (P : Pg) {N : Nat} (h : N < 100000) : rsA N 1 1 P = if (rsg P N).1 = true then -9 else 0 := by
  unfold rsA
  rw [show N / 100000 ^ 0 % 100000 = N by rw [Nat.pow_zero, Nat.div_one]; exact Nat.mod_eq_of_lt h]
  rfl
section SCR
variable {D : Ds}
theorem s_yes (hD : DOk D) {N : Nat} (h : N < 100000) {w : Int64} (hw : w = jn N) (hr : (rsg (dP D) N).1 = true) : Ak (f_L_tryScript 1 w) D (-9) D := by
  have a := a_script hD (n := 1) (N := N) (by omega) (by omega) (by omega) (x := 1) rfl hw
  rw [rsA1 _ h, if_pos hr] at a
  exact a
theorem s_no (hD : DOk D) {N : Nat} (h : N < 100000) {w : Int64} (hw : w = jn N) (hr : ¬ (rsg (dP D) N).1 = true) : Ak (f_L_tryScript 1 w) D 0 D := by
  have a := a_script hD (n := 1) (N := N) (by omega) (by omega) (by omega) (x := 1) rfl hw
  rw [rsA1 _ h, if_neg hr] at a
  exact a
end SCR
theorem rsg_1 (P : Pg) {a t : Nat} (ha : a < 10) (ht : t < 100) : rsg P (10000 + 1000 * a + t) = (decide (0 = 0 ∧ setOk a t), pset P a t) := by
  unfold rsg
  rw [show (10000 + 1000 * a + t) / 10000 = 1 by omega, show (10000 + 1000 * a + t) / 1000 % 10 = a by omega, show (10000 + 1000 * a + t) / 100 % 10 = 0 by omega, show (10000 + 1000 * a + t) % 100 = t by omega]
  rfl
theorem rsg_2 (P : Pg) {a b t : Nat} (ha : a < 10) (hb : b < 10) (ht : t < 100) : rsg P (20000 + 1000 * a + 100 * b + t) = (decide (t ≤ 60 ∧ a < gS P ∧ b < gB P), pwr P a b t) := by
  unfold rsg
  rw [show (20000 + 1000 * a + 100 * b + t) / 10000 = 2 by omega, show (20000 + 1000 * a + 100 * b + t) / 1000 % 10 = a by omega, show (20000 + 1000 * a + 100 * b + t) / 100 % 10 = b by omega, show (20000 + 1000 * a + 100 * b + t) % 100 = t by omega]
  rfl
theorem rsg_5 (P : Pg) {b : Nat} (hb : b < 10) : rsg P (50000 + 100 * b) = (decide (0 = 0 ∧ 0 % 10 = 0 ∧ b < gS P ∧ 0 / 10 < gS P), pswp P b (0 / 10)) := by
  unfold rsg
  rw [show (50000 + 100 * b) / 10000 = 5 by omega, show (50000 + 100 * b) / 1000 % 10 = 0 by omega, show (50000 + 100 * b) / 100 % 10 = b by omega, show (50000 + 100 * b) % 100 = 0 by omega]
  rfl
theorem rsg_6 (P : Pg) {n : Nat} (hn : n < 100) : (rsg P (60000 + 100 * n)).1 = decide (0 = 0 ∧ n < gB P ∧ 1 < gB P) := by
  unfold rsg
  rw [show (60000 + 100 * n) / 10000 = 6 by omega, show (60000 + 100 * n) / 1000 % 10 = n / 10 by omega, show (60000 + 100 * n) / 100 % 10 = n % 10 by omega, show (60000 + 100 * n) % 100 = 0 by omega]
  show decide (0 = 0 ∧ 10 * (n / 10) + n % 10 < gB P ∧ 1 < gB P) = _
  rw [show 10 * (n / 10) + n % 10 = n by omega]
theorem rsg_7 (P : Pg) {a v : Nat} (ha : a < 8) (hv : v < 1000) : (rsg P (70000 + 1000 * a + v)).1 = decide (a < 8 ∧ iz (nWhole P a) = iz ((v : Nat) : Int)) := by
  unfold rsg
  rw [show (70000 + 1000 * a + v) / 10000 = 7 by omega, show (70000 + 1000 * a + v) / 1000 % 10 = a by omega, show (70000 + 1000 * a + v) / 100 % 10 = v / 100 by omega, show (70000 + 1000 * a + v) % 100 = v % 100 by omega]
  show decide (a < 8 ∧ iz (nWhole P a) = iz ((100 * (v / 100) + v % 100 : Nat) : Int)) = _
  rw [show 100 * (v / 100) + v % 100 = v by omega]
theorem rsg_8 (P : Pg) {a b r : Nat} (ha : a < 10) (hb : b < 10) (hr : r < 10) : (rsg P (80000 + 1000 * a + 100 * b + r)).1 = decide (r / 10 = 0 ∧ (a < gS P ∧ b < gB P) ∧ iz (nNote P a b 0) = iz ((r % 10 : Nat) : Int)) := by
  unfold rsg
  rw [show (80000 + 1000 * a + 100 * b + r) / 10000 = 8 by omega, show (80000 + 1000 * a + 100 * b + r) / 1000 % 10 = a by omega, show (80000 + 1000 * a + 100 * b + r) / 100 % 10 = b by omega, show (80000 + 1000 * a + 100 * b + r) % 100 = r by omega]
  rfl
theorem rsg_9 (P : Pg) {a b r : Nat} (ha : a < 10) (hb : b < 10) (hr : r < 10) : (rsg P (90000 + 1000 * a + 100 * b + r)).1 = decide (r / 10 = 0 ∧ (a < gS P ∧ b < gB P) ∧ iz (nNote P a b 1) = iz ((r % 10 : Nat) : Int)) := by
  unfold rsg
  rw [show (90000 + 1000 * a + 100 * b + r) / 10000 = 9 by omega, show (90000 + 1000 * a + 100 * b + r) / 1000 % 10 = a by omega, show (90000 + 1000 * a + 100 * b + r) / 100 % 10 = b by omega, show (90000 + 1000 * a + 100 * b + r) % 100 = r by omega]
  rfl
theorem rs_no {x : Bool × Pg} {p : Prop} [Decidable p] {Q : Pg} (e : x = (decide p, Q)) (h : ¬ p) : ¬ x.1 = true := by
  rw [e]
  intro z
  exact h (of_decide_eq_true z)
theorem rs_yes {x : Bool × Pg} {p : Prop} [Decidable p] {Q : Pg} (e : x = (decide p, Q)) (h : p) : x.1 = true := by
  rw [e]
  exact decide_eq_true h
theorem sim_nn {P : Pg} (hP : PgOk P) (w : Int64) : 0 ≤ nWhole (simS P w 6).2 0 + 1000 * ((nWhole (simS P w 6).2 1 + nWhole (simS P w 6).2 2) + nWhole (simS P w 6).2 3) ∧ nWhole (simS P w 6).2 0 + 1000 * ((nWhole (simS P w 6).2 1 + nWhole (simS P w 6).2 2) + nWhole (simS P w 6).2 3) ≤ 10000000 := by
  have h := simS_Ok hP w 6
  have a0 := nWhole_rng h (w := 0) (by omega)
  have a1 := nWhole_rng h (w := 1) (by omega)
  have a2 := nWhole_rng h (w := 2) (by omega)
  have a3 := nWhole_rng h (w := 3) (by omega)
  omega
section SCR2
variable {D : Ds}
theorem s_two (hD : DOk D) : Ak (f_L_tryScript 2 1001215002) D 1 D := by
  have a := a_script hD (n := 2) (N := 1001215002) (by omega) (by omega) (by decide) (x := 2) (w := 1001215002) rfl rfl
  have e1 : (rsg (dP D) (1001215002 / 100000 ^ 1 % 100000)).1 = true := by
    show (rsg (dP D) (10000 + 1000 * 0 + 12)).1 = true
    exact rs_yes (rsg_1 _ (by omega) (by omega)) ⟨rfl, Or.inl ⟨rfl, by omega, by omega⟩⟩
  have e2 : ∀ Q : Pg, ¬ (rsg Q (1001215002 / 100000 ^ 0 % 100000)).1 = true := fun Q => by
    show ¬ (rsg Q (10000 + 1000 * 5 + 2)).1 = true
    exact rs_no (rsg_1 _ (by omega) (by omega)) (fun h => by
      have := h.2
      omega)
  unfold rsA at a
  rw [if_pos e1] at a
  unfold rsA at a
  rw [if_neg (e2 _)] at a
  exact a
theorem wr_sound {P : Pg} {s b : Nat} (hs : s < gS P) (v : Int) (hv : gC P s b = v) (h9 : v ≠ 99) : sp P b s = v := by
  unfold sp
  rw [if_pos hs]
  cases b with
  | zero =>
    show (if gC P s 0 = 99 then -9 else gC P s 0) = v
    rw [hv, if_neg h9]
  | succ b =>
    show (if gC P s (b + 1) = 99 then _ else gC P s (b + 1)) = v
    rw [hv, if_neg h9]
theorem s_three (hD : DOk D) : Ak (f_L_tryScript 3 200003000090000) D 2 D := by
  have h1 := hD.2.2.1.1.1.1
  have h2 := hD.2.2.1.1.1.2
  have a := a_script hD (n := 3) (N := 200003000090000) (by omega) (by omega) (by decide) (x := 3) (w := 200003000090000) rfl rfl
  have e1 : rsg (dP D) (200003000090000 / 100000 ^ 2 % 100000) = (decide (0 ≤ 60 ∧ 0 < gS (dP D) ∧ 0 < gB (dP D)), pwr (dP D) 0 0 0) := by
    show rsg (dP D) (20000 + 1000 * 0 + 100 * 0 + 0) = _
    exact rsg_2 _ (by omega) (by omega) (by omega)
  have e2 : ∀ Q : Pg, rsg Q (200003000090000 / 100000 ^ 1 % 100000) = (decide (0 = 0 ∧ 0 < gS Q ∧ 0 < gB Q), pwr Q 0 0 (-1)) := fun Q => rfl
  have e3 : ∀ Q : Pg, gS Q = gS (dP D) → ¬ (rsg (pwr Q 0 0 (-1)) (200003000090000 / 100000 ^ 0 % 100000)).1 = true := fun Q hQ => by
    show ¬ (rsg (pwr Q 0 0 (-1)) (90000 + 1000 * 0 + 100 * 0 + 0)).1 = true
    rw [rsg_9 _ (by omega) (by omega) (by omega)]
    intro h
    have g := (of_decide_eq_true h).2.2
    have k : sp (pwr Q 0 0 (-1)) 0 0 = -9 := wr_sound (P := pwr Q 0 0 (-1)) (by show 0 < gS Q; omega) (-9) rfl (by decide)
    rw [note_1, (rho_none 0 0).mpr k] at g
    exact absurd g (by decide)
  unfold rsA at a
  rw [e1, if_pos (decide_eq_true ⟨by omega, by omega, by omega⟩)] at a
  unfold rsA at a
  rw [e2, if_pos (decide_eq_true ⟨rfl, by show 0 < gS (dP D); omega, by show 0 < gB (dP D); omega⟩)] at a
  unfold rsA at a
  rw [if_neg (e3 (pwr (dP D) 0 0 0) rfl)] at a
  exact a
theorem scripts_ok (hD : DOk D) {n : Nat} (hn : n < 2147483648) {x : Int32} (hx : x = iz (n : Int)) : AkO (f_L_scripts x) D 1 D := by
  subst hx
  have hP := hD.2.2.1
  have h1 := hP.1.1.1
  have h2 := hP.1.1.2
  have e8 : iz (n : Int) - iz (n : Int) / 8 * 8 = iz ((n % 8 : Nat) : Int) := izm (k := 8) hn (by omega) (by omega)
  have d8 : iz (n : Int) / 8 = iz ((n / 8 : Nat) : Int) := izd (k := 8) hn (by omega) (by omega)
  have d64 : iz (n : Int) / 64 = iz ((n / 64 : Nat) : Int) := izd (k := 64) hn (by omega) (by omega)
  have hof : n % 8 < 8 := Nat.mod_lt _ (by omega)
  have hv := nWhole_rng hP hof
  obtain ⟨v, ev⟩ : ∃ v : Nat, nWhole (dP D) (n % 8) = (v : Int) := ⟨(nWhole (dP D) (n % 8)).toNat, by omega⟩
  have hv2 : v ≤ 3200 := by omega
  have hsim := sim_nn hP (Int32.toInt64 (iz (n : Int)) * 101)
  have aS := a_sim hD (Int32.toInt64 (iz (n : Int)) * 101)
  generalize nWhole (simS (dP D) (Int32.toInt64 (iz (n : Int)) * 101) 6).2 0 + 1000 * ((nWhole (simS (dP D) (Int32.toInt64 (iz (n : Int)) * 101) 6).2 1 + nWhole (simS (dP D) (Int32.toInt64 (iz (n : Int)) * 101) 6).2 2) + nWhole (simS (dP D) (Int32.toInt64 (iz (n : Int)) * 101) 6).2 3) = sm at hsim aS
  refine ak_of hD (fun M0 M h => ?_)
  -- the last commands
  have b312 : ∀ M, St1 M0 D M → Tot (f_L_scripts_b312 (iz (n : Int)) (iz (gS (dP D) : Int)) (iz (gB (dP D) : Int)) (iz sm) 1 M) (fun x => x.1 = 1 ∧ St1 M0 D x.2) := fun M h => by
    unfold f_L_scripts_b312
    rw [if_neg (by decide)]
    refine stp (s_no hD (N := 10000 + 1000 * 0 + 0) (by omega) rfl (rs_no (rsg_1 _ (by omega) (by omega)) (fun h => by
      have := h.2
      omega))) h (fun M h => ?_)
    rw [if_pos rfl]
    refine stp (s_two hD) h (fun M h => ?_)
    rw [if_pos rfl]
    refine stp (s_no hD (N := 20000 + 1000 * 0 + 100 * 0 + 61) (by omega) rfl (rs_no (rsg_2 _ (by omega) (by omega) (by omega)) (fun h => by
      have := h.1
      omega))) h (fun M h => ?_)
    rw [if_pos rfl]
    refine stp (s_yes hD (N := 20000 + 1000 * 0 + 100 * 0 + 60) (by omega) rfl (rs_yes (rsg_2 _ (by omega) (by omega) (by omega)) ⟨by omega, by omega, by omega⟩)) h (fun M h => ?_)
    rw [if_pos rfl]
    refine stp (s_no hD (N := 40000) (by omega) rfl (by
      show ¬ decide (0 = 0 ∧ (0 < gS (dP D) ∧ 0 < gB (dP D)) ∧ canW (dP D) 0 0 99) = true
      intro h
      rcases (of_decide_eq_true h).2.2 with z | z
      · exact z rfl
      · exact absurd z.1 (Nat.lt_irrefl 0))) h (fun M h => ?_)
    rw [if_pos rfl]
    refine stp (s_no hD (N := 20000 + 1000 * gS (dP D) + 100 * 0 + 0) (by omega) (by
      rw [i2l_n (by omega), show (1000 : Int64) = jn 1000 from rfl, jn_mul, show (20000 : Int64) = jn 20000 from rfl, jn_add]; rfl) (rs_no (rsg_2 _ (by omega) (by omega) (by omega)) (fun h => by
      have := h.2.1
      omega))) h (fun M h => ?_)
    rw [if_pos rfl]
    refine stp (s_no hD (N := 50000 + 100 * gS (dP D)) (by omega) (by
      rw [i2l_n (by omega), show (100 : Int64) = jn 100 from rfl, jn_mul, show (50000 : Int64) = jn 50000 from rfl, jn_add]) (rs_no (rsg_5 _ (by omega)) (fun h => by
      have := h.2.2.1
      omega))) h (fun M h => ?_)
    rw [if_pos rfl]
    refine stp (s_no hD (N := 60000 + 100 * gB (dP D)) (by omega) (by
      rw [i2l_n (by omega), show (100 : Int64) = jn 100 from rfl, jn_mul, show (60000 : Int64) = jn 60000 from rfl, jn_add]) (by
      rw [rsg_6 _ (by omega)]
      intro h
      have := (of_decide_eq_true h).2.1
      omega)) h (fun M h => ?_)
    rw [if_pos rfl]
    refine stp (s_three hD) h (fun M h => ?_)
    rw [if_pos rfl]
    refine stp (s_no hD (N := 0) (by omega) rfl (by
      show ¬ false = true
      decide)) h (fun M h => ?_)
    rw [if_pos rfl, if_neg (by rw [show (0 : Int32) = iz 0 from rfl, iz_lt (by omega) (by omega) (by omega) (by omega)]; omega)]
    refine stp aS h (fun M h => ?_)
    rw [if_pos rfl]
    exact ak_end h
  have go : ∀ q : Nat, 0 < q → q ≤ 10 → q ≤ gB (dP D) → ∀ M, St1 M0 D M → Tot (f_L_scripts_b52 (iz (n : Int)) (iz (gS (dP D) : Int)) (iz (gB (dP D) : Int)) (iz ((n % 8 : Nat) : Int)) (iz (v : Int)) (iz ((n / 8 % gS (dP D) : Nat) : Int)) (iz (q : Int)) (iz ((n / 64 : Nat) : Int)) M) (fun x => x.1 = 1 ∧ St1 M0 D x.2) := fun q q0 q10 qB M h => by
    unfold f_L_scripts_b52
    have ht : n / 8 % gS (dP D) < gS (dP D) := Nat.mod_lt _ (by omega)
    have hb0 : n / 64 % q < q := Nat.mod_lt _ q0
    have hq : iz ((n / 64 : Nat) : Int) - iz ((n / 64 : Nat) : Int) / iz (q : Int) * iz (q : Int) = iz ((n / 64 % q : Nat) : Int) := izm (by omega) q0 (by omega)
    rw [if_pos (by rw [show (0 : Int32) = iz 0 from rfl, iz_eq (by omega) (by omega) (by omega) (by omega)]; omega), hq]
    generalize n / 8 % gS (dP D) = t at ht
    generalize n / 64 % q = b at hb0
    have hb : b < gB (dP D) := by omega
    have c0 := note0_c (dP D) t b
    have c1 := note1_c (dP D) t b
    refine stp (a_note hD ht hb (w := 0) (by omega) rfl rfl rfl) h (fun M h => ?_)
    refine stp (a_note hD ht hb (w := 1) (by omega) rfl rfl rfl) h (fun M h => ?_)
    refine stp aS h (fun M h => ?_)
    have lt' : iz ((t : Nat) : Int) = iz ((t : Nat) : Int) := rfl
    have et := i2l_n (n := t) (by omega)
    have eb := i2l_n (n := b) (by omega)
    have eo := i2l_n (n := n % 8) (by omega)
    have evv := i2l_n (n := v) (by omega)
    have k7 : (70000 : Int64) = jn 70000 := rfl
    have k71 : (70001 : Int64) = jn 70001 := rfl
    have k8 : (80000 : Int64) = jn 80000 := rfl
    have k9 : (90000 : Int64) = jn 90000 := rfl
    have k94 : (90004 : Int64) = jn 90004 := rfl
    have k1000 : (1000 : Int64) = jn 1000 := rfl
    have k100 : (100 : Int64) = jn 100 := rfl
    -- why it is left out, or that it isn't
    have b277 : ∀ (r : Int32) M, St1 M0 D M → Tot (f_L_scripts_b277 (iz (n : Int)) (iz (gS (dP D) : Int)) (iz (gB (dP D) : Int)) (iz (t : Int)) (iz (b : Int)) (iz sm) r r M) (fun x => x.1 = 1 ∧ St1 M0 D x.2) := fun r M h => by
      unfold f_L_scripts_b277
      rw [if_pos rfl]
      refine stp (s_no hD (N := 90000 + 1000 * t + 100 * b + 4) (by omega) (by
        rw [et, eb, k94, k1000, k100, jn_mul, jn_mul, jn_add, jn_add]
        congr 1
        omega) (by
        rw [rsg_9 _ (by omega) (by omega) (by omega)]
        intro h
        have g := (of_decide_eq_true h).2.2
        rw [iz_eq (by omega) (by omega) (by omega) (by omega)] at g
        omega)) h (fun M h => ?_)
      rw [if_pos rfl]
      exact b312 M h
    have b225 : ∀ M, St1 M0 D M → Tot (f_L_scripts_b225 (iz (n : Int)) (iz (gS (dP D) : Int)) (iz (gB (dP D) : Int)) (iz (t : Int)) (iz (b : Int)) (iz (nNote (dP D) t b 1)) (iz sm) M) (fun x => x.1 = 1 ∧ St1 M0 D x.2) := fun M h => by
      unfold f_L_scripts_b225 f_L_scripts_b259
      have e9 : (iz (nNote (dP D) t b 1) = -9) = (nNote (dP D) t b 1 = -9) := by rw [show (-9 : Int32) = iz (-9) from rfl, iz_eq (by omega) (by omega) (by omega) (by omega)]
      by_cases c : nNote (dP D) t b 1 = -9
      · rw [if_pos (by rw [e9]; exact c)]
        refine stp (s_no hD (N := 90000 + 1000 * t + 100 * b + 0) (by omega) (by
          rw [show Int32.toInt64 0 = jn 0 from i2l_n (n := 0) (by omega), et, eb, k9, k1000, k100, jn_mul, jn_mul, jn_add, jn_add, jn_add]) (by
          rw [rsg_9 _ (by omega) (by omega) (by omega), c]
          intro h
          exact absurd (of_decide_eq_true h).2.2 (by decide))) h (fun M h => ?_)
        rw [if_pos (by rw [e9]; exact c)]
        exact b277 0 M h
      · rw [if_neg (by rw [e9]; exact c)]
        obtain ⟨r, er⟩ : ∃ r : Nat, nNote (dP D) t b 1 = (r : Int) := ⟨(nNote (dP D) t b 1).toNat, by omega⟩
        have r3 : r ≤ 3 := by omega
        refine stp (s_yes hD (N := 90000 + 1000 * t + 100 * b + r) (by omega) (by
          rw [er, i2l_n (n := r) (by omega), et, eb, k9, k1000, k100, jn_mul, jn_mul, jn_add, jn_add, jn_add]) (by
          rw [rsg_9 _ (by omega) (by omega) (by omega), er, show r % 10 = r by omega]
          exact decide_eq_true ⟨by omega, ⟨ht, hb⟩, rfl⟩)) h (fun M h => ?_)
        rw [if_neg (by rw [e9]; exact c)]
        exact b277 (-9) M h
    -- by which hand
    have b155 : ∀ M, St1 M0 D M → Tot (f_L_scripts_b155 (iz (n : Int)) (iz (gS (dP D) : Int)) (iz (gB (dP D) : Int)) (iz (t : Int)) (iz (b : Int)) (iz (nNote (dP D) t b 0)) (iz (nNote (dP D) t b 1)) (iz sm) M) (fun x => x.1 = 1 ∧ St1 M0 D x.2) := fun M h => by
      unfold f_L_scripts_b155
      have e9 : (iz (nNote (dP D) t b 0) = -9) = (nNote (dP D) t b 0 = -9) := by rw [show (-9 : Int32) = iz (-9) from rfl, iz_eq (by omega) (by omega) (by omega) (by omega)]
      by_cases c : nNote (dP D) t b 0 = -9
      · rw [if_pos (by rw [e9]; exact c)]
        refine stp (s_no hD (N := 80000 + 1000 * t + 100 * b + 0) (by omega) (by
          rw [et, eb, k8, k1000, k100, jn_mul, jn_mul, jn_add, jn_add]; rfl) (by
          rw [rsg_8 _ (by omega) (by omega) (by omega), c]
          intro h
          exact absurd (of_decide_eq_true h).2.2 (by decide))) h (fun M h => ?_)
        rw [if_pos rfl]
        exact b225 M h
      · rw [if_neg (by rw [e9]; exact c)]
        obtain ⟨r, er⟩ : ∃ r : Nat, nNote (dP D) t b 0 = (r : Int) := ⟨(nNote (dP D) t b 0).toNat, by omega⟩
        have r3 : r ≤ 1 := by omega
        refine stp (s_yes hD (N := 80000 + 1000 * t + 100 * b + r) (by omega) (by
          rw [er, i2l_n (n := r) (by omega), et, eb, k8, k1000, k100, jn_mul, jn_mul, jn_add, jn_add, jn_add]) (by
          rw [rsg_8 _ (by omega) (by omega) (by omega), er, show r % 10 = r by omega]
          exact decide_eq_true ⟨by omega, ⟨ht, hb⟩, rfl⟩)) h (fun M h => ?_)
        rw [if_pos rfl]
        exact b225 M h
    have b124 : ∀ (a4 a5 a7 : Int32) M, St1 M0 D M → a4 = iz ((n % 8 : Nat) : Int) → a5 = iz (v : Int) → Tot (f_L_scripts_b124 (iz (n : Int)) (iz (gS (dP D) : Int)) (iz (gB (dP D) : Int)) a4 a5 (iz (t : Int)) (iz (b : Int)) (iz (nNote (dP D) t b 0)) (iz (nNote (dP D) t b 1)) (iz sm) M) (fun x => x.1 = 1 ∧ St1 M0 D x.2) := fun a4 a5 _ M h ea eb5 => by
      subst ea eb5
      unfold f_L_scripts_b124
      by_cases c : 998 < v
      · rw [if_pos (by rw [show (998 : Int32) = iz ((998 : Nat) : Int) from rfl, ltz (by omega) (by omega)]; exact c)]
        exact b155 M h
      · rw [if_neg (by rw [show (998 : Int32) = iz ((998 : Nat) : Int) from rfl, ltz (by omega) (by omega)]; exact c)]
        refine stp (s_no hD (N := 70000 + 1000 * (n % 8) + (v + 1)) (by omega) (by
          rw [eo, evv, k71, k1000, jn_mul, jn_add, jn_add]
          congr 1
          omega) (by
          rw [rsg_7 _ hof (by omega), ev]
          intro h
          have g := (of_decide_eq_true h).2
          rw [iz_eq (by omega) (by omega) (by omega) (by omega)] at g
          omega)) h (fun M h => ?_)
        rw [if_pos rfl]
        exact b155 M h
    by_cases c : 999 < v
    · rw [if_pos (by rw [show (999 : Int32) = iz ((999 : Nat) : Int) from rfl, ltz (by omega) (by omega)]; exact c)]
      exact b124 _ _ 0 M h rfl rfl
    · rw [if_neg (by rw [show (999 : Int32) = iz ((999 : Nat) : Int) from rfl, ltz (by omega) (by omega)]; exact c)]
      refine stp (s_yes hD (N := 70000 + 1000 * (n % 8) + v) (by omega) (by
        rw [eo, evv, k7, k1000, jn_mul, jn_add, jn_add]) (by
        rw [rsg_7 _ hof (by omega), ev]
        exact decide_eq_true ⟨hof, rfl⟩)) h (fun M h => ?_)
      rw [if_pos rfl]
      exact b124 _ _ 0 M h rfl rfl
  unfold f_L_scripts
  refine stp (a_S hD) h (fun M h => ?_)
  refine stp (a_B hD) h (fun M h => ?_)
  rw [e8, d8, d64]
  refine stp (a_whole hD hof rfl) h (fun M h => ?_)
  rw [ev, izm (n := n / 8) (k := gS (dP D)) (by omega) (by omega) (by omega), if_pos (by rw [show (0 : Int32) = iz 0 from rfl, iz_eq (by omega) (by omega) (by omega) (by omega)]; omega)]
  by_cases c : 10 ≤ gB (dP D)
  · rw [if_pos (by rw [show (10 : Int32) = iz ((10 : Nat) : Int) from rfl, lez (by omega) (by omega)]; exact c)]
    exact go 10 (by omega) (by omega) c M h
  · rw [if_neg (by rw [show (10 : Int32) = iz ((10 : Nat) : Int) from rfl, lez (by omega) (by omega)]; exact c)]
    exact go (gB (dP D)) (by omega) (by omega) (Nat.le_refl _) M h
end SCR2
