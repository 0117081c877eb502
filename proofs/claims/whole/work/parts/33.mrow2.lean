theorem OffB.r {b : Nat} {M M' : Mem} (h : OffB b M M') {r : Nat} (hr : r < 37) : M' r = M r := h.1 r (by omega) (by omega) (by omega) (by omega)
theorem MB.off {M M' : Mem} {P : Pg} {b b' : Nat} {ρ : Nat → Int} (h : MB M P b ρ) (o : OffB b' M M') (hb : b < 16) (hn : b ≠ b') : MB M' P b ρ :=
  ⟨fun s hs => by rw [o.r (by omega)]; exact h.1 s hs, fun s hs => by rw [o.2.1 _ (by omega)]; exact h.2 s hs⟩
theorem MB.put {M : Mem} {P : Pg} {b : Nat} {ρ : Nat → Int} (h : MB M P b ρ) {d j : Nat} {v : Int32} (k : d ≠ 36 ∧ d ≠ 37) : MB (mw M d j v) P b ρ :=
  ⟨fun s hs => by rw [mw_ne (by omega)]; exact h.1 s hs, fun s hs => by rw [mw_ne (by omega)]; exact h.2 s hs⟩
theorem ex1_iff {P : Pg} {b i : Nat} {ρ : Nat → Int} (h4 : gS P ≤ 4) (hi : i + 1 < gS P) : ex1 P b ρ i 4 ↔ ∃ k, k < gS P ∧ sdP P b ρ i 0 k := by
  refine ⟨fun ⟨k, _, x, y⟩ => ⟨k, by have := x.1; omega, x, ?_⟩, fun ⟨k, hk, x, y⟩ => ⟨k, by omega, x, ?_⟩⟩
  · rw [if_pos rfl]; omega
  · rw [if_pos rfl] at y; omega
theorem ex2_iff {P : Pg} {b i : Nat} {ρ : Nat → Int} (h4 : gS P ≤ 4) (hi : i + 1 < gS P) (hn : ¬ ex1 P b ρ i 4) : ex2 P b ρ i 4 ↔ gE P 4 = 1 ∧ ∃ k, k < gS P ∧ sdP P b ρ i 1 k := by
  refine ⟨fun ⟨o, k, hk, x, y⟩ => ⟨o, k, by have := x.1; omega, x, ?_⟩, fun ⟨o, k, hk, x, y⟩ => ⟨o, k, by omega, x, ?_⟩⟩
  · rw [if_neg (by omega)]
    refine ⟨fun z => hn ⟨k, hk, x, by omega⟩, by omega⟩
  · rw [if_neg (by omega)] at y; omega
section MO
variable {M : Mem} {r b : Nat} {P : Pg} {ρ : Nat → Int}
theorem layReasons_tot (h : PR M r 0 P) (hs : ∀ s, s < gS P → M 36 (16 * s + b) = iz (sp P b s)) (hP : PgW P) (hl : lnA r = 72) (hr : r < 36) (hb : b < gB P) : Tot (f_X6_layReasons r (iz b) M) (fun x => MB x.2 P b (rs1 P b 4) ∧ OffB b M x.2) := by
  unfold f_X6_layReasons
  have h1 := hP.1.1
  have h2 := hP.1.2
  have i6 : inb 6 (lnA r) := by rw [hl]; decide
  have i4 : inb 4 (lnA r) := by rw [hl]; decide
  rw [show (0 : Int32) = iz ((0 : Nat) : Int) from rfl]
  refine up_tot (gS P) (fun s M' => (∀ t, t < s → M' 37 (16 * t + b) = iz 0) ∧ OffB b M M') ?_ ?_ 9999 0 M (by omega) ⟨fun t ht => absurd ht (Nat.not_lt_zero t), OffB.rf⟩ (by omega)
  · intro k s M1 hs1 ⟨hJ, ho⟩ hk
    unfold f_X6_layReasons_b2
    have hx := pg_lt hP.1 hs1 hb
    rw [if_pos i6, c6, (h.same (ho.r (by omega))).S, if_neg (by rw [lez (by omega) (by omega)]; omega), at_eq, ob_some, if_pos (inb_n (n := 16 * s + b) (by omega) (by omega)), cl_n (n := 16 * s + b) (by omega), a1z]
    refine hk _ ⟨fun t ht => ?_, ho.put (Or.inl ⟨rfl, by omega⟩)⟩
    rw [mw_at]
    by_cases e : t = s
    · rw [if_pos (by omega)]; rfl
    · rw [if_neg (by omega)]; exact hJ t (by omega)
  · intro k M1 ⟨hJ, ho⟩
    unfold f_X6_layReasons_b2
    rw [if_pos i6, c6, (h.same (ho.r (by omega))).S, if_pos (Int32.le_refl _)]
    unfold f_X6_layReasons_b27
    have r1 : rs1 P b 1 = r0 P b := by
      funext s
      show (if s = 0 ∧ 1 ≤ 0 ∧ 0 + 1 < gS P ∧ rs1 P b 0 s = 0 then rOf P b (rs1 P b 0) s else rs1 P b 0 s) = _
      rw [if_neg (by omega)]
      rfl
    have hT : ∃ t0, t0 ≤ 3 ∧ ((gS P ≤ 2 ∧ t0 = 1) ∨ (2 < gS P ∧ t0 + 1 = gS P)) := by
      by_cases e : gS P ≤ 2
      · exact ⟨1, by omega, Or.inl ⟨e, rfl⟩⟩
      · exact ⟨gS P - 1, by omega, Or.inr ⟨by omega, by omega⟩⟩
    obtain ⟨t0, ht3, ht⟩ := hT
    have hB0 : MB M1 P b (rs1 P b 1) := by
      refine ⟨fun s hs1 => by rw [ho.r (by omega)]; exact hs s hs1, fun s hs1 => ?_⟩
      rw [hJ s hs1, r1]
      unfold mr r0
      by_cases e : sp P b s = -9
      · rw [if_pos e, if_pos rfl]
      · rw [if_neg e, if_neg (by omega)]
    have hle : ∀ i : Nat, i < 5 → (iz (gS P : Int) - 1 ≤ iz (i : Int)) = ((gS P : Int) - 1 ≤ i) := fun i hi => by
      rw [show (1 : Int32) = iz 1 from rfl, iz_sub, iz_le (by omega) (by omega) (by omega) (by omega)]
    rw [show (1 : Int32) = iz ((1 : Nat) : Int) from rfl]
    refine up_tot t0 (fun n M' => 1 ≤ n ∧ MB M' P b (rs1 P b n) ∧ OffB b M M') ?_ ?_ 9999 1 M1 (by omega) ⟨by omega, hB0, ho⟩ (by omega)
    · intro k i M2 hi ⟨hi1, hB, ho⟩ hk
      unfold f_X6_layReasons_b29
      have hx := pg_lt hP.1 (s := i) (by omega) hb
      have hp2 := h.same (M' := M2) (ho.r (by omega))
      have hR := RO_rs1 P b i
      have sr := sp_rng hP hb i
      have e9 : (iz (sp P b i) = -9) = (sp P b i = -9) := by rw [show (-9 : Int32) = iz (-9) from rfl, iz_eq (by omega) (by omega) (by omega) (by omega)]
      have one : ∀ s, s ≠ i → rs1 P b (i + 1) s = rs1 P b i s := fun s hs => by
        show (if s = i ∧ 1 ≤ i ∧ i + 1 < gS P ∧ rs1 P b i s = 0 then rOf P b (rs1 P b i) s else rs1 P b i s) = _
        rw [if_neg (fun z => hs z.1)]
      rw [if_pos i6, c6, hp2.S, if_neg (by rw [hle i (by omega)]; omega), at_eq, ob_some, if_pos (inb_n (n := 16 * i + b) (by omega) (by omega)), cl_n (n := 16 * i + b) (by omega), hB.1 i (by omega), a1z]
      by_cases c9 : sp P b i = -9
      · rw [if_pos (by rw [e9]; exact c9)]
        refine hk _ ⟨by omega, ⟨hB.1, fun s hs1 => ?_⟩, ho⟩
        rw [hB.2 s hs1]
        by_cases d : s = i
        · rw [d]
          have : rs1 P b (i + 1) i = rs1 P b i i := by
            show (if i = i ∧ 1 ≤ i ∧ i + 1 < gS P ∧ rs1 P b i i = 0 then rOf P b (rs1 P b i) i else rs1 P b i i) = _
            rw [if_neg]
            intro z
            have := ((hR i).2).mpr c9
            omega
          unfold mr
          rw [this]
        · unfold mr
          rw [one s d]
      · rw [if_neg (by rw [e9]; exact c9), at_eq, ob_some]
        have z0 : rs1 P b i i = 0 := by
          rw [rs1_one P b (Nat.le_refl i)]
          unfold r0
          rw [if_neg c9]
        have new : rs1 P b (i + 1) i = rOf P b (rs1 P b i) i := by
          show (if i = i ∧ 1 ≤ i ∧ i + 1 < gS P ∧ rs1 P b i i = 0 then rOf P b (rs1 P b i) i else rs1 P b i i) = _
          rw [if_pos ⟨rfl, hi1, by omega, z0⟩]
        have rr := rOf_rng P b (rs1 P b i) i
        have fin : ∀ v : Int32, v = iz (rOf P b (rs1 P b i) i) → Tot (k (iz ((i + 1 : Nat) : Int)) (mw M2 37 (16 * i + b) v)) (fun x => MB x.2 P b (rs1 P b 4) ∧ OffB b M x.2) := fun v hv => by
          refine hk _ ⟨by omega, ⟨fun s hs1 => by rw [mw_ne (by omega)]; exact hB.1 s hs1, fun s hs1 => ?_⟩, ho.put (Or.inl ⟨rfl, by omega⟩)⟩
          rw [mw_at]
          by_cases d : s = i
          · rw [if_pos (by omega), hv, d]
            unfold mr
            rw [new, if_neg (by omega)]
          · rw [if_neg (by omega), hB.2 s hs1]
            unfold mr
            rw [one s d]
        have s0 := stands_eq hp2 hB hP hl hR hb (i := i) (o := 0) (by omega) (by omega) (by omega)
        have s1 := stands_eq hp2 hB hP hl hR hb (i := i) (o := 1) (by omega) (by omega) (by omega)
        rw [show (iz ((0 : Nat) : Int)) = 0 from rfl] at s0
        rw [show (iz ((1 : Nat) : Int)) = 1 from rfl] at s1
        have i1 := ex1_iff (b := b) (ρ := rs1 P b i) h1.2 (i := i) (by omega)
        rw [s0, ob_some]
        by_cases x1 : ∃ k, k < gS P ∧ sdP P b (rs1 P b i) i 0 k
        · rw [if_neg (by rw [bz_t x1]; decide), if_pos (inb_n (n := 16 * i + b) (by omega) (by omega)), cl_n (n := 16 * i + b) (by omega)]
          refine fin _ ?_
          unfold rOf
          rw [if_pos (i1.mpr x1)]
          rfl
        · have n1 : ¬ ex1 P b (rs1 P b i) i 4 := fun z => x1 (i1.mp z)
          have i2 := ex2_iff (b := b) (ρ := rs1 P b i) h1.2 (i := i) (by omega) n1
          have e4 := PgE_rng hP.2.1 (j := 4) (by omega)
          have eq4 : (iz (gE P 4) = 1) = (gE P 4 = 1) := by rw [show (1 : Int32) = iz 1 from rfl, iz_eq (by omega) (by omega) (by omega) (by omega)]
          rw [if_pos (by rw [bz_f x1]; rfl), if_pos i4, c4, hp2.E (by omega)]
          by_cases o4 : gE P 4 = 1
          · rw [if_pos (by rw [eq4]; exact o4), s1, ob_some]
            by_cases x2 : ∃ k, k < gS P ∧ sdP P b (rs1 P b i) i 1 k
            · rw [if_neg (by rw [bz_t x2]; decide), if_pos (inb_n (n := 16 * i + b) (by omega) (by omega)), cl_n (n := 16 * i + b) (by omega)]
              refine fin _ ?_
              unfold rOf
              rw [if_neg n1, if_pos (i2.mpr ⟨o4, x2⟩)]
              rfl
            · rw [if_pos (by rw [bz_f x2]; rfl), if_pos (inb_n (n := 16 * i + b) (by omega) (by omega)), cl_n (n := 16 * i + b) (by omega)]
              refine fin _ ?_
              unfold rOf
              rw [if_neg n1, if_neg (fun z => x2 (i2.mp z).2)]
              rfl
          · rw [if_neg (by rw [eq4]; exact o4), if_pos (inb_n (n := 16 * i + b) (by omega) (by omega)), cl_n (n := 16 * i + b) (by omega)]
            refine fin _ ?_
            unfold rOf
            rw [if_neg n1, if_neg (fun z => o4 (i2.mp z).1)]
            rfl
    · intro k M2 ⟨_, hB, ho⟩
      unfold f_X6_layReasons_b29
      rw [if_pos i6, c6, (h.same (M' := M2) (ho.r (by omega))).S, if_pos (by rw [hle t0 (by omega)]; omega)]
      rw [rs1_top4 P b (by omega) (n := t0) (by omega) (by omega)] at hB
      exact Tot.mk ⟨hB, ho⟩
def MW (M : Mem) (P : Pg) (b : Nat) (ρ : Nat → Int) : Prop := M 39 b = iz (rN P b ρ) ∧ (∀ i, i < rN P b ρ → M 38 (4 * b + i) = iz (rR P b ρ i)) ∧ IsRow (sp P b) (kp ρ) (rN P b ρ) (rR P b ρ)
theorem kept_lt {P : Pg} {b s : Nat} {ρ : Nat → Int} (hR : RO P b ρ) (h : ρ s = 0) : s < gS P ∧ sp P b s ≠ -9 := by
  have h9 : sp P b s ≠ -9 := fun z => by have := (hR s).2.mpr z; omega
  refine ⟨?_, h9⟩
  refine Nat.lt_of_not_le fun c => h9 ?_
  unfold sp
  rw [if_neg (by omega)]
theorem ix4 (b n : Nat) : (4 : Int32) * iz (b : Int) + iz (n : Int) = iz ((4 * b + n : Nat) : Int) := by
  rw [show (4 : Int32) = iz 4 from rfl, iz_mul, iz_add]; rfl
theorem layRow_tot (h : PR M r 0 P) (hB : MB M P b ρ) (hR : RO P b ρ) (hP : PgW P) (hl : lnA r = 72) (hr : r < 36) (hb : b < gB P) : Tot (f_X6_layRow r (iz b) M) (fun x => MB x.2 P b ρ ∧ MW x.2 P b ρ ∧ OffB b M x.2) := by
  unfold f_X6_layRow
  have h1 := hP.1.1
  have h2 := hP.1.2
  have i6 : inb 6 (lnA r) := by rw [hl]; decide
  rw [show (0 : Int32) = iz ((0 : Nat) : Int) from rfl]
  refine up2_tot 61 (fun x v M' => ∃ (n : Nat) (q : Nat → Nat), v = iz n ∧ IsRow (sp P b) (fun t => ρ t = 0 ∧ sp P b t < x) n q ∧ (∀ i, i < n → M' 38 (4 * b + i) = iz (q i)) ∧ MB M' P b ρ ∧ OffB b M M') ?_ ?_ 9999 0 _ M (by omega) ⟨0, fun _ => 0, rfl, row_nil (fun s _ z => by
    have := (kept_lt hR z.1).2
    have := sp_rng hP hb s
    have := z.2
    have hsn := snd_rng (c := gC P s) (n := gB P)
    have hlt := (kept_lt hR z.1).1
    have := snd_rng (n := gB P) (fun b hb => hP.2.2 s b hlt hb) b hb
    unfold sp at *
    rw [if_pos hlt] at *
    omega) _, fun i hi => absurd hi (Nat.not_lt_zero i), hB, OffB.rf⟩ (by omega)
  · intro k5 x v M1 hx ⟨n, q, hv, hq, hrow, hB, ho⟩ hk5
    unfold f_X6_layRow_b5
    have hp1 := h.same (M' := M1) (ho.r (by omega))
    have gt60 : ¬ ((60 : Int32) < iz (x : Int)) := by
      rw [show (60 : Int32) = iz 60 from rfl, iz_lt (by omega) (by omega) (by omega) (by omega)]; omega
    rw [if_neg gt60, if_pos i6, c6, hp1.S, show (1 : Int32) = iz 1 from rfl, iz_sub]
    refine dnl2_tot (gS P) (fun s v M' => ∃ (n : Nat) (q : Nat → Nat), v = iz n ∧ IsRow (sp P b) (fun t => ρ t = 0 ∧ (sp P b t < x ∨ (sp P b t = x ∧ s ≤ t))) n q ∧ (∀ i, i < n → M' 38 (4 * b + i) = iz (q i)) ∧ MB M' P b ρ ∧ OffB b M M') ?_ ?_ 9999 (gS P) v M1 (Nat.le_refl _) ⟨n, q, hv, row_cong hq (fun s hs => ⟨fun z => ⟨z.1, by have := (kept_lt hR z.1).1; omega⟩, fun z => ⟨z.1, Or.inl z.2⟩⟩) (fun _ _ => rfl), hrow, hB, ho⟩ (by omega)
    · intro k20 s v M2 hs ⟨n, q, hv, hq, hrow, hB, ho⟩ hk20
      subst hv
      unfold f_X6_layRow_b20
      have hx16 := pg_lt hP.1 hs hb
      have sr := sp_rng hP hb s
      have lt0 : ¬ (iz (s : Int) < 0) := by
        rw [show (0 : Int32) = iz 0 from rfl, iz_lt (by omega) (by omega) (by omega) (by omega)]; omega
      have ex : (iz (sp P b s) = iz (x : Int)) = (sp P b s = x) := iz_eq (by omega) (by omega) (by omega) (by omega)
      have dec : iz (s : Int) + (-1) = iz ((s : Int) - 1) := by
        rw [show (-1 : Int32) = iz (-1) from rfl, iz_add]; rfl
      have same : ¬ (ρ s = 0 ∧ sp P b s = x) → Tot (k20 (iz (n : Int)) (iz ((s : Int) - 1)) M2) (fun x => MB x.2 P b ρ ∧ MW x.2 P b ρ ∧ OffB b M x.2) := fun hn => by
        refine hk20 _ _ ⟨n, q, rfl, row_cong hq (fun t ht => ⟨fun z => ⟨z.1, ?_⟩, fun z => ⟨z.1, by omega⟩⟩) (fun _ _ => rfl), hrow, hB, ho⟩
        by_cases e : t = s
        · rw [e] at z ⊢
          exact Or.inl (by have := z.2; have : ¬ sp P b s = x := fun y => hn ⟨z.1, y⟩; omega)
        · have := z.2; omega
      rw [if_neg lt0, at_eq, ob_some, if_pos (inb_n (n := 16 * s + b) (by omega) (by omega)), cl_n (n := 16 * s + b) (by omega), hB.1 s hs, dec]
      by_cases cx : sp P b s = x
      · rw [if_pos (by rw [ex]; exact cx), at_eq, ob_some, if_pos (inb_n (n := 16 * s + b) (by omega) (by omega)), cl_n (n := 16 * s + b) (by omega), hB.2 s hs]
        have hrs := hR s
        have em : mr ρ s = ρ s := by unfold mr; rw [if_neg (fun z => by have := hrs.2.mp z; omega)]
        have e0 : (iz (mr ρ s) = 0) = (ρ s = 0) := by rw [em, show (0 : Int32) = iz 0 from rfl, iz_eq (by omega) (by omega) (by omega) (by omega)]
        by_cases cr : ρ s = 0
        · have hq' : IsRow (sp P b) (fun t => ρ t = 0 ∧ (sp P b t < x ∨ (sp P b t = x ∧ s ≤ t))) (n + 1) (rIns q n s) := row_ins hq (by omega) (Nat.le_refl n) (fun i hi => by
            have := (hq.1 i hi).2.2
            omega) (fun i a c => by omega) (fun t => ⟨fun z => by
              by_cases e : t = s
              · exact Or.inr e
              · exact Or.inl ⟨z.1, by have := z.2; omega⟩, fun z => by
              rcases z with z | z
              · exact ⟨z.1, by have := z.2; omega⟩
              · rw [z]; exact ⟨cr, Or.inr ⟨cx, Nat.le_refl s⟩⟩⟩)
          have n4 := row_n4 hq'
          rw [if_pos (by rw [e0]; exact cr), ix4, if_pos (inb_n (n := 4 * b + n) (by omega) (by omega)), cl_n (n := 4 * b + n) (by omega), a1z n]
          refine hk20 _ _ ⟨n + 1, rIns q n s, rfl, hq', fun i hi => ?_, hB.put (by omega), ho.put (Or.inr (Or.inl ⟨rfl, by omega⟩))⟩
          rw [mw_at]
          unfold rIns
          by_cases e : i = n
          · rw [if_pos (by omega), if_neg (by omega), if_pos e]
          · rw [if_neg (by omega), if_pos (by omega)]
            exact hrow i (by omega)
        · rw [if_neg (by rw [e0]; exact cr)]
          exact same (fun z => cr z.1)
      · rw [if_neg (by rw [ex]; exact cx)]
        exact same (fun z => cx z.2)
    · intro k20 v M2 ⟨n, q, hv, hq, hrow, hB, ho⟩
      unfold f_X6_layRow_b20
      rw [if_pos (by decide), show iz (x : Int) + 1 = iz ((x + 1 : Nat) : Int) from a1z x]
      exact hk5 _ _ ⟨n, q, hv, row_cong hq (fun t ht => ⟨fun z => ⟨z.1, by have := z.2; omega⟩, fun z => ⟨z.1, by have := z.2; omega⟩⟩) (fun _ _ => rfl), hrow, hB, ho⟩
  · intro k5 v M1 ⟨n, q, hv, hq, hrow, hB, ho⟩
    subst hv
    unfold f_X6_layRow_b5
    rw [if_pos (by decide)]
    unfold f_X6_layRow_b82
    rw [if_pos (inb_n (n := b) (by omega) (by omega)), cl_n (n := b) (by omega)]
    have hq' : IsRow (sp P b) (kp ρ) n q := row_cong hq (fun t ht => ⟨fun z => ⟨z, by have := sp_rng hP hb t; omega⟩, fun z => z.1⟩) (fun _ _ => rfl)
    obtain ⟨hX, en, er⟩ := rwX_eq hq'
    have en : n = rN P b ρ := en
    refine Tot.mk ⟨hB.put (by omega), ⟨?_, fun i hi => ?_, hX⟩, ho.put (Or.inr (Or.inr (Or.inl ⟨rfl, rfl⟩)))⟩
    · show mw M1 39 b (iz n) 39 b = _
      rw [mw_at, if_pos rfl, en]
    · show mw M1 39 b (iz n) 38 (4 * b + i) = _
      rw [mw_ne (by omega), hrow i (by omega)]
      have : q i = rR P b ρ i := er i (by omega)
      rw [this]
end MO
