theorem a1z (n : Nat) : iz (n : Int) + 1 = iz ((n + 1 : Nat) : Int) := by
  rw [show (1 : Int32) = iz 1 from rfl, iz_add]; rfl
theorem lez {a b : Nat} (ha : a < 2147483648) (hb : b < 2147483648) : (iz (a : Int) ≤ iz (b : Int)) = (a ≤ b) := by
  rw [iz_le (by omega) (by omega) (by omega) (by omega)]
  exact propext ⟨fun h => by omega, fun h => by omega⟩
theorem bz_and1 (c : Prop) [Decidable c] : bz c &&& 1 = bz c := by
  by_cases h : c
  · rw [bz_t h]; decide
  · rw [bz_f h]; decide
theorem bz_iff {c d : Prop} [Decidable c] [Decidable d] (h : c ↔ d) : bz c = bz d := by
  by_cases k : c
  · rw [bz_t k, bz_t (h.mp k)]
  · rw [bz_f k, bz_f (fun z => k (h.mpr z))]
theorem dnl2_tot {A R : Type} {body : (A → Int32 → Mem → Option R) → A → Int32 → Mem → Option R} {P : R → Prop} (e : Nat) (J : Nat → A → Mem → Prop)
    (hs : ∀ (k : A → Int32 → Mem → Option R) (i : Nat) (a : A) (M : Mem), i < e → J (i + 1) a M → (∀ a' M', J i a' M' → Tot (k a' (iz ((i : Int) - 1)) M') P) → Tot (body k a (iz i) M) P)
    (hx : ∀ (k : A → Int32 → Mem → Option R) (a : A) (M : Mem), J 0 a M → Tot (body k a (iz (-1)) M) P) (n : Nat) (i : Nat) (a : A) (M : Mem) (hi : i ≤ e) (h : J i a M) (hn : i < n) : Tot (lq2 body n a (iz ((i : Int) - 1)) M) P := by
  induction i generalizing n a M with
  | zero =>
    match n, hn with
    | n + 1, _ => exact hx _ a M h
  | succ i ih =>
    match n, hn with
    | n + 1, hn =>
      have e : ((i + 1 : Nat) : Int) - 1 = i := by omega
      rw [e]
      exact hs _ i a M (by omega) h (fun a' M' h' => ih n a' M' (by omega) h' (by omega))
def RO (P : Pg) (b : Nat) (ρ : Nat → Int) : Prop := ∀ s, (ρ s = -9 ∨ (0 ≤ ρ s ∧ ρ s ≤ 3)) ∧ (ρ s = -9 ↔ sp P b s = -9)
theorem RO_rs1 (P : Pg) (b n : Nat) : RO P b (rs1 P b n) := fun s => ⟨by have := rs1_rng P b n s; omega, by rw [rs1_none]⟩
theorem RO_drp (P : Pg) (b t : Nat) : RO P b (drp P b t) := fun s => by
  have h1 := rs1_rng P b 4 s
  have h2 := rs1_none P b 4 s
  refine ⟨drp_rng P b t s, ?_⟩
  rw [← h2]
  unfold drp
  split
  · rename_i z
    have := z.2.2.2
    omega
  · exact Iff.rfl
/-- nothing changes but what is laid for a beat -/
def OffB (b : Nat) (M M' : Mem) : Prop := (∀ d, d ≠ 37 → d ≠ 38 → d ≠ 39 → d ≠ 40 → M' d = M d) ∧ (∀ j, j % 16 ≠ b → M' 37 j = M 37 j) ∧ (∀ j, j / 4 ≠ b → M' 38 j = M 38 j) ∧ (∀ j, j ≠ b → M' 39 j = M 39 j) ∧ ∀ j, j ≠ b → M' 40 j = M 40 j
theorem OffB.rf {b : Nat} {M : Mem} : OffB b M M := ⟨fun _ _ _ _ _ => rfl, fun _ _ => rfl, fun _ _ => rfl, fun _ _ => rfl, fun _ _ => rfl⟩
theorem OffB.tr {b : Nat} {M M' M'' : Mem} (h : OffB b M M') (k : OffB b M' M'') : OffB b M M'' :=
  ⟨fun d a1 a2 a3 a4 => (k.1 d a1 a2 a3 a4).trans (h.1 d a1 a2 a3 a4), fun j hj => (k.2.1 j hj).trans (h.2.1 j hj), fun j hj => (k.2.2.1 j hj).trans (h.2.2.1 j hj), fun j hj => (k.2.2.2.1 j hj).trans (h.2.2.2.1 j hj), fun j hj => (k.2.2.2.2 j hj).trans (h.2.2.2.2 j hj)⟩
theorem OffB.put {b : Nat} {M M' : Mem} (h : OffB b M M') {d i : Nat} {v : Int32} (hd : (d = 37 ∧ i % 16 = b) ∨ (d = 38 ∧ i / 4 = b) ∨ (d = 39 ∧ i = b) ∨ (d = 40 ∧ i = b)) : OffB b M (mw M' d i v) := by
  have ne : ∀ e j, (e = d → j ≠ i) → mw M' d i v e j = M' e j := fun e j hj => by
    by_cases c : e = d
    · rw [c, mw_at, if_neg (hj c)]
    · rw [mw_ne c]
  refine ⟨fun e a1 a2 a3 a4 => by rw [mw_ne (by omega)]; exact h.1 e a1 a2 a3 a4, fun j hj => ?_, fun j hj => ?_, fun j hj => ?_, fun j hj => ?_⟩
  · rw [ne 37 j (fun c e => by subst e; omega)]; exact h.2.1 j hj
  · rw [ne 38 j (fun c e => by subst e; omega)]; exact h.2.2.1 j hj
  · rw [ne 39 j (fun c e => by subst e; omega)]; exact h.2.2.2.1 j hj
  · rw [ne 40 j (fun c e => by subst e; omega)]; exact h.2.2.2.2 j hj
abbrev sdP (P : Pg) (b : Nat) (ρ : Nat → Int) (i o k : Nat) : Prop := (KB P i k ∧ ρ k = 0) ∧ (if o = 0 then sp P b k - sp P b i = 0 else sp P b k - sp P b i ≠ 0 ∧ (sp P b k - sp P b i) % 12 = 0)
section MO
variable {M : Mem} {r b : Nat} {P : Pg} {ρ : Nat → Int}
theorem st_step (hB : MB M P b ρ) (hP : PgW P) (hR : RO P b ρ) (hb : b < gB P) {i k o : Nat} (hi : i < gS P) (hk : k < gS P) (ho : o < 2) (v5 : Int32) (k6 : Int32 → Int32 → Mem → Option (Int32 × Mem)) :
    f_X6_stands_b42 r (iz i) (iz b) (iz o) v5 (iz k) k6 1 M = if ρ k = 0 then (if v5 = 0 then (if (if o = 0 then sp P b k - sp P b i = 0 else sp P b k - sp P b i ≠ 0 ∧ (sp P b k - sp P b i) % 12 = 0) then k6 1 (iz (k + 1 : Nat)) M else k6 0 (iz (k + 1 : Nat)) M) else k6 1 (iz (k + 1 : Nat)) M) else k6 v5 (iz (k + 1 : Nat)) M := by
  unfold f_X6_stands_b42
  have hx := pg_lt hP.1 hk hb
  have hy := pg_lt hP.1 hi hb
  have s1 := sp_rng hP hb k
  have s2 := sp_rng hP hb i
  have hr := hR k
  rw [if_neg (by decide), at_eq, ob_some, if_pos (inb_n (n := 16 * k + b) (by omega) (by omega)), cl_n (by omega), hB.1 k hk, a1z]
  have e9 : (iz (sp P b k) = -9) = (sp P b k = -9) := by rw [show (-9 : Int32) = iz (-9) from rfl, iz_eq (by omega) (by omega) (by omega) (by omega)]
  by_cases c9 : sp P b k = -9
  · rw [if_pos (by rw [e9]; exact c9), if_neg (by have := hr.2.mpr c9; omega)]
  · rw [if_neg (by rw [e9]; exact c9), at_eq, ob_some, if_pos (inb_n (n := 16 * k + b) (by omega) (by omega)), cl_n (by omega), hB.2 k hk]
    have em : mr ρ k = ρ k := by unfold mr; rw [if_neg (fun z => c9 (hr.2.mp z))]
    have e0 : (iz (mr ρ k) = 0) = (ρ k = 0) := by rw [em, show (0 : Int32) = iz 0 from rfl, iz_eq (by omega) (by omega) (by omega) (by omega)]
    by_cases cr : ρ k = 0
    · rw [if_pos (by rw [e0]; exact cr), if_pos cr, at_eq, ob_some, if_pos (inb_n (n := 16 * k + b) (by omega) (by omega)), at_eq, ob_some, if_pos (inb_n (n := 16 * i + b) (by omega) (by omega)), cl_n (n := 16 * k + b) (by omega), hB.1 k hk, cl_n (n := 16 * i + b) (by omega), hB.1 i hi]
      unfold f_X6_stands_b134
      rw [a1z, show (12 : Int32) = iz 12 from rfl, iz_sub]
      by_cases cv : v5 = 0
      · rw [if_pos cv, if_pos cv]
        have ef : (iz (sp P b k - sp P b i) - iz (sp P b k - sp P b i) / iz 12 * iz 12 = 0) = ((sp P b k - sp P b i) % 12 = 0) := far12 (a := sp P b k - sp P b i) (by omega) (by omega)
        have ez : (iz (sp P b k - sp P b i) = 0) = (sp P b k - sp P b i = 0) := by rw [show (0 : Int32) = iz 0 from rfl, iz_eq (by omega) (by omega) (by omega) (by omega)]
        have eo : (iz (o : Int) = 0) = (o = 0) := by
          rw [show (0 : Int32) = iz 0 from rfl, iz_eq (by omega) (by omega) (by omega) (by omega)]
          exact propext ⟨fun h => by omega, fun h => by omega⟩
        by_cases co : o = 0
        · rw [if_pos (by rw [eo]; exact co)]
          by_cases cz : sp P b k - sp P b i = 0
          · rw [if_pos (by rw [ez]; exact cz), if_pos (by rw [if_pos co]; exact cz)]
          · rw [if_neg (by rw [ez]; exact cz), if_neg (by rw [if_pos co]; exact cz)]
        · rw [if_neg (by rw [eo]; exact co)]
          by_cases cz : sp P b k - sp P b i = 0
          · rw [if_pos (by rw [ez]; exact cz), if_neg (by rw [if_neg co]; exact fun z => z.1 cz)]
          · rw [if_neg (by rw [ez]; exact cz)]
            by_cases cf : (sp P b k - sp P b i) % 12 = 0
            · rw [if_pos (by rw [ef]; exact cf), if_pos (by rw [if_neg co]; exact ⟨cz, cf⟩)]
            · rw [if_neg (by rw [ef]; exact cf), if_neg (by rw [if_neg co]; exact fun z => cf z.2)]
      · rw [if_neg cv, if_neg cv]
    · rw [if_neg (by rw [e0]; exact cr), if_neg cr]
theorem stands_eq (h : PR M r 0 P) (hB : MB M P b ρ) (hP : PgW P) (hl : lnA r = 72) (hR : RO P b ρ) (hb : b < gB P) {i o : Nat} (hi : i + 1 < gS P) (hi1 : 1 ≤ i) (ho : o < 2) : f_X6_stands r (iz i) (iz b) (iz o) M = some (bz (∃ k, k < gS P ∧ sdP P b ρ i o k), M) := by
  unfold f_X6_stands
  have h1 := hP.1.1
  have i6 : inb 6 (lnA r) := by rw [hl]; decide
  refine Tot.eq ?_
  rw [show (0 : Int32) = iz ((0 : Nat) : Int) from rfl]
  refine up2_tot (gS P) (fun k v M' => M' = M ∧ v = bz (∃ k', k' < k ∧ sdP P b ρ i o k')) ?_ ?_ 9999 0 _ M (by omega) ⟨rfl, by rw [bz_f (fun ⟨k', hk, _⟩ => Nat.not_lt_zero k' hk)]; rfl⟩ (by omega)
  · intro K k v M' hk ⟨e1, e2⟩ hK
    subst e1
    unfold f_X6_stands_b6
    rw [if_pos i6, c6, h.S, if_neg (by rw [lez (by omega) (by omega)]; omega)]
    have ek : (iz (k : Int) = iz (i : Int)) = (k = i) := by
      rw [iz_eq (by omega) (by omega) (by omega) (by omega)]
      exact propext ⟨fun h => by omega, fun h => by omega⟩
    have skip : ¬ KB P i k → Tot (f_X6_stands_b41 r (iz i) (iz b) (iz o) v (iz k) K M') (fun x => x = (bz (∃ k, k < gS P ∧ sdP P b ρ i o k), M')) := fun hn => by
      unfold f_X6_stands_b41 f_X6_stands_b42
      rw [if_pos rfl, a1z]
      refine hK _ _ ⟨rfl, e2.trans (bz_iff ⟨fun ⟨m, hm, x⟩ => ⟨m, by omega, x⟩, fun ⟨m, hm, x⟩ => ⟨m, ?_, x⟩⟩)⟩
      by_cases d : m = k
      · rw [d] at x; exact absurd x.1.1 hn
      · omega
    have main : KB P i k → Tot (f_X6_stands_b37 r (iz i) (iz b) (iz o) v (iz k) K M') (fun x => x = (bz (∃ k, k < gS P ∧ sdP P b ρ i o k), M')) := fun hn => by
      unfold f_X6_stands_b37
      rw [st_step hB hP hR hb (by omega) hk ho]
      have old : (∃ k', k' < k ∧ sdP P b ρ i o k') → Tot (K 1 (iz ((k + 1 : Nat) : Int)) M') (fun x => x = (bz (∃ k, k < gS P ∧ sdP P b ρ i o k), M')) := fun ⟨m, hm, x⟩ =>
        hK _ _ ⟨rfl, by rw [bz_t ⟨m, by omega, x⟩]; rfl⟩
      by_cases cr : ρ k = 0
      · rw [if_pos cr]
        by_cases cv : ∃ k', k' < k ∧ sdP P b ρ i o k'
        · rw [if_neg (by rw [e2, bz_t cv]; decide)]
          exact old cv
        · rw [if_pos (by rw [e2, bz_f cv]; rfl)]
          by_cases cc : (if o = 0 then sp P b k - sp P b i = 0 else sp P b k - sp P b i ≠ 0 ∧ (sp P b k - sp P b i) % 12 = 0)
          · rw [if_pos cc]
            exact hK _ _ ⟨rfl, by rw [bz_t ⟨k, by omega, ⟨hn, cr⟩, cc⟩]; rfl⟩
          · rw [if_neg cc]
            refine hK _ _ ⟨rfl, ?_⟩
            rw [bz_f]
            · rfl
            · intro ⟨m, hm, x⟩
              by_cases d : m = k
              · rw [d] at x; exact cc x.2
              · exact cv ⟨m, by omega, x⟩
      · rw [if_neg cr]
        refine hK _ _ ⟨rfl, e2.trans (bz_iff ⟨fun ⟨m, hm, x⟩ => ⟨m, by omega, x⟩, fun ⟨m, hm, x⟩ => ⟨m, ?_, x⟩⟩)⟩
        by_cases d : m = k
        · rw [d] at x; exact absurd x.1.2 cr
        · omega
    by_cases ci : k = i
    · rw [if_pos (by rw [ek]; exact ci)]
      exact skip (by omega)
    · rw [if_neg (by rw [ek]; exact ci), rank_eq h hP.1 hl hk, ob_some]
      by_cases ck : k = 0
      · rw [if_pos (by rw [if_pos ck]; decide)]
        exact main (by omega)
      · by_cases cs : k + 1 = gS P
        · rw [if_pos (by rw [if_neg ck, if_pos cs]; decide)]
          exact main (by omega)
        · rw [if_neg (by rw [if_neg ck, if_neg cs]; decide)]
          by_cases cl : i ≤ k
          · rw [if_pos (by rw [lez (by omega) (by omega)]; exact cl)]
            exact skip (by omega)
          · rw [if_neg (by rw [lez (by omega) (by omega)]; exact cl)]
            exact main (by omega)
  · intro K v M' ⟨e1, e2⟩
    subst e1
    unfold f_X6_stands_b6
    rw [if_pos i6, c6, h.S, if_pos (Int32.le_refl _), e2, if_pos (bz_and1 _)]
    exact Tot.mk rfl
end MO
