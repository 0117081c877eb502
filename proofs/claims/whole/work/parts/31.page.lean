/-! THE MODEL: pages -/
def PR (M : Mem) (r off : Nat) (P : Pg) : Prop := (∀ j, j < 6 → M r (off + j) = iz (gE P j)) ∧ M r (off + 6) = iz (gS P) ∧ M r (off + 7) = iz (gB P) ∧ ∀ s b, s < gS P → b < gB P → M r (off + (8 + (16 * s + b))) = iz (gC P s b)
theorem PR.same {M M' : Mem} {r off : Nat} {P : Pg} (h : PR M r off P) (e : M' r = M r) : PR M' r off P := by
  unfold PR
  rw [e]
  exact h
theorem PR.to {M : Mem} {r off : Nat} {P P' : Pg} (h : PR M r off P) (e1 : gS P' = gS P) (e2 : gB P' = gB P) (e3 : ∀ j, j < 6 → gE P' j = gE P j) (e4 : ∀ s b, s < gS P → b < gB P → gC P' s b = gC P s b) : PR M r off P' := by
  obtain ⟨a, b, c, d⟩ := h
  refine ⟨fun j hj => by rw [e3 j hj]; exact a j hj, by rw [e1]; exact b, by rw [e2]; exact c, fun s b hs hb => ?_⟩
  rw [e1] at hs; rw [e2] at hb
  rw [e4 s b hs hb]; exact d s b hs hb
theorem PR.S {M : Mem} {r : Nat} {P : Pg} (h : PR M r 0 P) : M r 6 = iz (gS P) := h.2.1
theorem PR.B {M : Mem} {r : Nat} {P : Pg} (h : PR M r 0 P) : M r 7 = iz (gB P) := h.2.2.1
theorem PR.E {M : Mem} {r : Nat} {P : Pg} (h : PR M r 0 P) {j : Nat} (hj : j < 6) : M r j = iz (gE P j) := by
  have := h.1 j hj
  rw [Nat.zero_add] at this
  exact this
theorem PR.C {M : Mem} {r : Nat} {P : Pg} (h : PR M r 0 P) {s b : Nat} (hs : s < gS P) (hb : b < gB P) : M r (8 + (16 * s + b)) = iz (gC P s b) := by
  have := h.2.2.2 s b hs hb
  rw [Nat.zero_add] at this
  exact this
theorem at_eq (s b : Nat) (M : Mem) : f_X6_at (iz s) (iz b) M = some (iz ((16 * s + b : Nat) : Int), M) := by
  unfold f_X6_at
  rw [show (16 : Int32) = iz 16 from rfl, iz_mul, iz_add]
  congr 3
theorem l8 (n : Nat) : (8 : Int32) + iz (n : Int) = iz ((8 + n : Nat) : Int) := by
  rw [show (8 : Int32) = iz 8 from rfl, iz_add]
  congr 1
theorem c6 : Int32.toNatClampNeg 6 = 6 := by decide
theorem c7 : Int32.toNatClampNeg 7 = 7 := by decide
theorem c0 : Int32.toNatClampNeg 0 = 0 := by decide
theorem c1 : Int32.toNatClampNeg 1 = 1 := by decide
theorem c2 : Int32.toNatClampNeg 2 = 2 := by decide
theorem c3 : Int32.toNatClampNeg 3 = 3 := by decide
theorem c4 : Int32.toNatClampNeg 4 = 4 := by decide
theorem c5 : Int32.toNatClampNeg 5 = 5 := by decide
section MO
variable {M : Mem} {r b : Nat} {P : Pg} {ρ : Nat → Int}
theorem pg_lt (hP : PgD P) {s b : Nat} (hs : s < gS P) (hb : b < gB P) : 16 * s + b < 64 := by
  have h1 := hP.1
  have h2 := hP.2
  omega
theorem isHeld_eq (h : PR M r 0 P) (hP : PgW P) (hl : lnA r = 72) {s : Nat} (hs : s < gS P) (hb : b < gB P) : f_X6_isHeld r (iz s) (iz b) M = some (bz (hd P b s), M) := by
  unfold f_X6_isHeld
  have hx := pg_lt hP.1 hs hb
  have hc := cOk_lt (hP.2.2 s b hs hb)
  rw [at_eq, ob_some, l8, hl, if_pos (inb_n (n := 8 + (16 * s + b)) (by omega) (by omega)), cl_n (by omega), h.C hs hb]
  have e : (iz (gC P s b) = 99) = (gC P s b = 99) := by rw [show (99 : Int32) = iz 99 from rfl, iz_eq (by omega) (by omega) (by omega) (by omega)]
  by_cases c : gC P s b = 99
  · rw [if_pos (by rw [e]; exact c), bz_t ⟨hs, c⟩]; rfl
  · rw [if_neg (by rw [e]; exact c), bz_f (fun z => c z.2)]; rfl
theorem laySounds_tot (h : PR M r 0 P) (hP : PgW P) (hl : lnA r = 72) (hr : r ≠ 36) : Tot (f_X6_laySounds r M) (fun x => (∀ s b, s < gS P → b < gB P → x.2 36 (16 * s + b) = iz (sp P b s)) ∧ Off (fun d => d = 36) M x.2) := by
  unfold f_X6_laySounds
  have h1 := hP.1.1
  have h2 := hP.1.2
  have i7 : inb 7 (lnA r) := by rw [hl]; decide
  have i6 : inb 6 (lnA r) := by rw [hl]; decide
  rw [iz_lit]
  refine up_tot (gS P) (fun s M' => (∀ s' b, s' < s → b < gB P → M' 36 (16 * s' + b) = iz (sp P b s')) ∧ Off (fun d => d = 36) M M') ?_ ?_ 9999 0 M (by omega) ⟨fun s' b hs => absurd hs (Nat.not_lt_zero s'), Off.rf⟩ (by omega)
  · intro k2 s M1 hs ⟨hJ, ho⟩ hk2
    unfold f_X6_laySounds_b2
    have hp1 := h.same (ho r hr)
    rw [if_pos i6, c6, hp1.S]
    simp (disch := omega) only [iz_lit, iz_neg, iz_add, iz_sub, iz_mul, iz_lt, iz_le, iz_eq, iz_inb, iz_cl, bz_0, ob_some]
    rw [if_neg (by omega)]
    refine up2_tot (gB P) (fun b v M' => v = iz (if b = 0 then -9 else snd (gC P s) (b - 1)) ∧ (∀ s' b', (s' < s ∨ (s' = s ∧ b' < b)) → b' < gB P → M' 36 (16 * s' + b') = iz (sp P b' s')) ∧ Off (fun d => d = 36) M M') ?_ ?_ 9999 0 _ M1 (by omega) ⟨rfl, fun s' b' hh hb => hJ s' b' (by omega) hb, ho⟩ (by omega)
    · intro k16 b v M2 hb ⟨hv, hJ2, ho2⟩ hk16
      unfold f_X6_laySounds_b16
      have hp2 := h.same (ho2 r hr)
      have hx := pg_lt hP.1 hs hb
      rw [if_pos i7, c7, hp2.B, isHeld_eq hp2 hP hl hs hb, ob_some]
      have nle : ¬ (iz (gB P : Int) ≤ iz (b : Int)) := by
        rw [iz_le (by omega) (by omega) (by omega) (by omega)]; omega
      rw [if_neg nle]
      have fin : ∀ w : Int32, w = iz (snd (gC P s) b) → Tot (f_X6_laySounds_b51 r (iz s) (iz b) k2 k16 w M2) (fun x => (∀ s b, s < gS P → b < gB P → x.2 36 (16 * s + b) = iz (sp P b s)) ∧ Off (fun d => d = 36) M x.2) := fun w hw => by
        subst hw
        unfold f_X6_laySounds_b51
        rw [at_eq, ob_some, if_pos (inb_n (n := 16 * s + b) (by omega) (by omega)), cl_n (by omega)]
        rw [show iz (b : Int) + 1 = iz ((b + 1 : Nat) : Int) by rw [show (1 : Int32) = iz 1 from rfl, iz_add]; rfl]
        refine hk16 _ _ ⟨by rw [if_neg (by omega)]; rfl, fun s' b' hh hb' => ?_, ho2.put rfl⟩
        rw [mw_at]
        by_cases e : s' = s ∧ b' = b
        · obtain ⟨rfl, rfl⟩ := e
          rw [if_pos rfl]
          unfold sp
          rw [if_pos hs]
        · rw [if_neg (by omega)]
          exact hJ2 s' b' (by omega) hb'
      by_cases c : hd P b s
      · rw [if_neg (by rw [bz_t c]; decide)]
        refine fin _ ?_
        rw [hv]
        cases b with
        | zero => rw [if_pos rfl, snd, if_pos c.2]
        | succ b => rw [if_neg (by omega), snd, if_pos c.2]; rfl
      · rw [if_pos (by rw [bz_f c]; rfl), at_eq, ob_some, l8, hl, if_pos (inb_n (n := 8 + (16 * s + b)) (by omega) (by omega)), cl_n (by omega), hp2.C hs hb]
        have c' : ¬ gC P s b = 99 := fun z => c ⟨hs, z⟩
        refine fin _ ?_
        cases b with
        | zero => rw [snd, if_neg c']
        | succ b => rw [snd, if_neg c']
    · intro k16 v M2 ⟨hv, hJ2, ho2⟩
      unfold f_X6_laySounds_b16
      have hp2 := h.same (ho2 r hr)
      rw [if_pos i7, c7, hp2.B, if_pos (Int32.le_refl _)]
      rw [show iz (s : Int) + 1 = iz ((s + 1 : Nat) : Int) by rw [show (1 : Int32) = iz 1 from rfl, iz_add]; rfl]
      exact hk2 _ ⟨fun s' b' hh hb => hJ2 s' b' (by omega) hb, ho2⟩
  · intro k2 M1 ⟨hJ, ho⟩
    unfold f_X6_laySounds_b2
    have hp1 := h.same (ho r hr)
    rw [if_pos i6, c6, hp1.S, if_pos (Int32.le_refl _)]
    exact Tot.mk ⟨hJ, ho⟩
/-- the model's reasons: none is 0 -/
def mr (ρ : Nat → Int) (s : Nat) : Int := if ρ s = -9 then 0 else ρ s
def MB (M : Mem) (P : Pg) (b : Nat) (ρ : Nat → Int) : Prop := (∀ s, s < gS P → M 36 (16 * s + b) = iz (sp P b s)) ∧ (∀ s, s < gS P → M 37 (16 * s + b) = iz (mr ρ s))
theorem far12 {a : Int} (a1 : -1000 ≤ a) (a2 : a ≤ 1000) : (iz a - iz a / iz 12 * iz 12 = iz 0) = (a % 12 = 0) := by
  by_cases h : 0 ≤ a
  · rw [iz_div h (by omega) (by omega) (by omega), iz_mul, iz_sub, iz_eq (by omega) (by omega) (by omega) (by omega)]
    exact propext ⟨fun z => by omega, fun z => by omega⟩
  · have e : iz a / iz 12 = iz (-((-a) / 12)) := by
      have hv : (iz a / iz 12).toInt = -((-a) / 12) := by
        rw [Int32.toInt_div, iz_toInt (by omega) (by omega), iz_toInt (by omega) (by omega)]
        have h3 : a.tdiv 12 = -((-a) / 12) := by
          rw [show a = -(-a) by omega, Int.neg_tdiv, Int.tdiv_eq_ediv_of_nonneg (by omega)]
          rw [show -(-(-a)) = -a by omega]
        rw [h3]
        refine Int.bmod_eq_of_le ?_ ?_ <;> omega
      rw [← iz_self (iz a / iz 12), hv]
    rw [e, iz_mul, iz_sub, iz_eq (by omega) (by omega) (by omega) (by omega)]
    exact propext ⟨fun z => by omega, fun z => by omega⟩
theorem rank_eq (h : PR M r 0 P) (hP : PgD P) (hl : lnA r = 72) {k : Nat} (hk : k < gS P) : f_X6_rank r (iz k) M = some (iz (if k = 0 then 0 else if k + 1 = gS P then 1 else 2), M) := by
  unfold f_X6_rank
  have h1 := hP.1
  have i6 : inb 6 (lnA r) := by rw [hl]; decide
  rw [if_pos i6, c6, h.S]
  simp (disch := omega) only [iz_lit, iz_neg, iz_add, iz_sub, iz_mul, iz_lt, iz_le, iz_eq, iz_inb, iz_cl, bz_0, ob_some]
  by_cases e : k = 0
  · rw [if_pos (by omega), if_pos e]
  · rw [if_neg (by omega), if_neg e]
    by_cases e2 : k + 1 = gS P
    · rw [if_pos (by omega), if_pos e2]
    · rw [if_neg (by omega), if_neg e2]
end MO
