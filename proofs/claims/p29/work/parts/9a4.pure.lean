/-! WHAT HOLDS OF EVERY PAGE -/
theorem RDx {P : Pg} (hP : PgOk P) : ∃ M, RD M P := by
  have i1 := iSt_eq 1
  have i16 := iCh_eq 16
  let M0 : Mem := fun d j => if d = 47 then (if j = 2 then iz (gS P) else iz (gB P)) else if d = 48 then iz (gE P j) else if d = 49 then iz (gC P (j / 16) (j % 16)) else if d = 297 ∨ d = 298 then iz (-9) else iz 0
  have st : StRep M0 1 P := by
    have h2 := hP.1.1.2
    refine ⟨?_, ?_, fun j hj => ?_, fun s b hs hb => ?_⟩
    · rw [i1]; rfl
    · rw [i1]; rfl
    · rw [i1]; rfl
    · rw [i1]
      show iz (gC P ((s * 16 + b) / 16) ((s * 16 + b) % 16)) = _
      rw [show (s * 16 + b) / 16 = s by omega, show (s * 16 + b) % 16 = b by omega]
  have z : ∀ d j, d ≠ 47 → d ≠ 48 → d ≠ 49 → d ≠ 297 → d ≠ 298 → M0 d j = iz 0 := fun d j a b c e f => by
    show (if d = 47 then _ else if d = 48 then _ else if d = 49 then _ else if d = 297 ∨ d = 298 then iz (-9) else iz 0) = _
    rw [if_neg a, if_neg b, if_neg c, if_neg (by omega)]
  have rz : RZ M0 := by
    refine ⟨fun c hc => z _ _ ?_ ?_ ?_ ?_ ?_, z _ _ ?_ ?_ ?_ ?_ ?_, ?_, ?_, z _ _ ?_ ?_ ?_ ?_ ?_⟩
    all_goals first
      | (have := iCh_eq c; omega)
      | omega
      | (rw [i16]; rfl)
  obtain ⟨⟨u, M1⟩, -, h, -⟩ := make_tot st hP.1 rz (by omega) (by omega)
  exact ⟨M1, h⟩
theorem row_ok {P : Pg} (hP : PgOk P) {b : Nat} (hb : b < gB P) : IsRow (sp P b) (kp (rho P b)) (nn P b) (rR P b (rho P b)) := by
  obtain ⟨M, h⟩ := RDx hP
  exact (h.1.2.1 b hb).2.1.2.2.2
theorem nn_4 {P : Pg} (hP : PgOk P) {b : Nat} (hb : b < gB P) : nn P b ≤ 4 := row_n4 (row_ok hP hb)
theorem sq_in {P : Pg} (hP : PgOk P) {b : Nat} (hb : b < gB P) : sq P b < 5 ∧ sq P b ≤ nn P b ∧ pkk P b (sq P b) := by
  obtain ⟨M, h⟩ := RDx hP
  exact sq_ok h.1 hP.1.2.1 b hb
theorem bef_in {P : Pg} (hP : PgOk P) {b : Nat} (hb : b < gB P) : okB P b (bef P b) := by
  obtain ⟨M, h⟩ := RDx hP
  exact bef_ok h.1 hP.1.2.1 hb
theorem sel_in {P : Pg} (hP : PgOk P) {b : Nat} (hb : b < gB P) (k : Nat) : sel P b k < 5 ∧ sel P b k ≤ nn P b ∧ pkk P b (sel P b k) := by
  obtain ⟨M, h⟩ := RDx hP
  exact sel_ok (h.1.2.1 b hb) hP.1.2.1 k
theorem rho_none {P : Pg} (b s : Nat) : rho P b s = -9 ↔ sp P b s = -9 := by
  have e := rs1_none P b 4 s
  unfold rho drp
  constructor
  · intro h
    by_cases c : 1 ≤ s ∧ tF P b ≤ s ∧ s + 1 < gS P ∧ rs1 P b 4 s = 0
    · rw [if_pos c] at h; omega
    · rw [if_neg c] at h; rw [← e]; exact h
  · intro h
    rw [← e] at h
    rw [if_neg (by omega)]; exact h
theorem rho_cases {P : Pg} (b s : Nat) : rho P b s = -9 ∨ (0 ≤ rho P b s ∧ rho P b s ≤ 3) := drp_rng P b (tF P b) s
/-! counting -/
def cn (f : Nat → Bool) (n : Nat) : Int := sg (fun s => b01 (f s)) n
theorem nf_cn (f : Nat → Bool) (h : f 4 = false) : nf f = cn f 4 := by
  unfold nf cn
  rw [h]
  show b01 (f 0) + b01 (f 1) + b01 (f 2) + b01 (f 3) + b01 false = (((0 + b01 (f 0)) + b01 (f 1)) + b01 (f 2)) + b01 (f 3)
  have : b01 false = 0 := rfl
  omega
theorem b01_le {a b : Bool} (h : a = true → b = true) : b01 a ≤ b01 b := by
  cases a <;> cases b <;> first | decide | (have := h rfl; contradiction)
theorem b01_rng (a : Bool) : 0 ≤ b01 a ∧ b01 a ≤ 1 := by cases a <;> decide
theorem sg_le2 {f g : Nat → Int} : ∀ {n : Nat}, (∀ i, i < n → f i ≤ g i) → sg f n ≤ sg g n
  | 0, _ => Int.le_refl _
  | n + 1, h => by
    have ih := sg_le2 (n := n) (fun i hi => h i (by omega))
    have := h n (by omega)
    show sg f n + f n ≤ sg g n + g n
    omega
theorem lf_4 {P : Pg} {b : Nat} {ρ : Nat → Int} {n : Nat} {k s : Nat} (hR : IsRow (sp P b) (kp ρ) n (rR P b ρ)) (hk : k ≤ n) (hs : 4 ≤ s) : lf P b ρ k s = false := by
  refine decide_eq_false (fun ⟨i, hi, e⟩ => ?_)
  have := (hR.1 i (by omega)).1
  omega
theorem sg_one {f g : Nat → Int} {r : Nat} : ∀ {n : Nat}, (∀ i, i < n → i ≠ r → g i = f i) → (r < n → g r = f r + 1) → sg g n = sg f n + (if r < n then 1 else 0)
  | 0, _, _ => by rw [if_neg (Nat.not_lt_zero r)]; rfl
  | n + 1, h, k => by
    have ih := sg_one (n := n) (r := r) (fun i hi => h i (by omega)) (fun hr => k (by omega))
    show sg g n + g n = sg f n + f n + _
    rw [ih]
    by_cases e : n = r
    · subst e
      rw [if_neg (by omega), if_pos (by omega), k (by omega)]
      omega
    · rw [h n (by omega) e]
      by_cases c : r < n
      · rw [if_pos c, if_pos (by omega)]; omega
      · rw [if_neg c, if_neg (by omega)]; omega
theorem cn_lf {P : Pg} {b : Nat} {ρ : Nat → Int} {n : Nat} (hR : IsRow (sp P b) (kp ρ) n (rR P b ρ)) : ∀ k, k ≤ n → cn (lf P b ρ k) 4 = k
  | 0, _ => by
    have e : ∀ s, lf P b ρ 0 s = false := fun s => decide_eq_false (fun ⟨i, hi, _⟩ => absurd hi (Nat.not_lt_zero i))
    unfold cn
    rw [sg_cong (g := fun _ => 0) (fun i _ => by rw [e i]; rfl)]
    rfl
  | k + 1, hk => by
    have ih := cn_lf hR k (by omega)
    have hr := (hR.1 k (by omega)).1
    have no : lf P b ρ k (rR P b ρ k) = false := decide_eq_false (fun ⟨i, hi, e⟩ => by
      have l := hR.2.2 i k hi (by omega)
      rw [e] at l
      omega)
    have yes : lf P b ρ (k + 1) (rR P b ρ k) = true := decide_eq_true ⟨k, by omega, rfl⟩
    unfold cn at ih ⊢
    rw [sg_one (f := fun s => b01 (lf P b ρ k s)) (r := rR P b ρ k) (fun s hs hne => ?_) (fun _ => ?_), ih, if_pos hr]
    · rfl
    · show b01 (lf P b ρ (k + 1) s) = b01 (lf P b ρ k s)
      congr 1
      refine decide_eq_decide.mpr ⟨fun ⟨i, hi, e⟩ => ⟨i, ?_, e⟩, fun ⟨i, hi, e⟩ => ⟨i, by omega, e⟩⟩
      by_cases c : i = k
      · rw [c] at e; exact absurd e.symm hne
      · omega
    · show b01 (lf P b ρ (k + 1) (rR P b ρ k)) = b01 (lf P b ρ k (rR P b ρ k)) + 1
      rw [no, yes]; rfl
theorem nf_lb {P : Pg} (hP : PgOk P) {b : Nat} (hb : b < gB P) {k : Nat} (hk : k ≤ nn P b) : nf (lb P b k) = k := by
  show nf (lf P b (rho P b) k) = _
  rw [nf_cn _ (lf_4 (row_ok hP hb) hk (by omega))]
  exact cn_lf (row_ok hP hb) k hk
