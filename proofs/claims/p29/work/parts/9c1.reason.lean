/-! WHY NOTES ARE LEFT OUT -/
theorem rs_keep (P : Pg) (b n : Nat) : ∀ m, n ≤ m → ∀ k, (k < n ∨ gS P ≤ k + 1) → rs1 P b m k = rs1 P b n k
  | 0, hm, k, _ => by rw [show n = 0 by omega]
  | m + 1, hm, k, hk => by
    by_cases e : n = m + 1
    · rw [e]
    · have ih := rs_keep P b n m (by omega) k hk
      show (if k = m ∧ 1 ≤ m ∧ m + 1 < gS P ∧ rs1 P b m k = 0 then rOf P b (rs1 P b m) k else rs1 P b m k) = _
      rw [if_neg (fun z => ?_), ih]
      have := z.2.2.1
      omega
theorem rs_out (P : Pg) (b : Nat) {s : Nat} (h : ¬ (1 ≤ s ∧ s + 1 < gS P)) : ∀ n, rs1 P b n s = r0 P b s
  | 0 => rfl
  | n + 1 => by
    show (if s = n ∧ 1 ≤ n ∧ n + 1 < gS P ∧ rs1 P b n s = 0 then rOf P b (rs1 P b n) s else rs1 P b n s) = _
    rw [if_neg (fun z => h ?_), rs_out P b h n]
    have := z.1
    have := z.2.1
    have := z.2.2.1
    omega
theorem rs_in (P : Pg) (b : Nat) {s : Nat} (h1 : 1 ≤ s) (h2 : s + 1 < gS P) (h4 : s < 4) (hz : r0 P b s = 0) : rs1 P b 4 s = rOf P b (rs1 P b s) s := by
  rw [rs_keep P b (s + 1) 4 (by omega) s (Or.inl (by omega))]
  show (if s = s ∧ 1 ≤ s ∧ s + 1 < gS P ∧ rs1 P b s s = 0 then rOf P b (rs1 P b s) s else rs1 P b s s) = _
  rw [if_pos ⟨rfl, h1, h2, by rw [rs1_one P b (Nat.le_refl s)]; exact hz⟩]
theorem r0_c (P : Pg) (b s : Nat) : r0 P b s = -9 ∨ r0 P b s = 0 := by
  unfold r0
  split
  · exact Or.inl rfl
  · exact Or.inr rfl
theorem rho_rs {P : Pg} {b s : Nat} (h : rho P b s = 1 ∨ rho P b s = 2) : rs1 P b 4 s = rho P b s := by
  unfold rho drp at h ⊢
  by_cases c : 1 ≤ s ∧ tF P b ≤ s ∧ s + 1 < gS P ∧ rs1 P b 4 s = 0
  · rw [if_pos c] at h; omega
  · rw [if_neg c]
theorem rho_inner {P : Pg} {b s : Nat} (h : 0 < rho P b s) : 1 ≤ s ∧ s + 1 < gS P := by
  by_cases c : 1 ≤ s ∧ s + 1 < gS P
  · exact c
  · have e := rs_out P b c 4
    have r := r0_c P b s
    unfold rho drp at h
    rw [if_neg (fun z => c ⟨z.1, z.2.2.1⟩), e] at h
    omega
theorem kept_at {P : Pg} (hP : PgOk P) {b i k : Nat} (hi : i < 4) (hk4 : k < 4) (hb : KB P i k) (hz : rs1 P b i k = 0) : k < gS P ∧ sp P b k ≠ -9 ∧ rho P b k ≠ 1 ∧ rho P b k ≠ 2 := by
  have e : rs1 P b 4 k = 0 := by
    rw [rs_keep P b i 4 (by omega) k (by rcases hb with z | z <;> omega)]
    exact hz
  have ns : sp P b k ≠ -9 := fun z => by
    have := rs1_none P b 4 k
    rw [← this] at z
    omega
  refine ⟨sp_ge ns, ns, fun z => ?_, fun z => ?_⟩
  · have := rho_rs (Or.inl z); omega
  · have := rho_rs (Or.inr z); omega
theorem reason_1 {P : Pg} (hP : PgOk P) {b s : Nat} (h : rho P b s = 1) : ∃ k, k < gS P ∧ k ≠ s ∧ sp P b k ≠ -9 ∧ rho P b k ≠ 1 ∧ rho P b k ≠ 2 ∧ sp P b k = sp P b s := by
  have hi := rho_inner (P := P) (b := b) (s := s) (by omega)
  have hS := hP.1.1.1
  have e := rho_rs (Or.inl h)
  have hz : r0 P b s = 0 := by
    rcases r0_c P b s with z | z
    · have := rs1_none P b 4 s
      have z2 : sp P b s = -9 := by
        unfold r0 at z
        by_cases c : sp P b s = -9
        · exact c
        · rw [if_neg c] at z; exact absurd z (by decide)
      rw [← this] at z2
      omega
    · exact z
  rw [rs_in P b hi.1 hi.2 (by omega) hz, h] at e
  unfold rOf at e
  by_cases c : ex1 P b (rs1 P b s) s 4
  · obtain ⟨k, k1, k2, k3⟩ := c
    obtain ⟨a1, a2, a3, a4⟩ := kept_at hP (b := b) (i := s) (by omega) k1 k2.1 k2.2
    exact ⟨k, a1, by rcases k2.1 with z | z <;> omega, a2, a3, a4, k3.symm⟩
  · rw [if_neg c] at e
    by_cases d : ex2 P b (rs1 P b s) s 4
    · rw [if_pos d] at e; exact absurd e (by decide)
    · rw [if_neg d] at e; exact absurd e (by decide)
theorem reason_2 {P : Pg} (hP : PgOk P) {b s : Nat} (h : rho P b s = 2) : gE P 4 = 1 ∧ ∃ k, k < gS P ∧ k ≠ s ∧ sp P b k ≠ -9 ∧ rho P b k ≠ 1 ∧ rho P b k ≠ 2 ∧ sp P b k - sp P b s ≠ 0 ∧ (sp P b k - sp P b s) % 12 = 0 := by
  have hi := rho_inner (P := P) (b := b) (s := s) (by omega)
  have hS := hP.1.1.1
  have e := rho_rs (Or.inr h)
  have hz : r0 P b s = 0 := by
    rcases r0_c P b s with z | z
    · have := rs1_none P b 4 s
      have z2 : sp P b s = -9 := by
        unfold r0 at z
        by_cases c : sp P b s = -9
        · exact c
        · rw [if_neg c] at z; exact absurd z (by decide)
      rw [← this] at z2
      omega
    · exact z
  rw [rs_in P b hi.1 hi.2 (by omega) hz, h] at e
  unfold rOf at e
  by_cases c : ex1 P b (rs1 P b s) s 4
  · rw [if_pos c] at e; exact absurd e (by decide)
  · rw [if_neg c] at e
    by_cases d : ex2 P b (rs1 P b s) s 4
    · obtain ⟨d0, k, k1, k2, k3⟩ := d
      obtain ⟨a1, a2, a3, a4⟩ := kept_at hP (b := b) (i := s) (by omega) k1 k2.1 k2.2
      refine ⟨d0, k, a1, by rcases k2.1 with z | z <;> omega, a2, a3, a4, fun z => c ⟨k, k1, k2, by omega⟩, by omega⟩
    · rw [if_neg d] at e; exact absurd e (by decide)
/-! ties -/
theorem note_3 (P : Pg) (s b : Nat) : nNote P s b 3 = if rho P b s = -9 then -9 else b01 (cutH P b s) := by
  unfold nNote
  by_cases c : rho P b s = -9
  · rw [if_pos (Or.inl c), if_pos c, c]
  · rw [if_neg (by omega), if_pos rfl, if_neg c]
theorem note_2 (P : Pg) (s b : Nat) : nNote P s b 2 = if rho P b s = 0 then (if hd P b s ∧ cutH P b s = false then 0 else 1) else -9 := by
  unfold nNote
  by_cases c : rho P b s = -9
  · rw [if_pos (Or.inl c), if_neg (by omega), c]
  · rw [if_neg (by omega), if_neg (by omega)]
    by_cases d : rho P b s = 0
    · rw [if_neg (fun z => z d), if_pos rfl, if_pos d]
    · rw [if_pos d, if_neg d]
theorem cut_of {P : Pg} (hP : PgOk P) {b s : Nat} (hb : b < gB P) (h : cutH P b s = true) : hd P b s ∧ rho P b s = 0 := by
  unfold cutH cutB at h
  rw [Bool.and_eq_true, Bool.and_eq_true] at h
  exact ⟨of_decide_eq_true h.1.1, ((lb_iff hP hb).mp h.1.2).2⟩
theorem cut_hand {P : Pg} (hP : PgOk P) {b s : Nat} (hb : b < gB P) (hb0 : 0 < b) (hs : s < gS P) (h1 : gC P s b = 99) (h2 : rho P b s = 0) : cutH P b s = true ↔ nNote P s (b - 1) 0 ≠ nNote P s b 0 := by
  have hS := hP.1.1.1
  have l1 := (lb_iff hP hb).mpr ⟨show s < 4 by omega, h2⟩
  have l0 := lb_iff (b := b - 1) (s := s) hP (by omega)
  have e : cutH P b s = (!lb P (b - 1) (nn P (b - 1)) s || (lb P b (sq P b) s != lb P (b - 1) (sq P (b - 1)) s)) := by
    unfold cutH cutB kB lB bef
    rw [if_neg (by omega), if_neg (by omega), if_neg (by omega), l1, decide_eq_true (show hd P b s from ⟨hs, h1⟩)]
    rfl
  rw [e, note_0, note_0, if_pos h2]
  by_cases c : rho P (b - 1) s = 0
  · rw [if_pos c, l0.mpr ⟨by omega, c⟩]
    cases lb P b (sq P b) s <;> cases lb P (b - 1) (sq P (b - 1)) s <;> decide
  · rw [if_neg c]
    have f : lb P (b - 1) (nn P (b - 1)) s = false := by
      by_cases z : lb P (b - 1) (nn P (b - 1)) s = true
      · exact absurd (l0.mp z).2 c
      · simpa using z
    rw [f]
    cases lb P b (sq P b) s <;> cases lb P (b - 1) (sq P (b - 1)) s <;> decide
theorem cut4 {P : Pg} (hP : PgOk P) {b s : Nat} (hb : b < gB P) (hs : gS P ≤ s) : cutH P b s = false := by
  by_cases z : cutH P b s = true
  · have := (cut_of hP hb z).1.1
    omega
  · simpa using z
theorem cuts_sum {P : Pg} (hP : PgOk P) {b : Nat} (hb : b < gB P) : nf (cutH P b) = sg (fun s => b01 (cutH P b s)) (gS P) := by
  have hS := hP.1.1.1
  rw [nf_cn _ (cut4 hP hb (by omega))]
  exact sg_more 4 (by omega) (fun i a _ => by rw [cut4 hP hb a]; rfl)
def stk (P : Pg) (b s : Nat) (ρ : Int) (c : Bool) : Int := if ρ = 0 ∧ (c = true ∨ ¬ hd P b s) then 1 else 0
theorem struck_sum {P : Pg} (hP : PgOk P) {b : Nat} (hb : b < gB P) : nn P b - nf (fun s => (decide (hd P b s) && lb P b (nn P b) s) && !cutH P b s) = sg (fun s => stk P b s (rho P b s) (cutH P b s)) (gS P) := by
  have hS := hP.1.1.1
  have e4 : lb P b (nn P b) 4 = false := lf_4 (row_ok hP hb) (Nat.le_refl _) (by omega)
  have e := nf_lb hP hb (Nat.le_refl (nn P b))
  rw [nf_cn _ e4] at e
  rw [nf_cn _ (by show ((decide (hd P b 4) && lb P b (nn P b) 4) && !cutH P b 4) = false; rw [e4, Bool.and_false]; rfl)]
  have key : ∀ s, s < 4 → b01 (lb P b (nn P b) s) = stk P b s (rho P b s) (cutH P b s) + b01 ((decide (hd P b s) && lb P b (nn P b) s) && !cutH P b s) := fun s hs => by
    have l := lb_iff (s := s) hP hb
    unfold stk
    by_cases c : rho P b s = 0
    · rw [l.mpr ⟨hs, c⟩]
      by_cases d : hd P b s
      · rw [decide_eq_true d]
        cases cutH P b s
        · rw [if_neg (fun z => by rcases z.2 with y | y; exact absurd y (by decide); exact y d)]; rfl
        · rw [if_pos ⟨c, Or.inl rfl⟩]; rfl
      · rw [decide_eq_false d, if_pos ⟨c, Or.inr d⟩]; rfl
    · have f : lb P b (nn P b) s = false := by
        by_cases z : lb P b (nn P b) s = true
        · exact absurd (l.mp z).2 c
        · simpa using z
      rw [f, if_neg (fun z => c z.1), Bool.and_false]
      rfl
  have sum : ∀ m, m ≤ 4 → sg (fun s => b01 (lb P b (nn P b) s)) m = sg (fun s => stk P b s (rho P b s) (cutH P b s)) m + sg (fun s => b01 ((decide (hd P b s) && lb P b (nn P b) s) && !cutH P b s)) m := fun m => by
    induction m with
    | zero => intro _; rfl
    | succ m ih =>
      intro hm
      have := key m (by omega)
      have := ih (by omega)
      show sg (fun s => b01 (lb P b (nn P b) s)) m + b01 (lb P b (nn P b) m) = (sg (fun s => stk P b s (rho P b s) (cutH P b s)) m + stk P b m (rho P b m) (cutH P b m)) + (sg (fun s => b01 ((decide (hd P b s) && lb P b (nn P b) s) && !cutH P b s)) m + b01 ((decide (hd P b m) && lb P b (nn P b) m) && !cutH P b m))
      omega
  have s4 := sum 4 (Nat.le_refl 4)
  have more : sg (fun s => stk P b s (rho P b s) (cutH P b s)) 4 = sg (fun s => stk P b s (rho P b s) (cutH P b s)) (gS P) := sg_more 4 (by omega) (fun i a _ => by
    unfold stk
    rw [if_neg (fun z => ?_)]
    have := rho_ge (P := P) (b := b) (s := i) (by have := z.1; omega)
    omega)
  unfold cn at e ⊢
  rw [← more]
  show (nn P b : Int) - sg (fun s => b01 ((decide (hd P b s) && lb P b (nn P b) s) && !cutH P b s)) 4 = _
  omega
theorem out_sum {P : Pg} (hP : PgOk P) {b r : Nat} : cntR P b r 4 = sg (fun s => if rho P b s = (r : Int) then 1 else 0) (gS P) := by
  have hS := hP.1.1.1
  unfold cntR
  refine sg_more 4 (by omega) (fun i a _ => ?_)
  have e : rho P b i = -9 := by
    by_cases c : rho P b i = -9
    · exact c
    · have := rho_ge c; omega
  rw [e, if_neg (by omega)]
theorem far12 {a : Int} (h1 : -80 ≤ a) (h2 : a < 80) : (iz a - iz a / 12 * 12 = 0) ↔ a % 12 = 0 := by
  have : ∀ n : Fin 160, (iz ((n.val : Int) - 80) - iz ((n.val : Int) - 80) / 12 * 12 = 0) ↔ ((n.val : Int) - 80) % 12 = 0 := by decide +kernel
  have e := this ⟨(a + 80).toNat, by omega⟩
  have z : (((a + 80).toNat : Nat) : Int) - 80 = a := by omega
  simp only [z] at e
  exact e
/-! the set of splits -/
theorem mf_lt (f : Nat → Bool) {n : Nat} (hn : n ≤ 4) (h : ∀ k, n < k → k < 5 → f k = false) : ¬ ((1 : Int32) <<< ((iz (n : Int) + 1) &&& 31) ≤ mf f) := by
  have w : ∀ a b c d e : Bool, ¬ ((1 : Int32) <<< ((iz ((0 : Nat) : Int) + 1) &&& 31) ≤ w5 a false false false false) ∧ ¬ ((1 : Int32) <<< ((iz ((1 : Nat) : Int) + 1) &&& 31) ≤ w5 a b false false false) ∧ ¬ ((1 : Int32) <<< ((iz ((2 : Nat) : Int) + 1) &&& 31) ≤ w5 a b c false false) ∧ ¬ ((1 : Int32) <<< ((iz ((3 : Nat) : Int) + 1) &&& 31) ≤ w5 a b c d false) ∧ ¬ ((1 : Int32) <<< ((iz ((4 : Nat) : Int) + 1) &&& 31) ≤ w5 a b c d e) := by decide +kernel
  have q := w (f 0) (f 1) (f 2) (f 3) (f 4)
  unfold mf
  rcases (show n = 0 ∨ n = 1 ∨ n = 2 ∨ n = 3 ∨ n = 4 by omega) with rfl | rfl | rfl | rfl | rfl
  · rw [h 1 (by omega) (by omega), h 2 (by omega) (by omega), h 3 (by omega) (by omega), h 4 (by omega) (by omega)]; exact q.1
  · rw [h 2 (by omega) (by omega), h 3 (by omega) (by omega), h 4 (by omega) (by omega)]; exact q.2.1
  · rw [h 3 (by omega) (by omega), h 4 (by omega) (by omega)]; exact q.2.2.1
  · rw [h 4 (by omega) (by omega)]; exact q.2.2.2.1
  · exact q.2.2.2.2
theorem mf_bitz (f : Nat → Bool) {k : Nat} (hk : k < 5) : (mf f >>> (iz (k : Int) &&& 31)) &&& 1 = iz (b01 (f k)) := by
  have w : ∀ a b c d e : Bool, (w5 a b c d e >>> (iz ((0 : Nat) : Int) &&& 31)) &&& 1 = iz (b01 a) ∧ (w5 a b c d e >>> (iz ((1 : Nat) : Int) &&& 31)) &&& 1 = iz (b01 b) ∧ (w5 a b c d e >>> (iz ((2 : Nat) : Int) &&& 31)) &&& 1 = iz (b01 c) ∧ (w5 a b c d e >>> (iz ((3 : Nat) : Int) &&& 31)) &&& 1 = iz (b01 d) ∧ (w5 a b c d e >>> (iz ((4 : Nat) : Int) &&& 31)) &&& 1 = iz (b01 e) := by decide +kernel
  have q := w (f 0) (f 1) (f 2) (f 3) (f 4)
  unfold mf
  rcases (show k = 0 ∨ k = 1 ∨ k = 2 ∨ k = 3 ∨ k = 4 by omega) with rfl | rfl | rfl | rfl | rfl
  · exact q.1
  · exact q.2.1
  · exact q.2.2.1
  · exact q.2.2.2.1
  · exact q.2.2.2.2
theorem nf_sg (f : Nat → Bool) : sg (fun k => b01 (f k)) 5 = nf f := by
  unfold nf
  show ((((0 + b01 (f 0)) + b01 (f 1)) + b01 (f 2)) + b01 (f 3)) + b01 (f 4) = _
  omega
