section MP
variable {M : Mem} {r b : Nat} {P : Pg}
theorem isStaff_eq (h : PR M r 0 P) (hP : PgD P) (hl : lnA r = 72) {s : Int} (s1 : -2147483648 ≤ s) (s2 : s < 2147483648) : f_X6_isStaff r (iz s) M = some (bz (0 ≤ s ∧ s < gS P), M) := by
  unfold f_X6_isStaff
  have h1 := hP.1
  have i6 : inb 6 (lnA r) := by rw [hl]; decide
  rw [if_pos i6, c6, h.S, pm1 _ (by omega), show (0 : Int64) = Int32.toInt64 (iz 0) by decide, in_eq M s1 s2 (by omega) (by omega) (by omega) (by omega), ob_some, if_pos (bz_and1 _)]
  congr 2
  exact bz_iff ⟨fun z => by omega, fun z => by omega⟩
theorem isBeat_eq (h : PR M r 0 P) (hP : PgD P) (hl : lnA r = 72) {s : Int} (s1 : -2147483648 ≤ s) (s2 : s < 2147483648) : f_X6_isBeat r (iz s) M = some (bz (0 ≤ s ∧ s < gB P), M) := by
  unfold f_X6_isBeat
  have h1 := hP.2
  have i7 : inb 7 (lnA r) := by rw [hl]; decide
  rw [if_pos i7, c7, h.B, pm1 _ (by omega), show (0 : Int64) = Int32.toInt64 (iz 0) by decide, in_eq M s1 s2 (by omega) (by omega) (by omega) (by omega), ob_some, if_pos (bz_and1 _)]
  congr 2
  exact bz_iff ⟨fun z => by omega, fun z => by omega⟩
theorem isCell_eq (h : PR M r 0 P) (hP : PgD P) (hl : lnA r = 72) {s b : Int} (s1 : -2147483648 ≤ s) (s2 : s < 2147483648) (b1 : -2147483648 ≤ b) (b2 : b < 2147483648) : f_X6_isCell r (iz s) (iz b) M = some (bz ((0 ≤ s ∧ s < gS P) ∧ 0 ≤ b ∧ b < gB P), M) := by
  unfold f_X6_isCell
  rw [isStaff_eq h hP hl s1 s2, ob_some]
  by_cases c : 0 ≤ s ∧ s < gS P
  · rw [if_neg (by rw [bz_t c]; decide), isBeat_eq h hP hl b1 b2, ob_some]
    by_cases d : 0 ≤ b ∧ b < gB P
    · rw [if_neg (by rw [bz_t d]; decide), bz_t ⟨c, d⟩]; rfl
    · rw [if_pos (by rw [bz_f d]; rfl), bz_f (fun z => d z.2)]; rfl
  · rw [if_pos (by rw [bz_f c]; rfl), bz_f (fun z => c z.1)]; rfl
theorem misSetting_eq {a v : Int} (a1 : -2147483648 ≤ a) (a2 : a < 2147483648) (v1 : -2147483648 ≤ v) (v2 : v < 2147483648) : f_X6_isSetting (iz a) (iz v) M = some (bz (setOk a v), M) := by
  have b41 : ∀ lo hi : Int, 0 ≤ lo → lo < 100 → 0 ≤ hi → hi < 100 → f_X6_isSetting_b41 (iz a) (iz v) (iz lo) (iz hi) M = some (bz ((0 ≤ a ∧ a ≤ 5) ∧ lo ≤ v ∧ v ≤ hi), M) := fun lo hi l1 l2 h1 h2 => by
    unfold f_X6_isSetting_b41
    rw [show (0 : Int64) = Int32.toInt64 (iz 0) by decide, show (5 : Int64) = Int32.toInt64 (iz 5) by decide, in_eq M a1 a2 (by omega) (by omega) (by omega) (by omega), ob_some]
    by_cases c : 0 ≤ a ∧ a ≤ 5
    · rw [if_neg (by rw [bz_t c]; decide), in_eq M v1 v2 (by omega) (by omega) (by omega) (by omega), ob_some]
      by_cases d : lo ≤ v ∧ v ≤ hi
      · rw [if_neg (by rw [bz_t d]; decide), bz_t ⟨c, d⟩]; rfl
      · rw [if_pos (by rw [bz_f d]; rfl), bz_f (fun z => d z.2)]; rfl
    · rw [if_pos (by rw [bz_f c]; rfl), bz_f (fun z => c z.1)]; rfl
  have e2 : ((2 : Int32) ≤ iz a) = (2 ≤ a) := by rw [show (2 : Int32) = iz 2 from rfl, iz_le (by omega) (by omega) a1 a2]
  have e3 : ((3 : Int32) ≤ iz a) = (3 ≤ a) := by rw [show (3 : Int32) = iz 3 from rfl, iz_le (by omega) (by omega) a1 a2]
  have q2 : (iz a = 2) = (a = 2) := by rw [show (2 : Int32) = iz 2 from rfl, iz_eq a1 a2 (by omega) (by omega)]
  have q3 : (iz a = 3) = (a = 3) := by rw [show (3 : Int32) = iz 3 from rfl, iz_eq a1 a2 (by omega) (by omega)]
  have b10 : ∀ lo : Int, 0 ≤ lo → lo < 100 → f_X6_isSetting_b10 (iz a) (iz v) (iz lo) M = some (bz ((0 ≤ a ∧ a ≤ 5) ∧ lo ≤ v ∧ v ≤ (if a < 2 then 24 else if a = 2 then 5 else if a = 3 then 9 else 1)), M) := fun lo l1 l2 => by
    unfold f_X6_isSetting_b10
    rw [show (24 : Int32) = iz 24 from rfl, show (5 : Int32) = iz 5 from rfl, show (9 : Int32) = iz 9 from rfl, show (1 : Int32) = iz 1 from rfl]
    by_cases c : 2 ≤ a
    · rw [if_pos (by rw [e2]; exact c), if_neg (show ¬ a < 2 by omega)]
      by_cases d : a = 2
      · rw [if_pos (by rw [q2]; exact d), if_pos d, b41 _ _ l1 l2 (by omega) (by omega)]
      · rw [if_neg (by rw [q2]; exact d), if_neg d]
        by_cases e : a = 3
        · rw [if_pos (by rw [q3]; exact e), if_pos e, b41 _ _ l1 l2 (by omega) (by omega)]
        · rw [if_neg (by rw [q3]; exact e), if_neg e, b41 _ _ l1 l2 (by omega) (by omega)]
    · rw [if_neg (by rw [e2]; exact c), if_pos (show a < 2 by omega), b41 _ _ l1 l2 (by omega) (by omega)]
  unfold f_X6_isSetting
  by_cases c : 3 ≤ a
  · rw [if_pos (by rw [e3]; exact c), show (0 : Int32) = iz 0 from rfl, b10 0 (by omega) (by omega)]
    congr 2
    refine bz_iff ?_
    rw [if_neg (by omega), if_neg (by omega)]
    by_cases e : a = 3
    · rw [if_pos e]; exact ⟨fun z => by omega, fun z => by omega⟩
    · rw [if_neg e]; exact ⟨fun z => by omega, fun z => by omega⟩
  · rw [if_neg (by rw [e3]; exact c), show (1 : Int32) = iz 1 from rfl, b10 1 (by omega) (by omega)]
    congr 2
    refine bz_iff ?_
    by_cases d : a < 2
    · rw [if_pos d]; exact ⟨fun z => by omega, fun z => by omega⟩
    · rw [if_neg d, if_pos (by omega)]; exact ⟨fun z => by omega, fun z => by omega⟩
/-- whether a value may be written, as both see it -/
abbrev canW (P : Pg) (s b : Nat) (v : Int) : Prop := v ≠ 99 ∨ (0 < b ∧ gC P s (b - 1) ≠ -9)
theorem canWrite_eq (h : PR M r 0 P) (hP : PgW P) (hl : lnA r = 72) {s : Nat} (hs : s < gS P) (hb : b < gB P) {v : Int} (v1 : -2147483648 ≤ v) (v2 : v < 2147483648) : f_X6_canWrite r (iz s) (iz b) (iz v) M = some (bz (canW P s b v), M) := by
  unfold f_X6_canWrite f_X6_canWrite_b27
  have h2 := hP.1.2
  have hx := pg_lt hP.1 hs hb
  have e99 : (iz v = 99) = (v = 99) := by rw [show (99 : Int32) = iz 99 from rfl, iz_eq v1 v2 (by omega) (by omega)]
  by_cases c : v = 99
  · rw [if_pos (by rw [e99]; exact c)]
    by_cases cb : b = 0
    · rw [if_pos (by rw [cb]; decide), bz_f (by omega)]; rfl
    · have eb : ¬ (iz (b : Int) ≤ 0) := by rw [show (0 : Int32) = iz ((0 : Nat) : Int) from rfl, lez (by omega) (by omega)]; omega
      have hp : M r (8 + (16 * s + b) - 1) = iz (gC P s (b - 1)) := by
        have := h.C (b := b - 1) hs (by omega)
        rw [show 8 + (16 * s + b) - 1 = 8 + (16 * s + (b - 1)) by omega, this]
      have hc := cOk_lt (hP.2.2 s (b - 1) hs (by omega))
      have e9 : (iz (gC P s (b - 1)) = -9) = (gC P s (b - 1) = -9) := by rw [show (-9 : Int32) = iz (-9) from rfl, iz_eq (by omega) (by omega) (by omega) (by omega)]
      rw [if_neg eb, at_eq, ob_some, l8, pm1 _ (by omega), hl, if_pos (inb_n (n := 8 + (16 * s + b) - 1) (by omega) (by omega)), cl_n (n := 8 + (16 * s + b) - 1) (by omega), hp]
      by_cases c9 : gC P s (b - 1) = -9
      · rw [if_pos (by rw [e9]; exact c9), bz_f (fun z => by rcases z with z | z; exact z c; exact z.2 c9)]; rfl
      · rw [if_neg (by rw [e9]; exact c9), bz_t (Or.inr ⟨by omega, c9⟩)]; rfl
  · rw [if_neg (by rw [e99]; exact c), bz_t (Or.inl c)]; rfl
/-- a cell is written, loose holds become rests -/
def pwr (P : Pg) (s b : Nat) (v : Int) : Pg := pmend (pput P s b (if v < 0 then -9 else v))
theorem pwr_Ok (hP : PgW P) {s b : Nat} {v : Int} (hv : v < 0 ∨ v = 99 ∨ (0 ≤ v ∧ v ≤ 60)) : PgOk (pwr P s b v) := by
  refine pmend_Ok (pput_W hP s b ?_)
  by_cases c : v < 0
  · rw [if_pos c]; exact Or.inl rfl
  · rw [if_neg c]
    unfold cOk
    omega
theorem mput_tot (h : PR M r 0 P) (hP : PgW P) (hl : lnA r = 72) {s : Nat} (hs : s < gS P) (hb : b < gB P) {v : Int} (hv : (-1000 ≤ v ∧ v < 0) ∨ v = 99 ∨ (0 ≤ v ∧ v ≤ 60)) : Tot (f_X6_put r (iz s) (iz b) (iz v) M) (fun x => PR x.2 r 0 (pwr P s b v) ∧ Off (fun d => d = r) M x.2) := by
  unfold f_X6_put
  have hx := pg_lt hP.1 hs hb
  have e0 : ((0 : Int32) ≤ iz v) = (0 ≤ v) := by rw [show (0 : Int32) = iz 0 from rfl, iz_le (by omega) (by omega) (by omega) (by omega)]
  rw [at_eq, ob_some, l8]
  have go : ∀ w : Int, w = (if v < 0 then -9 else v) → Tot (f_X6_put_b19 r (iz w) (iz ((8 + (16 * s + b) : Nat) : Int)) r M) (fun x => PR x.2 r 0 (pwr P s b v) ∧ Off (fun d => d = r) M x.2) := fun w hw => by
    unfold f_X6_put_b19
    have hp : PR (mw M r (8 + (16 * s + b)) (iz w)) r 0 (pput P s b (if v < 0 then -9 else v)) := by
      rw [hw]
      exact pr_putc h hP.1 hs hb _ (fun _ _ _ _ => rfl)
    have hok : cOk (if v < 0 then -9 else v) := by
      by_cases c : v < 0
      · rw [if_pos c]; exact Or.inl rfl
      · rw [if_neg c]; unfold cOk; omega
    rw [hl, if_pos (inb_n (n := 8 + (16 * s + b)) (by omega) (by omega)), cl_n (n := 8 + (16 * s + b)) (by omega)]
    refine Tot.ob ((mend_tot hp (pput_W hP s b hok) hl).mono ?_)
    intro ⟨_, M2⟩ ⟨a, o⟩
    have o1 : Off (fun d => d = r) M (mw M r (8 + (16 * s + b)) (iz w)) := Off.rf.put rfl
    exact Tot.mk ⟨a, o1.tr o⟩
  by_cases c : 0 ≤ v
  · rw [if_pos (by rw [e0]; exact c)]
    exact go v (by rw [if_neg (by omega)])
  · rw [if_neg (by rw [e0]; exact c), show (-9 : Int32) = iz (-9) from rfl]
    exact go (-9) (by rw [if_pos (by omega)])
end MP
