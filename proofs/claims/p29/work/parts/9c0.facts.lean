/-! HANDS BY THEIR NOTES -/
theorem sp_ge {P : Pg} {b s : Nat} (h : sp P b s ≠ -9) : s < gS P := by
  refine Nat.lt_of_not_le (fun z => h ?_)
  unfold sp
  rw [if_neg (by omega)]
theorem rho_ge {P : Pg} {b s : Nat} (h : rho P b s ≠ -9) : s < gS P := sp_ge (fun z => h ((rho_none b s).mpr z))
/-- a rest sounds as none, and nothing else does -/
theorem snd_rest {c : Nat → Int} {n : Nat} (hc : ∀ b, b < n → cOk (c b)) (hh : ∀ b, b < n → c b = 99 → 0 < b ∧ c (b - 1) ≠ -9) : ∀ b, b < n → snd c b = -9 → c b = -9
  | 0, hb, h => by
    have h : (if c 0 = 99 then (-9 : Int) else c 0) = -9 := h
    by_cases z : c 0 = 99
    · exact absurd (hh 0 hb z).1 (Nat.lt_irrefl 0)
    · rw [if_neg z] at h; exact h
  | b + 1, hb, h => by
    have ih := snd_rest hc hh b (by omega)
    have h : (if c (b + 1) = 99 then snd c b else c (b + 1)) = -9 := h
    by_cases z : c (b + 1) = 99
    · rw [if_pos z] at h
      exact absurd (ih h) (hh (b + 1) hb z).2
    · rw [if_neg z] at h; exact h
theorem sp_rest {P : Pg} (hP : PgOk P) {b s : Nat} (hs : s < gS P) (hb : b < gB P) (h : sp P b s = -9) : gC P s b = -9 := by
  unfold sp at h
  rw [if_pos hs] at h
  exact snd_rest (n := gB P) (fun b hb => hP.1.2.2 s b hs hb) (fun b hb e => hP.2 s b hs hb e) b hb h
theorem sp_c {P : Pg} (hP : PgOk P) {b s : Nat} (hs : s < gS P) (hb : b < gB P) : sp P b s = -9 ∨ (0 ≤ sp P b s ∧ sp P b s ≤ 60) := by
  unfold sp
  rw [if_pos hs]
  exact snd_rng (n := gB P) (fun b hb => hP.1.2.2 s b hs hb) b hb
theorem hold_before {P : Pg} (hP : PgOk P) {b s : Nat} (hs : s < gS P) (hb : b < gB P) (h : gC P s b = 99) : 0 < b ∧ sp P (b - 1) s = sp P b s := by
  have h0 := hP.2 s b hs hb h
  refine ⟨h0.1, ?_⟩
  obtain ⟨b', rfl⟩ : ∃ b', b = b' + 1 := ⟨b - 1, by omega⟩
  unfold sp
  rw [if_pos hs, if_pos hs]
  show snd (gC P s) b' = if gC P s (b' + 1) = 99 then snd (gC P s) b' else gC P s (b' + 1)
  rw [if_pos h]
/-! who plays it -/
noncomputable def frK (P : Pg) (b h : Nat) : Nat := if h = 0 then 0 else sq P b
noncomputable def toK (P : Pg) (b h : Nat) : Nat := if h = 0 then sq P b else nn P b
noncomputable def nK (P : Pg) (b h : Nat) : Int := if h = 0 then (sq P b : Int) else nn P b - sq P b
theorem row_inj {p : Nat → Int} {T : Nat → Prop} {n : Nat} {r : Nat → Nat} (h : IsRow p T n r) {i j : Nat} (hi : i < n) (hj : j < n) (e : r i = r j) : i = j := by
  rcases Nat.lt_trichotomy i j with c | c | c
  · have l := h.2.2 i j c hj
    rw [e] at l
    omega
  · exact c
  · have l := h.2.2 j i c hi
    rw [e] at l
    omega
theorem in_hand {P : Pg} (hP : PgOk P) {b h : Nat} (hb : b < gB P) (hh : h < 2) (s : Nat) : nNote P s b 0 = (h : Int) ↔ ∃ i, frK P b h ≤ i ∧ i < toK P b h ∧ rR P b (rho P b) i = s := by
  have hR := row_ok hP hb
  have hq := sq_in hP hb
  rw [note_0]
  have l1 : lb P b (sq P b) s = true ↔ ∃ i, i < sq P b ∧ rR P b (rho P b) i = s := ⟨fun z => of_decide_eq_true z, fun z => decide_eq_true z⟩
  unfold frK toK
  rcases (show h = 0 ∨ h = 1 by omega) with rfl | rfl
  · rw [if_pos rfl, if_pos rfl]
    constructor
    · intro z
      by_cases c : rho P b s = 0
      · rw [if_pos c] at z
        by_cases d : lb P b (sq P b) s = true
        · obtain ⟨i, hi, e⟩ := l1.mp d
          exact ⟨i, by omega, hi, e⟩
        · rw [if_neg d] at z; exact absurd z (by decide)
      · rw [if_neg c] at z; exact absurd z (by decide)
    · intro ⟨i, _, hi, e⟩
      have hk := (hR.1 i (by omega)).2
      rw [e] at hk
      rw [if_pos hk, if_pos (l1.mpr ⟨i, hi, e⟩)]
      rfl
  · rw [if_neg (show ¬ (1 : Nat) = 0 by decide), if_neg (show ¬ (1 : Nat) = 0 by decide)]
    constructor
    · intro z
      by_cases c : rho P b s = 0
      · rw [if_pos c] at z
        by_cases d : lb P b (sq P b) s = true
        · rw [if_pos d] at z; exact absurd z (by decide)
        · have hs4 : s < 4 := by
            have := rho_ge (P := P) (b := b) (s := s) (by omega)
            have := hP.1.1.1
            omega
          obtain ⟨i, hi, e⟩ := hR.2.1 s hs4 c
          refine ⟨i, Nat.le_of_not_lt (fun y => d (l1.mpr ⟨i, y, e⟩)), hi, e⟩
      · rw [if_neg c] at z; exact absurd z (by decide)
    · intro ⟨i, h1, hi, e⟩
      have hk := (hR.1 i hi).2
      rw [e] at hk
      rw [if_pos hk, if_neg (fun d => ?_)]
      · rfl
      · obtain ⟨j, hj, e2⟩ := l1.mp d
        have := row_inj hR (show j < nn P b by omega) hi (e2.trans e.symm)
        omega
theorem row_mono {P : Pg} (hP : PgOk P) {b i j : Nat} (hb : b < gB P) (hij : i ≤ j) (hj : j < nn P b) : pt P b (rho P b) i ≤ pt P b (rho P b) j := by
  have hR := row_ok hP hb
  by_cases e : i = j
  · rw [e]; exact Int.le_refl _
  · have l := hR.2.2 i j (by omega) hj
    unfold pt
    rcases l with l | l
    · omega
    · omega
theorem pt_c {P : Pg} (hP : PgOk P) {b i : Nat} (hb : b < gB P) (hi : i < nn P b) : 0 ≤ pt P b (rho P b) i ∧ pt P b (rho P b) i ≤ 60 := by
  have hR := row_ok hP hb
  have hk := (hR.1 i hi).2
  have hn : sp P b (rR P b (rho P b) i) ≠ -9 := fun z => by
    have hk : rho P b (rR P b (rho P b) i) = 0 := hk
    rw [(rho_none b _).mpr z] at hk
    exact absurd hk (by decide)
  rcases sp_c hP (sp_ge hn) hb with z | z
  · exact absurd z hn
  · exact z
theorem fr_to {P : Pg} (hP : PgOk P) {b : Nat} (hb : b < gB P) (h : Nat) : frK P b h ≤ toK P b h ∧ toK P b h ≤ nn P b ∧ nK P b h = (toK P b h : Int) - frK P b h := by
  have hq := sq_in hP hb
  unfold frK toK nK
  by_cases c : h = 0
  · rw [if_pos c, if_pos c, if_pos c]; omega
  · rw [if_neg c, if_neg c, if_neg c]; omega
theorem ps_K {P : Pg} {b h : Nat} (hh : h < 2) : ps P b h (sq P b) = if frK P b h < toK P b h then pt P b (rho P b) (frK P b h) else -9 := by
  unfold ps posP frK toK
  rcases (show h = 0 ∨ h = 1 by omega) with rfl | rfl <;> rfl
theorem wd_K {P : Pg} {b h : Nat} (hh : h < 2) : wd P b h (sq P b) = if frK P b h < toK P b h then pt P b (rho P b) (toK P b h - 1) - pt P b (rho P b) (frK P b h) else 0 := by
  unfold wd widP frK toK
  rcases (show h = 0 ∨ h = 1 by omega) with rfl | rfl <;> rfl
theorem can_K {P : Pg} (hP : PgOk P) {b h : Nat} (hb : b < gB P) (hh : h < 2) : nK P b h ≤ gE P 2 ∧ wd P b h (sq P b) ≤ gE P h + (if hdIn P b (rho P b) (frK P b h) (toK P b h) then 0 else gE P 3) := by
  have hq := sq_in hP hb
  obtain ⟨-, c0, c1⟩ := hq.2.2
  rcases (show h = 0 ∨ h = 1 by omega) with rfl | rfl
  · exact ⟨by have := c0.1; unfold nK; rw [if_pos rfl]; omega, c0.2⟩
  · refine ⟨?_, c1.2⟩
    have c := c1.1
    have e : rN P b (rho P b) = nn P b := rfl
    rw [e] at c
    unfold nK
    rw [if_neg (by omega)]
    exact c
/-- what is counted of the staves before t in a hand -/
def HJ (P : Pg) (b h t : Nat) (n lo hi : Int) (hd : Bool) : Prop :=
  n = sg (fun s => if nNote P s b 0 = (h : Int) then 1 else 0) t ∧
  (∀ s, s < t → nNote P s b 0 = (h : Int) → lo ≤ sp P b s ∧ sp P b s ≤ hi) ∧
  ((n = 0 ∧ lo = 99 ∧ hi = -1 ∧ ∀ s, s < t → nNote P s b 0 ≠ (h : Int)) ∨ (0 < n ∧ (∃ s, s < t ∧ nNote P s b 0 = (h : Int) ∧ sp P b s = lo) ∧ ∃ s, s < t ∧ nNote P s b 0 = (h : Int) ∧ sp P b s = hi)) ∧
  (hd = true ↔ ∃ s, s < t ∧ nNote P s b 0 = (h : Int) ∧ gC P s b = 99)
theorem HJ.zero (P : Pg) (b h : Nat) : HJ P b h 0 0 99 (-1) false := ⟨rfl, fun s hs => absurd hs (Nat.not_lt_zero s), Or.inl ⟨rfl, rfl, rfl, fun s hs => absurd hs (Nat.not_lt_zero s)⟩, ⟨fun z => absurd z (by decide), fun ⟨s, hs, _⟩ => absurd hs (Nat.not_lt_zero s)⟩⟩
theorem HJ.skip {P : Pg} {b h t : Nat} {n lo hi : Int} {hd : Bool} (H : HJ P b h t n lo hi hd) (hn : nNote P t b 0 ≠ (h : Int)) : HJ P b h (t + 1) n lo hi hd := by
  obtain ⟨h1, h2, h3, h4⟩ := H
  have lt : ∀ s, s < t + 1 → nNote P s b 0 = (h : Int) → s < t := fun s hs e => by
    by_cases c : s = t
    · rw [c] at e; exact absurd e hn
    · omega
  refine ⟨?_, fun s hs e => h2 s (lt s hs e) e, ?_, ?_⟩
  · show n = sg (fun s => if nNote P s b 0 = (h : Int) then 1 else 0) t + (if nNote P t b 0 = (h : Int) then 1 else 0)
    rw [if_neg hn, ← h1]; omega
  · rcases h3 with z | z
    · exact Or.inl ⟨z.1, z.2.1, z.2.2.1, fun s hs e => z.2.2.2 s (lt s hs e) e⟩
    · obtain ⟨z1, ⟨s, a1, a2, a3⟩, s', b1, b2, b3⟩ := z
      exact Or.inr ⟨z1, ⟨s, by omega, a2, a3⟩, s', by omega, b2, b3⟩
  · rw [h4]
    exact ⟨fun ⟨s, a, e, g⟩ => ⟨s, by omega, e, g⟩, fun ⟨s, a, e, g⟩ => ⟨s, lt s a e, e, g⟩⟩
theorem HJ.take {P : Pg} {b h t : Nat} {n lo hi : Int} {hd : Bool} (H : HJ P b h t n lo hi hd) (hn : nNote P t b 0 = (h : Int)) (hv : 0 ≤ sp P b t ∧ sp P b t ≤ 60) : HJ P b h (t + 1) (n + 1) (if sp P b t < lo then sp P b t else lo) (if hi < sp P b t then sp P b t else hi) (hd || decide (gC P t b = 99)) := by
  obtain ⟨h1, h2, h3, h4⟩ := H
  refine ⟨?_, fun s hs e => ?_, Or.inr ⟨?_, ?_, ?_⟩, ?_⟩
  · show n + 1 = sg (fun s => if nNote P s b 0 = (h : Int) then 1 else 0) t + (if nNote P t b 0 = (h : Int) then 1 else 0)
    rw [if_pos hn, ← h1]
  · by_cases c : s = t
    · rw [c]
      constructor
      · split <;> omega
      · split <;> omega
    · have := h2 s (by omega) e
      constructor
      · split <;> omega
      · split <;> omega
  · rcases h3 with z | z <;> omega
  · by_cases c : sp P b t < lo
    · rw [if_pos c]; exact ⟨t, by omega, hn, rfl⟩
    · rw [if_neg c]
      rcases h3 with z | z
      · have := z.2.1; omega
      · obtain ⟨_, ⟨s, a1, a2, a3⟩, _⟩ := z
        exact ⟨s, by omega, a2, a3⟩
  · by_cases c : hi < sp P b t
    · rw [if_pos c]; exact ⟨t, by omega, hn, rfl⟩
    · rw [if_neg c]
      rcases h3 with z | z
      · have := z.2.2.1; omega
      · obtain ⟨_, _, s, a1, a2, a3⟩ := z
        exact ⟨s, by omega, a2, a3⟩
  · rw [Bool.or_eq_true, h4]
    constructor
    · rintro (⟨s, a, e, g⟩ | g)
      · exact ⟨s, by omega, e, g⟩
      · exact ⟨t, by omega, hn, of_decide_eq_true g⟩
    · intro ⟨s, a, e, g⟩
      by_cases c : s = t
      · rw [c] at g; exact Or.inr (decide_eq_true g)
      · exact Or.inl ⟨s, by omega, e, g⟩
theorem sg_more {f : Nat → Int} {n : Nat} : ∀ m, n ≤ m → (∀ i, n ≤ i → i < m → f i = 0) → sg f m = sg f n
  | 0, hm, _ => by rw [show n = 0 by omega]
  | m + 1, hm, h => by
    by_cases e : n = m + 1
    · rw [e]
    · show sg f m + f m = sg f n
      rw [h m (by omega) (by omega), Int.add_zero]
      exact sg_more m (by omega) (fun i a b => h i a (by omega))
theorem cnt_K {P : Pg} (hP : PgOk P) {b h : Nat} (hb : b < gB P) (hh : h < 2) : sg (fun s => if nNote P s b 0 = (h : Int) then 1 else 0) (gS P) = nK P b h := by
  have hS := hP.1.1.1
  have hq := sq_in hP hb
  have hR := row_ok hP hb
  have out : ∀ s, gS P ≤ s → nNote P s b 0 ≠ (h : Int) := fun s hs e => by
    obtain ⟨i, _, hi, e2⟩ := (in_hand hP hb hh s).mp e
    have hk := (hR.1 i (by have := (fr_to hP hb h).2.1; omega)).2
    rw [e2] at hk
    have hk : rho P b s = 0 := hk
    have := rho_ge (P := P) (b := b) (s := s) (by omega)
    omega
  rw [← sg_more (f := fun s => if nNote P s b 0 = (h : Int) then 1 else 0) 4 (by omega) (fun i a _ => if_neg (out i a))]
  have c1 := cn_lf hR (sq P b) hq.2.1
  have c2 := cn_lf hR (nn P b) (Nat.le_refl _)
  unfold cn at c1 c2
  rcases (show h = 0 ∨ h = 1 by omega) with rfl | rfl
  · rw [← sg_cong (f := fun s => b01 (lf P b (rho P b) (sq P b) s)) (fun s _ => ?_), c1]
    · unfold nK; rw [if_pos rfl]
    · have l := in_hand hP hb hh s
      unfold frK toK at l
      rw [if_pos rfl, if_pos rfl] at l
      by_cases z : nNote P s b 0 = ((0 : Nat) : Int)
      · rw [if_pos z]
        obtain ⟨i, _, hi, e⟩ := l.mp z
        have : lf P b (rho P b) (sq P b) s = true := decide_eq_true ⟨i, hi, e⟩
        rw [this]; rfl
      · rw [if_neg z]
        have : lf P b (rho P b) (sq P b) s = false := decide_eq_false (fun ⟨i, hi, e⟩ => z (l.mpr ⟨i, by omega, hi, e⟩))
        rw [this]; rfl
  · have key : ∀ s, (if nNote P s b 0 = ((1 : Nat) : Int) then (1 : Int) else 0) + b01 (lf P b (rho P b) (sq P b) s) = b01 (lf P b (rho P b) (nn P b) s) := fun s => by
      have l := in_hand hP hb hh s
      unfold frK toK at l
      rw [if_neg (by omega), if_neg (by omega)] at l
      by_cases z : nNote P s b 0 = ((1 : Nat) : Int)
      · rw [if_pos z]
        obtain ⟨i, h1, hi, e⟩ := l.mp z
        have t : lf P b (rho P b) (nn P b) s = true := decide_eq_true ⟨i, hi, e⟩
        have f : lf P b (rho P b) (sq P b) s = false := decide_eq_false (fun ⟨j, hj, e2⟩ => by
          have := row_inj hR (show j < nn P b by omega) hi (e2.trans e.symm)
          omega)
        rw [t, f]; rfl
      · rw [if_neg z]
        by_cases y : lf P b (rho P b) (sq P b) s = true
        · obtain ⟨j, hj, e2⟩ := of_decide_eq_true y
          have t : lf P b (rho P b) (nn P b) s = true := decide_eq_true ⟨j, by omega, e2⟩
          rw [y, t]; rfl
        · have y : lf P b (rho P b) (sq P b) s = false := by simpa using y
          have t : lf P b (rho P b) (nn P b) s = false := decide_eq_false (fun ⟨j, hj, e2⟩ => z (l.mpr ⟨j, Nat.le_of_not_lt (fun w => by
            have : lf P b (rho P b) (sq P b) s = true := decide_eq_true ⟨j, w, e2⟩
            rw [y] at this
            exact absurd this (by decide)), hj, e2⟩))
          rw [y, t]; rfl
    have sum : ∀ m, sg (fun s => if nNote P s b 0 = ((1 : Nat) : Int) then (1 : Int) else 0) m + sg (fun s => b01 (lf P b (rho P b) (sq P b) s)) m = sg (fun s => b01 (lf P b (rho P b) (nn P b) s)) m := fun m => by
      induction m with
      | zero => rfl
      | succ m ih =>
        show (sg (fun s => if nNote P s b 0 = ((1 : Nat) : Int) then (1 : Int) else 0) m + (if nNote P m b 0 = ((1 : Nat) : Int) then (1 : Int) else 0)) + (sg (fun s => b01 (lf P b (rho P b) (sq P b) s)) m + b01 (lf P b (rho P b) (sq P b) m)) = sg (fun s => b01 (lf P b (rho P b) (nn P b) s)) m + b01 (lf P b (rho P b) (nn P b) m)
        have := key m
        omega
    have := sum 4
    unfold nK
    rw [if_neg (by omega)]
    omega
theorem HJ.all {P : Pg} (hP : PgOk P) {b h : Nat} (hb : b < gB P) (hh : h < 2) {n lo hi : Int} {hd : Bool} (H : HJ P b h (gS P) n lo hi hd) : n = nK P b h ∧ (n = 0 → ps P b h (sq P b) = -9 ∧ wd P b h (sq P b) = 0) ∧ (n ≠ 0 → lo = ps P b h (sq P b) ∧ hi - lo = wd P b h (sq P b) ∧ 0 ≤ lo ∧ lo ≤ 60 ∧ 0 ≤ hi ∧ hi ≤ 60) ∧ (hd = true ↔ hdIn P b (rho P b) (frK P b h) (toK P b h)) := by
  obtain ⟨h1, h2, h3, h4⟩ := H
  have ft := fr_to hP hb h
  have en : n = nK P b h := by rw [h1]; exact cnt_K hP hb hh
  have hR := row_ok hP hb
  have st : ∀ i, i < nn P b → rR P b (rho P b) i < gS P := fun i hi => by
    have hk : rho P b (rR P b (rho P b) i) = 0 := (hR.1 i hi).2
    exact rho_ge (b := b) (by omega)
  refine ⟨en, fun z => ?_, fun z => ?_, ?_⟩
  · rw [ps_K hh, wd_K hh, if_neg (by omega), if_neg (by omega)]
    exact ⟨rfl, rfl⟩
  · have hlt : frK P b h < toK P b h := by omega
    rw [ps_K hh, wd_K hh, if_pos hlt, if_pos hlt]
    rcases h3 with y | y
    · exact absurd y.1 z
    · obtain ⟨_, ⟨s, a1, a2, a3⟩, s', b1, b2, b3⟩ := y
      obtain ⟨i, i1, i2, i3⟩ := (in_hand hP hb hh s).mp a2
      obtain ⟨j, j1, j2, j3⟩ := (in_hand hP hb hh s').mp b2
      have e1 : pt P b (rho P b) i = lo := by unfold pt; rw [i3]; exact a3
      have e2 : pt P b (rho P b) j = hi := by unfold pt; rw [j3]; exact b3
      have f1 := h2 _ (st (frK P b h) (by omega)) ((in_hand hP hb hh _).mpr ⟨frK P b h, Nat.le_refl _, hlt, rfl⟩)
      have f2 := h2 _ (st (toK P b h - 1) (by omega)) ((in_hand hP hb hh _).mpr ⟨toK P b h - 1, by omega, by omega, rfl⟩)
      have g1 := row_mono hP hb i1 (show i < nn P b by omega)
      have g2 := row_mono hP hb (show j ≤ toK P b h - 1 by omega) (show toK P b h - 1 < nn P b by omega)
      have p1 : sp P b (rR P b (rho P b) (frK P b h)) = pt P b (rho P b) (frK P b h) := rfl
      have p2 : sp P b (rR P b (rho P b) (toK P b h - 1)) = pt P b (rho P b) (toK P b h - 1) := rfl
      have r1 := pt_c hP hb (show i < nn P b by omega)
      have r2 := pt_c hP hb (show j < nn P b by omega)
      omega
  · rw [h4]
    constructor
    · intro ⟨s, a, e, g⟩
      obtain ⟨i, i1, i2, i3⟩ := (in_hand hP hb hh s).mp e
      exact ⟨i, i2, i1, by rw [i3]; exact ⟨a, g⟩⟩
    · intro ⟨i, i2, i1, g⟩
      exact ⟨_, g.1, (in_hand hP hb hh _).mpr ⟨i, i1, i2, rfl⟩, g.2⟩
