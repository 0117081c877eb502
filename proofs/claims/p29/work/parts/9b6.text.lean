/-! A TEXT THAT GROWS -/
def app (T : Tx) (c : Int) : Tx := (T.1 + 1, fun i => if i = T.1 then c else T.2 i)
theorem app_D (D : Ds) (c : Int) : dApp D c = (app D.1 c, D.2) := rfl
theorem app_1 (T : Tx) (c : Int) : (app T c).1 = T.1 + 1 := rfl
theorem app_lt {T : Tx} {c : Int} {p : Nat} (h : p < T.1) : sgn (app T c) p = sgn T p := by
  unfold sgn
  rw [app_1, if_pos (by omega), if_pos h]
  show (if p = T.1 then c else T.2 p) = _
  rw [if_neg (by omega)]
theorem app_at (T : Tx) (c : Int) : sgn (app T c) T.1 = c := by
  unfold sgn
  rw [app_1, if_pos (by omega)]
  show (if T.1 = T.1 then c else T.2 T.1) = _
  rw [if_pos rfl]
theorem sgn_end {T : Tx} {p : Nat} (h : T.1 ≤ p) : sgn T p = -1 := by
  unfold sgn
  rw [if_neg (by omega)]
theorem dig_end {T : Tx} {p : Nat} (h : T.1 ≤ p) : dig T p = -1 := by
  unfold dig
  rw [sgn_end h, if_neg (by omega)]
theorem dig_sgn {T T' : Tx} {p : Nat} (h : sgn T' p = sgn T p) : dig T' p = dig T p := by
  unfold dig
  rw [h]
theorem dig_lt2 {T : Tx} {c : Int} {p : Nat} (h : p < T.1) : dig (app T c) p = dig T p := dig_sgn (app_lt h)
theorem dig_at {T : Tx} {d : Int} (h : 0 ≤ d ∧ d ≤ 9) : dig (app T (48 + d)) T.1 = d := by
  unfold dig
  rw [app_at, if_pos (by omega)]
  omega
/-- what is read of one more sign is not read otherwise -/
theorem rc_app {T : Tx} {c pv : Int} {p : Nat} (h : (rc T pv p).1 = true) : rc (app T c) pv p = rc T pv p := by
  have hp : p < T.1 := by
    refine Nat.lt_of_not_le (fun z => ?_)
    unfold rc at h
    rw [sgn_end z, if_neg (by omega), if_neg (fun y => absurd y.1 (by omega)), dig_end z, if_neg (by omega)] at h
    exact absurd (show false = true from h) (by decide)
  unfold rc at h ⊢
  rw [app_lt hp, dig_lt2 hp]
  by_cases c1 : sgn T p = 45
  · rw [if_pos c1, if_pos c1]
  · rw [if_neg c1] at h
    rw [if_neg c1, if_neg c1]
    by_cases c2 : sgn T p = 61 ∧ pv ≠ -9
    · rw [if_pos c2, if_pos c2]
    · rw [if_neg c2] at h
      rw [if_neg c2, if_neg c2]
      by_cases c3 : 0 ≤ dig T p ∧ dig T p ≤ 6
      · rw [if_pos c3] at h
        rw [if_pos c3, if_pos c3]
        by_cases c4 : 0 ≤ dig T (p + 1) ∧ 10 * dig T p + dig T (p + 1) ≤ 60
        · rw [dig_lt2 (dig_lt c4.1)]
        · rw [if_neg c4] at h
          exact absurd (show false = true from h) (by decide)
      · rw [if_neg c3] at h
        exact absurd (show false = true from h) (by decide)
theorem rst_app {T : Tx} {c : Int} {s b : Nat} {σ : Rs} (h : (rst T s b σ).1 = true) : rst (app T c) s b σ = rst T s b σ := by
  by_cases g : σ.1 = true
  · rw [rst_good g] at h ⊢
    rw [rst_good g]
    have h : (rc T (pvs σ.2.2 s b) σ.2.1).1 = true := h
    rw [rc_app h]
  · have g : σ.1 = false := by simpa using g
    rw [rst_bad g, rst_bad g]
theorem rrow_app {T : Tx} {c : Int} {s : Nat} {σ : Rs} : ∀ b, (rrow T s b σ).1 = true → rrow (app T c) s b σ = rrow T s b σ
  | 0, _ => rfl
  | b + 1, h => by
    have h : (rst T s b (rrow T s b σ)).1 = true := h
    have g : (rrow T s b σ).1 = true := by
      by_cases z : (rrow T s b σ).1 = true
      · exact z
      · rw [rst_bad (by simpa using z)] at h; exact h
    show rst (app T c) s b (rrow (app T c) s b σ) = rst T s b (rrow T s b σ)
    rw [rrow_app b g, rst_app h]
theorem rall_app {T : Tx} {c : Int} {B : Nat} : ∀ s, (rall T B s).1 = true → rall (app T c) B s = rall T B s
  | 0, _ => rfl
  | s + 1, h => by
    have h : (rrow T s B (rall T B s)).1 = true := h
    have g : (rall T B s).1 = true := by
      by_cases z : (rall T B s).1 = true
      · exact z
      · have := rrow_stick (T := T) (s := s) (σ := rall T B s) (b := 0) (by show (rall T B s).1 = false; simpa using z) B
        rw [Nat.zero_add] at this
        rw [this] at h
        exact h
    show rrow (app T c) s B (rall (app T c) B s) = rrow T s B (rall T B s)
    rw [rall_app s g, rrow_app B h]
def Rd (T : Tx) (B t b : Nat) : Rs := rrow T t b (rall T B t)
theorem Rd_app {T : Tx} {c : Int} {B t b : Nat} (h : (Rd T B t b).1 = true) : Rd (app T c) B t b = Rd T B t b := by
  have g : (rall T B t).1 = true := by
    by_cases z : (rall T B t).1 = true
    · exact z
    · have := rrow_stick (T := T) (s := t) (σ := rall T B t) (b := 0) (by show (rall T B t).1 = false; simpa using z) b
      rw [Nat.zero_add] at this
      unfold Rd at h
      rw [this] at h
      exact h
  unfold Rd
  rw [rall_app t g, rrow_app b h]
/-- the text so far: a head, the cells before (t, b), all good, nothing behind them -/
def Tg (T : Tx) (S B t b : Nat) : Prop := (sgn T 0 = 77 ∧ dig T 1 = S ∧ dig T 2 = 0 ∧ dig T 3 = B) ∧ (1 ≤ S ∧ S ≤ 4) ∧ (1 ≤ B ∧ B ≤ 9) ∧ (Rd T B t b).1 = true ∧ (Rd T B t b).2.1 = T.1
theorem Tg.four {T : Tx} {S B t b : Nat} (h : Tg T S B t b) : 4 ≤ T.1 := by
  have := dig_lt (T := T) (p := 3) (by rw [h.1.2.2.2]; omega)
  omega
theorem Tg.head {T : Tx} {S B t b : Nat} (h : Tg T S B t b) (c : Int) : sgn (app T c) 0 = 77 ∧ dig (app T c) 1 = S ∧ dig (app T c) 2 = 0 ∧ dig (app T c) 3 = B := by
  have h4 := h.four
  rw [app_lt (by omega), dig_lt2 (by omega), dig_lt2 (by omega), dig_lt2 (by omega)]
  exact h.1
theorem hOk_of {T : Tx} {S B : Nat} (h : sgn T 0 = 77 ∧ dig T 1 = S ∧ dig T 2 = 0 ∧ dig T 3 = B) (hS : 1 ≤ S ∧ S ≤ 4) (hBd : 1 ≤ B ∧ B ≤ 9) : hOk T ∧ hB T = B := by
  obtain ⟨h1, h2, h3, h4⟩ := h
  have e : hB T = B := by unfold hB; rw [h3, h4]; omega
  refine ⟨⟨h1, by omega, by omega, by omega, ?_, ?_⟩, e⟩ <;> omega
theorem fin_of {T : Tx} {S B : Nat} (h : sgn T 0 = 77 ∧ dig T 1 = S ∧ dig T 2 = 0 ∧ dig T 3 = B) (hS : 1 ≤ S ∧ S ≤ 4) (hBd : 1 ≤ B ∧ B ≤ 9) : fin T = rall T B S := by
  obtain ⟨-, e⟩ := hOk_of h hS hBd
  unfold fin
  rw [e, h.2.1]
  rfl
/-- where it errs when cells are wanting -/
theorem err_of {T : Tx} {S B t b q : Nat} (h : sgn T 0 = 77 ∧ dig T 1 = S ∧ dig T 2 = 0 ∧ dig T 3 = B) (hS : 1 ≤ S ∧ S ≤ 4) (hBd : 1 ≤ B ∧ B ≤ 9) (ht : t < S) (hb : b < B) (h1 : (rrow T t (b + 1) (rall T B t)).1 = false) (h2 : (rrow T t (b + 1) (rall T B t)).2.1 = q) : rdE T = q := by
  rw [rdE_ok (hOk_of h hS hBd).1, fin_bad (fin_of h hS hBd) ht hb h1, h1, if_neg (fun z => absurd z.1 (by decide)), h2]
theorem Tg.err {T : Tx} {S B t b : Nat} (h : Tg T S B t b) (ht : t < S) (hb : b < B) : rdE T = T.1 := by
  obtain ⟨h1, hS, hBd, h4, h5⟩ := h
  unfold Rd at h4 h5
  have e : rrow T t (b + 1) (rall T B t) = rst T t b (rrow T t b (rall T B t)) := rfl
  have z : rc T (pvs (rrow T t b (rall T B t)).2.2 t b) T.1 = (false, T.1, -9) := by
    unfold rc
    rw [sgn_end (Nat.le_refl _), if_neg (by omega), if_neg (fun y => absurd y.1 (by omega)), dig_end (Nat.le_refl _), if_neg (by omega)]
  rw [rst_good h4, h5, z] at e
  exact err_of h1 hS hBd ht hb (by rw [e]) (by rw [e])
theorem Tg.half {T : Tx} {S B t b : Nat} (h : Tg T S B t b) (ht : t < S) (hb : b < B) {d : Int} (hd : 0 ≤ d ∧ d ≤ 6) : rdE (app T (48 + d)) = ((T.1 + 1 : Nat) : Int) := by
  have hh := h.head (48 + d)
  obtain ⟨h1, hS, hBd, h4, h5⟩ := h
  have e : rrow (app T (48 + d)) t (b + 1) (rall (app T (48 + d)) B t) = rst (app T (48 + d)) t b (Rd (app T (48 + d)) B t b) := rfl
  have z : rc (app T (48 + d)) (pvs (Rd T B t b).2.2 t b) T.1 = (false, T.1 + 1, -9) := by
    unfold rc
    rw [app_at, if_neg (by omega), if_neg (fun y => absurd y.1 (by omega)), dig_at (by omega), if_pos hd, dig_end (by rw [app_1]; omega), if_neg (by omega)]
  rw [Rd_app h4, rst_good h4, h5, z] at e
  exact err_of hh hS hBd ht hb (by rw [e]) (by rw [e])
/-- one cell more -/
theorem Tg.one {T : Tx} {S B t b : Nat} (h : Tg T S B t b) (c : Int) {v : Int} (hr : rc (app T c) (pvs (Rd T B t b).2.2 t b) T.1 = (true, T.1 + 1, v)) : Tg (app T c) S B t (b + 1) ∧ (Rd (app T c) B t (b + 1)).2.2 = cset (Rd T B t b).2.2 t b v := by
  have hh := h.head c
  obtain ⟨h1, hS, hBd, h4, h5⟩ := h
  have e : Rd (app T c) B t (b + 1) = rst (app T c) t b (Rd (app T c) B t b) := rfl
  rw [Rd_app h4, rst_good h4, h5, hr] at e
  rw [if_pos rfl] at e
  exact ⟨⟨hh, hS, hBd, by rw [e], by rw [e]; rfl⟩, by rw [e]⟩
theorem Tg.rest {T : Tx} {S B t b : Nat} (h : Tg T S B t b) : Tg (app T 45) S B t (b + 1) ∧ (Rd (app T 45) B t (b + 1)).2.2 = cset (Rd T B t b).2.2 t b (-9) :=
  h.one 45 (by unfold rc; rw [app_at, if_pos rfl])
theorem Tg.hold {T : Tx} {S B t b : Nat} (h : Tg T S B t b) (hp : pvs (Rd T B t b).2.2 t b ≠ -9) : Tg (app T 61) S B t (b + 1) ∧ (Rd (app T 61) B t (b + 1)).2.2 = cset (Rd T B t b).2.2 t b 99 :=
  h.one 61 (by unfold rc; rw [app_at, if_neg (by decide), if_pos ⟨rfl, hp⟩])
theorem Tg.note {T : Tx} {S B t b : Nat} (h : Tg T S B t b) {d e : Int} (hd : 0 ≤ d ∧ d ≤ 6) (he : 0 ≤ e ∧ e ≤ 9) (hv : 10 * d + e ≤ 60) : Tg (app (app T (48 + d)) (48 + e)) S B t (b + 1) ∧ (Rd (app (app T (48 + d)) (48 + e)) B t (b + 1)).2.2 = cset (Rd T B t b).2.2 t b (10 * d + e) := by
  have h4' := h.four
  have hh := h.head (48 + d)
  obtain ⟨h1, hS, hBd, h4, h5⟩ := h
  have k4 : (Rd (app T (48 + d)) B t b).1 = true := by rw [Rd_app h4]; exact h4
  have hh2 : sgn (app (app T (48 + d)) (48 + e)) 0 = 77 ∧ dig (app (app T (48 + d)) (48 + e)) 1 = S ∧ dig (app (app T (48 + d)) (48 + e)) 2 = 0 ∧ dig (app (app T (48 + d)) (48 + e)) 3 = B := by
    refine ⟨?_, ?_, ?_, ?_⟩
    · rw [app_lt (by rw [app_1]; omega)]; exact hh.1
    · rw [dig_lt2 (by rw [app_1]; omega)]; exact hh.2.1
    · rw [dig_lt2 (by rw [app_1]; omega)]; exact hh.2.2.1
    · rw [dig_lt2 (by rw [app_1]; omega)]; exact hh.2.2.2
  have e1 : Rd (app (app T (48 + d)) (48 + e)) B t (b + 1) = rst (app (app T (48 + d)) (48 + e)) t b (Rd (app (app T (48 + d)) (48 + e)) B t b) := rfl
  have g1 : dig (app (app T (48 + d)) (48 + e)) T.1 = d := by
    rw [dig_lt2 (by rw [app_1]; omega)]
    exact dig_at (by omega)
  have g2 : dig (app (app T (48 + d)) (48 + e)) (T.1 + 1) = e := dig_at (T := app T (48 + d)) he
  have g0 : sgn (app (app T (48 + d)) (48 + e)) T.1 = 48 + d := by
    rw [app_lt (by rw [app_1]; omega)]
    exact app_at T _
  have z : rc (app (app T (48 + d)) (48 + e)) (pvs (Rd T B t b).2.2 t b) T.1 = (true, T.1 + 2, 10 * d + e) := by
    unfold rc
    rw [g0, if_neg (by omega), if_neg (fun y => absurd y.1 (by omega)), g1, if_pos hd, g2, if_pos ⟨he.1, hv⟩]
  rw [Rd_app k4, Rd_app h4, rst_good h4, h5, z, if_pos rfl] at e1
  exact ⟨⟨hh2, hS, hBd, by rw [e1], by rw [e1]; rfl⟩, by rw [e1]⟩
theorem Tg.next {T : Tx} {S B t : Nat} (h : Tg T S B t B) : Tg T S B (t + 1) 0 := h
theorem Tg.full {T : Tx} {S B : Nat} (h : Tg T S B S 0) : rdE T = -9 := by
  obtain ⟨h1, hS, hBd, h4, h5⟩ := h
  have e : fin T = Rd T B S 0 := fin_of h1 hS hBd
  rw [rdE_ok (hOk_of h1 hS hBd).1, e, if_pos ⟨h4, h5⟩]
theorem Tg.over {T : Tx} {S B : Nat} (h : Tg T S B S 0) (c : Int) : rdE (app T c) = T.1 := by
  have hh := h.head c
  obtain ⟨h1, hS, hBd, h4, h5⟩ := h
  have e : fin (app T c) = Rd T B S 0 := by
    rw [fin_of hh hS hBd]
    exact Rd_app h4
  rw [rdE_ok (hOk_of hh hS hBd).1, e, h5, if_neg (fun z => ?_)]
  have := z.2
  rw [app_1] at this
  omega
/-- struck notes are counted -/
def nAll (c : Nat → Nat → Int) (S B : Nat) : Int := sg (fun s => sg (fun b => if pit (c s b) then 1 else 0) B) S
theorem nAll_cset {c : Nat → Nat → Int} {S B t b : Nat} (ht : t < S) (hb : b < B) (h9 : c t b = -9) (v : Int) : nAll (cset c t b v) S B = nAll c S B + (if pit v then 1 else 0) := by
  have n9 : ¬ pit (-9) := by omega
  have row : sg (fun b' => if pit (cset c t b v t b') then 1 else 0) B = sg (fun b' => if pit (c t b') then (1 : Int) else 0) B + (if pit v then 1 else 0) := by
    by_cases p : pit v
    · rw [if_pos p, sg_one (f := fun b' => if pit (c t b') then (1 : Int) else 0) (r := b) (fun i _ hne => ?_) (fun _ => ?_), if_pos hb]
      · show (if pit (if t = t ∧ i = b then v else c t i) then (1 : Int) else 0) = _
        rw [show (if t = t ∧ i = b then v else c t i) = c t i from if_neg (fun z => hne z.2)]
      · show (if pit (if t = t ∧ b = b then v else c t b) then (1 : Int) else 0) = (if pit (c t b) then 1 else 0) + 1
        rw [show (if t = t ∧ b = b then v else c t b) = v from if_pos ⟨rfl, rfl⟩, if_pos p, h9, if_neg n9]
        rfl
    · rw [if_neg p, Int.add_zero]
      refine sg_cong (fun i _ => ?_)
      show (if pit (if t = t ∧ i = b then v else c t i) then (1 : Int) else 0) = _
      by_cases e : i = b
      · rw [show (if t = t ∧ i = b then v else c t i) = v from if_pos ⟨rfl, e⟩, if_neg p, e, h9, if_neg n9]
      · rw [show (if t = t ∧ i = b then v else c t i) = c t i from if_neg (fun z => e z.2)]
  have oth : ∀ s, s ≠ t → sg (fun b' => if pit (cset c t b v s b') then 1 else 0) B = sg (fun b' => if pit (c s b') then (1 : Int) else 0) B := fun s hs => by
    refine sg_cong (fun i _ => ?_)
    show (if pit (if s = t ∧ i = b then v else c s i) then (1 : Int) else 0) = _
    rw [show (if s = t ∧ i = b then v else c s i) = c s i from if_neg (fun z => hs z.1)]
  unfold nAll
  by_cases p : pit v
  · rw [if_pos p] at row ⊢
    rw [sg_one (f := fun s => sg (fun b' => if pit (c s b') then (1 : Int) else 0) B) (r := t) (fun i _ hne => oth i hne) (fun _ => row), if_pos ht]
  · rw [if_neg p] at row ⊢
    rw [Int.add_zero] at row ⊢
    refine sg_cong (fun s _ => ?_)
    by_cases e : s = t
    · rw [e]; exact row
    · exact oth s e
theorem Tg.later {T : Tx} {S B t b : Nat} (h : Tg T S B t b) : (Rd T B t b).2.2 t b = -9 :=
  (RI.row (RI.all h.four B t) b).2.2.2 t b (Or.inr ⟨rfl, Nat.le_refl _⟩)
