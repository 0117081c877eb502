/-! NUMBERS: an int as a whole number within its bounds -/
def iz (z : Int) : Int32 := Int32.ofInt z
theorem iz_self (x : Int32) : iz x.toInt = x := Int32.ofInt_toInt x
theorem iz_add (a b : Int) : iz a + iz b = iz (a + b) := (Int32.ofInt_add a b).symm
theorem iz_mul (a b : Int) : iz a * iz b = iz (a * b) := (Int32.ofInt_mul a b).symm
theorem iz_neg (a : Int) : -iz a = iz (-a) := (Int32.ofInt_neg a).symm
theorem iz_sub (a b : Int) : iz a - iz b = iz (a - b) := (Int32.ofInt_sub a b).symm
theorem iz_lit (n : Nat) : (OfNat.ofNat n : Int32) = iz (OfNat.ofNat n : Int) := by
  show Int32.ofNat n = Int32.ofInt (n : Int)
  exact (Int32.ofInt_eq_ofNat).symm
theorem iz_rng (x : Int32) : -2147483648 ≤ x.toInt ∧ x.toInt < 2147483648 := ⟨Int32.le_toInt x, Int32.toInt_lt x⟩
theorem iz_toInt {z : Int} (h1 : -2147483648 ≤ z) (h2 : z < 2147483648) : (iz z).toInt = z := Int32.toInt_ofInt_of_le h1 h2
theorem iz_le {a b : Int} (a1 : -2147483648 ≤ a) (a2 : a < 2147483648) (b1 : -2147483648 ≤ b) (b2 : b < 2147483648) : (iz a ≤ iz b) = (a ≤ b) := by
  rw [Int32.le_iff_toInt_le, iz_toInt a1 a2, iz_toInt b1 b2]
theorem iz_lt {a b : Int} (a1 : -2147483648 ≤ a) (a2 : a < 2147483648) (b1 : -2147483648 ≤ b) (b2 : b < 2147483648) : (iz a < iz b) = (a < b) := by
  rw [Int32.lt_iff_toInt_lt, iz_toInt a1 a2, iz_toInt b1 b2]
theorem iz_eq {a b : Int} (a1 : -2147483648 ≤ a) (a2 : a < 2147483648) (b1 : -2147483648 ≤ b) (b2 : b < 2147483648) : (iz a = iz b) = (a = b) := by
  refine propext ⟨fun h => ?_, fun h => by rw [h]⟩
  rw [← iz_toInt a1 a2, h, iz_toInt b1 b2]
theorem iz_inb {a : Int} {N : Nat} (a1 : -2147483648 ≤ a) (a2 : a < 2147483648) : inb (iz a) N = (0 ≤ a ∧ a < (N : Int)) := by
  unfold inb
  rw [iz_toInt a1 a2]
theorem iz_cl {a : Int} (a1 : -2147483648 ≤ a) (a2 : a < 2147483648) : Int32.toNatClampNeg (iz a) = a.toNat := by
  show (iz a).toInt.toNat = a.toNat
  rw [iz_toInt a1 a2]
/-! RESULTS: an answer that comes, with a property -/
def Tot {R : Type} (x : Option R) (P : R → Prop) : Prop := ∃ r, x = some r ∧ P r
theorem Tot.mk {R : Type} {P : R → Prop} {r : R} (h : P r) : Tot (some r) P := ⟨r, rfl, h⟩
theorem Tot.mono {R : Type} {x : Option R} {P Q : R → Prop} (h : Tot x P) (k : ∀ r, P r → Q r) : Tot x Q := by
  obtain ⟨r, e, h⟩ := h
  exact ⟨r, e, k r h⟩
theorem Tot.eq {R : Type} {x : Option R} {r : R} (h : Tot x (fun y => y = r)) : x = some r := by
  obtain ⟨r', e, rfl⟩ := h
  exact e
theorem Tot.of {R : Type} {x : Option R} {r : R} {P : R → Prop} (h : x = some r) (hp : P r) : Tot x P := ⟨r, h, hp⟩
theorem Tot.ob {α β : Type} {f : Option (α × Mem)} {K : α → Mem → Option β} {P : β → Prop} (h : Tot f (fun p => Tot (K p.1 p.2) P)) : Tot (ob f K) P := by
  obtain ⟨⟨a, M⟩, rfl, h⟩ := h
  exact h
theorem ob_some {α β : Type} (a : α) (M : Mem) (K : α → Mem → Option β) : ob (some (a, M)) K = K a M := rfl
theorem oe_ok {α β : Type} (a : α) (M : Mem) (K : α → Mem → Option (Except Nat β × Mem)) : oe (some (.ok a, M)) K = K a M := rfl
theorem oe_er {α β : Type} (e : Nat) (M : Mem) (K : α → Mem → Option (Except Nat β × Mem)) : oe (some (.error e, M)) K = some (.error e, M) := rfl
/-! LOOPS -/
theorem lq0_s {R : Type} (body : (Mem → Option R) → Mem → Option R) (n : Nat) (M : Mem) : lq0 body (n + 1) M = body (lq0 body n) M := rfl
theorem lq1_s {A R : Type} (body : (A → Mem → Option R) → A → Mem → Option R) (n : Nat) (a : A) (M : Mem) : lq1 body (n + 1) a M = body (lq1 body n) a M := rfl
theorem lq2_s {A B R : Type} (body : (A → B → Mem → Option R) → A → B → Mem → Option R) (n : Nat) (a : A) (b : B) (M : Mem) : lq2 body (n + 1) a b M = body (lq2 body n) a b M := rfl
theorem lq3_s {A B C R : Type} (body : (A → B → C → Mem → Option R) → A → B → C → Mem → Option R) (n : Nat) (a : A) (b : B) (c : C) (M : Mem) : lq3 body (n + 1) a b c M = body (lq3 body n) a b c M := rfl
theorem lq1_tot {A R : Type} {body : (A → Mem → Option R) → A → Mem → Option R} {P : R → Prop} (I : A → Mem → Prop) (μ : A → Mem → Nat)
    (h : ∀ (k : A → Mem → Option R) (a : A) (M : Mem), I a M → (∀ a' M', I a' M' → μ a' M' < μ a M → Tot (k a' M') P) → Tot (body k a M) P) : ∀ (n : Nat) (a : A) (M : Mem), I a M → μ a M < n → Tot (lq1 body n a M) P
  | 0, _, _, _, h2 => absurd h2 (Nat.not_lt_zero _)
  | n + 1, a, M, h1, h2 => h (lq1 body n) a M h1 (fun a' M' i m => lq1_tot I μ h n a' M' i (by omega))
theorem lq2_tot {A B R : Type} {body : (A → B → Mem → Option R) → A → B → Mem → Option R} {P : R → Prop} (I : A → B → Mem → Prop) (μ : A → B → Mem → Nat)
    (h : ∀ (k : A → B → Mem → Option R) (a : A) (b : B) (M : Mem), I a b M → (∀ a' b' M', I a' b' M' → μ a' b' M' < μ a b M → Tot (k a' b' M') P) → Tot (body k a b M) P) : ∀ (n : Nat) (a : A) (b : B) (M : Mem), I a b M → μ a b M < n → Tot (lq2 body n a b M) P
  | 0, _, _, _, _, h2 => absurd h2 (Nat.not_lt_zero _)
  | n + 1, a, b, M, h1, h2 => h (lq2 body n) a b M h1 (fun a' b' M' i m => lq2_tot I μ h n a' b' M' i (by omega))
theorem lq3_tot {A B C R : Type} {body : (A → B → C → Mem → Option R) → A → B → C → Mem → Option R} {P : R → Prop} (I : A → B → C → Mem → Prop) (μ : A → B → C → Mem → Nat)
    (h : ∀ (k : A → B → C → Mem → Option R) (a : A) (b : B) (c : C) (M : Mem), I a b c M → (∀ a' b' c' M', I a' b' c' M' → μ a' b' c' M' < μ a b c M → Tot (k a' b' c' M') P) → Tot (body k a b c M) P) : ∀ (n : Nat) (a : A) (b : B) (c : C) (M : Mem), I a b c M → μ a b c M < n → Tot (lq3 body n a b c M) P
  | 0, _, _, _, _, _, h2 => absurd h2 (Nat.not_lt_zero _)
  | n + 1, a, b, c, M, h1, h2 => h (lq3 body n) a b c M h1 (fun a' b' c' M' i m => lq3_tot I μ h n a' b' c' M' i (by omega))
/-- a counter from i up to e, a memory with an invariant; e leaves -/
theorem up_tot {R : Type} {body : (Int32 → Mem → Option R) → Int32 → Mem → Option R} {P : R → Prop} (e : Nat) (J : Nat → Mem → Prop)
    (hs : ∀ (k : Int32 → Mem → Option R) (i : Nat) (M : Mem), i < e → J i M → (∀ M', J (i + 1) M' → Tot (k (iz (i + 1 : Nat)) M') P) → Tot (body k (iz i) M) P)
    (hx : ∀ (k : Int32 → Mem → Option R) (M : Mem), J e M → Tot (body k (iz e) M) P) (n : Nat) (i : Nat) (M : Mem) (hi : i ≤ e) (h : J i M) (hn : e - i < n) : Tot (lq1 body n (iz i) M) P := by
  induction n generalizing i M with
  | zero => omega
  | succ n ih =>
    show Tot (body (lq1 body n) (iz i) M) P
    by_cases c : i = e
    · subst c; exact hx _ M h
    · exact hs _ i M (by omega) h (fun M' h' => ih (i + 1) M' (by omega) h' (by omega))
/-- a counter from i - 1 down to 0; -1 leaves -/
theorem dn_tot {R : Type} {body : (Int32 → Mem → Option R) → Int32 → Mem → Option R} {P : R → Prop} (J : Nat → Mem → Prop)
    (hs : ∀ (k : Int32 → Mem → Option R) (i : Nat) (M : Mem), J (i + 1) M → (∀ M', J i M' → Tot (k (iz ((i : Int) - 1)) M') P) → Tot (body k (iz i) M) P)
    (hx : ∀ (k : Int32 → Mem → Option R) (M : Mem), J 0 M → Tot (body k (iz (-1)) M) P) (n : Nat) (i : Nat) (M : Mem) (h : J i M) (hn : i < n) : Tot (lq1 body n (iz ((i : Int) - 1)) M) P := by
  induction i generalizing n M with
  | zero =>
    match n, hn with
    | n + 1, _ => exact hx _ M h
  | succ i ih =>
    match n, hn with
    | n + 1, hn =>
      have e : ((i + 1 : Nat) : Int) - 1 = i := by omega
      rw [e]
      exact hs _ i M h (fun M' h' => ih n M' h' (by omega))
/-! MEMORY -/
theorem mw_same (M : Mem) (c i : Nat) (v : Int32) : mw M c i v c = upd (M c) i v := by simp [mw, ms]
theorem mw_at (M : Mem) (c i j : Nat) (v : Int32) : mw M c i v c j = if j = i then v else M c j := by simp [mw, ms, upd]
theorem mw_ne {M : Mem} {c i d : Nat} {v : Int32} (h : d ≠ c) : mw M c i v d = M d := by simp [mw, ms, h]
theorem ms_same (M : Mem) (c : Nat) (f : Nat → Int32) : ms M c f c = f := by simp [ms]
theorem ms_ne {M : Mem} {c d : Nat} {f : Nat → Int32} (h : d ≠ c) : ms M c f d = M d := by simp [ms, h]
/-- nothing changes but cells of S -/
def Off (S : Nat → Prop) (M M' : Mem) : Prop := ∀ d, ¬ S d → M' d = M d
theorem Off.rf {S : Nat → Prop} {M : Mem} : Off S M M := fun _ _ => rfl
theorem Off.tr {S : Nat → Prop} {M M' M'' : Mem} (h : Off S M M') (k : Off S M' M'') : Off S M M'' := fun d hd => (k d hd).trans (h d hd)
theorem Off.wk {S T : Nat → Prop} {M M' : Mem} (h : Off S M M') (k : ∀ d, S d → T d) : Off T M M' := fun d hd => h d (fun s => hd (k d s))
theorem Off.put {S : Nat → Prop} {M M' : Mem} (h : Off S M M') {c i : Nat} {v : Int32} (hc : S c) : Off S M (mw M' c i v) := fun d hd => by
  rw [mw_ne (fun e : d = c => hd (by rw [e]; exact hc))]; exact h d hd
