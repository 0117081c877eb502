/-! THE MEMORY: a number for each slot of each cell -/
abbrev Mem : Type := Nat → Nat → Int32
def ms (M : Mem) (c : Nat) (f : Nat → Int32) : Mem := fun d => if d = c then f else M d
def mw (M : Mem) (c i : Nat) (v : Int32) : Mem := ms M c (upd (M c) i v)
def sa_first : List Int32 := [12, 12, 5, 3, 1, 0]
def sa_least : List Int32 := [1, 1, 1, 0, 0, 0]
def sa_most : List Int32 := [24, 24, 5, 9, 1, 1]
def iSt (k : Nat) : Nat := 44 + 3 * k
def iCh (b : Nat) : Nat := 98 + 12 * b
/-- an int array of the model's: its length -/
def lnA (r : Nat) : Nat := match r with
  | 28 => 140 | 29 => 72 | 30 => 72 | 31 => 72 | 32 => 72 | 33 => 1008 | 34 => 144 | 36 => 64 | 37 => 64 | 38 => 64 | 39 => 16 | 40 => 16 | 41 => 16 | 42 => 80
  | _ => 0
/-- an index in its range -/
abbrev inb (x : Int32) (N : Nat) : Prop := 0 ≤ x.toInt ∧ x.toInt < (N : Int)
def ob {α β : Type} (x : Option (α × Mem)) (k : α → Mem → Option β) : Option β := match x with
  | none => none
  | some (a, M) => k a M
def oe {α β : Type} (x : Option (Except Nat α × Mem)) (k : α → Mem → Option (Except Nat β × Mem)) : Option (Except Nat β × Mem) := match x with
  | none => none
  | some (.error e, M) => some (.error e, M)
  | some (.ok a, M) => k a M
theorem if_T {α : Type} {c : Prop} [Decidable c] {a b x : α} (hf : (if c then a else b) = x) (h : c) : a = x := by rw [if_pos h] at hf; exact hf
theorem if_F {α : Type} {c : Prop} [Decidable c] {a b x : α} (hf : (if c then a else b) = x) (h : ¬ c) : b = x := by rw [if_neg h] at hf; exact hf
theorem if_K {α : Type} {c : Prop} [Decidable c] {a : Option α} {x : α} (hf : (if c then a else none) = some x) : c := by
  by_cases h : c
  · exact h
  · rw [if_neg h] at hf; cases hf
theorem if_V {α : Type} {c : Prop} [Decidable c] {a : Option α} {x : α} (hf : (if c then a else none) = some x) : a = some x := if_T hf (if_K hf)
def exn : Nat → String
  | 0 => "java/lang/IllegalArgumentException"
  | 1 => "java/lang/IllegalStateException"
  | _ => "java/lang/IndexOutOfBoundsException"
def lq0 {R : Type} (body : (Mem → Option R) → Mem → Option R) : Nat → Mem → Option R
  | 0 => fun _ => none
  | n + 1 => body (lq0 body n)
theorem lq0_ind {R : Type} {body : (Mem → Option R) → Mem → Option R} {res : R} {P : Mem → Prop} (h : ∀ k : Mem → Option R, (∀ (M : Mem), k  M = some res → P  M) → ∀ (M : Mem), body k  M = some res → P  M) : ∀ (n : Nat)  (M : Mem), lq0 body n  M = some res → P  M
  | 0 => fun _ hf => nomatch (show (none : Option R) = some res from hf)
  | n + 1 => h _ (lq0_ind h n)
def lq1 {A0 R : Type} (body : (A0 → Mem → Option R) → A0 → Mem → Option R) : Nat → A0 → Mem → Option R
  | 0 => fun _ _ => none
  | n + 1 => body (lq1 body n)
theorem lq1_ind {A0 R : Type} {body : (A0 → Mem → Option R) → A0 → Mem → Option R} {res : R} {P : A0 → Mem → Prop} (h : ∀ k : A0 → Mem → Option R, (∀ (a0 : A0) (M : Mem), k a0 M = some res → P a0 M) → ∀ (a0 : A0) (M : Mem), body k a0 M = some res → P a0 M) : ∀ (n : Nat) (a0 : A0) (M : Mem), lq1 body n a0 M = some res → P a0 M
  | 0 => fun _ _ hf => nomatch (show (none : Option R) = some res from hf)
  | n + 1 => h _ (lq1_ind h n)
def lq2 {A0 A1 R : Type} (body : (A0 → A1 → Mem → Option R) → A0 → A1 → Mem → Option R) : Nat → A0 → A1 → Mem → Option R
  | 0 => fun _ _ _ => none
  | n + 1 => body (lq2 body n)
theorem lq2_ind {A0 A1 R : Type} {body : (A0 → A1 → Mem → Option R) → A0 → A1 → Mem → Option R} {res : R} {P : A0 → A1 → Mem → Prop} (h : ∀ k : A0 → A1 → Mem → Option R, (∀ (a0 : A0) (a1 : A1) (M : Mem), k a0 a1 M = some res → P a0 a1 M) → ∀ (a0 : A0) (a1 : A1) (M : Mem), body k a0 a1 M = some res → P a0 a1 M) : ∀ (n : Nat) (a0 : A0) (a1 : A1) (M : Mem), lq2 body n a0 a1 M = some res → P a0 a1 M
  | 0 => fun _ _ _ hf => nomatch (show (none : Option R) = some res from hf)
  | n + 1 => h _ (lq2_ind h n)
def lq3 {A0 A1 A2 R : Type} (body : (A0 → A1 → A2 → Mem → Option R) → A0 → A1 → A2 → Mem → Option R) : Nat → A0 → A1 → A2 → Mem → Option R
  | 0 => fun _ _ _ _ => none
  | n + 1 => body (lq3 body n)
theorem lq3_ind {A0 A1 A2 R : Type} {body : (A0 → A1 → A2 → Mem → Option R) → A0 → A1 → A2 → Mem → Option R} {res : R} {P : A0 → A1 → A2 → Mem → Prop} (h : ∀ k : A0 → A1 → A2 → Mem → Option R, (∀ (a0 : A0) (a1 : A1) (a2 : A2) (M : Mem), k a0 a1 a2 M = some res → P a0 a1 a2 M) → ∀ (a0 : A0) (a1 : A1) (a2 : A2) (M : Mem), body k a0 a1 a2 M = some res → P a0 a1 a2 M) : ∀ (n : Nat) (a0 : A0) (a1 : A1) (a2 : A2) (M : Mem), lq3 body n a0 a1 a2 M = some res → P a0 a1 a2 M
  | 0 => fun _ _ _ _ hf => nomatch (show (none : Option R) = some res from hf)
  | n + 1 => h _ (lq3_ind h n)
def lq4 {A0 A1 A2 A3 R : Type} (body : (A0 → A1 → A2 → A3 → Mem → Option R) → A0 → A1 → A2 → A3 → Mem → Option R) : Nat → A0 → A1 → A2 → A3 → Mem → Option R
  | 0 => fun _ _ _ _ _ => none
  | n + 1 => body (lq4 body n)
theorem lq4_ind {A0 A1 A2 A3 R : Type} {body : (A0 → A1 → A2 → A3 → Mem → Option R) → A0 → A1 → A2 → A3 → Mem → Option R} {res : R} {P : A0 → A1 → A2 → A3 → Mem → Prop} (h : ∀ k : A0 → A1 → A2 → A3 → Mem → Option R, (∀ (a0 : A0) (a1 : A1) (a2 : A2) (a3 : A3) (M : Mem), k a0 a1 a2 a3 M = some res → P a0 a1 a2 a3 M) → ∀ (a0 : A0) (a1 : A1) (a2 : A2) (a3 : A3) (M : Mem), body k a0 a1 a2 a3 M = some res → P a0 a1 a2 a3 M) : ∀ (n : Nat) (a0 : A0) (a1 : A1) (a2 : A2) (a3 : A3) (M : Mem), lq4 body n a0 a1 a2 a3 M = some res → P a0 a1 a2 a3 M
  | 0 => fun _ _ _ _ _ hf => nomatch (show (none : Option R) = some res from hf)
  | n + 1 => h _ (lq4_ind h n)
def lq5 {A0 A1 A2 A3 A4 R : Type} (body : (A0 → A1 → A2 → A3 → A4 → Mem → Option R) → A0 → A1 → A2 → A3 → A4 → Mem → Option R) : Nat → A0 → A1 → A2 → A3 → A4 → Mem → Option R
  | 0 => fun _ _ _ _ _ _ => none
  | n + 1 => body (lq5 body n)
theorem lq5_ind {A0 A1 A2 A3 A4 R : Type} {body : (A0 → A1 → A2 → A3 → A4 → Mem → Option R) → A0 → A1 → A2 → A3 → A4 → Mem → Option R} {res : R} {P : A0 → A1 → A2 → A3 → A4 → Mem → Prop} (h : ∀ k : A0 → A1 → A2 → A3 → A4 → Mem → Option R, (∀ (a0 : A0) (a1 : A1) (a2 : A2) (a3 : A3) (a4 : A4) (M : Mem), k a0 a1 a2 a3 a4 M = some res → P a0 a1 a2 a3 a4 M) → ∀ (a0 : A0) (a1 : A1) (a2 : A2) (a3 : A3) (a4 : A4) (M : Mem), body k a0 a1 a2 a3 a4 M = some res → P a0 a1 a2 a3 a4 M) : ∀ (n : Nat) (a0 : A0) (a1 : A1) (a2 : A2) (a3 : A3) (a4 : A4) (M : Mem), lq5 body n a0 a1 a2 a3 a4 M = some res → P a0 a1 a2 a3 a4 M
  | 0 => fun _ _ _ _ _ _ hf => nomatch (show (none : Option R) = some res from hf)
  | n + 1 => h _ (lq5_ind h n)
def lq6 {A0 A1 A2 A3 A4 A5 R : Type} (body : (A0 → A1 → A2 → A3 → A4 → A5 → Mem → Option R) → A0 → A1 → A2 → A3 → A4 → A5 → Mem → Option R) : Nat → A0 → A1 → A2 → A3 → A4 → A5 → Mem → Option R
  | 0 => fun _ _ _ _ _ _ _ => none
  | n + 1 => body (lq6 body n)
theorem lq6_ind {A0 A1 A2 A3 A4 A5 R : Type} {body : (A0 → A1 → A2 → A3 → A4 → A5 → Mem → Option R) → A0 → A1 → A2 → A3 → A4 → A5 → Mem → Option R} {res : R} {P : A0 → A1 → A2 → A3 → A4 → A5 → Mem → Prop} (h : ∀ k : A0 → A1 → A2 → A3 → A4 → A5 → Mem → Option R, (∀ (a0 : A0) (a1 : A1) (a2 : A2) (a3 : A3) (a4 : A4) (a5 : A5) (M : Mem), k a0 a1 a2 a3 a4 a5 M = some res → P a0 a1 a2 a3 a4 a5 M) → ∀ (a0 : A0) (a1 : A1) (a2 : A2) (a3 : A3) (a4 : A4) (a5 : A5) (M : Mem), body k a0 a1 a2 a3 a4 a5 M = some res → P a0 a1 a2 a3 a4 a5 M) : ∀ (n : Nat) (a0 : A0) (a1 : A1) (a2 : A2) (a3 : A3) (a4 : A4) (a5 : A5) (M : Mem), lq6 body n a0 a1 a2 a3 a4 a5 M = some res → P a0 a1 a2 a3 a4 a5 M
  | 0 => fun _ _ _ _ _ _ _ hf => nomatch (show (none : Option R) = some res from hf)
  | n + 1 => h _ (lq6_ind h n)
def lq7 {A0 A1 A2 A3 A4 A5 A6 R : Type} (body : (A0 → A1 → A2 → A3 → A4 → A5 → A6 → Mem → Option R) → A0 → A1 → A2 → A3 → A4 → A5 → A6 → Mem → Option R) : Nat → A0 → A1 → A2 → A3 → A4 → A5 → A6 → Mem → Option R
  | 0 => fun _ _ _ _ _ _ _ _ => none
  | n + 1 => body (lq7 body n)
theorem lq7_ind {A0 A1 A2 A3 A4 A5 A6 R : Type} {body : (A0 → A1 → A2 → A3 → A4 → A5 → A6 → Mem → Option R) → A0 → A1 → A2 → A3 → A4 → A5 → A6 → Mem → Option R} {res : R} {P : A0 → A1 → A2 → A3 → A4 → A5 → A6 → Mem → Prop} (h : ∀ k : A0 → A1 → A2 → A3 → A4 → A5 → A6 → Mem → Option R, (∀ (a0 : A0) (a1 : A1) (a2 : A2) (a3 : A3) (a4 : A4) (a5 : A5) (a6 : A6) (M : Mem), k a0 a1 a2 a3 a4 a5 a6 M = some res → P a0 a1 a2 a3 a4 a5 a6 M) → ∀ (a0 : A0) (a1 : A1) (a2 : A2) (a3 : A3) (a4 : A4) (a5 : A5) (a6 : A6) (M : Mem), body k a0 a1 a2 a3 a4 a5 a6 M = some res → P a0 a1 a2 a3 a4 a5 a6 M) : ∀ (n : Nat) (a0 : A0) (a1 : A1) (a2 : A2) (a3 : A3) (a4 : A4) (a5 : A5) (a6 : A6) (M : Mem), lq7 body n a0 a1 a2 a3 a4 a5 a6 M = some res → P a0 a1 a2 a3 a4 a5 a6 M
  | 0 => fun _ _ _ _ _ _ _ _ hf => nomatch (show (none : Option R) = some res from hf)
  | n + 1 => h _ (lq7_ind h n)
def lq8 {A0 A1 A2 A3 A4 A5 A6 A7 R : Type} (body : (A0 → A1 → A2 → A3 → A4 → A5 → A6 → A7 → Mem → Option R) → A0 → A1 → A2 → A3 → A4 → A5 → A6 → A7 → Mem → Option R) : Nat → A0 → A1 → A2 → A3 → A4 → A5 → A6 → A7 → Mem → Option R
  | 0 => fun _ _ _ _ _ _ _ _ _ => none
  | n + 1 => body (lq8 body n)
theorem lq8_ind {A0 A1 A2 A3 A4 A5 A6 A7 R : Type} {body : (A0 → A1 → A2 → A3 → A4 → A5 → A6 → A7 → Mem → Option R) → A0 → A1 → A2 → A3 → A4 → A5 → A6 → A7 → Mem → Option R} {res : R} {P : A0 → A1 → A2 → A3 → A4 → A5 → A6 → A7 → Mem → Prop} (h : ∀ k : A0 → A1 → A2 → A3 → A4 → A5 → A6 → A7 → Mem → Option R, (∀ (a0 : A0) (a1 : A1) (a2 : A2) (a3 : A3) (a4 : A4) (a5 : A5) (a6 : A6) (a7 : A7) (M : Mem), k a0 a1 a2 a3 a4 a5 a6 a7 M = some res → P a0 a1 a2 a3 a4 a5 a6 a7 M) → ∀ (a0 : A0) (a1 : A1) (a2 : A2) (a3 : A3) (a4 : A4) (a5 : A5) (a6 : A6) (a7 : A7) (M : Mem), body k a0 a1 a2 a3 a4 a5 a6 a7 M = some res → P a0 a1 a2 a3 a4 a5 a6 a7 M) : ∀ (n : Nat) (a0 : A0) (a1 : A1) (a2 : A2) (a3 : A3) (a4 : A4) (a5 : A5) (a6 : A6) (a7 : A7) (M : Mem), lq8 body n a0 a1 a2 a3 a4 a5 a6 a7 M = some res → P a0 a1 a2 a3 a4 a5 a6 a7 M
  | 0 => fun _ _ _ _ _ _ _ _ _ hf => nomatch (show (none : Option R) = some res from hf)
  | n + 1 => h _ (lq8_ind h n)
