section
/-! THE MEMORY: a number for each slot of each cell -/
abbrev Mem : Type := Nat → Nat → Int32
def ms (M : Mem) (c : Nat) (f : Nat → Int32) : Mem := fun d => if d = c then f else M d
def mw (M : Mem) (c i : Nat) (v : Int32) : Mem := ms M c (upd (M c) i v)
def sa_first : List Int32 := [12, 12, 5, 3, 1, 0]
def sa_least : List Int32 := [1, 1, 1, 0, 0, 0]
def sa_most : List Int32 := [24, 24, 5, 9, 1, 1]
def iSt (k : Nat) : Nat := 44 + 3 * k
def iCh (b : Nat) : Nat := 98 + 12 * b
/-- an int array of the model's: its length -/
def lnA (r : Nat) : Nat := match r with
  | 28 => 140 | 29 => 72 | 30 => 72 | 31 => 72 | 32 => 72 | 33 => 1008 | 34 => 144 | 36 => 64 | 37 => 64 | 38 => 64 | 39 => 16 | 40 => 16 | 41 => 16 | 42 => 80
  | _ => 0
/-- an index in its range -/
abbrev inb (x : Int32) (N : Nat) : Prop := 0 ≤ x.toInt ∧ x.toInt < (N : Int)
def ob {α β : Type} (x : Option (α × Mem)) (k : α → Mem → Option β) : Option β := match x with
  | none => none
  | some (a, M) => k a M
def oe {α β : Type} (x : Option (Except Nat α × Mem)) (k : α → Mem → Option (Except Nat β × Mem)) : Option (Except Nat β × Mem) := match x with
  | none => none
  | some (.error e, M) => some (.error e, M)
  | some (.ok a, M) => k a M
theorem if_T {α : Type} {c : Prop} [Decidable c] {a b x : α} (hf : (if c then a else b) = x) (h : c) : a = x := by rw [if_pos h] at hf; exact hf
theorem if_F {α : Type} {c : Prop} [Decidable c] {a b x : α} (hf : (if c then a else b) = x) (h : ¬ c) : b = x := by rw [if_neg h] at hf; exact hf
theorem if_K {α : Type} {c : Prop} [Decidable c] {a : Option α} {x : α} (hf : (if c then a else none) = some x) : c := by
  by_cases h : c
  · exact h
  · rw [if_neg h] at hf; cases hf
theorem if_V {α : Type} {c : Prop} [Decidable c] {a : Option α} {x : α} (hf : (if c then a else none) = some x) : a = some x := if_T hf (if_K hf)
def lq0 {R : Type} (body : (Mem → Option R) → Mem → Option R) : Nat → Mem → Option R
  | 0 => fun _ => none
  | n + 1 => body (lq0 body n)
theorem lq0_ind {R : Type} {body : (Mem → Option R) → Mem → Option R} {res : R} {P : Mem → Prop} (h : ∀ k : Mem → Option R, (∀ (M : Mem), k  M = some res → P  M) → ∀ (M : Mem), body k  M = some res → P  M) : ∀ (n : Nat)  (M : Mem), lq0 body n  M = some res → P  M
  | 0 => fun _ hf => nomatch (show (none : Option R) = some res from hf)
  | n + 1 => h _ (lq0_ind h n)
def lq1 {A0 R : Type} (body : (A0 → Mem → Option R) → A0 → Mem → Option R) : Nat → A0 → Mem → Option R
  | 0 => fun _ _ => none
  | n + 1 => body (lq1 body n)
theorem lq1_ind {A0 R : Type} {body : (A0 → Mem → Option R) → A0 → Mem → Option R} {res : R} {P : A0 → Mem → Prop} (h : ∀ k : A0 → Mem → Option R, (∀ (a0 : A0) (M : Mem), k a0 M = some res → P a0 M) → ∀ (a0 : A0) (M : Mem), body k a0 M = some res → P a0 M) : ∀ (n : Nat) (a0 : A0) (M : Mem), lq1 body n a0 M = some res → P a0 M
  | 0 => fun _ _ hf => nomatch (show (none : Option R) = some res from hf)
  | n + 1 => h _ (lq1_ind h n)
def lq2 {A0 A1 R : Type} (body : (A0 → A1 → Mem → Option R) → A0 → A1 → Mem → Option R) : Nat → A0 → A1 → Mem → Option R
  | 0 => fun _ _ _ => none
  | n + 1 => body (lq2 body n)
theorem lq2_ind {A0 A1 R : Type} {body : (A0 → A1 → Mem → Option R) → A0 → A1 → Mem → Option R} {res : R} {P : A0 → A1 → Mem → Prop} (h : ∀ k : A0 → A1 → Mem → Option R, (∀ (a0 : A0) (a1 : A1) (M : Mem), k a0 a1 M = some res → P a0 a1 M) → ∀ (a0 : A0) (a1 : A1) (M : Mem), body k a0 a1 M = some res → P a0 a1 M) : ∀ (n : Nat) (a0 : A0) (a1 : A1) (M : Mem), lq2 body n a0 a1 M = some res → P a0 a1 M
  | 0 => fun _ _ _ hf => nomatch (show (none : Option R) = some res from hf)
  | n + 1 => h _ (lq2_ind h n)
def lq3 {A0 A1 A2 R : Type} (body : (A0 → A1 → A2 → Mem → Option R) → A0 → A1 → A2 → Mem → Option R) : Nat → A0 → A1 → A2 → Mem → Option R
  | 0 => fun _ _ _ _ => none
  | n + 1 => body (lq3 body n)
theorem lq3_ind {A0 A1 A2 R : Type} {body : (A0 → A1 → A2 → Mem → Option R) → A0 → A1 → A2 → Mem → Option R} {res : R} {P : A0 → A1 → A2 → Mem → Prop} (h : ∀ k : A0 → A1 → A2 → Mem → Option R, (∀ (a0 : A0) (a1 : A1) (a2 : A2) (M : Mem), k a0 a1 a2 M = some res → P a0 a1 a2 M) → ∀ (a0 : A0) (a1 : A1) (a2 : A2) (M : Mem), body k a0 a1 a2 M = some res → P a0 a1 a2 M) : ∀ (n : Nat) (a0 : A0) (a1 : A1) (a2 : A2) (M : Mem), lq3 body n a0 a1 a2 M = some res → P a0 a1 a2 M
  | 0 => fun _ _ _ _ hf => nomatch (show (none : Option R) = some res from hf)
  | n + 1 => h _ (lq3_ind h n)
def lq4 {A0 A1 A2 A3 R : Type} (body : (A0 → A1 → A2 → A3 → Mem → Option R) → A0 → A1 → A2 → A3 → Mem → Option R) : Nat → A0 → A1 → A2 → A3 → Mem → Option R
  | 0 => fun _ _ _ _ _ => none
  | n + 1 => body (lq4 body n)
theorem lq4_ind {A0 A1 A2 A3 R : Type} {body : (A0 → A1 → A2 → A3 → Mem → Option R) → A0 → A1 → A2 → A3 → Mem → Option R} {res : R} {P : A0 → A1 → A2 → A3 → Mem → Prop} (h : ∀ k : A0 → A1 → A2 → A3 → Mem → Option R, (∀ (a0 : A0) (a1 : A1) (a2 : A2) (a3 : A3) (M : Mem), k a0 a1 a2 a3 M = some res → P a0 a1 a2 a3 M) → ∀ (a0 : A0) (a1 : A1) (a2 : A2) (a3 : A3) (M : Mem), body k a0 a1 a2 a3 M = some res → P a0 a1 a2 a3 M) : ∀ (n : Nat) (a0 : A0) (a1 : A1) (a2 : A2) (a3 : A3) (M : Mem), lq4 body n a0 a1 a2 a3 M = some res → P a0 a1 a2 a3 M
  | 0 => fun _ _ _ _ _ hf => nomatch (show (none : Option R) = some res from hf)
  | n + 1 => h _ (lq4_ind h n)
def lq5 {A0 A1 A2 A3 A4 R : Type} (body : (A0 → A1 → A2 → A3 → A4 → Mem → Option R) → A0 → A1 → A2 → A3 → A4 → Mem → Option R) : Nat → A0 → A1 → A2 → A3 → A4 → Mem → Option R
  | 0 => fun _ _ _ _ _ _ => none
  | n + 1 => body (lq5 body n)
theorem lq5_ind {A0 A1 A2 A3 A4 R : Type} {body : (A0 → A1 → A2 → A3 → A4 → Mem → Option R) → A0 → A1 → A2 → A3 → A4 → Mem → Option R} {res : R} {P : A0 → A1 → A2 → A3 → A4 → Mem → Prop} (h : ∀ k : A0 → A1 → A2 → A3 → A4 → Mem → Option R, (∀ (a0 : A0) (a1 : A1) (a2 : A2) (a3 : A3) (a4 : A4) (M : Mem), k a0 a1 a2 a3 a4 M = some res → P a0 a1 a2 a3 a4 M) → ∀ (a0 : A0) (a1 : A1) (a2 : A2) (a3 : A3) (a4 : A4) (M : Mem), body k a0 a1 a2 a3 a4 M = some res → P a0 a1 a2 a3 a4 M) : ∀ (n : Nat) (a0 : A0) (a1 : A1) (a2 : A2) (a3 : A3) (a4 : A4) (M : Mem), lq5 body n a0 a1 a2 a3 a4 M = some res → P a0 a1 a2 a3 a4 M
  | 0 => fun _ _ _ _ _ _ hf => nomatch (show (none : Option R) = some res from hf)
  | n + 1 => h _ (lq5_ind h n)
def lq6 {A0 A1 A2 A3 A4 A5 R : Type} (body : (A0 → A1 → A2 → A3 → A4 → A5 → Mem → Option R) → A0 → A1 → A2 → A3 → A4 → A5 → Mem → Option R) : Nat → A0 → A1 → A2 → A3 → A4 → A5 → Mem → Option R
  | 0 => fun _ _ _ _ _ _ _ => none
  | n + 1 => body (lq6 body n)
theorem lq6_ind {A0 A1 A2 A3 A4 A5 R : Type} {body : (A0 → A1 → A2 → A3 → A4 → A5 → Mem → Option R) → A0 → A1 → A2 → A3 → A4 → A5 → Mem → Option R} {res : R} {P : A0 → A1 → A2 → A3 → A4 → A5 → Mem → Prop} (h : ∀ k : A0 → A1 → A2 → A3 → A4 → A5 → Mem → Option R, (∀ (a0 : A0) (a1 : A1) (a2 : A2) (a3 : A3) (a4 : A4) (a5 : A5) (M : Mem), k a0 a1 a2 a3 a4 a5 M = some res → P a0 a1 a2 a3 a4 a5 M) → ∀ (a0 : A0) (a1 : A1) (a2 : A2) (a3 : A3) (a4 : A4) (a5 : A5) (M : Mem), body k a0 a1 a2 a3 a4 a5 M = some res → P a0 a1 a2 a3 a4 a5 M) : ∀ (n : Nat) (a0 : A0) (a1 : A1) (a2 : A2) (a3 : A3) (a4 : A4) (a5 : A5) (M : Mem), lq6 body n a0 a1 a2 a3 a4 a5 M = some res → P a0 a1 a2 a3 a4 a5 M
  | 0 => fun _ _ _ _ _ _ _ hf => nomatch (show (none : Option R) = some res from hf)
  | n + 1 => h _ (lq6_ind h n)
def lq7 {A0 A1 A2 A3 A4 A5 A6 R : Type} (body : (A0 → A1 → A2 → A3 → A4 → A5 → A6 → Mem → Option R) → A0 → A1 → A2 → A3 → A4 → A5 → A6 → Mem → Option R) : Nat → A0 → A1 → A2 → A3 → A4 → A5 → A6 → Mem → Option R
  | 0 => fun _ _ _ _ _ _ _ _ => none
  | n + 1 => body (lq7 body n)
theorem lq7_ind {A0 A1 A2 A3 A4 A5 A6 R : Type} {body : (A0 → A1 → A2 → A3 → A4 → A5 → A6 → Mem → Option R) → A0 → A1 → A2 → A3 → A4 → A5 → A6 → Mem → Option R} {res : R} {P : A0 → A1 → A2 → A3 → A4 → A5 → A6 → Mem → Prop} (h : ∀ k : A0 → A1 → A2 → A3 → A4 → A5 → A6 → Mem → Option R, (∀ (a0 : A0) (a1 : A1) (a2 : A2) (a3 : A3) (a4 : A4) (a5 : A5) (a6 : A6) (M : Mem), k a0 a1 a2 a3 a4 a5 a6 M = some res → P a0 a1 a2 a3 a4 a5 a6 M) → ∀ (a0 : A0) (a1 : A1) (a2 : A2) (a3 : A3) (a4 : A4) (a5 : A5) (a6 : A6) (M : Mem), body k a0 a1 a2 a3 a4 a5 a6 M = some res → P a0 a1 a2 a3 a4 a5 a6 M) : ∀ (n : Nat) (a0 : A0) (a1 : A1) (a2 : A2) (a3 : A3) (a4 : A4) (a5 : A5) (a6 : A6) (M : Mem), lq7 body n a0 a1 a2 a3 a4 a5 a6 M = some res → P a0 a1 a2 a3 a4 a5 a6 M
  | 0 => fun _ _ _ _ _ _ _ _ hf => nomatch (show (none : Option R) = some res from hf)
  | n + 1 => h _ (lq7_ind h n)
def lq8 {A0 A1 A2 A3 A4 A5 A6 A7 R : Type} (body : (A0 → A1 → A2 → A3 → A4 → A5 → A6 → A7 → Mem → Option R) → A0 → A1 → A2 → A3 → A4 → A5 → A6 → A7 → Mem → Option R) : Nat → A0 → A1 → A2 → A3 → A4 → A5 → A6 → A7 → Mem → Option R
  | 0 => fun _ _ _ _ _ _ _ _ _ => none
  | n + 1 => body (lq8 body n)
theorem lq8_ind {A0 A1 A2 A3 A4 A5 A6 A7 R : Type} {body : (A0 → A1 → A2 → A3 → A4 → A5 → A6 → A7 → Mem → Option R) → A0 → A1 → A2 → A3 → A4 → A5 → A6 → A7 → Mem → Option R} {res : R} {P : A0 → A1 → A2 → A3 → A4 → A5 → A6 → A7 → Mem → Prop} (h : ∀ k : A0 → A1 → A2 → A3 → A4 → A5 → A6 → A7 → Mem → Option R, (∀ (a0 : A0) (a1 : A1) (a2 : A2) (a3 : A3) (a4 : A4) (a5 : A5) (a6 : A6) (a7 : A7) (M : Mem), k a0 a1 a2 a3 a4 a5 a6 a7 M = some res → P a0 a1 a2 a3 a4 a5 a6 a7 M) → ∀ (a0 : A0) (a1 : A1) (a2 : A2) (a3 : A3) (a4 : A4) (a5 : A5) (a6 : A6) (a7 : A7) (M : Mem), body k a0 a1 a2 a3 a4 a5 a6 a7 M = some res → P a0 a1 a2 a3 a4 a5 a6 a7 M) : ∀ (n : Nat) (a0 : A0) (a1 : A1) (a2 : A2) (a3 : A3) (a4 : A4) (a5 : A5) (a6 : A6) (a7 : A7) (M : Mem), lq8 body n a0 a1 a2 a3 a4 a5 a6 a7 M = some res → P a0 a1 a2 a3 a4 a5 a6 a7 M
  | 0 => fun _ _ _ _ _ _ _ _ _ hf => nomatch (show (none : Option R) = some res from hf)
  | n + 1 => h _ (lq8_ind h n)
end
section
def f_X3_written (q0 : Nat) (v1 : Int32) (v2 : Int32) (M : Mem) : Option (Int32 × Mem) :=
  if v1 < 0 then (some ((-9), M)) else (if (M (iSt q0) 2) ≤ v1 then (some ((-9), M)) else (if v2 < 0 then (some ((-9), M)) else (if (M (iSt q0) 3) ≤ v2 then (some ((-9), M)) else (if inb ((v1 * 16) + v2) 64 then (some (M (iSt q0 + 2) (Int32.toNatClampNeg ((v1 * 16) + v2)), M)) else none))))
def f_X3_sounding_b2 (q0 : Nat) (v1 : Int32) (k2 : Int32 → Mem → Option (Int32 × Mem)) (v3 : Int32) (M : Mem) : Option (Int32 × Mem) :=
  if v3 < 0 then (some ((-9), M)) else (ob (f_X3_written q0 v1 v3 M) (fun x1 M2 => if x1 = 99 then (k2 (v3 + (-1)) M2) else (some (x1, M2))))
def f_X3_sounding (q0 : Nat) (v1 : Int32) (v2 : Int32) (M : Mem) : Option (Int32 × Mem) :=
  lq1 (f_X3_sounding_b2 q0 v1) 9999 v2 M
def f_X0_readNotes_b46 (b0 : Nat) (q1 : Nat) (v2 : Int32) (v3 : Int32) (k7 : Int32 → Mem → Option (Unit × Mem)) (s0 : Int32) (s1 : Int32) (s2 : Nat) (M : Mem) : Option (Unit × Mem) :=
  if inb s1 4 then (ob (f_X3_written q1 v3 v2 (mw M s2 (Int32.toNatClampNeg s1) s0)) (fun x3 M4 => if x3 = 99 then (k7 (v3 + 1) (mw M4 (iCh b0) 6 ((M4 (iCh b0) 6) ||| (1 <<< (v3 &&& 31))))) else (k7 (v3 + 1) M4))) else none
def f_X0_readNotes_b7 (b0 : Nat) (q1 : Nat) (v2 : Int32) (k7 : Int32 → Mem → Option (Unit × Mem)) (v3 : Int32) (M : Mem) : Option (Unit × Mem) :=
  if 4 ≤ v3 then (some ((), M)) else (ob (f_X3_sounding q1 v3 v2 M) (fun x1 M2 => if inb v3 4 then (if inb v3 4 then (if ((mw M2 (iCh b0 + 2) (Int32.toNatClampNeg v3) x1) (iCh b0 + 2) (Int32.toNatClampNeg v3)) = (-9) then (f_X0_readNotes_b46 b0 q1 v2 v3 k7 (-9) v3 (iCh b0 + 3) (mw M2 (iCh b0 + 2) (Int32.toNatClampNeg v3) x1)) else (f_X0_readNotes_b46 b0 q1 v2 v3 k7 0 v3 (iCh b0 + 3) (mw M2 (iCh b0 + 2) (Int32.toNatClampNeg v3) x1))) else none) else none))
def f_X0_readNotes (b0 : Nat) (q1 : Nat) (v2 : Int32) (M : Mem) : Option (Unit × Mem) :=
  lq1 (f_X0_readNotes_b7 b0 q1 v2) 9999 0 (mw M (iCh b0) 6 0)
def f_X3_isSetting (v0 : Int32) (M : Mem) : Option (Int32 × Mem) :=
  if v0 < 0 then (some (0, M)) else (if 6 ≤ v0 then (some (0, M)) else (some (1, M)))
def f_X3_settingAt (q0 : Nat) (v1 : Int32) (M : Mem) : Option (Int32 × Mem) :=
  ob (f_X3_isSetting v1 M) (fun x1 M2 => if x1 = 0 then (some (0, M2)) else (if inb v1 6 then (some (M2 (iSt q0 + 1) (Int32.toNatClampNeg v1), M2)) else none))
def f_X0_readSettings_b24 (b0 : Nat) (q1 : Nat) (M : Mem) : Option (Unit × Mem) :=
  ob (f_X3_settingAt q1 2 M) (fun x3 M4 => ob (f_X3_settingAt q1 3 (mw M4 (iCh b0) 1 x3)) (fun x5 M6 => ob (f_X3_settingAt q1 4 (mw M6 (iCh b0) 2 x5)) (fun x7 M8 => if x7 = 1 then (if 1 &&& 1 = 1 then (some ((), (mw M8 (iCh b0) 3 1))) else none) else (if 0 &&& 1 = 0 then (some ((), (mw M8 (iCh b0) 3 0))) else none))))
def f_X0_readSettings_b2 (b0 : Nat) (q1 : Nat) (k2 : Int32 → Mem → Option (Unit × Mem)) (v2 : Int32) (M : Mem) : Option (Unit × Mem) :=
  if 2 ≤ v2 then (f_X0_readSettings_b24 b0 q1 M) else (ob (f_X3_settingAt q1 v2 M) (fun x1 M2 => if inb v2 2 then (k2 (v2 + 1) (mw M2 (iCh b0 + 1) (Int32.toNatClampNeg v2) x1)) else none))
def f_X0_readSettings (b0 : Nat) (q1 : Nat) (M : Mem) : Option (Unit × Mem) :=
  lq1 (f_X0_readSettings_b2 b0 q1) 9999 0 M
def f_X0_reasonFor_b23 (b0 : Nat) (v1 : Int32) (v2 : Int32) (v3 : Int32) (v4 : Int32) (k5 : Int32 → Int32 → Mem → Option (Int32 × Mem)) (M : Mem) : Option (Int32 × Mem) :=
  if inb v4 4 then (if (M (iCh b0 + 3) (Int32.toNatClampNeg v4)) = 0 then (if inb v1 4 then (if inb v4 4 then (if (if 0 ≤ ((M (iCh b0 + 2) (Int32.toNatClampNeg v1)) - (M (iCh b0 + 2) (Int32.toNatClampNeg v4))) then ((M (iCh b0 + 2) (Int32.toNatClampNeg v1)) - (M (iCh b0 + 2) (Int32.toNatClampNeg v4))) else 0 - ((M (iCh b0 + 2) (Int32.toNatClampNeg v1)) - (M (iCh b0 + 2) (Int32.toNatClampNeg v4)))) = 0 then (some (1, M)) else (if (M (iCh b0) 3) = 0 then (k5 v3 (v4 + 1) M) else (if ((if 0 ≤ ((M (iCh b0 + 2) (Int32.toNatClampNeg v1)) - (M (iCh b0 + 2) (Int32.toNatClampNeg v4))) then ((M (iCh b0 + 2) (Int32.toNatClampNeg v1)) - (M (iCh b0 + 2) (Int32.toNatClampNeg v4))) else 0 - ((M (iCh b0 + 2) (Int32.toNatClampNeg v1)) - (M (iCh b0 + 2) (Int32.toNatClampNeg v4)))) - (if 0 ≤ ((M (iCh b0 + 2) (Int32.toNatClampNeg v1)) - (M (iCh b0 + 2) (Int32.toNatClampNeg v4))) then ((M (iCh b0 + 2) (Int32.toNatClampNeg v1)) - (M (iCh b0 + 2) (Int32.toNatClampNeg v4))) else 0 - ((M (iCh b0 + 2) (Int32.toNatClampNeg v1)) - (M (iCh b0 + 2) (Int32.toNatClampNeg v4)))) / 12 * 12) = 0 then (k5 2 (v4 + 1) M) else (k5 v3 (v4 + 1) M)))) else none) else none) else (k5 v3 (v4 + 1) M)) else none
def f_X0_reasonFor_b5 (b0 : Nat) (v1 : Int32) (v2 : Int32) (k5 : Int32 → Int32 → Mem → Option (Int32 × Mem)) (v3 : Int32) (v4 : Int32) (M : Mem) : Option (Int32 × Mem) :=
  if 4 ≤ v4 then (some (v3, M)) else (if v4 < v1 then (f_X0_reasonFor_b23 b0 v1 v2 v3 v4 k5 M) else (if v4 = v2 then (f_X0_reasonFor_b23 b0 v1 v2 v3 v4 k5 M) else (k5 v3 (v4 + 1) M)))
def f_X0_reasonFor (b0 : Nat) (v1 : Int32) (v2 : Int32) (M : Mem) : Option (Int32 × Mem) :=
  lq2 (f_X0_reasonFor_b5 b0 v1 v2) 9999 0 0 M
def f_X0_countOf (b0 : Nat) (v1 : Int32) (v2 : Int32) (M : Mem) : Option (Int32 × Mem) :=
  if v1 = 0 then (some (v2, M)) else (some ((M (iCh b0) 9) - v2, M))
def f_X0_stavesOf (b0 : Nat) (v1 : Int32) (v2 : Int32) (M : Mem) : Option (Int32 × Mem) :=
  if v1 = 0 then (if inb v2 5 then (some (M (iCh b0 + 5) (Int32.toNatClampNeg v2), M)) else none) else (if inb (M (iCh b0) 9) 5 then (if inb v2 5 then (some ((M (iCh b0 + 5) (Int32.toNatClampNeg (M (iCh b0) 9))) &&& ((M (iCh b0 + 5) (Int32.toNatClampNeg v2)) ^^^ (-1)), M)) else none) else none)
def f_X0_canPlay_b49 (b0 : Nat) (v1 : Int32) (v2 : Int32) (s0 : Int32) (M : Mem) : Option (Int32 × Mem) :=
  if inb v1 2 then (if inb v2 5 then (if s0 < (M (iCh b0 + 10 + Int32.toNatClampNeg v1) (Int32.toNatClampNeg v2)) then (some (0, M)) else (some (1, M))) else none) else none
def f_X0_canPlay (b0 : Nat) (v1 : Int32) (v2 : Int32) (M : Mem) : Option (Int32 × Mem) :=
  ob (f_X0_countOf b0 v1 v2 M) (fun x1 M2 => if x1 ≤ (M2 (iCh b0) 1) then (ob (f_X0_stavesOf b0 v1 v2 M2) (fun x3 M4 => if (x3 &&& (M4 (iCh b0) 6)) = 0 then (if inb v1 2 then (f_X0_canPlay_b49 b0 v1 v2 ((M4 (iCh b0 + 1) (Int32.toNatClampNeg v1)) + (M4 (iCh b0) 2)) M4) else none) else (if inb v1 2 then (f_X0_canPlay_b49 b0 v1 v2 (M4 (iCh b0 + 1) (Int32.toNatClampNeg v1)) M4) else none))) else (some (0, M2)))
def f_X0_insert_b51 (b0 : Nat) (v1 : Int32) (v2 : Int32) (M : Mem) : Option (Unit × Mem) :=
  if inb v2 4 then (some ((), (mw (mw M (iCh b0 + 4) (Int32.toNatClampNeg v2) v1) (iCh b0) 9 (((mw M (iCh b0 + 4) (Int32.toNatClampNeg v2) v1) (iCh b0) 9) + 1)))) else none
def f_X0_insert_b5 (b0 : Nat) (v1 : Int32) (k5 : Int32 → Mem → Option (Unit × Mem)) (v2 : Int32) (M : Mem) : Option (Unit × Mem) :=
  if v2 ≤ 0 then (f_X0_insert_b51 b0 v1 v2 M) else (if inb (v2 - 1) 4 then (if inb (M (iCh b0 + 4) (Int32.toNatClampNeg (v2 - 1))) 4 then (if inb v1 4 then (if (M (iCh b0 + 2) (Int32.toNatClampNeg (M (iCh b0 + 4) (Int32.toNatClampNeg (v2 - 1))))) ≤ (M (iCh b0 + 2) (Int32.toNatClampNeg v1)) then (f_X0_insert_b51 b0 v1 v2 M) else (if inb (v2 - 1) 4 then (if inb v2 4 then (k5 (v2 + (-1)) (mw M (iCh b0 + 4) (Int32.toNatClampNeg v2) (M (iCh b0 + 4) (Int32.toNatClampNeg (v2 - 1))))) else none) else none)) else none) else none) else none)
def f_X0_insert (b0 : Nat) (v1 : Int32) (M : Mem) : Option (Unit × Mem) :=
  lq1 (f_X0_insert_b5 b0 v1) 9999 (M (iCh b0) 9) M
def f_X0_measure (b0 : Nat) (v1 : Int32) (v2 : Int32) (v3 : Int32) (v4 : Int32) (M : Mem) : Option (Unit × Mem) :=
  if v4 ≤ v3 then (if inb v1 2 then (if inb v2 5 then (if inb v1 2 then (if inb v2 5 then (some ((), (mw (mw M (iCh b0 + 7 + Int32.toNatClampNeg v1) (Int32.toNatClampNeg v2) (-9)) (iCh b0 + 10 + Int32.toNatClampNeg v1) (Int32.toNatClampNeg v2) 0))) else none) else none) else none) else none) else (if inb v1 2 then (if inb v3 4 then (if inb (M (iCh b0 + 4) (Int32.toNatClampNeg v3)) 4 then (if inb v2 5 then (if inb v1 2 then (if inb (v4 - 1) 4 then (if inb ((mw M (iCh b0 + 7 + Int32.toNatClampNeg v1) (Int32.toNatClampNeg v2) (M (iCh b0 + 2) (Int32.toNatClampNeg (M (iCh b0 + 4) (Int32.toNatClampNeg v3))))) (iCh b0 + 4) (Int32.toNatClampNeg (v4 - 1))) 4 then (if inb v3 4 then (if inb ((mw M (iCh b0 + 7 + Int32.toNatClampNeg v1) (Int32.toNatClampNeg v2) (M (iCh b0 + 2) (Int32.toNatClampNeg (M (iCh b0 + 4) (Int32.toNatClampNeg v3))))) (iCh b0 + 4) (Int32.toNatClampNeg v3)) 4 then (if inb v2 5 then (some ((), (mw (mw M (iCh b0 + 7 + Int32.toNatClampNeg v1) (Int32.toNatClampNeg v2) (M (iCh b0 + 2) (Int32.toNatClampNeg (M (iCh b0 + 4) (Int32.toNatClampNeg v3))))) (iCh b0 + 10 + Int32.toNatClampNeg v1) (Int32.toNatClampNeg v2) (((mw M (iCh b0 + 7 + Int32.toNatClampNeg v1) (Int32.toNatClampNeg v2) (M (iCh b0 + 2) (Int32.toNatClampNeg (M (iCh b0 + 4) (Int32.toNatClampNeg v3))))) (iCh b0 + 2) (Int32.toNatClampNeg ((mw M (iCh b0 + 7 + Int32.toNatClampNeg v1) (Int32.toNatClampNeg v2) (M (iCh b0 + 2) (Int32.toNatClampNeg (M (iCh b0 + 4) (Int32.toNatClampNeg v3))))) (iCh b0 + 4) (Int32.toNatClampNeg (v4 - 1))))) - ((mw M (iCh b0 + 7 + Int32.toNatClampNeg v1) (Int32.toNatClampNeg v2) (M (iCh b0 + 2) (Int32.toNatClampNeg (M (iCh b0 + 4) (Int32.toNatClampNeg v3))))) (iCh b0 + 2) (Int32.toNatClampNeg ((mw M (iCh b0 + 7 + Int32.toNatClampNeg v1) (Int32.toNatClampNeg v2) (M (iCh b0 + 2) (Int32.toNatClampNeg (M (iCh b0 + 4) (Int32.toNatClampNeg v3))))) (iCh b0 + 4) (Int32.toNatClampNeg v3)))))))) else none) else none) else none) else none) else none) else none) else none) else none) else none) else none)
def f_X0_share_b95 (b0 : Nat) (k95 : Int32 → Mem → Option (Unit × Mem)) (v1 : Int32) (M : Mem) : Option (Unit × Mem) :=
  if (M (iCh b0) 9) < v1 then (some ((), M)) else (ob (f_X0_measure b0 0 v1 0 v1 M) (fun x3 M4 => ob (f_X0_measure b0 1 v1 v1 (M4 (iCh b0) 9) M4) (fun x5 M6 => ob (f_X0_canPlay b0 0 v1 M6) (fun x7 M8 => if x7 = 0 then (k95 (v1 + 1) M8) else (ob (f_X0_canPlay b0 1 v1 M8) (fun x9 M10 => if x9 = 0 then (k95 (v1 + 1) M10) else (k95 (v1 + 1) (mw M10 (iCh b0) 10 ((M10 (iCh b0) 10) ||| (1 <<< (v1 &&& 31)))))))))))
def f_X0_share_b70 (b0 : Nat) (M : Mem) : Option (Unit × Mem) :=
  if inb (M (iCh b0) 9) 5 then (lq1 (f_X0_share_b95 b0) 9999 0 (mw (mw M (iCh b0) 7 ((M (iCh b0) 6) &&& (M (iCh b0 + 5) (Int32.toNatClampNeg (M (iCh b0) 9))))) (iCh b0) 10 0)) else none
def f_X0_share_b33 (b0 : Nat) (k33 : Int32 → Mem → Option (Unit × Mem)) (v1 : Int32) (M : Mem) : Option (Unit × Mem) :=
  if (M (iCh b0) 9) ≤ v1 then (f_X0_share_b70 b0 M) else (if inb v1 5 then (if inb v1 4 then (if inb (v1 + 1) 5 then (k33 (v1 + 1) (mw M (iCh b0 + 5) (Int32.toNatClampNeg (v1 + 1)) ((M (iCh b0 + 5) (Int32.toNatClampNeg v1)) ||| (1 <<< ((M (iCh b0 + 4) (Int32.toNatClampNeg v1)) &&& 31))))) else none) else none) else none)
def f_X0_share_b31 (b0 : Nat) (M : Mem) : Option (Unit × Mem) :=
  lq1 (f_X0_share_b33 b0) 9999 0 M
def f_X0_share_b7 (b0 : Nat) (k7 : Int32 → Mem → Option (Unit × Mem)) (v1 : Int32) (M : Mem) : Option (Unit × Mem) :=
  if v1 < 0 then (f_X0_share_b31 b0 M) else (if inb v1 4 then (if (M (iCh b0 + 3) (Int32.toNatClampNeg v1)) = 0 then (ob (f_X0_insert b0 v1 M) (fun x1 M2 => k7 (v1 + (-1)) M2)) else (k7 (v1 + (-1)) M)) else none)
def f_X0_share (b0 : Nat) (M : Mem) : Option (Unit × Mem) :=
  lq1 (f_X0_share_b7 b0) 9999 3 (mw M (iCh b0) 9 0)
def f_X0_read_b66 (b0 : Nat) (k66 : Int32 → Mem → Option (Unit × Mem)) (v4 : Int32) (M : Mem) : Option (Unit × Mem) :=
  if v4 < 1 then (some ((), M)) else (if (M (iCh b0) 10) = 0 then (if inb v4 4 then (if (M (iCh b0 + 3) (Int32.toNatClampNeg v4)) = 0 then (if inb v4 4 then (ob (f_X0_share b0 (mw M (iCh b0 + 3) (Int32.toNatClampNeg v4) 3)) (fun x9 M10 => k66 (v4 + (-1)) M10)) else none) else (k66 (v4 + (-1)) M)) else none) else (some ((), M)))
def f_X0_read_b57 (b0 : Nat) (v3 : Int32) (M : Mem) : Option (Unit × Mem) :=
  ob (f_X0_share b0 M) (fun x7 M8 => lq1 (f_X0_read_b66 b0) 9999 (v3 - 1) M8)
def f_X0_read_b21 (b0 : Nat) (v3 : Int32) (k21 : Int32 → Mem → Option (Unit × Mem)) (v4 : Int32) (M : Mem) : Option (Unit × Mem) :=
  if v3 ≤ v4 then (f_X0_read_b57 b0 v3 M) else (if inb v4 4 then (if (M (iCh b0 + 3) (Int32.toNatClampNeg v4)) = 0 then (ob (f_X0_reasonFor b0 v4 v3 M) (fun x5 M6 => if inb v4 4 then (k21 (v4 + 1) (mw M6 (iCh b0 + 3) (Int32.toNatClampNeg v4) x5)) else none)) else (k21 (v4 + 1) M)) else none)
def f_X0_read (b0 : Nat) (q1 : Nat) (v2 : Int32) (M : Mem) : Option (Unit × Mem) :=
  ob (f_X0_readSettings b0 q1 M) (fun x1 M2 => ob (f_X0_readNotes b0 q1 v2 M2) (fun x3 M4 => lq1 (f_X0_read_b21 b0 ((M4 (iSt q1) 2) - 1)) 9999 1 M4))
def f_X0_isPossible (b0 : Nat) (v1 : Int32) (M : Mem) : Option (Int32 × Mem) :=
  if (((M (iCh b0) 10) >>> (v1 &&& 31)) &&& 1) = 1 then (some (1, M)) else (some (0, M))
def f_X0_isRolled (b0 : Nat) (v1 : Int32) (v2 : Int32) (M : Mem) : Option (Int32 × Mem) :=
  if inb v1 2 then (if inb v2 5 then (if inb v1 2 then (if (M (iCh b0 + 10 + Int32.toNatClampNeg v1) (Int32.toNatClampNeg v2)) ≤ (M (iCh b0 + 1) (Int32.toNatClampNeg v1)) then (some (0, M)) else (some (1, M))) else none) else none) else none
def f_X0_countRolled_b14 (b0 : Nat) (v1 : Int32) (s0 : Int32) (M : Mem) : Option (Int32 × Mem) :=
  ob (f_X0_isRolled b0 1 v1 M) (fun x3 M4 => if x3 = 0 then (some (s0 + 0, M4)) else (some (s0 + 1, M4)))
def f_X0_countRolled (b0 : Nat) (v1 : Int32) (M : Mem) : Option (Int32 × Mem) :=
  ob (f_X0_isRolled b0 0 v1 M) (fun x1 M2 => if x1 = 0 then (f_X0_countRolled_b14 b0 v1 0 M2) else (f_X0_countRolled_b14 b0 v1 1 M2))
def f_X0_move (b0 : Nat) (v1 : Int32) (v2 : Int32) (b3 : Nat) (v4 : Int32) (M : Mem) : Option (Int32 × Mem) :=
  if inb v1 2 then (if inb v4 5 then (if inb v1 2 then (if inb v2 5 then (if (M (iCh b3 + 7 + Int32.toNatClampNeg v1) (Int32.toNatClampNeg v4)) = (-9) then (some (0, M)) else (if (M (iCh b0 + 7 + Int32.toNatClampNeg v1) (Int32.toNatClampNeg v2)) = (-9) then (some (0, M)) else (if (M (iCh b0 + 7 + Int32.toNatClampNeg v1) (Int32.toNatClampNeg v2)) ≤ (M (iCh b3 + 7 + Int32.toNatClampNeg v1) (Int32.toNatClampNeg v4)) then (some ((M (iCh b3 + 7 + Int32.toNatClampNeg v1) (Int32.toNatClampNeg v4)) - (M (iCh b0 + 7 + Int32.toNatClampNeg v1) (Int32.toNatClampNeg v2)), M)) else (some ((M (iCh b0 + 7 + Int32.toNatClampNeg v1) (Int32.toNatClampNeg v2)) - (M (iCh b3 + 7 + Int32.toNatClampNeg v1) (Int32.toNatClampNeg v4)), M))))) else none) else none) else none) else none
def f_X0_cutStaves (b0 : Nat) (v1 : Int32) (b2 : Nat) (v3 : Int32) (M : Mem) : Option (Int32 × Mem) :=
  if inb (M (iCh b2) 9) 5 then (if inb v1 5 then (if inb v3 5 then (some ((M (iCh b0) 7) &&& (((M (iCh b2 + 5) (Int32.toNatClampNeg (M (iCh b2) 9))) ^^^ (-1)) ||| ((M (iCh b0 + 5) (Int32.toNatClampNeg v1)) ^^^ (M (iCh b2 + 5) (Int32.toNatClampNeg v3)))), M)) else none) else none) else none
def f_J6_bitCount_0f7a4 (v0 : Int32) (M : Mem) : Option (Int32 × Mem) :=
  some ((((((((v0 - (((Int32.toUInt32 v0 >>> (Int32.toUInt32 1 &&& Int32.toUInt32 31)).toInt32) &&& 1431655765)) &&& 858993459) + (((Int32.toUInt32 (v0 - (((Int32.toUInt32 v0 >>> (Int32.toUInt32 1 &&& Int32.toUInt32 31)).toInt32) &&& 1431655765)) >>> (Int32.toUInt32 2 &&& Int32.toUInt32 31)).toInt32) &&& 858993459)) + ((Int32.toUInt32 (((v0 - (((Int32.toUInt32 v0 >>> (Int32.toUInt32 1 &&& Int32.toUInt32 31)).toInt32) &&& 1431655765)) &&& 858993459) + (((Int32.toUInt32 (v0 - (((Int32.toUInt32 v0 >>> (Int32.toUInt32 1 &&& Int32.toUInt32 31)).toInt32) &&& 1431655765)) >>> (Int32.toUInt32 2 &&& Int32.toUInt32 31)).toInt32) &&& 858993459)) >>> (Int32.toUInt32 4 &&& Int32.toUInt32 31)).toInt32)) &&& 252645135) + ((Int32.toUInt32 (((((v0 - (((Int32.toUInt32 v0 >>> (Int32.toUInt32 1 &&& Int32.toUInt32 31)).toInt32) &&& 1431655765)) &&& 858993459) + (((Int32.toUInt32 (v0 - (((Int32.toUInt32 v0 >>> (Int32.toUInt32 1 &&& Int32.toUInt32 31)).toInt32) &&& 1431655765)) >>> (Int32.toUInt32 2 &&& Int32.toUInt32 31)).toInt32) &&& 858993459)) + ((Int32.toUInt32 (((v0 - (((Int32.toUInt32 v0 >>> (Int32.toUInt32 1 &&& Int32.toUInt32 31)).toInt32) &&& 1431655765)) &&& 858993459) + (((Int32.toUInt32 (v0 - (((Int32.toUInt32 v0 >>> (Int32.toUInt32 1 &&& Int32.toUInt32 31)).toInt32) &&& 1431655765)) >>> (Int32.toUInt32 2 &&& Int32.toUInt32 31)).toInt32) &&& 858993459)) >>> (Int32.toUInt32 4 &&& Int32.toUInt32 31)).toInt32)) &&& 252645135) >>> (Int32.toUInt32 8 &&& Int32.toUInt32 31)).toInt32)) + ((Int32.toUInt32 ((((((v0 - (((Int32.toUInt32 v0 >>> (Int32.toUInt32 1 &&& Int32.toUInt32 31)).toInt32) &&& 1431655765)) &&& 858993459) + (((Int32.toUInt32 (v0 - (((Int32.toUInt32 v0 >>> (Int32.toUInt32 1 &&& Int32.toUInt32 31)).toInt32) &&& 1431655765)) >>> (Int32.toUInt32 2 &&& Int32.toUInt32 31)).toInt32) &&& 858993459)) + ((Int32.toUInt32 (((v0 - (((Int32.toUInt32 v0 >>> (Int32.toUInt32 1 &&& Int32.toUInt32 31)).toInt32) &&& 1431655765)) &&& 858993459) + (((Int32.toUInt32 (v0 - (((Int32.toUInt32 v0 >>> (Int32.toUInt32 1 &&& Int32.toUInt32 31)).toInt32) &&& 1431655765)) >>> (Int32.toUInt32 2 &&& Int32.toUInt32 31)).toInt32) &&& 858993459)) >>> (Int32.toUInt32 4 &&& Int32.toUInt32 31)).toInt32)) &&& 252645135) + ((Int32.toUInt32 (((((v0 - (((Int32.toUInt32 v0 >>> (Int32.toUInt32 1 &&& Int32.toUInt32 31)).toInt32) &&& 1431655765)) &&& 858993459) + (((Int32.toUInt32 (v0 - (((Int32.toUInt32 v0 >>> (Int32.toUInt32 1 &&& Int32.toUInt32 31)).toInt32) &&& 1431655765)) >>> (Int32.toUInt32 2 &&& Int32.toUInt32 31)).toInt32) &&& 858993459)) + ((Int32.toUInt32 (((v0 - (((Int32.toUInt32 v0 >>> (Int32.toUInt32 1 &&& Int32.toUInt32 31)).toInt32) &&& 1431655765)) &&& 858993459) + (((Int32.toUInt32 (v0 - (((Int32.toUInt32 v0 >>> (Int32.toUInt32 1 &&& Int32.toUInt32 31)).toInt32) &&& 1431655765)) >>> (Int32.toUInt32 2 &&& Int32.toUInt32 31)).toInt32) &&& 858993459)) >>> (Int32.toUInt32 4 &&& Int32.toUInt32 31)).toInt32)) &&& 252645135) >>> (Int32.toUInt32 8 &&& Int32.toUInt32 31)).toInt32)) >>> (Int32.toUInt32 16 &&& Int32.toUInt32 31)).toInt32)) &&& 63, M)
def f_X0_costs (b0 : Nat) (v1 : Int32) (b2 : Nat) (v3 : Int32) (M : Mem) : Option (Int32 × Mem) :=
  ob (f_X0_cutStaves b0 v1 b2 v3 M) (fun x1 M2 => ob (f_J6_bitCount_0f7a4 x1 M2) (fun x3 M4 => ob (f_X0_countRolled b0 v1 M4) (fun x5 M6 => ob (f_X0_move b0 0 v1 b2 v3 M6) (fun x7 M8 => ob (f_X0_move b0 1 v1 b2 v3 M8) (fun x9 M10 => some ((((10 * x3) + (5 * x5)) + x7) + x9, M10))))))
def f_X0_countLeftOut_b4 (b0 : Nat) (v1 : Int32) (k4 : Int32 → Int32 → Mem → Option (Int32 × Mem)) (v2 : Int32) (v3 : Int32) (M : Mem) : Option (Int32 × Mem) :=
  if 4 ≤ v3 then (some (v2, M)) else (if inb v3 4 then (if (M (iCh b0 + 3) (Int32.toNatClampNeg v3)) = v1 then (k4 (v2 + 1) (v3 + 1) M) else (k4 v2 (v3 + 1) M)) else none)
def f_X0_countLeftOut (b0 : Nat) (v1 : Int32) (M : Mem) : Option (Int32 × Mem) :=
  lq2 (f_X0_countLeftOut_b4 b0 v1) 9999 0 0 M
def f_X1_isEmpty  (M : Mem) : Option (Int32 × Mem) :=
  if (M 3 2) = 0 then (some (1, M)) else (some (0, M))
def f_X1_forget  (M : Mem) : Option (Unit × Mem) :=
  some ((), (mw M 3 2 0))
def f_X3_takeFrom_b44 (q0 : Nat) (q1 : Nat) (k44 : Int32 → Mem → Option (Unit × Mem)) (v2 : Int32) (M : Mem) : Option (Unit × Mem) :=
  if 64 ≤ v2 then (some ((), M)) else (if inb v2 64 then (if inb v2 64 then (k44 (v2 + 1) (mw M (iSt q0 + 2) (Int32.toNatClampNeg v2) (M (iSt q1 + 2) (Int32.toNatClampNeg v2)))) else none) else none)
def f_X3_takeFrom_b42 (q0 : Nat) (q1 : Nat) (M : Mem) : Option (Unit × Mem) :=
  lq1 (f_X3_takeFrom_b44 q0 q1) 9999 0 M
def f_X3_takeFrom_b18 (q0 : Nat) (q1 : Nat) (k18 : Int32 → Mem → Option (Unit × Mem)) (v2 : Int32) (M : Mem) : Option (Unit × Mem) :=
  if 6 ≤ v2 then (f_X3_takeFrom_b42 q0 q1 M) else (if inb v2 6 then (if inb v2 6 then (k18 (v2 + 1) (mw M (iSt q0 + 1) (Int32.toNatClampNeg v2) (M (iSt q1 + 1) (Int32.toNatClampNeg v2)))) else none) else none)
def f_X3_takeFrom (q0 : Nat) (q1 : Nat) (M : Mem) : Option (Unit × Mem) :=
  lq1 (f_X3_takeFrom_b18 q0 q1) 9999 0 (mw (mw M (iSt q0) 2 (M (iSt q1) 2)) (iSt q0) 3 ((mw M (iSt q0) 2 (M (iSt q1) 2)) (iSt q1) 3))
def f_X1_remember (q1 : Nat) (M : Mem) : Option (Unit × Mem) :=
  if inb (M 3 1) 14 then (ob (f_X3_takeFrom (4 + Int32.toNatClampNeg (M 3 1)) q1 M) (fun x2 M3 => if 14 ≤ ((mw M3 3 1 (((M3 3 1) + 1) - ((M3 3 1) + 1) / 14 * 14)) 3 2) then (some ((), (mw M3 3 1 (((M3 3 1) + 1) - ((M3 3 1) + 1) / 14 * 14)))) else (some ((), (mw (mw M3 3 1 (((M3 3 1) + 1) - ((M3 3 1) + 1) / 14 * 14)) 3 2 (((mw M3 3 1 (((M3 3 1) + 1) - ((M3 3 1) + 1) / 14 * 14)) 3 2) + 1)))))) else none
def f_X1_takeBack (q1 : Nat) (M : Mem) : Option (Int32 × Mem) :=
  if (M 3 2) ≤ 0 then (some (M 3 2, M)) else (if inb ((mw M 3 1 ((((M 3 1) + 14) - 1) - (((M 3 1) + 14) - 1) / 14 * 14)) 3 1) 14 then (ob (f_X3_takeFrom q1 (4 + Int32.toNatClampNeg ((mw M 3 1 ((((M 3 1) + 14) - 1) - (((M 3 1) + 14) - 1) / 14 * 14)) 3 1)) (mw M 3 1 ((((M 3 1) + 14) - 1) - (((M 3 1) + 14) - 1) / 14 * 14))) (fun x2 M3 => some ((mw M3 3 2 ((M3 3 2) - 1)) 3 2, (mw M3 3 2 ((M3 3 2) - 1))))) else none)
def f_X2_chordAt (v1 : Int32) (M : Mem) : Option (Nat × Mem) :=
  if v1 < 0 then (some (16, M)) else (if (M 7 4) ≤ v1 then (some (16, M)) else (if inb v1 16 then (some (Int32.toNatClampNeg v1, M)) else none))
def f_X2_bestSplit_b17 (v1 : Int32) (b2 : Nat) (v3 : Int32) (b4 : Nat) (k17 : Int32 → Int32 → Int32 → Mem → Option (Int32 × Mem)) (v5 : Int32) (v6 : Int32) (v7 : Int32) (M : Mem) : Option (Int32 × Mem) :=
  if 5 ≤ v7 then (some (v5, M)) else (ob (f_X0_isPossible b4 v7 M) (fun x4 M5 => if x4 = 0 then (k17 v5 v6 (v7 + 1) M5) else (ob (f_X0_costs b4 v7 b2 v3 M5) (fun x6 M7 => if inb v1 16 then (if inb v7 5 then (if v6 ≤ (x6 + (M7 (11 + Int32.toNatClampNeg v1) (Int32.toNatClampNeg v7))) then (k17 v5 v6 (v7 + 1) M7) else (k17 v7 (x6 + (M7 (11 + Int32.toNatClampNeg v1) (Int32.toNatClampNeg v7))) (v7 + 1) M7)) else none) else none))))
def f_X2_bestSplit (v1 : Int32) (b2 : Nat) (v3 : Int32) (M : Mem) : Option (Int32 × Mem) :=
  ob (f_X2_chordAt v1 M) (fun x1 M2 => if x1 < 17 then (lq3 (f_X2_bestSplit_b17 v1 b2 v3 x1) 9999 0 2147483647 0 M2) else none)
def f_X2_lookAhead_b20 (v1 : Int32) (v2 : Int32) (b3 : Nat) (k7 : Int32 → Mem → Option (Unit × Mem)) (k20 : Int32 → Mem → Option (Unit × Mem)) (v4 : Int32) (M : Mem) : Option (Unit × Mem) :=
  if 5 ≤ v4 then (k7 (v2 + (-1)) M) else (if inb v2 16 then (if inb v4 5 then (if v1 = 0 then (k20 (v4 + 1) (mw M (11 + Int32.toNatClampNeg v2) (Int32.toNatClampNeg v4) 0)) else (if (((mw M (11 + Int32.toNatClampNeg v2) (Int32.toNatClampNeg v4) 0) 7 4) - 1) ≤ v2 then (k20 (v4 + 1) (mw M (11 + Int32.toNatClampNeg v2) (Int32.toNatClampNeg v4) 0)) else (ob (f_X0_isPossible b3 v4 (mw M (11 + Int32.toNatClampNeg v2) (Int32.toNatClampNeg v4) 0)) (fun x5 M6 => if x5 = 0 then (k20 (v4 + 1) M6) else (ob (f_X2_bestSplit (v2 + 1) b3 v4 M6) (fun x7 M8 => if inb v2 16 then (ob (f_X2_chordAt (v2 + 1) M8) (fun x10 M11 => if x10 < 17 then (ob (f_X0_costs x10 x7 b3 v4 M11) (fun x13 M14 => if inb (v2 + 1) 16 then (if inb x7 5 then (if inb v4 5 then (k20 (v4 + 1) (mw M14 (11 + Int32.toNatClampNeg v2) (Int32.toNatClampNeg v4) (x13 + (M14 (11 + Int32.toNatClampNeg (v2 + 1)) (Int32.toNatClampNeg x7))))) else none) else none) else none)) else none)) else none)))))) else none) else none)
def f_X2_lookAhead_b7 (v1 : Int32) (k7 : Int32 → Mem → Option (Unit × Mem)) (v2 : Int32) (M : Mem) : Option (Unit × Mem) :=
  if v2 < 0 then (some ((), M)) else (ob (f_X2_chordAt v2 M) (fun x1 M2 => if x1 < 17 then (lq1 (f_X2_lookAhead_b20 v1 v2 x1 k7) 9999 0 M2) else none))
def f_X2_lookAhead (v1 : Int32) (M : Mem) : Option (Unit × Mem) :=
  lq1 (f_X2_lookAhead_b7 v1) 9999 ((M 7 4) - 1) M
def f_X2_splitAt (v1 : Int32) (M : Mem) : Option (Int32 × Mem) :=
  if v1 < 0 then (some (0, M)) else (if (M 7 4) ≤ v1 then (some (0, M)) else (if inb v1 16 then (some (M 9 (Int32.toNatClampNeg v1), M)) else none))
def f_X2_make_b55 (k55 : Int32 → Mem → Option (Unit × Mem)) (v2 : Int32) (M : Mem) : Option (Unit × Mem) :=
  if (M 7 4) ≤ v2 then (some ((), M)) else (ob (f_X2_chordAt (v2 - 1) M) (fun x8 M9 => if x8 < 17 then (ob (f_X2_splitAt (v2 - 1) M9) (fun x11 M12 => ob (f_X2_bestSplit v2 x8 x11 M12) (fun x13 M14 => if inb v2 16 then (k55 (v2 + 1) (mw M14 9 (Int32.toNatClampNeg v2) x13)) else none))) else none))
def f_X2_make_b50 (s0 : Int32) (M : Mem) : Option (Unit × Mem) :=
  ob (f_X2_lookAhead s0 M) (fun x6 M7 => lq1 (f_X2_make_b55 ) 9999 0 M7)
def f_X2_make_b35 (q1 : Nat) (M : Mem) : Option (Unit × Mem) :=
  ob (f_X3_settingAt q1 5 M) (fun x4 M5 => if x4 = 1 then (f_X2_make_b50 1 M5) else (f_X2_make_b50 0 M5))
def f_X2_make_b10 (q1 : Nat) (k10 : Int32 → Mem → Option (Unit × Mem)) (v2 : Int32) (M : Mem) : Option (Unit × Mem) :=
  if (M 7 4) ≤ v2 then (f_X2_make_b35 q1 M) else (if inb v2 16 then (ob (f_X0_read (Int32.toNatClampNeg v2) q1 v2 M) (fun x2 M3 => k10 (v2 + 1) M3)) else none)
def f_X2_make (q1 : Nat) (M : Mem) : Option (Unit × Mem) :=
  lq1 (f_X2_make_b10 q1) 9999 0 (mw M 7 4 (M (iSt q1) 3))
def f_X2_cutStaves (v1 : Int32) (M : Mem) : Option (Int32 × Mem) :=
  ob (f_X2_chordAt v1 M) (fun x1 M2 => if x1 < 17 then (ob (f_X2_splitAt v1 M2) (fun x4 M5 => ob (f_X2_chordAt (v1 - 1) M5) (fun x6 M7 => if x6 < 17 then (ob (f_X2_splitAt (v1 - 1) M7) (fun x9 M10 => ob (f_X0_cutStaves x1 x4 x6 x9 M10) (fun x11 M12 => some (x11, M12)))) else none))) else none)
def f_X2_move (v1 : Int32) (v2 : Int32) (M : Mem) : Option (Int32 × Mem) :=
  ob (f_X2_chordAt v2 M) (fun x1 M2 => if x1 < 17 then (ob (f_X2_splitAt v2 M2) (fun x4 M5 => ob (f_X2_chordAt (v2 - 1) M5) (fun x6 M7 => if x6 < 17 then (ob (f_X2_splitAt (v2 - 1) M7) (fun x9 M10 => ob (f_X0_move x1 v1 x4 x6 x9 M10) (fun x11 M12 => some (x11, M12)))) else none))) else none)
def f_X2_costs (v1 : Int32) (M : Mem) : Option (Int32 × Mem) :=
  ob (f_X2_chordAt v1 M) (fun x1 M2 => if x1 < 17 then (ob (f_X2_splitAt v1 M2) (fun x4 M5 => ob (f_X2_chordAt (v1 - 1) M5) (fun x6 M7 => if x6 < 17 then (ob (f_X2_splitAt (v1 - 1) M7) (fun x9 M10 => ob (f_X0_costs x1 x4 x6 x9 M10) (fun x11 M12 => some (x11, M12)))) else none))) else none)
def f_X2_numberOfNote_b98 (v6 : Int32) (s0 : Int32) (M : Mem) : Option (Int32 × Mem) :=
  if s0 = 0 then (some (1, M)) else (if v6 = 0 then (some (0, M)) else (some (1, M)))
def f_X2_numberOfNote_b49 (v1 : Int32) (v2 : Int32) (v3 : Int32) (b4 : Nat) (v5 : Int32) (s0 : Int32) (M : Mem) : Option (Int32 × Mem) :=
  if v3 = 3 then (if s0 = 0 then (some (0, M)) else (some (1, M))) else (if v5 = 0 then (if v3 = 2 then (if (((M (iCh b4) 6) >>> (v1 &&& 31)) &&& 1) = 1 then (f_X2_numberOfNote_b98 s0 1 M) else (f_X2_numberOfNote_b98 s0 0 M)) else (ob (f_X2_splitAt v2 M) (fun x6 M7 => ob (f_X0_stavesOf b4 0 x6 M7) (fun x8 M9 => if ((x8 >>> (v1 &&& 31)) &&& 1) = 1 then (some (0, M9)) else (some (1, M9)))))) else (some ((-9), M)))
def f_X2_numberOfNote (v1 : Int32) (v2 : Int32) (v3 : Int32) (M : Mem) : Option (Int32 × Mem) :=
  ob (f_X2_chordAt v2 M) (fun x1 M2 => if x1 < 17 then (if inb v1 4 then (if (M2 (iCh x1 + 3) (Int32.toNatClampNeg v1)) = (-9) then (some (M2 (iCh x1 + 3) (Int32.toNatClampNeg v1), M2)) else (if v3 = 1 then (some (M2 (iCh x1 + 3) (Int32.toNatClampNeg v1), M2)) else (ob (f_X2_cutStaves v2 M2) (fun x4 M5 => if ((x4 >>> (v1 &&& 31)) &&& 1) = 1 then (f_X2_numberOfNote_b49 v1 v2 v3 x1 (M2 (iCh x1 + 3) (Int32.toNatClampNeg v1)) 1 M5) else (f_X2_numberOfNote_b49 v1 v2 v3 x1 (M2 (iCh x1 + 3) (Int32.toNatClampNeg v1)) 0 M5))))) else none) else none)
def f_X2_numberOfHand (v1 : Int32) (v2 : Int32) (v3 : Int32) (M : Mem) : Option (Int32 × Mem) :=
  ob (f_X2_chordAt v2 M) (fun x1 M2 => if x1 < 17 then (ob (f_X2_splitAt v2 M2) (fun x4 M5 => if v3 = 0 then (ob (f_X0_countOf x1 v1 x4 M5) (fun x6 M7 => some (x6, M7))) else (if v3 = 1 then (if inb v1 2 then (if inb x4 5 then (some (M5 (iCh x1 + 7 + Int32.toNatClampNeg v1) (Int32.toNatClampNeg x4), M5)) else none) else none) else (if v3 = 2 then (if inb v1 2 then (if inb x4 5 then (some (M5 (iCh x1 + 10 + Int32.toNatClampNeg v1) (Int32.toNatClampNeg x4), M5)) else none) else none) else (if v3 = 3 then (ob (f_X0_isRolled x1 v1 x4 M5) (fun x10 M11 => if x10 = 0 then (some (0, M11)) else (some (1, M11)))) else (ob (f_X2_move v1 v2 M5) (fun x12 M13 => some (x12, M13)))))))) else none)
def f_X2_numberOfBeat (v1 : Int32) (v2 : Int32) (M : Mem) : Option (Int32 × Mem) :=
  ob (f_X2_chordAt v1 M) (fun x1 M2 => if x1 < 17 then (if v2 = 0 then (ob (f_X2_splitAt v1 M2) (fun x4 M5 => some (x4, M5))) else (if v2 = 1 then (ob (f_J6_bitCount_0f7a4 (M2 (iCh x1) 10) M2) (fun x6 M7 => some (x6, M7))) else (if v2 = 2 then (ob (f_X2_costs v1 M2) (fun x8 M9 => some (x8, M9))) else (if v2 = 3 then (some (M2 (iCh x1) 9, M2)) else (some (M2 (iCh x1) 10, M2)))))) else none)
def f_X2_shareOfBeat_b112 (v2 : Int32) (b3 : Nat) (M : Mem) : Option (Int32 × Mem) :=
  ob (f_X0_countLeftOut b3 v2 M) (fun x22 M23 => some (x22, M23))
def f_X2_shareOfBeat (v1 : Int32) (v2 : Int32) (M : Mem) : Option (Int32 × Mem) :=
  ob (f_X2_chordAt v1 M) (fun x1 M2 => if x1 < 17 then (if v2 = 0 then (ob (f_X2_costs v1 M2) (fun x4 M5 => some (x4, M5))) else (if v2 = 1 then (f_X2_shareOfBeat_b112 v2 x1 M2) else (if v2 = 2 then (f_X2_shareOfBeat_b112 v2 x1 M2) else (if v2 = 3 then (f_X2_shareOfBeat_b112 v2 x1 M2) else (if v2 = 4 then (ob (f_X2_cutStaves v1 M2) (fun x6 M7 => ob (f_J6_bitCount_0f7a4 x6 M7) (fun x8 M9 => some (x8, M9)))) else (if v2 = 5 then (ob (f_X2_splitAt v1 M2) (fun x10 M11 => ob (f_X0_countRolled x1 x10 M11) (fun x12 M13 => some (x12, M13)))) else (if v2 = 6 then (ob (f_X2_move 0 v1 M2) (fun x14 M15 => ob (f_X2_move 1 v1 M15) (fun x16 M17 => some (x14 + x16, M17)))) else (if v2 = 7 then (ob (f_X2_cutStaves v1 M2) (fun x18 M19 => ob (f_J6_bitCount_0f7a4 ((M2 (iCh x1) 7) &&& (x18 ^^^ (-1))) M19) (fun x20 M21 => some ((M2 (iCh x1) 9) - x20, M21)))) else (f_X2_shareOfBeat_b112 v2 x1 M2))))))))) else none)
def f_X2_numberOfWhole_b4 (v1 : Int32) (k4 : Int32 → Int32 → Mem → Option (Int32 × Mem)) (v2 : Int32) (v3 : Int32) (M : Mem) : Option (Int32 × Mem) :=
  if (M 7 4) ≤ v3 then (some (v2, M)) else (ob (f_X2_shareOfBeat v3 v1 M) (fun x1 M2 => k4 (v2 + x1) (v3 + 1) M2))
def f_X2_numberOfWhole (v1 : Int32) (M : Mem) : Option (Int32 × Mem) :=
  lq2 (f_X2_numberOfWhole_b4 v1) 9999 0 0 M
def f_X3_becomeRests_b12 (q0 : Nat) (k12 : Int32 → Mem → Option (Unit × Mem)) (v3 : Int32) (M : Mem) : Option (Unit × Mem) :=
  if 64 ≤ v3 then (some ((), M)) else (if inb v3 64 then (k12 (v3 + 1) (mw M (iSt q0 + 2) (Int32.toNatClampNeg v3) (-9))) else none)
def f_X3_becomeRests (q0 : Nat) (v1 : Int32) (v2 : Int32) (M : Mem) : Option (Unit × Mem) :=
  lq1 (f_X3_becomeRests_b12 q0) 9999 0 (mw (mw M (iSt q0) 2 v1) (iSt q0) 3 v2)
def f_X3_resetSettings_b2 (q0 : Nat) (k2 : Int32 → Mem → Option (Unit × Mem)) (v1 : Int32) (M : Mem) : Option (Unit × Mem) :=
  if 6 ≤ v1 then (some ((), M)) else (if inb v1 6 then (if inb v1 6 then (k2 (v1 + 1) (mw M (iSt q0 + 1) (Int32.toNatClampNeg v1) (sa_first.getD v1.toNatClampNeg 0))) else none) else none)
def f_X3_resetSettings (q0 : Nat) (M : Mem) : Option (Unit × Mem) :=
  lq1 (f_X3_resetSettings_b2 q0) 9999 0 M
def f_X3_isPitch (v0 : Int32) (M : Mem) : Option (Int32 × Mem) :=
  if v0 < 0 then (some (0, M)) else (if 60 < v0 then (some (0, M)) else (some (1, M)))
def f_X3_allowsSetting (v0 : Int32) (v1 : Int32) (M : Mem) : Option (Int32 × Mem) :=
  ob (f_X3_isSetting v0 M) (fun x1 M2 => if x1 = 0 then (some (0, M2)) else (if inb v0 6 then (if v1 < (sa_least.getD v0.toNatClampNeg 0) then (some (0, M2)) else (if inb v0 6 then (if (sa_most.getD v0.toNatClampNeg 0) < v1 then (some (0, M2)) else (some (1, M2))) else none)) else none))
def f_X3_hasStaff (q0 : Nat) (v1 : Int32) (M : Mem) : Option (Int32 × Mem) :=
  if v1 < 0 then (some (0, M)) else (if (M (iSt q0) 2) ≤ v1 then (some (0, M)) else (some (1, M)))
def f_X3_hasBeat (q0 : Nat) (v1 : Int32) (M : Mem) : Option (Int32 × Mem) :=
  if v1 < 0 then (some (0, M)) else (if (M (iSt q0) 3) ≤ v1 then (some (0, M)) else (some (1, M)))
def f_X3_hasCell (q0 : Nat) (v1 : Int32) (v2 : Int32) (M : Mem) : Option (Int32 × Mem) :=
  ob (f_X3_hasStaff q0 v1 M) (fun x1 M2 => if x1 = 0 then (some (0, M2)) else (ob (f_X3_hasBeat q0 v2 M2) (fun x3 M4 => if x3 = 0 then (some (0, M4)) else (some (1, M4)))))
def f_X3_allowsHold (q0 : Nat) (v1 : Int32) (v2 : Int32) (M : Mem) : Option (Int32 × Mem) :=
  ob (f_X3_written q0 v1 (v2 - 1) M) (fun x1 M2 => if x1 = (-9) then (some (0, M2)) else (some (1, M2)))
def f_X3_allowsMoving_b2 (q0 : Nat) (v1 : Int32) (v2 : Int32) (k2 : Int32 → Mem → Option (Int32 × Mem)) (v3 : Int32) (M : Mem) : Option (Int32 × Mem) :=
  if (M (iSt q0) 3) ≤ v3 then (some (1, M)) else (ob (f_X3_written q0 v1 v3 M) (fun x1 M2 => ob (f_X3_isPitch x1 M2) (fun x3 M4 => if x3 = 0 then (k2 (v3 + 1) M4) else (ob (f_X3_isPitch (x1 + v2) M4) (fun x5 M6 => if x5 = 0 then (some (0, M6)) else (k2 (v3 + 1) M6))))))
def f_X3_allowsMoving (q0 : Nat) (v1 : Int32) (v2 : Int32) (M : Mem) : Option (Int32 × Mem) :=
  lq1 (f_X3_allowsMoving_b2 q0 v1 v2) 9999 0 M
def f_X3_countStruckOf_b4 (q0 : Nat) (v1 : Int32) (k4 : Int32 → Int32 → Mem → Option (Int32 × Mem)) (v2 : Int32) (v3 : Int32) (M : Mem) : Option (Int32 × Mem) :=
  if (M (iSt q0) 3) ≤ v3 then (some (v2, M)) else (ob (f_X3_written q0 v1 v3 M) (fun x1 M2 => ob (f_X3_isPitch x1 M2) (fun x3 M4 => if x3 = 0 then (k4 v2 (v3 + 1) M4) else (k4 (v2 + 1) (v3 + 1) M4))))
def f_X3_countStruckOf (q0 : Nat) (v1 : Int32) (M : Mem) : Option (Int32 × Mem) :=
  lq2 (f_X3_countStruckOf_b4 q0 v1) 9999 0 0 M
def f_X3_countStruck_b4 (q0 : Nat) (k4 : Int32 → Int32 → Mem → Option (Int32 × Mem)) (v1 : Int32) (v2 : Int32) (M : Mem) : Option (Int32 × Mem) :=
  if (M (iSt q0) 2) ≤ v2 then (some (v1, M)) else (ob (f_X3_countStruckOf q0 v2 M) (fun x1 M2 => k4 (v1 + x1) (v2 + 1) M2))
def f_X3_countStruck (q0 : Nat) (M : Mem) : Option (Int32 × Mem) :=
  lq2 (f_X3_countStruck_b4 q0) 9999 0 0 M
def f_X3_countHolds_b14 (q0 : Nat) (v2 : Int32) (k4 : Int32 → Int32 → Mem → Option (Int32 × Mem)) (k14 : Int32 → Int32 → Mem → Option (Int32 × Mem)) (v1 : Int32) (v3 : Int32) (M : Mem) : Option (Int32 × Mem) :=
  if (M (iSt q0) 3) ≤ v3 then (k4 v1 (v2 + 1) M) else (ob (f_X3_written q0 v2 v3 M) (fun x1 M2 => if x1 = 99 then (k14 (v1 + 1) (v3 + 1) M2) else (k14 v1 (v3 + 1) M2)))
def f_X3_countHolds_b4 (q0 : Nat) (k4 : Int32 → Int32 → Mem → Option (Int32 × Mem)) (v1 : Int32) (v2 : Int32) (M : Mem) : Option (Int32 × Mem) :=
  if (M (iSt q0) 2) ≤ v2 then (some (v1, M)) else (lq2 (f_X3_countHolds_b14 q0 v2 k4) 9999 v1 0 M)
def f_X3_countHolds (q0 : Nat) (M : Mem) : Option (Int32 × Mem) :=
  lq2 (f_X3_countHolds_b4 q0) 9999 0 0 M
def f_X3_changeSetting (q0 : Nat) (v1 : Int32) (v2 : Int32) (M : Mem) : Option (Unit × Mem) :=
  ob (f_X3_isSetting v1 M) (fun x1 M2 => if x1 = 0 then (some ((), M2)) else (if inb v1 6 then (some ((), (mw M2 (iSt q0 + 1) (Int32.toNatClampNeg v1) v2))) else none))
def f_X3_put (q0 : Nat) (v1 : Int32) (v2 : Int32) (v3 : Int32) (M : Mem) : Option (Unit × Mem) :=
  ob (f_X3_hasCell q0 v1 v2 M) (fun x1 M2 => if x1 = 0 then (some ((), M2)) else (if inb ((v1 * 16) + v2) 64 then (some ((), (mw M2 (iSt q0 + 2) (Int32.toNatClampNeg ((v1 * 16) + v2)) v3))) else none))
def f_X3_silenceStaff_b2 (q0 : Nat) (v1 : Int32) (k2 : Int32 → Mem → Option (Unit × Mem)) (v2 : Int32) (M : Mem) : Option (Unit × Mem) :=
  if (M (iSt q0) 3) ≤ v2 then (some ((), M)) else (ob (f_X3_put q0 v1 v2 (-9) M) (fun x1 M2 => k2 (v2 + 1) M2))
def f_X3_silenceStaff (q0 : Nat) (v1 : Int32) (M : Mem) : Option (Unit × Mem) :=
  lq1 (f_X3_silenceStaff_b2 q0 v1) 9999 0 M
def f_X3_moveStaff_b42 (q0 : Nat) (v1 : Int32) (M : Mem) : Option (Int32 × Mem) :=
  ob (f_X3_countStruckOf q0 v1 M) (fun x7 M8 => some (x7, M8))
def f_X3_moveStaff_b2 (q0 : Nat) (v1 : Int32) (v2 : Int32) (k2 : Int32 → Mem → Option (Int32 × Mem)) (v3 : Int32) (M : Mem) : Option (Int32 × Mem) :=
  if (M (iSt q0) 3) ≤ v3 then (f_X3_moveStaff_b42 q0 v1 M) else (ob (f_X3_written q0 v1 v3 M) (fun x1 M2 => ob (f_X3_isPitch x1 M2) (fun x3 M4 => if x3 = 0 then (k2 (v3 + 1) M4) else (ob (f_X3_put q0 v1 v3 (x1 + v2) M4) (fun x5 M6 => k2 (v3 + 1) M6)))))
def f_X3_moveStaff (q0 : Nat) (v1 : Int32) (v2 : Int32) (M : Mem) : Option (Int32 × Mem) :=
  lq1 (f_X3_moveStaff_b2 q0 v1 v2) 9999 0 M
def f_X3_swapStaves_b5 (q0 : Nat) (v1 : Int32) (v2 : Int32) (k5 : Int32 → Int32 → Mem → Option (Int32 × Mem)) (v3 : Int32) (v4 : Int32) (M : Mem) : Option (Int32 × Mem) :=
  if (M (iSt q0) 3) ≤ v4 then (some (v3, M)) else (ob (f_X3_written q0 v1 v4 M) (fun x1 M2 => ob (f_X3_written q0 v2 v4 M2) (fun x3 M4 => if x1 = x3 then (k5 v3 (v4 + 1) M4) else (ob (f_X3_put q0 v1 v4 x3 M4) (fun x5 M6 => ob (f_X3_put q0 v2 v4 x1 M6) (fun x7 M8 => k5 (v3 + 1) (v4 + 1) M8))))))
def f_X3_swapStaves (q0 : Nat) (v1 : Int32) (v2 : Int32) (M : Mem) : Option (Int32 × Mem) :=
  lq2 (f_X3_swapStaves_b5 q0 v1 v2) 9999 0 0 M
def f_X3_addStaff (q0 : Nat) (M : Mem) : Option (Unit × Mem) :=
  if 4 ≤ (M (iSt q0) 2) then (some ((), M)) else (ob (f_X3_silenceStaff q0 (((mw M (iSt q0) 2 ((M (iSt q0) 2) + 1)) (iSt q0) 2) - 1) (mw M (iSt q0) 2 ((M (iSt q0) 2) + 1))) (fun x1 M2 => some ((), M2)))
def f_X3_dropStaff (q0 : Nat) (M : Mem) : Option (Unit × Mem) :=
  if (M (iSt q0) 2) ≤ 1 then (some ((), M)) else (some ((), (mw M (iSt q0) 2 ((M (iSt q0) 2) - 1))))
def f_X3_openBeat_b62 (q0 : Nat) (v1 : Int32) (v2 : Int32) (k22 : Int32 → Mem → Option (Unit × Mem)) (M : Mem) : Option (Unit × Mem) :=
  ob (f_X3_put q0 v2 v1 (-9) M) (fun x5 M6 => k22 (v2 + 1) M6)
def f_X3_openBeat_b37 (q0 : Nat) (v1 : Int32) (v2 : Int32) (k22 : Int32 → Mem → Option (Unit × Mem)) (k37 : Int32 → Mem → Option (Unit × Mem)) (v3 : Int32) (M : Mem) : Option (Unit × Mem) :=
  if v3 ≤ v1 then (f_X3_openBeat_b62 q0 v1 v2 k22 M) else (ob (f_X3_written q0 v2 (v3 - 1) M) (fun x1 M2 => ob (f_X3_put q0 v2 v3 x1 M2) (fun x3 M4 => k37 (v3 + (-1)) M4)))
def f_X3_openBeat_b22 (q0 : Nat) (v1 : Int32) (k22 : Int32 → Mem → Option (Unit × Mem)) (v2 : Int32) (M : Mem) : Option (Unit × Mem) :=
  if (M (iSt q0) 2) ≤ v2 then (some ((), M)) else (lq1 (f_X3_openBeat_b37 q0 v1 v2 k22) 9999 ((M (iSt q0) 3) - 1) M)
def f_X3_openBeat (q0 : Nat) (v1 : Int32) (M : Mem) : Option (Unit × Mem) :=
  if (M (iSt q0) 3) < 16 then (lq1 (f_X3_openBeat_b22 q0 v1) 9999 0 (mw M (iSt q0) 3 ((M (iSt q0) 3) + 1))) else (some ((), M))
def f_X3_closeBeat_b21 (q0 : Nat) (v1 : Int32) (v2 : Int32) (k11 : Int32 → Mem → Option (Unit × Mem)) (k21 : Int32 → Mem → Option (Unit × Mem)) (v3 : Int32) (M : Mem) : Option (Unit × Mem) :=
  if ((M (iSt q0) 3) - 1) ≤ v3 then (k11 (v2 + 1) M) else (ob (f_X3_written q0 v2 (v3 + 1) M) (fun x1 M2 => ob (f_X3_put q0 v2 v3 x1 M2) (fun x3 M4 => k21 (v3 + 1) M4)))
def f_X3_closeBeat_b57 (q0 : Nat) (M : Mem) : Option (Unit × Mem) :=
  some ((), (mw M (iSt q0) 3 ((M (iSt q0) 3) - 1)))
def f_X3_closeBeat_b11 (q0 : Nat) (v1 : Int32) (k11 : Int32 → Mem → Option (Unit × Mem)) (v2 : Int32) (M : Mem) : Option (Unit × Mem) :=
  if (M (iSt q0) 2) ≤ v2 then (f_X3_closeBeat_b57 q0 M) else (lq1 (f_X3_closeBeat_b21 q0 v1 v2 k11) 9999 v1 M)
def f_X3_closeBeat (q0 : Nat) (v1 : Int32) (M : Mem) : Option (Unit × Mem) :=
  if 1 < (M (iSt q0) 3) then (lq1 (f_X3_closeBeat_b11 q0 v1) 9999 0 M) else (some ((), M))
def f_X3_dropLooseHolds_b12 (q0 : Nat) (v1 : Int32) (k2 : Int32 → Mem → Option (Unit × Mem)) (k12 : Int32 → Mem → Option (Unit × Mem)) (v2 : Int32) (M : Mem) : Option (Unit × Mem) :=
  if (M (iSt q0) 3) ≤ v2 then (k2 (v1 + 1) M) else (ob (f_X3_written q0 v1 v2 M) (fun x1 M2 => if x1 = 99 then (ob (f_X3_allowsHold q0 v1 v2 M2) (fun x3 M4 => if x3 = 0 then (ob (f_X3_put q0 v1 v2 (-9) M4) (fun x5 M6 => k12 (v2 + 1) M6)) else (k12 (v2 + 1) M4))) else (k12 (v2 + 1) M2)))
def f_X3_dropLooseHolds_b2 (q0 : Nat) (k2 : Int32 → Mem → Option (Unit × Mem)) (v1 : Int32) (M : Mem) : Option (Unit × Mem) :=
  if (M (iSt q0) 2) ≤ v1 then (some ((), M)) else (lq1 (f_X3_dropLooseHolds_b12 q0 v1 k2) 9999 0 M)
def f_X3_dropLooseHolds (q0 : Nat) (M : Mem) : Option (Unit × Mem) :=
  lq1 (f_X3_dropLooseHolds_b2 q0) 9999 0 M
def f_X4_isFull  (M : Mem) : Option (Int32 × Mem) :=
  if (M 1 1) < 140 then (some (0, M)) else (some (1, M))
def f_X4_add (v1 : Int32) (M : Mem) : Option (Int32 × Mem) :=
  ob (f_X4_isFull  M) (fun x1 M2 => if x1 = 0 then (if inb (M2 1 1) 140 then (some ((mw (mw M2 2 (Int32.toNatClampNeg (M2 1 1)) (vp_nar .char v1)) 1 1 (((mw M2 2 (Int32.toNatClampNeg (M2 1 1)) (vp_nar .char v1)) 1 1) + 1)) 1 1, (mw (mw M2 2 (Int32.toNatClampNeg (M2 1 1)) (vp_nar .char v1)) 1 1 (((mw M2 2 (Int32.toNatClampNeg (M2 1 1)) (vp_nar .char v1)) 1 1) + 1)))) else none) else (some (M2 1 1, M2)))
def f_X4_empty  (M : Mem) : Option (Int32 × Mem) :=
  some (M 1 1, (mw M 1 1 0))
def f_X4_signAt (v1 : Int32) (M : Mem) : Option (Int32 × Mem) :=
  if v1 < 0 then (some ((-1), M)) else (if (M 1 1) ≤ v1 then (some ((-1), M)) else (if inb v1 140 then (some (M 2 (Int32.toNatClampNeg v1), M)) else none))
def f_X4_digitAt (v1 : Int32) (M : Mem) : Option (Int32 × Mem) :=
  ob (f_X4_signAt v1 M) (fun x1 M2 => if x1 < 48 then (some ((-1), M2)) else (if 57 < x1 then (some ((-1), M2)) else (some (x1 - 48, M2))))
def f_X4_readCell_b50 (s0 : Int32) (s1 : Int32) (s2 : Int32) (s3 : Nat) (M : Mem) : Option (Int32 × Mem) :=
  ob (f_X3_put s3 s2 s1 s0 M) (fun x13 M14 => some (1, (mw M14 1 2 ((M14 1 2) + 1))))
def f_X4_readCell_b33 (q1 : Nat) (v2 : Int32) (v3 : Int32) (v4 : Int32) (M : Mem) : Option (Int32 × Mem) :=
  if v4 = 45 then (f_X4_readCell_b50 (-9) v3 v2 q1 M) else (f_X4_readCell_b50 99 v3 v2 q1 M)
def f_X4_readCell_b65 (q1 : Nat) (v2 : Int32) (v3 : Int32) (M : Mem) : Option (Int32 × Mem) :=
  ob (f_X4_digitAt (M 1 2) M) (fun x5 M6 => if x5 < 0 then (some (0, M6)) else (if x5 ≤ 6 then (ob (f_X4_digitAt ((mw M6 1 2 ((M6 1 2) + 1)) 1 2) (mw M6 1 2 ((M6 1 2) + 1))) (fun x7 M8 => if x7 = (-1) then (some (0, M8)) else (ob (f_X3_isPitch ((10 * x5) + x7) M8) (fun x9 M10 => if x9 = 0 then (some (0, M10)) else (ob (f_X3_put q1 v2 v3 ((10 * x5) + x7) (mw M10 1 2 ((M10 1 2) + 1))) (fun x11 M12 => some (1, M12))))))) else (some (0, M6))))
def f_X4_readCell (q1 : Nat) (v2 : Int32) (v3 : Int32) (M : Mem) : Option (Int32 × Mem) :=
  ob (f_X4_signAt (M 1 2) M) (fun x1 M2 => if x1 = 45 then (f_X4_readCell_b33 q1 v2 v3 x1 M2) else (if x1 = 61 then (ob (f_X3_allowsHold q1 v2 v3 M2) (fun x3 M4 => if x3 = 0 then (f_X4_readCell_b65 q1 v2 v3 M4) else (f_X4_readCell_b33 q1 v2 v3 x1 M4))) else (f_X4_readCell_b65 q1 v2 v3 M2)))
def f_X4_readInto_b108 (q1 : Nat) (v2 : Int32) (v5 : Int32) (v6 : Int32) (k99 : Int32 → Mem → Option (Int32 × Mem)) (k108 : Int32 → Mem → Option (Int32 × Mem)) (v7 : Int32) (M : Mem) : Option (Int32 × Mem) :=
  if v5 ≤ v7 then (k99 (v6 + 1) M) else (ob (f_X4_readCell q1 v6 v7 M) (fun x11 M12 => if x11 = 0 then (some (M12 1 2, M12)) else (k108 (v7 + 1) M12)))
def f_X4_readInto_b144  (M : Mem) : Option (Int32 × Mem) :=
  if (M 1 2) = (M 1 1) then (some ((-9), M)) else (some (M 1 2, M))
def f_X4_readInto_b99 (q1 : Nat) (v2 : Int32) (v5 : Int32) (k99 : Int32 → Mem → Option (Int32 × Mem)) (v6 : Int32) (M : Mem) : Option (Int32 × Mem) :=
  if v2 ≤ v6 then (f_X4_readInto_b144  M) else (lq1 (f_X4_readInto_b108 q1 v2 v5 v6 k99) 9999 0 M)
def f_X4_readInto (q1 : Nat) (M : Mem) : Option (Int32 × Mem) :=
  ob (f_X4_signAt 0 M) (fun x1 M2 => if x1 = 77 then (ob (f_X4_digitAt 1 M2) (fun x3 M4 => if x3 < 1 then (some (1, M4)) else (if x3 ≤ 4 then (ob (f_X4_digitAt 2 M4) (fun x5 M6 => if x5 < 0 then (some (2, M6)) else (if x5 ≤ 1 then (ob (f_X4_digitAt 3 M6) (fun x7 M8 => if x7 = (-1) then (some (3, M8)) else (if ((10 * x5) + x7) < 1 then (some (3, M8)) else (if ((10 * x5) + x7) ≤ 16 then (ob (f_X3_becomeRests q1 x3 ((10 * x5) + x7) M8) (fun x9 M10 => lq1 (f_X4_readInto_b99 q1 x3 ((10 * x5) + x7)) 9999 0 (mw M10 1 2 4))) else (some (3, M8)))))) else (some (2, M6))))) else (some (1, M4))))) else (some (0, M2)))
def f_X5_append (v1 : Int32) (M : Mem) : Option (Except Nat Int32 × Mem) :=
  if v1 < 0 then (some (.error 0, M)) else (if v1 ≤ 255 then (ob (f_X4_isFull  M) (fun x1 M2 => if x1 = 0 then (ob (f_X4_add ((Int32.toUInt32 v1 % 65536).toInt32) M2) (fun x3 M4 => some (.ok x3, M4))) else (some (.error 1, M2)))) else (some (.error 0, M)))
def f_X5_clearText  (M : Mem) : Option (Int32 × Mem) :=
  ob (f_X4_empty  M) (fun x1 M2 => some (x1, M2))
def f_X5_errorPosition  (M : Mem) : Option (Int32 × Mem) :=
  ob (f_X4_readInto 1 M) (fun x1 M2 => some (x1, M2))
def f_X5_load_b51 (k51 : Int32 → Mem → Option (Except Nat Int32 × Mem)) (v1 : Int32) (M : Mem) : Option (Except Nat Int32 × Mem) :=
  if 2 ≤ v1 then (some (.ok (M (iSt 0) 3), M)) else (if inb v1 2 then (k51 (v1 + 1) (mw M 6 (Int32.toNatClampNeg v1) (vp_nar .boolean 0))) else none)
def f_X5_load  (M : Mem) : Option (Except Nat Int32 × Mem) :=
  ob (f_X4_readInto 1 M) (fun x1 M2 => if x1 = (-9) then (ob (f_X3_resetSettings 1 M2) (fun x3 M4 => ob (f_X3_takeFrom 0 1 M4) (fun x5 M6 => ob (f_X1_forget  M6) (fun x7 M8 => lq1 (f_X5_load_b51 ) 9999 0 M8)))) else (some (.error 1, M2)))
def f_X5_about_b19 (v1 : Int32) (M : Mem) : Option (Except Nat Int32 × Mem) :=
  if v1 = 6 then (some (.ok (M (iSt 0) 2), M)) else (if v1 = 7 then (some (.ok (M (iSt 0) 3), M)) else (if v1 = 8 then (ob (f_X3_countStruck 0 M) (fun x3 M4 => some (.ok x3, M4))) else (if v1 = 9 then (ob (f_X3_countHolds 0 M) (fun x5 M6 => some (.ok x5, M6))) else (some (.error 0, M)))))
def f_X5_about (v1 : Int32) (M : Mem) : Option (Except Nat Int32 × Mem) :=
  if v1 < 0 then (f_X5_about_b19 v1 M) else (if 6 ≤ v1 then (f_X5_about_b19 v1 M) else (ob (f_X3_settingAt 0 v1 M) (fun x1 M2 => some (.ok x1, M2))))
def f_X5_requireBeat (v1 : Int32) (M : Mem) : Option (Except Nat Unit × Mem) :=
  ob (f_X3_hasBeat 0 v1 M) (fun x1 M2 => if x1 = 0 then (some (.error 2, M2)) else (some (.ok (), M2)))
def f_X5_requireStaff (v1 : Int32) (M : Mem) : Option (Except Nat Unit × Mem) :=
  ob (f_X3_hasStaff 0 v1 M) (fun x1 M2 => if x1 = 0 then (some (.error 2, M2)) else (some (.ok (), M2)))
def f_X5_requireCell (v1 : Int32) (v2 : Int32) (M : Mem) : Option (Except Nat Unit × Mem) :=
  oe (f_X5_requireStaff v1 M) (fun x1 M2 => oe (f_X5_requireBeat v2 M2) (fun x3 M4 => some (.ok (), M4)))
def f_X5_cell (v1 : Int32) (v2 : Int32) (v3 : Int32) (M : Mem) : Option (Except Nat Int32 × Mem) :=
  oe (f_X5_requireCell v1 v2 M) (fun x1 M2 => if v3 = 0 then (ob (f_X3_written 0 v1 v2 M2) (fun x3 M4 => some (.ok x3, M4))) else (ob (f_X3_sounding 0 v1 v2 M2) (fun x5 M6 => some (.ok x5, M6))))
def f_X5_set (v1 : Int32) (v2 : Int32) (M : Mem) : Option (Except Nat Int32 × Mem) :=
  ob (f_X3_allowsSetting v1 v2 M) (fun x1 M2 => if x1 = 0 then (some (.error 0, M2)) else (ob (f_X1_remember 0 M2) (fun x3 M4 => ob (f_X3_settingAt 0 v1 M4) (fun x5 M6 => ob (f_X3_changeSetting 0 v1 v2 M6) (fun x7 M8 => some (.ok x5, M8))))))
def f_X5_write_b97 (v4 : Int32) (s0 : Int32) (s1 : Int32) (s2 : Int32) (s3 : Nat) (M : Mem) : Option (Except Nat Int32 × Mem) :=
  ob (f_X3_put s3 s2 s1 s0 M) (fun x11 M12 => ob (f_X3_dropLooseHolds 0 M12) (fun x13 M14 => some (.ok v4, M14)))
def f_X5_write_b58 (v1 : Int32) (v2 : Int32) (v3 : Int32) (M : Mem) : Option (Except Nat Int32 × Mem) :=
  ob (f_X1_remember 0 M) (fun x7 M8 => ob (f_X3_written 0 v1 v2 M8) (fun x9 M10 => if v3 = (-1) then (f_X5_write_b97 x9 (-9) v2 v1 0 M10) else (f_X5_write_b97 x9 v3 v2 v1 0 M10)))
def f_X5_write_b32 (v1 : Int32) (v2 : Int32) (v3 : Int32) (M : Mem) : Option (Except Nat Int32 × Mem) :=
  if v3 = 99 then (ob (f_X3_allowsHold 0 v1 v2 M) (fun x5 M6 => if x5 = 0 then (some (.error 1, M6)) else (f_X5_write_b58 v1 v2 v3 M6))) else (f_X5_write_b58 v1 v2 v3 M)
def f_X5_write (v1 : Int32) (v2 : Int32) (v3 : Int32) (M : Mem) : Option (Except Nat Int32 × Mem) :=
  oe (f_X5_requireCell v1 v2 M) (fun x1 M2 => if v3 = (-1) then (f_X5_write_b32 v1 v2 v3 M2) else (if v3 = 99 then (f_X5_write_b32 v1 v2 v3 M2) else (ob (f_X3_isPitch v3 M2) (fun x3 M4 => if x3 = 0 then (some (.error 0, M4)) else (f_X5_write_b32 v1 v2 v3 M4)))))
def f_X5_transpose (v1 : Int32) (v2 : Int32) (M : Mem) : Option (Except Nat Int32 × Mem) :=
  oe (f_X5_requireStaff v1 M) (fun x1 M2 => if v2 < (-60) then (some (.error 0, M2)) else (if v2 ≤ 60 then (ob (f_X3_allowsMoving 0 v1 v2 M2) (fun x3 M4 => if x3 = 0 then (some (.error 1, M4)) else (ob (f_X1_remember 0 M4) (fun x5 M6 => ob (f_X3_moveStaff 0 v1 v2 M6) (fun x7 M8 => some (.ok x7, M8)))))) else (some (.error 0, M2))))
def f_X5_exchange (v1 : Int32) (v2 : Int32) (M : Mem) : Option (Except Nat Int32 × Mem) :=
  oe (f_X5_requireStaff v1 M) (fun x1 M2 => oe (f_X5_requireStaff v2 M2) (fun x3 M4 => ob (f_X1_remember 0 M4) (fun x5 M6 => ob (f_X3_swapStaves 0 v1 v2 M6) (fun x7 M8 => some (.ok x7, M8)))))
def f_X5_staff_b37 (v1 : Int32) (M : Mem) : Option (Except Nat Int32 × Mem) :=
  ob (f_X1_remember 0 M) (fun x1 M2 => if v1 = 0 then (ob (f_X3_dropStaff 0 M2) (fun x3 M4 => some (.ok (M4 (iSt 0) 2), M4))) else (ob (f_X3_addStaff 0 M2) (fun x5 M6 => some (.ok (M6 (iSt 0) 2), M6))))
def f_X5_staff (v1 : Int32) (M : Mem) : Option (Except Nat Int32 × Mem) :=
  if v1 = 0 then (if 1 < (M (iSt 0) 2) then (f_X5_staff_b37 v1 M) else (some (.error 1, M))) else (if (M (iSt 0) 2) < 4 then (f_X5_staff_b37 v1 M) else (some (.error 1, M)))
def f_X5_insertBeat (v1 : Int32) (M : Mem) : Option (Except Nat Int32 × Mem) :=
  if v1 < 0 then (some (.error 2, M)) else (if v1 ≤ (M (iSt 0) 3) then (if (M (iSt 0) 3) < 16 then (ob (f_X1_remember 0 M) (fun x1 M2 => ob (f_X3_openBeat 0 v1 M2) (fun x3 M4 => ob (f_X3_dropLooseHolds 0 M4) (fun x5 M6 => some (.ok (M6 (iSt 0) 3), M6))))) else (some (.error 1, M))) else (some (.error 2, M)))
def f_X5_removeBeat (v1 : Int32) (M : Mem) : Option (Except Nat Int32 × Mem) :=
  oe (f_X5_requireBeat v1 M) (fun x1 M2 => if 1 < (M2 (iSt 0) 3) then (ob (f_X1_remember 0 M2) (fun x3 M4 => ob (f_X3_closeBeat 0 v1 M4) (fun x5 M6 => ob (f_X3_dropLooseHolds 0 M6) (fun x7 M8 => some (.ok (M8 (iSt 0) 3), M8))))) else (some (.error 1, M2)))
def f_X5_undo  (M : Mem) : Option (Except Nat Int32 × Mem) :=
  ob (f_X1_isEmpty  M) (fun x1 M2 => if x1 = 0 then (ob (f_X1_takeBack 0 M2) (fun x3 M4 => some (.ok x3, M4))) else (some (.error 1, M2)))
def f_X5_requireUpTo (v0 : Int32) (v1 : Int32) (M : Mem) : Option (Except Nat Unit × Mem) :=
  if v1 < 0 then (some (.error 0, M)) else (if v1 ≤ v0 then (some (.ok (), M)) else (some (.error 0, M)))
def f_X5_note (v1 : Int32) (v2 : Int32) (v3 : Int32) (M : Mem) : Option (Except Nat Int32 × Mem) :=
  oe (f_X5_requireCell v1 v2 M) (fun x1 M2 => oe (f_X5_requireUpTo 3 v3 M2) (fun x3 M4 => ob (f_X2_make 0 M4) (fun x5 M6 => ob (f_X2_numberOfNote v1 v2 v3 M6) (fun x7 M8 => some (.ok x7, M8)))))
def f_X5_hand (v1 : Int32) (v2 : Int32) (v3 : Int32) (M : Mem) : Option (Except Nat Int32 × Mem) :=
  if v1 < 0 then (some (.error 2, M)) else (if v1 < 2 then (oe (f_X5_requireBeat v2 M) (fun x1 M2 => oe (f_X5_requireUpTo 4 v3 M2) (fun x3 M4 => ob (f_X2_make 0 M4) (fun x5 M6 => ob (f_X2_numberOfHand v1 v2 v3 M6) (fun x7 M8 => some (.ok x7, M8)))))) else (some (.error 2, M)))
def f_X5_beat (v1 : Int32) (v2 : Int32) (M : Mem) : Option (Except Nat Int32 × Mem) :=
  oe (f_X5_requireBeat v1 M) (fun x1 M2 => oe (f_X5_requireUpTo 4 v2 M2) (fun x3 M4 => ob (f_X2_make 0 M4) (fun x5 M6 => ob (f_X2_numberOfBeat v1 v2 M6) (fun x7 M8 => some (.ok x7, M8)))))
def f_X5_whole (v1 : Int32) (M : Mem) : Option (Except Nat Int32 × Mem) :=
  oe (f_X5_requireUpTo 7 v1 M) (fun x1 M2 => ob (f_X2_make 0 M2) (fun x3 M4 => ob (f_X2_numberOfWhole v1 M4) (fun x5 M6 => some (.ok x5, M6))))
def f_X5_numberOfTrial (v1 : Int32) (M : Mem) : Option (Int32 × Mem) :=
  ob (f_X2_make 1 M) (fun x1 M2 => ob (f_X2_numberOfWhole v1 M2) (fun x3 M4 => some (x3, M4)))
def f_X5_whatIf (v1 : Int32) (v2 : Int32) (v3 : Int32) (M : Mem) : Option (Except Nat Int32 × Mem) :=
  ob (f_X3_allowsSetting v1 v2 M) (fun x1 M2 => if x1 = 0 then (some (.error 0, M2)) else (oe (f_X5_requireUpTo 7 v3 M2) (fun x3 M4 => ob (f_X3_takeFrom 1 0 M4) (fun x5 M6 => ob (f_X3_changeSetting 1 v1 v2 M6) (fun x7 M8 => ob (f_X5_numberOfTrial v3 M8) (fun x9 M10 => some (.ok x9, M10)))))))
def f_X5_smallestSpan_b41 (v1 : Int32) (k13 : Int32 → Mem → Option (Int32 × Mem)) (M : Mem) : Option (Int32 × Mem) :=
  ob (f_X5_numberOfTrial 3 M) (fun x5 M6 => if x5 = 0 then (some (v1, M6)) else (k13 (v1 + 1) M6))
def f_X5_smallestSpan_b21 (v1 : Int32) (k13 : Int32 → Mem → Option (Int32 × Mem)) (k21 : Int32 → Mem → Option (Int32 × Mem)) (v2 : Int32) (M : Mem) : Option (Int32 × Mem) :=
  if 2 ≤ v2 then (f_X5_smallestSpan_b41 v1 k13 M) else (ob (f_X3_changeSetting 1 v2 v1 M) (fun x3 M4 => k21 (v2 + 1) M4))
def f_X5_smallestSpan_b13 (k13 : Int32 → Mem → Option (Int32 × Mem)) (v1 : Int32) (M : Mem) : Option (Int32 × Mem) :=
  if 24 < v1 then (some ((-9), M)) else (lq1 (f_X5_smallestSpan_b21 v1 k13) 9999 0 M)
def f_X5_smallestSpan  (M : Mem) : Option (Int32 × Mem) :=
  ob (f_X3_takeFrom 1 0 M) (fun x1 M2 => lq1 (f_X5_smallestSpan_b13 ) 9999 1 M2)
def f_X5_dearest_b7 (k7 : Int32 → Int32 → Int32 → Mem → Option (Int32 × Mem)) (v1 : Int32) (v2 : Int32) (v3 : Int32) (M : Mem) : Option (Int32 × Mem) :=
  if (M (iSt 0) 2) ≤ v3 then (some (v1, M)) else (ob (f_X3_takeFrom 1 0 M) (fun x1 M2 => ob (f_X3_silenceStaff 1 v3 M2) (fun x3 M4 => ob (f_X5_numberOfTrial 0 M4) (fun x5 M6 => if v2 ≤ x5 then (k7 v1 v2 (v3 + 1) M6) else (k7 v3 x5 (v3 + 1) M6)))))
def f_X5_dearest  (M : Mem) : Option (Int32 × Mem) :=
  lq3 (f_X5_dearest_b7 ) 9999 0 2147483647 0 M
def f_X5_bestTransposition_b42 (v1 : Int32) (v2 : Int32) (v3 : Int32) (v4 : Int32) (k13 : Int32 → Int32 → Int32 → Mem → Option (Except Nat Int32 × Mem)) (s0 : Int32) (M : Mem) : Option (Except Nat Int32 × Mem) :=
  ob (f_X3_allowsMoving 0 v1 s0 M) (fun x3 M4 => if x3 = 0 then (k13 v2 v3 (v4 + 1) M4) else (ob (f_X3_takeFrom 1 0 M4) (fun x5 M6 => ob (f_X3_moveStaff 1 v1 s0 M6) (fun x7 M8 => ob (f_X5_numberOfTrial 0 M8) (fun x9 M10 => if v3 ≤ x9 then (k13 v2 v3 (v4 + 1) M10) else (k13 s0 x9 (v4 + 1) M10))))))
def f_X5_bestTransposition_b13 (v1 : Int32) (k13 : Int32 → Int32 → Int32 → Mem → Option (Except Nat Int32 × Mem)) (v2 : Int32) (v3 : Int32) (v4 : Int32) (M : Mem) : Option (Except Nat Int32 × Mem) :=
  if 120 < v4 then (some (.ok v2, M)) else (if (v4 - v4 / 2 * 2) = 1 then (f_X5_bestTransposition_b42 v1 v2 v3 v4 k13 ((v4 + 1) / 2) M) else (f_X5_bestTransposition_b42 v1 v2 v3 v4 k13 (-(v4 / 2)) M))
def f_X5_bestTransposition (v1 : Int32) (M : Mem) : Option (Except Nat Int32 × Mem) :=
  oe (f_X5_requireStaff v1 M) (fun x1 M2 => lq3 (f_X5_bestTransposition_b13 v1) 9999 0 2147483647 0 M2)
def f_X5_groupFromEnd_b5 (v2 : Int32) (k5 : Int64 → Int32 → Mem → Option (Int64 × Mem)) (w3 : Int64) (v5 : Int32) (M : Mem) : Option (Int64 × Mem) :=
  if v2 ≤ v5 then (some (w3, M)) else (k5 (w3 / 100000) (v5 + 1) M)
def f_X5_groupFromEnd (w0 : Int64) (v2 : Int32) (M : Mem) : Option (Int64 × Mem) :=
  lq2 (f_X5_groupFromEnd_b5 v2) 9999 w0 0 M
def f_X5_triedCell (v1 : Int32) (v2 : Int32) (v3 : Int32) (M : Mem) : Option (Int32 × Mem) :=
  ob (f_X3_hasCell 1 v1 v2 M) (fun x1 M2 => if x1 = 0 then (some (0, M2)) else (ob (f_X3_put 1 v1 v2 v3 M2) (fun x3 M4 => ob (f_X3_dropLooseHolds 1 M4) (fun x5 M6 => some (1, M6)))))
def f_X5_triedExchange (v1 : Int32) (v2 : Int32) (M : Mem) : Option (Int32 × Mem) :=
  ob (f_X3_hasStaff 1 v1 M) (fun x1 M2 => if x1 = 0 then (some (0, M2)) else (ob (f_X3_hasStaff 1 v2 M2) (fun x3 M4 => if x3 = 0 then (some (0, M4)) else (ob (f_X3_swapStaves 1 v1 v2 M4) (fun x5 M6 => some (1, M6))))))
def f_X5_triedRemoval (v1 : Int32) (M : Mem) : Option (Int32 × Mem) :=
  ob (f_X3_hasBeat 1 v1 M) (fun x1 M2 => if x1 = 0 then (some (0, M2)) else (if 1 < (M2 (iSt 1) 3) then (ob (f_X3_closeBeat 1 v1 M2) (fun x3 M4 => ob (f_X3_dropLooseHolds 1 M4) (fun x5 M6 => some (1, M6)))) else (some (0, M2))))
def f_X5_triedSetting (v1 : Int32) (v2 : Int32) (M : Mem) : Option (Int32 × Mem) :=
  ob (f_X3_allowsSetting v1 v2 M) (fun x1 M2 => if x1 = 0 then (some (0, M2)) else (ob (f_X3_changeSetting 1 v1 v2 M2) (fun x3 M4 => some (1, M4))))
def f_X5_succeeds (v1 : Int32) (M : Mem) : Option (Int32 × Mem) :=
  if (v1 / 10000) = 1 then (if ((v1 / 100) - (v1 / 100) / 10 * 10) = 0 then (ob (f_X5_triedSetting ((v1 / 1000) - (v1 / 1000) / 10 * 10) (v1 - v1 / 100 * 100) M) (fun x1 M2 => if x1 = 0 then (some (0, M2)) else (some (1, M2)))) else (some (0, M))) else (if (v1 / 10000) = 2 then (ob (f_X3_isPitch (v1 - v1 / 100 * 100) M) (fun x3 M4 => if x3 = 0 then (some (0, M4)) else (ob (f_X5_triedCell ((v1 / 1000) - (v1 / 1000) / 10 * 10) ((v1 / 100) - (v1 / 100) / 10 * 10) (v1 - v1 / 100 * 100) M4) (fun x5 M6 => if x5 = 0 then (some (0, M6)) else (some (1, M6)))))) else (if (v1 / 10000) = 3 then (if (v1 - v1 / 100 * 100) = 0 then (ob (f_X5_triedCell ((v1 / 1000) - (v1 / 1000) / 10 * 10) ((v1 / 100) - (v1 / 100) / 10 * 10) (-9) M) (fun x7 M8 => if x7 = 0 then (some (0, M8)) else (some (1, M8)))) else (some (0, M))) else (if (v1 / 10000) = 4 then (if (v1 - v1 / 100 * 100) = 0 then (ob (f_X3_allowsHold 1 ((v1 / 1000) - (v1 / 1000) / 10 * 10) ((v1 / 100) - (v1 / 100) / 10 * 10) M) (fun x9 M10 => if x9 = 0 then (some (0, M10)) else (ob (f_X5_triedCell ((v1 / 1000) - (v1 / 1000) / 10 * 10) ((v1 / 100) - (v1 / 100) / 10 * 10) 99 M10) (fun x11 M12 => if x11 = 0 then (some (0, M12)) else (some (1, M12)))))) else (some (0, M))) else (if (v1 / 10000) = 5 then (if ((v1 / 1000) - (v1 / 1000) / 10 * 10) = 0 then (if (v1 - v1 / 10 * 10) = 0 then (ob (f_X5_triedExchange ((v1 / 100) - (v1 / 100) / 10 * 10) ((v1 / 10) - (v1 / 10) / 10 * 10) M) (fun x13 M14 => if x13 = 0 then (some (0, M14)) else (some (1, M14)))) else (some (0, M))) else (some (0, M))) else (if (v1 / 10000) = 6 then (if (v1 - v1 / 100 * 100) = 0 then (ob (f_X5_triedRemoval ((10 * ((v1 / 1000) - (v1 / 1000) / 10 * 10)) + ((v1 / 100) - (v1 / 100) / 10 * 10)) M) (fun x15 M16 => if x15 = 0 then (some (0, M16)) else (some (1, M16)))) else (some (0, M))) else (if (v1 / 10000) = 7 then (if 7 < ((v1 / 1000) - (v1 / 1000) / 10 * 10) then (some (0, M)) else (ob (f_X2_numberOfWhole ((v1 / 1000) - (v1 / 1000) / 10 * 10) M) (fun x17 M18 => if x17 = (v1 - v1 / 1000 * 1000) then (some (1, M18)) else (some (0, M18))))) else (if (v1 / 10000) = 8 then (if ((v1 / 10) - (v1 / 10) / 10 * 10) = 0 then (ob (f_X3_hasCell 1 ((v1 / 1000) - (v1 / 1000) / 10 * 10) ((v1 / 100) - (v1 / 100) / 10 * 10) M) (fun x19 M20 => if x19 = 0 then (some (0, M20)) else (ob (f_X2_numberOfNote ((v1 / 1000) - (v1 / 1000) / 10 * 10) ((v1 / 100) - (v1 / 100) / 10 * 10) 0 M20) (fun x21 M22 => if x21 = (v1 - v1 / 10 * 10) then (some (1, M22)) else (some (0, M22)))))) else (some (0, M))) else (if (v1 / 10000) = 9 then (if ((v1 / 10) - (v1 / 10) / 10 * 10) = 0 then (ob (f_X3_hasCell 1 ((v1 / 1000) - (v1 / 1000) / 10 * 10) ((v1 / 100) - (v1 / 100) / 10 * 10) M) (fun x23 M24 => if x23 = 0 then (some (0, M24)) else (ob (f_X2_numberOfNote ((v1 / 1000) - (v1 / 1000) / 10 * 10) ((v1 / 100) - (v1 / 100) / 10 * 10) 1 M24) (fun x25 M26 => if x25 = (v1 - v1 / 10 * 10) then (some (1, M26)) else (some (0, M26)))))) else (some (0, M))) else (some (0, M))))))))))
def f_X5_runScript_b48 (v1 : Int32) (w2 : Int64) (k48 : Int32 → Mem → Option (Except Nat Int32 × Mem)) (v4 : Int32) (M : Mem) : Option (Except Nat Int32 × Mem) :=
  if v1 ≤ v4 then (some (.ok (-9), M)) else (ob (f_X2_make 1 M) (fun x5 M6 => ob (f_X5_groupFromEnd w2 ((v1 - 1) - v4) M6) (fun x7 M8 => ob (f_X5_succeeds (Int64.toInt32 (x7 - x7 / 100000 * 100000)) M8) (fun x9 M10 => if x9 = 0 then (some (.ok v4, M10)) else (k48 (v4 + 1) M10)))))
def f_X5_runScript (v1 : Int32) (w2 : Int64) (M : Mem) : Option (Except Nat Int32 × Mem) :=
  if v1 < 1 then (some (.error 0, M)) else (if 3 < v1 then (some (.error 0, M)) else (if (lg_cmp w2 0) < 0 then (some (.error 0, M)) else (ob (f_X5_groupFromEnd w2 v1 M) (fun x1 M2 => if (lg_cmp x1 0) = 0 then (ob (f_X3_takeFrom 1 0 M2) (fun x3 M4 => lq1 (f_X5_runScript_b48 v1 w2) 9999 0 M4)) else (some (.error 0, M2))))))
def f_X5_simulateRound (v1 : Int32) (M : Mem) : Option (Unit × Mem) :=
  if (M (iSt 1) 2) < 1 then (some ((), M)) else (if 1 ≤ (M (iSt 1) 3) then (if ¬ (M (iSt 1) 2) = 0 then (if ¬ (M (iSt 1) 3) = 0 then (ob (f_X3_isPitch ((v1 / 64) - (v1 / 64) / 64 * 64) M) (fun x1 M2 => if x1 = 0 then (if ((v1 / 64) - (v1 / 64) / 64 * 64) = 61 then (ob (f_X5_triedCell (v1 - v1 / (M (iSt 1) 2) * (M (iSt 1) 2)) ((v1 / 4) - (v1 / 4) / (M (iSt 1) 3) * (M (iSt 1) 3)) (-9) M2) (fun x7 M8 => some ((), M8))) else (ob (f_X3_allowsHold 1 (v1 - v1 / (M (iSt 1) 2) * (M (iSt 1) 2)) ((v1 / 4) - (v1 / 4) / (M (iSt 1) 3) * (M (iSt 1) 3)) M2) (fun x3 M4 => if x3 = 0 then (some ((), M4)) else (ob (f_X5_triedCell (v1 - v1 / (M (iSt 1) 2) * (M (iSt 1) 2)) ((v1 / 4) - (v1 / 4) / (M (iSt 1) 3) * (M (iSt 1) 3)) 99 M4) (fun x5 M6 => some ((), M6)))))) else (ob (f_X5_triedCell (v1 - v1 / (M (iSt 1) 2) * (M (iSt 1) 2)) ((v1 / 4) - (v1 / 4) / (M (iSt 1) 3) * (M (iSt 1) 3)) ((v1 / 64) - (v1 / 64) / 64 * 64) M2) (fun x9 M10 => some ((), M10))))) else none) else none) else (some ((), M)))
def f_X5_simulate_b113 (v6 : Int32) (M : Mem) : Option (Except Nat Int32 × Mem) :=
  ob (f_X2_numberOfWhole 0 M) (fun x9 M10 => some (.ok (x9 + (1000 * v6)), M10))
def f_X5_simulate_b87 (k87 : Int32 → Int32 → Mem → Option (Except Nat Int32 × Mem)) (v6 : Int32) (v7 : Int32) (M : Mem) : Option (Except Nat Int32 × Mem) :=
  if 3 < v7 then (f_X5_simulate_b113 v6 M) else (ob (f_X2_numberOfWhole v7 M) (fun x7 M8 => k87 (v6 + x7) (v7 + 1) M8))
def f_X5_simulate_b70  (M : Mem) : Option (Except Nat Int32 × Mem) :=
  ob (f_X2_make 1 M) (fun x5 M6 => lq2 (f_X5_simulate_b87 ) 9999 0 1 M6)
def f_X5_simulate_b36 (v3 : Int32) (k36 : Int64 → Int32 → Mem → Option (Except Nat Int32 × Mem)) (w4 : Int64) (v6 : Int32) (M : Mem) : Option (Except Nat Int32 × Mem) :=
  if v3 ≤ v6 then (f_X5_simulate_b70  M) else (ob (f_X5_simulateRound (Int64.toInt32 ((Int64.toUInt64 ((w4 * 6364136223846793005) + 1442695040888963407) >>> ((Int32.toInt64 33).toUInt64 &&& Int64.toUInt64 63)).toInt64)) M) (fun x3 M4 => k36 ((w4 * 6364136223846793005) + 1442695040888963407) (v6 + 1) M4))
def f_X5_simulate (w1 : Int64) (v3 : Int32) (M : Mem) : Option (Except Nat Int32 × Mem) :=
  if v3 < 1 then (some (.error 0, M)) else (if v3 ≤ 40 then (ob (f_X3_takeFrom 1 0 M) (fun x1 M2 => lq2 (f_X5_simulate_b36 v3) 9999 w1 0 M2)) else (some (.error 0, M)))
def f_X5_requireSlot (v0 : Int32) (M : Mem) : Option (Except Nat Unit × Mem) :=
  if v0 < 0 then (some (.error 2, M)) else (if v0 < 2 then (some (.ok (), M)) else (some (.error 2, M)))
def f_X5_save (v1 : Int32) (M : Mem) : Option (Except Nat Int32 × Mem) :=
  oe (f_X5_requireSlot v1 M) (fun x1 M2 => if inb v1 2 then (ob (f_X3_takeFrom (2 + Int32.toNatClampNeg v1) 0 M2) (fun x4 M5 => if inb v1 2 then (some (.ok ((mw M5 6 (Int32.toNatClampNeg v1) (vp_nar .boolean 1)) (iSt 0) 3), (mw M5 6 (Int32.toNatClampNeg v1) (vp_nar .boolean 1)))) else none)) else none)
def f_X5_restore (v1 : Int32) (M : Mem) : Option (Except Nat Int32 × Mem) :=
  oe (f_X5_requireSlot v1 M) (fun x1 M2 => if inb v1 2 then (if (M2 6 (Int32.toNatClampNeg v1)) = 0 then (some (.error 1, M2)) else (if inb v1 2 then (ob (f_X3_takeFrom 0 (2 + Int32.toNatClampNeg v1) M2) (fun x4 M5 => ob (f_X1_forget  M5) (fun x6 M7 => some (.ok (M7 (iSt 0) 3), M7)))) else none)) else none)
def f_X6_thrown  (M : Mem) : Option (Int32 × Mem) :=
  some (M 27 0, M)
def f_X6_refused (v1 : Int32) (M : Mem) : Option (Int32 × Mem) :=
  if v1 ≤ 0 then (some (0, (mw M 27 0 v1))) else (some (1, (mw M 27 0 v1)))
def f_X6_in (w0 : Int64) (w2 : Int64) (w4 : Int64) (M : Mem) : Option (Int32 × Mem) :=
  if (lg_cmp w0 w2) < 0 then (some (0, M)) else (if 0 < (lg_cmp w0 w4) then (some (0, M)) else (some (1, M)))
def f_X6_copyPage_b3 (r0 : Nat) (v1 : Int32) (r2 : Nat) (v3 : Int32) (k3 : Int32 → Mem → Option (Unit × Mem)) (v4 : Int32) (M : Mem) : Option (Unit × Mem) :=
  if 72 ≤ v4 then (some ((), M)) else (if inb (v1 + v4) (lnA r0) then (if inb (v3 + v4) (lnA r2) then (k3 (v4 + 1) (mw M r2 (Int32.toNatClampNeg (v3 + v4)) (M r0 (Int32.toNatClampNeg (v1 + v4))))) else none) else none)
def f_X6_copyPage (r0 : Nat) (v1 : Int32) (r2 : Nat) (v3 : Int32) (M : Mem) : Option (Unit × Mem) :=
  lq1 (f_X6_copyPage_b3 r0 v1 r2 v3) 9999 0 M
def f_X6_begin_b29 (r0 : Nat) (k29 : Int32 → Mem → Option (Unit × Mem)) (v1 : Int32) (M : Mem) : Option (Unit × Mem) :=
  if 72 ≤ v1 then (some ((), M)) else (if inb v1 (lnA r0) then (k29 (v1 + 1) (mw M r0 (Int32.toNatClampNeg v1) (-9))) else none)
def f_X6_begin (r0 : Nat) (M : Mem) : Option (Unit × Mem) :=
  if inb 0 (lnA r0) then (if inb 1 (lnA r0) then (if inb 2 (lnA r0) then (if inb 3 (lnA r0) then (if inb 4 (lnA r0) then (if inb 5 (lnA r0) then (lq1 (f_X6_begin_b29 r0) 9999 8 (mw (mw (mw (mw (mw (mw M r0 (Int32.toNatClampNeg 0) 12) r0 (Int32.toNatClampNeg 1) 12) r0 (Int32.toNatClampNeg 2) 5) r0 (Int32.toNatClampNeg 3) 3) r0 (Int32.toNatClampNeg 4) 1) r0 (Int32.toNatClampNeg 5) 0)) else none) else none) else none) else none) else none) else none
def f_X6_at (v0 : Int32) (v1 : Int32) (M : Mem) : Option (Int32 × Mem) :=
  some ((16 * v0) + v1, M)
def f_X6_isSetting_b41 (v0 : Int32) (v1 : Int32) (v2 : Int32) (s0 : Int32) (M : Mem) : Option (Int32 × Mem) :=
  ob (f_X6_in (Int32.toInt64 v0) 0 5 M) (fun x1 M2 => if x1 = 0 then (some (0, M2)) else (ob (f_X6_in (Int32.toInt64 v1) (Int32.toInt64 v2) (Int32.toInt64 s0) M2) (fun x3 M4 => if x3 = 0 then (some (0, M4)) else (some (1, M4)))))
def f_X6_isSetting_b10 (v0 : Int32) (v1 : Int32) (s0 : Int32) (M : Mem) : Option (Int32 × Mem) :=
  if 2 ≤ v0 then (if v0 = 2 then (f_X6_isSetting_b41 v0 v1 s0 5 M) else (if v0 = 3 then (f_X6_isSetting_b41 v0 v1 s0 9 M) else (f_X6_isSetting_b41 v0 v1 s0 1 M))) else (f_X6_isSetting_b41 v0 v1 s0 24 M)
def f_X6_isSetting (v0 : Int32) (v1 : Int32) (M : Mem) : Option (Int32 × Mem) :=
  if 3 ≤ v0 then (f_X6_isSetting_b10 v0 v1 0 M) else (f_X6_isSetting_b10 v0 v1 1 M)
def f_X6_isHeld (r1 : Nat) (v2 : Int32) (v3 : Int32) (M : Mem) : Option (Int32 × Mem) :=
  ob (f_X6_at v2 v3 M) (fun x1 M2 => if inb (8 + x1) (lnA r1) then (if (M2 r1 (Int32.toNatClampNeg (8 + x1))) = 99 then (some (1, M2)) else (some (0, M2))) else none)
def f_X6_laySounds_b51 (r1 : Nat) (v2 : Int32) (v4 : Int32) (k2 : Int32 → Mem → Option (Unit × Mem)) (k16 : Int32 → Int32 → Mem → Option (Unit × Mem)) (s0 : Int32) (M : Mem) : Option (Unit × Mem) :=
  ob (f_X6_at v2 v4 M) (fun x5 M6 => if inb x5 64 then (k16 s0 (v4 + 1) (mw M6 36 (Int32.toNatClampNeg x5) s0)) else none)
def f_X6_laySounds_b16 (r1 : Nat) (v2 : Int32) (k2 : Int32 → Mem → Option (Unit × Mem)) (k16 : Int32 → Int32 → Mem → Option (Unit × Mem)) (v3 : Int32) (v4 : Int32) (M : Mem) : Option (Unit × Mem) :=
  if inb 7 (lnA r1) then (if (M r1 (Int32.toNatClampNeg 7)) ≤ v4 then (k2 (v2 + 1) M) else (ob (f_X6_isHeld r1 v2 v4 M) (fun x1 M2 => if x1 = 0 then (ob (f_X6_at v2 v4 M2) (fun x3 M4 => if inb (8 + x3) (lnA r1) then (f_X6_laySounds_b51 r1 v2 v4 k2 k16 (M4 r1 (Int32.toNatClampNeg (8 + x3))) M4) else none)) else (f_X6_laySounds_b51 r1 v2 v4 k2 k16 v3 M2)))) else none
def f_X6_laySounds_b2 (r1 : Nat) (k2 : Int32 → Mem → Option (Unit × Mem)) (v2 : Int32) (M : Mem) : Option (Unit × Mem) :=
  if inb 6 (lnA r1) then (if (M r1 (Int32.toNatClampNeg 6)) ≤ v2 then (some ((), M)) else (lq2 (f_X6_laySounds_b16 r1 v2 k2) 9999 (-9) 0 M)) else none
def f_X6_laySounds (r1 : Nat) (M : Mem) : Option (Unit × Mem) :=
  lq1 (f_X6_laySounds_b2 r1) 9999 0 M
def f_X6_rank (r0 : Nat) (v1 : Int32) (M : Mem) : Option (Int32 × Mem) :=
  if v1 = 0 then (some (0, M)) else (if inb 6 (lnA r0) then (if v1 = ((M r0 (Int32.toNatClampNeg 6)) - 1) then (some (1, M)) else (some (2, M))) else none)
def f_X6_stands_b134 (r1 : Nat) (v2 : Int32) (v3 : Int32) (v4 : Int32) (v6 : Int32) (k6 : Int32 → Int32 → Mem → Option (Int32 × Mem)) (M : Mem) : Option (Int32 × Mem) :=
  k6 1 (v6 + 1) M
def f_X6_stands_b42 (r1 : Nat) (v2 : Int32) (v3 : Int32) (v4 : Int32) (v5 : Int32) (v6 : Int32) (k6 : Int32 → Int32 → Mem → Option (Int32 × Mem)) (s0 : Int32) (M : Mem) : Option (Int32 × Mem) :=
  if s0 = 0 then (k6 v5 (v6 + 1) M) else (ob (f_X6_at v6 v3 M) (fun x3 M4 => if inb x3 64 then (if (M4 36 (Int32.toNatClampNeg x3)) = (-9) then (k6 v5 (v6 + 1) M4) else (ob (f_X6_at v6 v3 M4) (fun x5 M6 => if inb x5 64 then (if (M6 37 (Int32.toNatClampNeg x5)) = 0 then (ob (f_X6_at v6 v3 M6) (fun x7 M8 => if inb x7 64 then (ob (f_X6_at v2 v3 M8) (fun x9 M10 => if inb x9 64 then (if v5 = 0 then (if v4 = 0 then (if ((M8 36 (Int32.toNatClampNeg x7)) - (M10 36 (Int32.toNatClampNeg x9))) = 0 then (f_X6_stands_b134 r1 v2 v3 v4 v6 k6 M10) else (k6 0 (v6 + 1) M10)) else (if ((M8 36 (Int32.toNatClampNeg x7)) - (M10 36 (Int32.toNatClampNeg x9))) = 0 then (k6 0 (v6 + 1) M10) else (if (((M8 36 (Int32.toNatClampNeg x7)) - (M10 36 (Int32.toNatClampNeg x9))) - ((M8 36 (Int32.toNatClampNeg x7)) - (M10 36 (Int32.toNatClampNeg x9))) / 12 * 12) = 0 then (f_X6_stands_b134 r1 v2 v3 v4 v6 k6 M10) else (k6 0 (v6 + 1) M10)))) else (f_X6_stands_b134 r1 v2 v3 v4 v6 k6 M10)) else none)) else none)) else (k6 v5 (v6 + 1) M6)) else none))) else none))
def f_X6_stands_b37 (r1 : Nat) (v2 : Int32) (v3 : Int32) (v4 : Int32) (v5 : Int32) (v6 : Int32) (k6 : Int32 → Int32 → Mem → Option (Int32 × Mem)) (M : Mem) : Option (Int32 × Mem) :=
  f_X6_stands_b42 r1 v2 v3 v4 v5 v6 k6 1 M
def f_X6_stands_b41 (r1 : Nat) (v2 : Int32) (v3 : Int32) (v4 : Int32) (v5 : Int32) (v6 : Int32) (k6 : Int32 → Int32 → Mem → Option (Int32 × Mem)) (M : Mem) : Option (Int32 × Mem) :=
  f_X6_stands_b42 r1 v2 v3 v4 v5 v6 k6 0 M
def f_X6_stands_b6 (r1 : Nat) (v2 : Int32) (v3 : Int32) (v4 : Int32) (k6 : Int32 → Int32 → Mem → Option (Int32 × Mem)) (v5 : Int32) (v6 : Int32) (M : Mem) : Option (Int32 × Mem) :=
  if inb 6 (lnA r1) then (if (M r1 (Int32.toNatClampNeg 6)) ≤ v6 then (if v5 &&& 1 = v5 then some (v5, M) else none) else (if v6 = v2 then (f_X6_stands_b41 r1 v2 v3 v4 v5 v6 k6 M) else (ob (f_X6_rank r1 v6 M) (fun x1 M2 => if x1 < 2 then (f_X6_stands_b37 r1 v2 v3 v4 v5 v6 k6 M2) else (if v2 ≤ v6 then (f_X6_stands_b41 r1 v2 v3 v4 v5 v6 k6 M2) else (f_X6_stands_b37 r1 v2 v3 v4 v5 v6 k6 M2)))))) else none
def f_X6_stands (r1 : Nat) (v2 : Int32) (v3 : Int32) (v4 : Int32) (M : Mem) : Option (Int32 × Mem) :=
  lq2 (f_X6_stands_b6 r1 v2 v3 v4) 9999 0 0 M
def f_X6_layReasons_b29 (r1 : Nat) (v2 : Int32) (k29 : Int32 → Mem → Option (Unit × Mem)) (v3 : Int32) (M : Mem) : Option (Unit × Mem) :=
  if inb 6 (lnA r1) then (if ((M r1 (Int32.toNatClampNeg 6)) - 1) ≤ v3 then (some ((), M)) else (ob (f_X6_at v3 v2 M) (fun x3 M4 => if inb x3 64 then (if (M4 36 (Int32.toNatClampNeg x3)) = (-9) then (k29 (v3 + 1) M4) else (ob (f_X6_at v3 v2 M4) (fun x5 M6 => ob (f_X6_stands r1 v3 v2 0 M6) (fun x7 M8 => if x7 = 0 then (if inb 4 (lnA r1) then (if (M8 r1 (Int32.toNatClampNeg 4)) = 1 then (ob (f_X6_stands r1 v3 v2 1 M8) (fun x9 M10 => if x9 = 0 then (if inb x5 64 then (k29 (v3 + 1) (mw M10 37 (Int32.toNatClampNeg x5) 0)) else none) else (if inb x5 64 then (k29 (v3 + 1) (mw M10 37 (Int32.toNatClampNeg x5) 2)) else none))) else (if inb x5 64 then (k29 (v3 + 1) (mw M8 37 (Int32.toNatClampNeg x5) 0)) else none)) else none) else (if inb x5 64 then (k29 (v3 + 1) (mw M8 37 (Int32.toNatClampNeg x5) 1)) else none))))) else none))) else none
def f_X6_layReasons_b27 (r1 : Nat) (v2 : Int32) (M : Mem) : Option (Unit × Mem) :=
  lq1 (f_X6_layReasons_b29 r1 v2) 9999 1 M
def f_X6_layReasons_b2 (r1 : Nat) (v2 : Int32) (k2 : Int32 → Mem → Option (Unit × Mem)) (v3 : Int32) (M : Mem) : Option (Unit × Mem) :=
  if inb 6 (lnA r1) then (if (M r1 (Int32.toNatClampNeg 6)) ≤ v3 then (f_X6_layReasons_b27 r1 v2 M) else (ob (f_X6_at v3 v2 M) (fun x1 M2 => if inb x1 64 then (k2 (v3 + 1) (mw M2 37 (Int32.toNatClampNeg x1) 0)) else none))) else none
def f_X6_layReasons (r1 : Nat) (v2 : Int32) (M : Mem) : Option (Unit × Mem) :=
  lq1 (f_X6_layReasons_b2 r1 v2) 9999 0 M
def f_X6_layRow_b20 (r1 : Nat) (v2 : Int32) (v4 : Int32) (k5 : Int32 → Int32 → Mem → Option (Unit × Mem)) (k20 : Int32 → Int32 → Mem → Option (Unit × Mem)) (v3 : Int32) (v5 : Int32) (M : Mem) : Option (Unit × Mem) :=
  if v5 < 0 then (k5 v3 (v4 + 1) M) else (ob (f_X6_at v5 v2 M) (fun x1 M2 => if inb x1 64 then (if (M2 36 (Int32.toNatClampNeg x1)) = v4 then (ob (f_X6_at v5 v2 M2) (fun x3 M4 => if inb x3 64 then (if (M4 37 (Int32.toNatClampNeg x3)) = 0 then (if inb ((4 * v2) + v3) 64 then (k20 (v3 + 1) (v5 + (-1)) (mw M4 38 (Int32.toNatClampNeg ((4 * v2) + v3)) v5)) else none) else (k20 v3 (v5 + (-1)) M4)) else none)) else (k20 v3 (v5 + (-1)) M2)) else none))
def f_X6_layRow_b82 (v2 : Int32) (v3 : Int32) (M : Mem) : Option (Unit × Mem) :=
  if inb v2 16 then (some ((), (mw M 39 (Int32.toNatClampNeg v2) v3))) else none
def f_X6_layRow_b5 (r1 : Nat) (v2 : Int32) (k5 : Int32 → Int32 → Mem → Option (Unit × Mem)) (v3 : Int32) (v4 : Int32) (M : Mem) : Option (Unit × Mem) :=
  if 60 < v4 then (f_X6_layRow_b82 v2 v3 M) else (if inb 6 (lnA r1) then (lq2 (f_X6_layRow_b20 r1 v2 v4 k5) 9999 v3 ((M r1 (Int32.toNatClampNeg 6)) - 1) M) else none)
def f_X6_layRow (r1 : Nat) (v2 : Int32) (M : Mem) : Option (Unit × Mem) :=
  lq2 (f_X6_layRow_b5 r1 v2) 9999 0 0 M
def f_X6_pitchOf (v1 : Int32) (v2 : Int32) (M : Mem) : Option (Int32 × Mem) :=
  if inb ((4 * v1) + v2) 64 then (ob (f_X6_at (M 38 (Int32.toNatClampNeg ((4 * v1) + v2))) v1 M) (fun x1 M2 => if inb x1 64 then (some (M2 36 (Int32.toNatClampNeg x1), M2)) else none)) else none
def f_X6_width (v1 : Int32) (v2 : Int32) (v3 : Int32) (M : Mem) : Option (Int32 × Mem) :=
  if v3 ≤ v2 then (some (0, M)) else (ob (f_X6_pitchOf v1 (v3 - 1) M) (fun x1 M2 => ob (f_X6_pitchOf v1 v2 M2) (fun x3 M4 => some (x1 - x3, M4))))
def f_X6_canPlay_b39 (r1 : Nat) (v2 : Int32) (v3 : Int32) (v4 : Int32) (v5 : Int32) (v7 : Int32) (k7 : Int32 → Int32 → Mem → Option (Int32 × Mem)) (M : Mem) : Option (Int32 × Mem) :=
  k7 1 (v7 + 1) M
def f_X6_canPlay_b87 (s0 : Int32) (s1 : Int32) (s2 : Int32) (M : Mem) : Option (Int32 × Mem) :=
  if (s1 + s0) < s2 then (some (0, M)) else (some (1, M))
def f_X6_canPlay_b52 (r1 : Nat) (v2 : Int32) (v3 : Int32) (v4 : Int32) (v5 : Int32) (v6 : Int32) (M : Mem) : Option (Int32 × Mem) :=
  if inb 2 (lnA r1) then (if (M r1 (Int32.toNatClampNeg 2)) < (v5 - v4) then (some (0, M)) else (ob (f_X6_width v3 v4 v5 M) (fun x3 M4 => if inb v2 (lnA r1) then (if v6 = 0 then (if inb 3 (lnA r1) then (f_X6_canPlay_b87 (M4 r1 (Int32.toNatClampNeg 3)) (M4 r1 (Int32.toNatClampNeg v2)) x3 M4) else none) else (f_X6_canPlay_b87 0 (M4 r1 (Int32.toNatClampNeg v2)) x3 M4)) else none))) else none
def f_X6_canPlay_b7 (r1 : Nat) (v2 : Int32) (v3 : Int32) (v4 : Int32) (v5 : Int32) (k7 : Int32 → Int32 → Mem → Option (Int32 × Mem)) (v6 : Int32) (v7 : Int32) (M : Mem) : Option (Int32 × Mem) :=
  if v5 ≤ v7 then (f_X6_canPlay_b52 r1 v2 v3 v4 v5 v6 M) else (if v6 = 0 then (if inb ((4 * v3) + v7) 64 then (ob (f_X6_isHeld r1 (M 38 (Int32.toNatClampNeg ((4 * v3) + v7))) v3 M) (fun x1 M2 => if x1 = 0 then (k7 0 (v7 + 1) M2) else (f_X6_canPlay_b39 r1 v2 v3 v4 v5 v7 k7 M2))) else none) else (f_X6_canPlay_b39 r1 v2 v3 v4 v5 v7 k7 M))
def f_X6_canPlay (r1 : Nat) (v2 : Int32) (v3 : Int32) (v4 : Int32) (v5 : Int32) (M : Mem) : Option (Int32 × Mem) :=
  lq2 (f_X6_canPlay_b7 r1 v2 v3 v4 v5) 9999 0 v4 M
def f_X6_layPossible_b53 (r1 : Nat) (v2 : Int32) (v3 : Int32) (k9 : Int32 → Mem → Option (Unit × Mem)) (s0 : Int32) (M : Mem) : Option (Unit × Mem) :=
  if inb v2 16 then (if s0 = 0 then (if inb v2 16 then (k9 (v3 + 1) (mw M 40 (Int32.toNatClampNeg v2) ((M 40 (Int32.toNatClampNeg v2)) ||| 0))) else none) else (if inb v2 16 then (k9 (v3 + 1) (mw M 40 (Int32.toNatClampNeg v2) ((M 40 (Int32.toNatClampNeg v2)) ||| (1 <<< (v3 &&& 31))))) else none)) else none
def f_X6_layPossible_b52 (r1 : Nat) (v2 : Int32) (v3 : Int32) (k9 : Int32 → Mem → Option (Unit × Mem)) (M : Mem) : Option (Unit × Mem) :=
  f_X6_layPossible_b53 r1 v2 v3 k9 0 M
def f_X6_layPossible_b9 (r1 : Nat) (v2 : Int32) (k9 : Int32 → Mem → Option (Unit × Mem)) (v3 : Int32) (M : Mem) : Option (Unit × Mem) :=
  if inb v2 16 then (if (M 39 (Int32.toNatClampNeg v2)) < v3 then (some ((), M)) else (ob (f_X6_canPlay r1 0 v2 0 v3 M) (fun x1 M2 => if x1 = 0 then (f_X6_layPossible_b52 r1 v2 v3 k9 M2) else (if inb v2 16 then (ob (f_X6_canPlay r1 1 v2 v3 (M2 39 (Int32.toNatClampNeg v2)) M2) (fun x3 M4 => if x3 = 0 then (f_X6_layPossible_b52 r1 v2 v3 k9 M4) else (f_X6_layPossible_b53 r1 v2 v3 k9 1 M4))) else none)))) else none
def f_X6_layPossible (r1 : Nat) (v2 : Int32) (M : Mem) : Option (Unit × Mem) :=
  if inb v2 16 then (lq1 (f_X6_layPossible_b9 r1 v2) 9999 0 (mw M 40 (Int32.toNatClampNeg v2) 0)) else none
def f_X6_dropInner_b41 (v2 : Int32) (v3 : Int32) (M : Mem) : Option (Unit × Mem) :=
  ob (f_X6_at v3 v2 M) (fun x5 M6 => if inb x5 64 then (some ((), (mw M6 37 (Int32.toNatClampNeg x5) 3))) else none)
def f_X6_dropInner_b7 (v2 : Int32) (k7 : Int32 → Mem → Option (Unit × Mem)) (v3 : Int32) (M : Mem) : Option (Unit × Mem) :=
  ob (f_X6_at v3 v2 M) (fun x1 M2 => if inb x1 64 then (if (M2 36 (Int32.toNatClampNeg x1)) = (-9) then (k7 (v3 + (-1)) M2) else (ob (f_X6_at v3 v2 M2) (fun x3 M4 => if inb x3 64 then (if (M4 37 (Int32.toNatClampNeg x3)) = 0 then (f_X6_dropInner_b41 v2 v3 M4) else (k7 (v3 + (-1)) M4)) else none))) else none)
def f_X6_dropInner (r1 : Nat) (v2 : Int32) (M : Mem) : Option (Unit × Mem) :=
  if inb 6 (lnA r1) then (lq1 (f_X6_dropInner_b7 v2) 9999 ((M r1 (Int32.toNatClampNeg 6)) - 2) M) else none
def f_X6_can (v1 : Int32) (v2 : Int32) (M : Mem) : Option (Int32 × Mem) :=
  if inb v1 16 then (if (((M 40 (Int32.toNatClampNeg v1)) >>> (v2 &&& 31)) &&& 1) = 1 then (some (1, M)) else (some (0, M))) else none
def f_X6_placeOf_b2 (v1 : Int32) (v2 : Int32) (k2 : Int32 → Mem → Option (Int32 × Mem)) (v3 : Int32) (M : Mem) : Option (Int32 × Mem) :=
  if inb v2 16 then (if (M 39 (Int32.toNatClampNeg v2)) ≤ v3 then (some ((-9), M)) else (if inb ((4 * v2) + v3) 64 then (if (M 38 (Int32.toNatClampNeg ((4 * v2) + v3))) = v1 then (some (v3, M)) else (k2 (v3 + 1) M)) else none)) else none
def f_X6_placeOf (v1 : Int32) (v2 : Int32) (M : Mem) : Option (Int32 × Mem) :=
  lq1 (f_X6_placeOf_b2 v1 v2) 9999 0 M
def f_X6_handOf (v1 : Int32) (v2 : Int32) (v3 : Int32) (M : Mem) : Option (Int32 × Mem) :=
  ob (f_X6_placeOf v1 v2 M) (fun x1 M2 => if x1 = (-9) then (some ((-9), M2)) else (if v3 ≤ x1 then (some (1, M2)) else (some (0, M2))))
def f_X6_isCut (r1 : Nat) (v2 : Int32) (v3 : Int32) (v4 : Int32) (v5 : Int32) (M : Mem) : Option (Int32 × Mem) :=
  ob (f_X6_isHeld r1 v2 v3 M) (fun x1 M2 => if x1 = 0 then (some (0, M2)) else (ob (f_X6_placeOf v2 v3 M2) (fun x3 M4 => if x3 = (-9) then (some (0, M4)) else (ob (f_X6_handOf v2 (v3 - 1) v4 M4) (fun x5 M6 => ob (f_X6_handOf v2 v3 v5 M6) (fun x7 M8 => if x5 = x7 then (some (0, M8)) else (some (1, M8))))))))
def f_X6_from (v1 : Int32) (v2 : Int32) (M : Mem) : Option (Int32 × Mem) :=
  if v1 = 0 then (some (0, M)) else (some (v2, M))
def f_X6_to (v1 : Int32) (v2 : Int32) (v3 : Int32) (M : Mem) : Option (Int32 × Mem) :=
  if v1 = 0 then (some (v3, M)) else (if inb v2 16 then (some (M 39 (Int32.toNatClampNeg v2), M)) else none)
def f_X6_position (v1 : Int32) (v2 : Int32) (v3 : Int32) (M : Mem) : Option (Int32 × Mem) :=
  ob (f_X6_to v1 v2 v3 M) (fun x1 M2 => ob (f_X6_from v1 v3 M2) (fun x3 M4 => if x1 ≤ x3 then (some ((-9), M4)) else (ob (f_X6_from v1 v3 M4) (fun x5 M6 => ob (f_X6_pitchOf v2 x5 M6) (fun x7 M8 => some (x7, M8))))))
def f_X6_move_b51  (M : Mem) : Option (Int32 × Mem) :=
  some (0, M)
def f_X6_move_b28 (v5 : Int32) (s0 : Int32) (M : Mem) : Option (Int32 × Mem) :=
  if v5 = (-9) then (f_X6_move_b51  M) else (if s0 = (-9) then (f_X6_move_b51  M) else (if 0 ≤ (v5 - s0) then (some (v5 - s0, M)) else (some (-(v5 - s0), M))))
def f_X6_move (v1 : Int32) (v2 : Int32) (v3 : Int32) (v4 : Int32) (M : Mem) : Option (Int32 × Mem) :=
  ob (f_X6_position v1 v2 v4 M) (fun x1 M2 => if v2 = 0 then (f_X6_move_b28 x1 (-9) M2) else (ob (f_X6_position v1 (v2 - 1) v3 M2) (fun x3 M4 => f_X6_move_b28 x1 x3 M4)))
def f_X6_isRolled (r1 : Nat) (v2 : Int32) (v3 : Int32) (v4 : Int32) (M : Mem) : Option (Int32 × Mem) :=
  ob (f_X6_from v2 v4 M) (fun x1 M2 => ob (f_X6_to v2 v3 v4 M2) (fun x3 M4 => ob (f_X6_width v3 x1 x3 M4) (fun x5 M6 => if inb v2 (lnA r1) then (if x5 ≤ (M6 r1 (Int32.toNatClampNeg v2)) then (some (0, M6)) else (some (1, M6))) else none)))
def f_X6_costOf_b42 (r1 : Nat) (v2 : Int32) (v3 : Int32) (v4 : Int32) (v6 : Int32) (k6 : Int32 → Int32 → Mem → Option (Int32 × Mem)) (s0 : Int32) (s1 : Int32) (s2 : Int32) (M : Mem) : Option (Int32 × Mem) :=
  k6 (s2 + (s1 + s0)) (v6 + 1) M
def f_X6_costOf_b55 (r1 : Nat) (v2 : Int32) (v3 : Int32) (v4 : Int32) (k55 : Int32 → Int32 → Mem → Option (Int32 × Mem)) (v5 : Int32) (v6 : Int32) (M : Mem) : Option (Int32 × Mem) :=
  if inb 6 (lnA r1) then (if (M r1 (Int32.toNatClampNeg 6)) ≤ v6 then (some (v5, M)) else (ob (f_X6_isCut r1 v6 v2 v3 v4 M) (fun x5 M6 => if x5 = 0 then (k55 (v5 + 0) (v6 + 1) M6) else (k55 (v5 + 10) (v6 + 1) M6)))) else none
def f_X6_costOf_b52 (r1 : Nat) (v2 : Int32) (v3 : Int32) (v4 : Int32) (v5 : Int32) (M : Mem) : Option (Int32 × Mem) :=
  lq2 (f_X6_costOf_b55 r1 v2 v3 v4) 9999 v5 0 M
def f_X6_costOf_b6 (r1 : Nat) (v2 : Int32) (v3 : Int32) (v4 : Int32) (k6 : Int32 → Int32 → Mem → Option (Int32 × Mem)) (v5 : Int32) (v6 : Int32) (M : Mem) : Option (Int32 × Mem) :=
  if 2 ≤ v6 then (f_X6_costOf_b52 r1 v2 v3 v4 v5 M) else (ob (f_X6_move v6 v2 v3 v4 M) (fun x1 M2 => ob (f_X6_isRolled r1 v6 v2 v4 M2) (fun x3 M4 => if x3 = 0 then (f_X6_costOf_b42 r1 v2 v3 v4 v6 k6 0 x1 v5 M4) else (f_X6_costOf_b42 r1 v2 v3 v4 v6 k6 5 x1 v5 M4))))
def f_X6_costOf (r1 : Nat) (v2 : Int32) (v3 : Int32) (v4 : Int32) (M : Mem) : Option (Int32 × Mem) :=
  lq2 (f_X6_costOf_b6 r1 v2 v3 v4) 9999 0 0 M
def f_X6_cheapest_b96 (r1 : Nat) (v2 : Int32) (v3 : Int32) (v4 : Int32) (v6 : Int32) (v7 : Int32) (v8 : Int32) (v9 : Int32) (k10 : Int32 → Int32 → Int32 → Mem → Option (Int32 × Mem)) (s0 : Int32) (M : Mem) : Option (Int32 × Mem) :=
  if v9 = 0 then (k10 s0 v6 (v7 + 1) M) else (k10 s0 v8 (v7 + 1) M)
def f_X6_cheapest_b82 (r1 : Nat) (v2 : Int32) (v3 : Int32) (v4 : Int32) (v5 : Int32) (v6 : Int32) (v7 : Int32) (v8 : Int32) (k10 : Int32 → Int32 → Int32 → Mem → Option (Int32 × Mem)) (s0 : Int32) (M : Mem) : Option (Int32 × Mem) :=
  if s0 = 0 then (f_X6_cheapest_b96 r1 v2 v3 v4 v6 v7 v8 s0 k10 v5 M) else (f_X6_cheapest_b96 r1 v2 v3 v4 v6 v7 v8 s0 k10 v7 M)
def f_X6_cheapest_b77 (r1 : Nat) (v2 : Int32) (v3 : Int32) (v4 : Int32) (v5 : Int32) (v6 : Int32) (v7 : Int32) (v8 : Int32) (k10 : Int32 → Int32 → Int32 → Mem → Option (Int32 × Mem)) (M : Mem) : Option (Int32 × Mem) :=
  f_X6_cheapest_b82 r1 v2 v3 v4 v5 v6 v7 v8 k10 1 M
def f_X6_cheapest_b60 (r1 : Nat) (v2 : Int32) (v3 : Int32) (v4 : Int32) (v5 : Int32) (v6 : Int32) (v7 : Int32) (k10 : Int32 → Int32 → Int32 → Mem → Option (Int32 × Mem)) (s0 : Int32) (s1 : Int32) (M : Mem) : Option (Int32 × Mem) :=
  if v5 = (-9) then (f_X6_cheapest_b77 r1 v2 v3 v4 v5 v6 v7 (s1 + s0) k10 M) else (if v6 ≤ (s1 + s0) then (f_X6_cheapest_b82 r1 v2 v3 v4 v5 v6 v7 (s1 + s0) k10 0 M) else (f_X6_cheapest_b77 r1 v2 v3 v4 v5 v6 v7 (s1 + s0) k10 M))
def f_X6_cheapest_b10 (r1 : Nat) (v2 : Int32) (v3 : Int32) (v4 : Int32) (k10 : Int32 → Int32 → Int32 → Mem → Option (Int32 × Mem)) (v5 : Int32) (v6 : Int32) (v7 : Int32) (M : Mem) : Option (Int32 × Mem) :=
  if inb v2 16 then (if (M 39 (Int32.toNatClampNeg v2)) < v7 then (some (v5, M)) else (ob (f_X6_can v2 v7 M) (fun x1 M2 => if x1 = 0 then (k10 v5 v6 (v7 + 1) M2) else (ob (f_X6_costOf r1 v2 v3 v7 M2) (fun x3 M4 => if v4 = 0 then (f_X6_cheapest_b60 r1 v2 v3 v4 v5 v6 v7 k10 0 x3 M4) else (if inb ((5 * v2) + v7) 80 then (f_X6_cheapest_b60 r1 v2 v3 v4 v5 v6 v7 k10 (M4 42 (Int32.toNatClampNeg ((5 * v2) + v7))) x3 M4) else none)))))) else none
def f_X6_cheapest (r1 : Nat) (v2 : Int32) (v3 : Int32) (v4 : Int32) (M : Mem) : Option (Int32 × Mem) :=
  lq3 (f_X6_cheapest_b10 r1 v2 v3 v4) 9999 (-9) 0 0 M
def f_X6_layAhead_b59 (r1 : Nat) (v2 : Int32) (v3 : Int32) (v4 : Int32) (k7 : Int32 → Mem → Option (Unit × Mem)) (k13 : Int32 → Mem → Option (Unit × Mem)) (s0 : Int32) (M : Mem) : Option (Unit × Mem) :=
  if v4 = 0 then (ob (f_X6_costOf r1 (v2 + 1) v3 s0 M) (fun x3 M4 => if inb ((5 * (v2 + 1)) + s0) 80 then (if inb ((5 * v2) + v3) 80 then (k13 (v3 + 1) (mw M4 42 (Int32.toNatClampNeg ((5 * v2) + v3)) (x3 + (M4 42 (Int32.toNatClampNeg ((5 * (v2 + 1)) + s0)))))) else none) else none)) else (if inb ((5 * v2) + v3) 80 then (k13 (v3 + 1) (mw M 42 (Int32.toNatClampNeg ((5 * v2) + v3)) 0)) else none)
def f_X6_layAhead_b38 (r1 : Nat) (v2 : Int32) (v3 : Int32) (k7 : Int32 → Mem → Option (Unit × Mem)) (k13 : Int32 → Mem → Option (Unit × Mem)) (s0 : Int32) (M : Mem) : Option (Unit × Mem) :=
  if s0 = 0 then (ob (f_X6_cheapest r1 (v2 + 1) v3 1 M) (fun x1 M2 => f_X6_layAhead_b59 r1 v2 v3 s0 k7 k13 x1 M2)) else (f_X6_layAhead_b59 r1 v2 v3 s0 k7 k13 0 M)
def f_X6_layAhead_b13 (r1 : Nat) (v2 : Int32) (k7 : Int32 → Mem → Option (Unit × Mem)) (k13 : Int32 → Mem → Option (Unit × Mem)) (v3 : Int32) (M : Mem) : Option (Unit × Mem) :=
  if inb v2 16 then (if (M 39 (Int32.toNatClampNeg v2)) < v3 then (k7 (v2 + (-1)) M) else (if inb 7 (lnA r1) then (if v2 = ((M r1 (Int32.toNatClampNeg 7)) - 1) then (f_X6_layAhead_b38 r1 v2 v3 k7 k13 1 M) else (f_X6_layAhead_b38 r1 v2 v3 k7 k13 0 M)) else none)) else none
def f_X6_layAhead_b7 (r1 : Nat) (k7 : Int32 → Mem → Option (Unit × Mem)) (v2 : Int32) (M : Mem) : Option (Unit × Mem) :=
  if v2 < 0 then (some ((), M)) else (lq1 (f_X6_layAhead_b13 r1 v2 k7) 9999 0 M)
def f_X6_layAhead (r1 : Nat) (M : Mem) : Option (Unit × Mem) :=
  if inb 7 (lnA r1) then (lq1 (f_X6_layAhead_b7 r1) 9999 ((M r1 (Int32.toNatClampNeg 7)) - 1) M) else none
def f_X6_lay_b33 (r1 : Nat) (v2 : Int32) (k7 : Int32 → Mem → Option (Unit × Mem)) (k33 : Mem → Option (Unit × Mem)) (M : Mem) : Option (Unit × Mem) :=
  if inb v2 16 then (if (M 40 (Int32.toNatClampNeg v2)) = 0 then (ob (f_X6_dropInner r1 v2 M) (fun x9 M10 => ob (f_X6_layRow r1 v2 M10) (fun x11 M12 => ob (f_X6_layPossible r1 v2 M12) (fun x13 M14 => k33 M14)))) else (k7 (v2 + 1) M)) else none
def f_X6_lay_b125 (r1 : Nat) (v2 : Int32) (v3 : Int32) (k93 : Int32 → Mem → Option (Unit × Mem)) (s0 : Int32) (s1 : Int32) (s2 : Nat) (s4 : Int32) (s5 : Nat) (M : Mem) : Option (Unit × Mem) :=
  ob (f_X6_cheapest s2 s1 s0 v2 M) (fun x17 M18 => if inb s4 16 then (k93 (v3 + 1) (mw M18 s5 (Int32.toNatClampNeg s4) x17)) else none)
def f_X6_lay_b93 (r1 : Nat) (v2 : Int32) (k93 : Int32 → Mem → Option (Unit × Mem)) (v3 : Int32) (M : Mem) : Option (Unit × Mem) :=
  if inb 7 (lnA r1) then (if (M r1 (Int32.toNatClampNeg 7)) ≤ v3 then (some ((), M)) else (if v3 = 0 then (f_X6_lay_b125 r1 v2 v3 k93 0 v3 r1 v3 41 M) else (if inb (v3 - 1) 16 then (f_X6_lay_b125 r1 v2 v3 k93 (M 41 (Int32.toNatClampNeg (v3 - 1))) v3 r1 v3 41 M) else none))) else none
def f_X6_lay_b91 (r1 : Nat) (v2 : Int32) (M : Mem) : Option (Unit × Mem) :=
  lq1 (f_X6_lay_b93 r1 v2) 9999 0 M
def f_X6_lay_b81 (r1 : Nat) (s0 : Int32) (M : Mem) : Option (Unit × Mem) :=
  if s0 = 0 then (f_X6_lay_b91 r1 s0 M) else (ob (f_X6_layAhead r1 M) (fun x15 M16 => f_X6_lay_b91 r1 s0 M16))
def f_X6_lay_b69 (r1 : Nat) (M : Mem) : Option (Unit × Mem) :=
  if inb 5 (lnA r1) then (if (M r1 (Int32.toNatClampNeg 5)) = 1 then (f_X6_lay_b81 r1 1 M) else (f_X6_lay_b81 r1 0 M)) else none
def f_X6_lay_b7 (r1 : Nat) (k7 : Int32 → Mem → Option (Unit × Mem)) (v2 : Int32) (M : Mem) : Option (Unit × Mem) :=
  if inb 7 (lnA r1) then (if (M r1 (Int32.toNatClampNeg 7)) ≤ v2 then (f_X6_lay_b69 r1 M) else (ob (f_X6_layReasons r1 v2 M) (fun x3 M4 => ob (f_X6_layRow r1 v2 M4) (fun x5 M6 => ob (f_X6_layPossible r1 v2 M6) (fun x7 M8 => lq0 (f_X6_lay_b33 r1 v2 k7) 9999 M8))))) else none
def f_X6_lay (r1 : Nat) (M : Mem) : Option (Unit × Mem) :=
  ob (f_X6_laySounds r1 M) (fun x1 M2 => lq1 (f_X6_lay_b7 r1) 9999 0 M2)
def f_X6_before (v1 : Int32) (M : Mem) : Option (Int32 × Mem) :=
  if v1 = 0 then (some (0, M)) else (if inb (v1 - 1) 16 then (some (M 41 (Int32.toNatClampNeg (v1 - 1)), M)) else none)
def f_X6_isCutHere (r1 : Nat) (v2 : Int32) (v3 : Int32) (M : Mem) : Option (Int32 × Mem) :=
  if v3 ≤ 0 then (some (0, M)) else (ob (f_X6_before v3 M) (fun x1 M2 => if inb v3 16 then (ob (f_X6_isCut r1 v2 v3 x1 (M2 41 (Int32.toNatClampNeg v3)) M2) (fun x3 M4 => if x3 = 0 then (some (0, M4)) else (some (1, M4)))) else none))
def f_X6_wholeOf_b58 (r1 : Nat) (v2 : Int32) (v4 : Int32) (v5 : Int32) (k10 : Int32 → Int32 → Mem → Option (Int32 × Mem)) (k22 : Int32 → Int32 → Mem → Option (Int32 × Mem)) (s0 : Int32) (s1 : Int32) (M : Mem) : Option (Int32 × Mem) :=
  if v2 = 6 then (ob (f_X6_before v4 M) (fun x9 M10 => if inb v4 16 then (ob (f_X6_move v5 v4 x9 (M10 41 (Int32.toNatClampNeg v4)) M10) (fun x11 M12 => k22 ((s1 + s0) + x11) (v5 + 1) M12)) else none)) else (k22 ((s1 + s0) + 0) (v5 + 1) M)
def f_X6_wholeOf_b57 (r1 : Nat) (v2 : Int32) (v4 : Int32) (v5 : Int32) (k10 : Int32 → Int32 → Mem → Option (Int32 × Mem)) (k22 : Int32 → Int32 → Mem → Option (Int32 × Mem)) (s0 : Int32) (M : Mem) : Option (Int32 × Mem) :=
  f_X6_wholeOf_b58 r1 v2 v4 v5 k10 k22 0 s0 M
def f_X6_wholeOf_b270 (r1 : Nat) (v2 : Int32) (v4 : Int32) (v5 : Int32) (k10 : Int32 → Int32 → Mem → Option (Int32 × Mem)) (k134 : Int32 → Int32 → Mem → Option (Int32 × Mem)) (s0 : Int32) (M : Mem) : Option (Int32 × Mem) :=
  k134 (s0 + 1) (v5 + 1) M
def f_X6_wholeOf_b274 (r1 : Nat) (v2 : Int32) (v4 : Int32) (v5 : Int32) (k10 : Int32 → Int32 → Mem → Option (Int32 × Mem)) (k134 : Int32 → Int32 → Mem → Option (Int32 × Mem)) (s0 : Int32) (M : Mem) : Option (Int32 × Mem) :=
  k134 (s0 + 0) (v5 + 1) M
def f_X6_wholeOf_b227 (r1 : Nat) (v2 : Int32) (v4 : Int32) (v5 : Int32) (v6 : Int32) (v7 : Int32) (k10 : Int32 → Int32 → Mem → Option (Int32 × Mem)) (k134 : Int32 → Int32 → Mem → Option (Int32 × Mem)) (s0 : Int32) (M : Mem) : Option (Int32 × Mem) :=
  if v2 = 7 then (if v6 = 0 then (f_X6_wholeOf_b274 r1 v2 v4 v5 k10 k134 s0 M) else (ob (f_X6_at v5 v4 M) (fun x19 M20 => if inb x19 64 then (if (M20 37 (Int32.toNatClampNeg x19)) = 0 then (if v7 = 0 then (ob (f_X6_isHeld r1 v5 v4 M20) (fun x21 M22 => if x21 = 0 then (f_X6_wholeOf_b270 r1 v2 v4 v5 k10 k134 s0 M22) else (f_X6_wholeOf_b274 r1 v2 v4 v5 k10 k134 s0 M22))) else (f_X6_wholeOf_b270 r1 v2 v4 v5 k10 k134 s0 M20)) else (f_X6_wholeOf_b274 r1 v2 v4 v5 k10 k134 s0 M20)) else none))) else (f_X6_wholeOf_b274 r1 v2 v4 v5 k10 k134 s0 M)
def f_X6_wholeOf_b214 (r1 : Nat) (v2 : Int32) (v4 : Int32) (v5 : Int32) (v6 : Int32) (v7 : Int32) (k10 : Int32 → Int32 → Mem → Option (Int32 × Mem)) (k134 : Int32 → Int32 → Mem → Option (Int32 × Mem)) (s0 : Int32) (s1 : Int32) (M : Mem) : Option (Int32 × Mem) :=
  if v2 = 4 then (if v7 = 0 then (f_X6_wholeOf_b227 r1 v2 v4 v5 v6 v7 k10 k134 (s1 + s0) M) else (f_X6_wholeOf_b270 r1 v2 v4 v5 k10 k134 (s1 + s0) M)) else (f_X6_wholeOf_b227 r1 v2 v4 v5 v6 v7 k10 k134 (s1 + s0) M)
def f_X6_wholeOf_b213 (r1 : Nat) (v2 : Int32) (v4 : Int32) (v5 : Int32) (v6 : Int32) (v7 : Int32) (k10 : Int32 → Int32 → Mem → Option (Int32 × Mem)) (k134 : Int32 → Int32 → Mem → Option (Int32 × Mem)) (s0 : Int32) (M : Mem) : Option (Int32 × Mem) :=
  f_X6_wholeOf_b214 r1 v2 v4 v5 v6 v7 k10 k134 0 s0 M
def f_X6_wholeOf_b165 (r1 : Nat) (v2 : Int32) (v3 : Int32) (v4 : Int32) (v5 : Int32) (k10 : Int32 → Int32 → Mem → Option (Int32 × Mem)) (k134 : Int32 → Int32 → Mem → Option (Int32 × Mem)) (s0 : Int32) (M : Mem) : Option (Int32 × Mem) :=
  ob (f_X6_isCutHere r1 v5 v4 M) (fun x15 M16 => if v2 ≤ 0 then (f_X6_wholeOf_b213 r1 v2 v4 v5 s0 x15 k10 k134 v3 M16) else (if 4 ≤ v2 then (f_X6_wholeOf_b213 r1 v2 v4 v5 s0 x15 k10 k134 v3 M16) else (if s0 = 0 then (f_X6_wholeOf_b213 r1 v2 v4 v5 s0 x15 k10 k134 v3 M16) else (ob (f_X6_at v5 v4 M16) (fun x17 M18 => if inb x17 64 then (if (M18 37 (Int32.toNatClampNeg x17)) = v2 then (f_X6_wholeOf_b214 r1 v2 v4 v5 s0 x15 k10 k134 1 v3 M18) else (f_X6_wholeOf_b213 r1 v2 v4 v5 s0 x15 k10 k134 v3 M18)) else none)))))
def f_X6_wholeOf_b134 (r1 : Nat) (v2 : Int32) (v4 : Int32) (k10 : Int32 → Int32 → Mem → Option (Int32 × Mem)) (k134 : Int32 → Int32 → Mem → Option (Int32 × Mem)) (v3 : Int32) (v5 : Int32) (M : Mem) : Option (Int32 × Mem) :=
  if inb 6 (lnA r1) then (if (M r1 (Int32.toNatClampNeg 6)) ≤ v5 then (k10 v3 (v4 + 1) M) else (ob (f_X6_at v5 v4 M) (fun x13 M14 => if inb x13 64 then (if (M14 36 (Int32.toNatClampNeg x13)) = (-9) then (f_X6_wholeOf_b165 r1 v2 v3 v4 v5 k10 k134 0 M14) else (f_X6_wholeOf_b165 r1 v2 v3 v4 v5 k10 k134 1 M14)) else none))) else none
def f_X6_wholeOf_b129 (r1 : Nat) (v2 : Int32) (v4 : Int32) (k10 : Int32 → Int32 → Mem → Option (Int32 × Mem)) (s0 : Int32) (s1 : Int32) (M : Mem) : Option (Int32 × Mem) :=
  lq2 (f_X6_wholeOf_b134 r1 v2 v4 k10) 9999 (s1 + s0) 0 M
def f_X6_wholeOf_b100 (r1 : Nat) (v2 : Int32) (v3 : Int32) (v4 : Int32) (k10 : Int32 → Int32 → Mem → Option (Int32 × Mem)) (M : Mem) : Option (Int32 × Mem) :=
  if v2 = 0 then (ob (f_X6_before v4 M) (fun x5 M6 => if inb v4 16 then (ob (f_X6_costOf r1 v4 x5 (M6 41 (Int32.toNatClampNeg v4)) M6) (fun x7 M8 => f_X6_wholeOf_b129 r1 v2 v4 k10 x7 v3 M8)) else none)) else (f_X6_wholeOf_b129 r1 v2 v4 k10 0 v3 M)
def f_X6_wholeOf_b22 (r1 : Nat) (v2 : Int32) (v4 : Int32) (k10 : Int32 → Int32 → Mem → Option (Int32 × Mem)) (k22 : Int32 → Int32 → Mem → Option (Int32 × Mem)) (v3 : Int32) (v5 : Int32) (M : Mem) : Option (Int32 × Mem) :=
  if 2 ≤ v5 then (f_X6_wholeOf_b100 r1 v2 v3 v4 k10 M) else (if v2 = 5 then (if inb v4 16 then (ob (f_X6_isRolled r1 v5 v4 (M 41 (Int32.toNatClampNeg v4)) M) (fun x3 M4 => if x3 = 0 then (f_X6_wholeOf_b57 r1 v2 v4 v5 k10 k22 v3 M4) else (f_X6_wholeOf_b58 r1 v2 v4 v5 k10 k22 1 v3 M4))) else none) else (f_X6_wholeOf_b57 r1 v2 v4 v5 k10 k22 v3 M))
def f_X6_wholeOf_b10 (r1 : Nat) (v2 : Int32) (k10 : Int32 → Int32 → Mem → Option (Int32 × Mem)) (v3 : Int32) (v4 : Int32) (M : Mem) : Option (Int32 × Mem) :=
  if inb 7 (lnA r1) then (if (M r1 (Int32.toNatClampNeg 7)) ≤ v4 then (some (v3, M)) else (lq2 (f_X6_wholeOf_b22 r1 v2 v4 k10) 9999 v3 0 M)) else none
def f_X6_wholeOf (r1 : Nat) (v2 : Int32) (M : Mem) : Option (Int32 × Mem) :=
  ob (f_X6_lay r1 M) (fun x1 M2 => lq2 (f_X6_wholeOf_b10 r1 v2) 9999 0 0 M2)
def f_X6_mend_b53 (r0 : Nat) (v1 : Int32) (v2 : Int32) (k2 : Int32 → Mem → Option (Unit × Mem)) (k12 : Int32 → Mem → Option (Unit × Mem)) (s0 : Int32) (s1 : Nat) (M : Mem) : Option (Unit × Mem) :=
  if inb s0 (lnA s1) then (k12 (v2 + 1) (mw M s1 (Int32.toNatClampNeg s0) (-9))) else none
def f_X6_mend_b58 (r0 : Nat) (v1 : Int32) (v2 : Int32) (v3 : Int32) (k2 : Int32 → Mem → Option (Unit × Mem)) (k12 : Int32 → Mem → Option (Unit × Mem)) (s0 : Int32) (s1 : Nat) (M : Mem) : Option (Unit × Mem) :=
  if inb v3 (lnA r0) then (if inb s0 (lnA s1) then (k12 (v2 + 1) (mw M s1 (Int32.toNatClampNeg s0) (M r0 (Int32.toNatClampNeg v3)))) else none) else none
def f_X6_mend_b12 (r0 : Nat) (v1 : Int32) (k2 : Int32 → Mem → Option (Unit × Mem)) (k12 : Int32 → Mem → Option (Unit × Mem)) (v2 : Int32) (M : Mem) : Option (Unit × Mem) :=
  if inb 7 (lnA r0) then (if (M r0 (Int32.toNatClampNeg 7)) ≤ v2 then (k2 (v1 + 1) M) else (ob (f_X6_at v1 v2 M) (fun x1 M2 => if inb (8 + x1) (lnA r0) then (if (M2 r0 (Int32.toNatClampNeg (8 + x1))) = 99 then (if v2 = 0 then (f_X6_mend_b53 r0 v1 v2 k2 k12 (8 + x1) r0 M2) else (if inb ((8 + x1) - 1) (lnA r0) then (if (M2 r0 (Int32.toNatClampNeg ((8 + x1) - 1))) = (-9) then (f_X6_mend_b53 r0 v1 v2 k2 k12 (8 + x1) r0 M2) else (f_X6_mend_b58 r0 v1 v2 (8 + x1) k2 k12 (8 + x1) r0 M2)) else none)) else (f_X6_mend_b58 r0 v1 v2 (8 + x1) k2 k12 (8 + x1) r0 M2)) else none))) else none
def f_X6_mend_b2 (r0 : Nat) (k2 : Int32 → Mem → Option (Unit × Mem)) (v1 : Int32) (M : Mem) : Option (Unit × Mem) :=
  if inb 6 (lnA r0) then (if (M r0 (Int32.toNatClampNeg 6)) ≤ v1 then (some ((), M)) else (lq1 (f_X6_mend_b12 r0 v1 k2) 9999 0 M)) else none
def f_X6_mend (r0 : Nat) (M : Mem) : Option (Unit × Mem) :=
  lq1 (f_X6_mend_b2 r0) 9999 0 M
def f_X6_append_b32 (v1 : Int32) (s0 : Int32) (M : Mem) : Option (Int32 × Mem) :=
  ob (f_X6_refused s0 M) (fun x3 M4 => if x3 = 0 then (if inb (M4 27 2) 140 then (some ((mw (mw M4 28 (Int32.toNatClampNeg (M4 27 2)) v1) 27 2 (((mw M4 28 (Int32.toNatClampNeg (M4 27 2)) v1) 27 2) + 1)) 27 2, (mw (mw M4 28 (Int32.toNatClampNeg (M4 27 2)) v1) 27 2 (((mw M4 28 (Int32.toNatClampNeg (M4 27 2)) v1) 27 2) + 1)))) else none) else (some (0, M4)))
def f_X6_append (v1 : Int32) (M : Mem) : Option (Int32 × Mem) :=
  ob (f_X6_in (Int32.toInt64 v1) 0 255 M) (fun x1 M2 => if x1 = 0 then (f_X6_append_b32 v1 1 M2) else (if (M2 27 2) = 140 then (f_X6_append_b32 v1 2 M2) else (f_X6_append_b32 v1 0 M2)))
def f_X6_clearText  (M : Mem) : Option (Int32 × Mem) :=
  some ((mw M 27 0 0) 27 2, (mw (mw M 27 0 0) 27 2 0))
def f_X6_eat_b29 (s0 : Int32) (M : Mem) : Option (Int32 × Mem) :=
  if s0 = 0 then (if s0 &&& 1 = s0 then some (s0, (mw M 27 3 ((M 27 3) + 0))) else none) else (if s0 &&& 1 = s0 then some (s0, (mw M 27 3 ((M 27 3) + 1))) else none)
def f_X6_eat_b28  (M : Mem) : Option (Int32 × Mem) :=
  f_X6_eat_b29 0 M
def f_X6_eat (v1 : Int32) (M : Mem) : Option (Int32 × Mem) :=
  if (M 27 2) ≤ (M 27 3) then (f_X6_eat_b28  M) else (if inb (M 27 3) 140 then (if (M 28 (Int32.toNatClampNeg (M 27 3))) = v1 then (f_X6_eat_b29 1 M) else (f_X6_eat_b28  M)) else none)
def f_X6_digit_b55 (v3 : Int32) (v4 : Int32) (s0 : Int32) (s1 : Int32) (M : Mem) : Option (Int32 × Mem) :=
  if v4 = 0 then (some ((-9), (mw M 27 3 (s1 + s0)))) else (some (v3, (mw M 27 3 (s1 + s0))))
def f_X6_digit_b28 (v1 : Int32) (v2 : Int32) (s0 : Int32) (M : Mem) : Option (Int32 × Mem) :=
  ob (f_X6_in (Int32.toInt64 s0) (Int32.toInt64 v1) (Int32.toInt64 v2) M) (fun x1 M2 => if x1 = 0 then (f_X6_digit_b55 s0 x1 0 (M2 27 3) M2) else (f_X6_digit_b55 s0 x1 1 (M2 27 3) M2))
def f_X6_digit (v1 : Int32) (v2 : Int32) (M : Mem) : Option (Int32 × Mem) :=
  if (M 27 2) ≤ (M 27 3) then (f_X6_digit_b28 v1 v2 (-9) M) else (if inb (M 27 3) 140 then (f_X6_digit_b28 v1 v2 ((M 28 (Int32.toNatClampNeg (M 27 3))) - 48) M) else none)
def f_X6_two_b56 (v3 : Int32) (s0 : Int32) (s1 : Int32) (M : Mem) : Option (Int32 × Mem) :=
  ob (f_X6_digit s1 s0 M) (fun x3 M4 => if x3 = (-9) then (some ((-9), M4)) else (some ((10 * v3) + x3, M4)))
def f_X6_two_b39 (v2 : Int32) (v3 : Int32) (s0 : Int32) (M : Mem) : Option (Int32 × Mem) :=
  if v3 = (v2 / 10) then (f_X6_two_b56 v3 (v2 - v2 / 10 * 10) s0 M) else (f_X6_two_b56 v3 9 s0 M)
def f_X6_two (v1 : Int32) (v2 : Int32) (M : Mem) : Option (Int32 × Mem) :=
  ob (f_X6_digit (v1 / 10) (v2 / 10) M) (fun x1 M2 => if x1 = (-9) then (some ((-9), M2)) else (if x1 = (v1 / 10) then (f_X6_two_b39 v2 x1 (v1 - v1 / 10 * 10) M2) else (f_X6_two_b39 v2 x1 0 M2)))
def f_X6_readCell_b56 (v3 : Int32) (M : Mem) : Option (Int32 × Mem) :=
  ob (f_X6_two 0 60 M) (fun x7 M8 => if inb v3 72 then (if inb v3 72 then (if ((mw M8 29 (Int32.toNatClampNeg v3) x7) 29 (Int32.toNatClampNeg v3)) = (-9) then (some (0, (mw M8 29 (Int32.toNatClampNeg v3) x7))) else (some (1, (mw M8 29 (Int32.toNatClampNeg v3) x7)))) else none) else none)
def f_X6_readCell (v1 : Int32) (v2 : Int32) (M : Mem) : Option (Int32 × Mem) :=
  ob (f_X6_at v1 v2 M) (fun x1 M2 => ob (f_X6_eat 45 M2) (fun x3 M4 => if x3 = 0 then (if v2 ≤ 0 then (f_X6_readCell_b56 (8 + x1) M4) else (if inb ((8 + x1) - 1) 72 then (if (M4 29 (Int32.toNatClampNeg ((8 + x1) - 1))) = (-9) then (f_X6_readCell_b56 (8 + x1) M4) else (ob (f_X6_eat 61 M4) (fun x5 M6 => if x5 = 0 then (f_X6_readCell_b56 (8 + x1) M6) else (if inb (8 + x1) 72 then (some (1, (mw M6 29 (Int32.toNatClampNeg (8 + x1)) 99))) else none)))) else none)) else (some (1, M4))))
def f_X6_readAll_b96 (v1 : Int32) (k83 : Int32 → Mem → Option (Int32 × Mem)) (k96 : Int32 → Mem → Option (Int32 × Mem)) (v2 : Int32) (M : Mem) : Option (Int32 × Mem) :=
  if inb 7 72 then (if (M 29 (Int32.toNatClampNeg 7)) ≤ v2 then (k83 (v1 + 1) M) else (ob (f_X6_readCell v1 v2 M) (fun x9 M10 => if x9 = 0 then (some (0, M10)) else (k96 (v2 + 1) M10)))) else none
def f_X6_readAll_b130  (M : Mem) : Option (Int32 × Mem) :=
  if (M 27 3) = (M 27 2) then (some (1, M)) else (some (0, M))
def f_X6_readAll_b83 (k83 : Int32 → Mem → Option (Int32 × Mem)) (v1 : Int32) (M : Mem) : Option (Int32 × Mem) :=
  if inb 6 72 then (if (M 29 (Int32.toNatClampNeg 6)) ≤ v1 then (f_X6_readAll_b130  M) else (lq1 (f_X6_readAll_b96 v1 k83) 9999 0 M)) else none
def f_X6_readAll_b66 (s0 : Int32) (s1 : Int32) (s2 : Nat) (M : Mem) : Option (Int32 × Mem) :=
  if inb s1 72 then (if inb 7 72 then (if ((mw M s2 (Int32.toNatClampNeg s1) s0) 29 (Int32.toNatClampNeg 7)) = (-9) then (some (0, (mw M s2 (Int32.toNatClampNeg s1) s0))) else (lq1 (f_X6_readAll_b83 ) 9999 0 (mw M s2 (Int32.toNatClampNeg s1) s0))) else none) else none
def f_X6_readAll  (M : Mem) : Option (Int32 × Mem) :=
  ob (f_X6_begin 29 (mw M 27 3 0)) (fun x1 M2 => ob (f_X6_eat 77 M2) (fun x3 M4 => if x3 = 0 then (some (0, M4)) else (ob (f_X6_digit 1 4 M4) (fun x5 M6 => if inb 6 72 then (if inb 6 72 then (if ((mw M6 29 (Int32.toNatClampNeg 6) x5) 29 (Int32.toNatClampNeg 6)) = (-9) then (f_X6_readAll_b66 (-9) 7 29 (mw M6 29 (Int32.toNatClampNeg 6) x5)) else (ob (f_X6_two 1 16 (mw M6 29 (Int32.toNatClampNeg 6) x5)) (fun x7 M8 => f_X6_readAll_b66 x7 7 29 M8))) else none) else none))))
def f_X6_errorPosition  (M : Mem) : Option (Int32 × Mem) :=
  ob (f_X6_readAll  (mw M 27 0 0)) (fun x1 M2 => if x1 = 0 then (some (M2 27 3, M2)) else (some ((-9), M2)))
def f_X6_load_b13 (s0 : Int32) (M : Mem) : Option (Int32 × Mem) :=
  ob (f_X6_refused s0 M) (fun x3 M4 => if x3 = 0 then (ob (f_X6_copyPage 29 0 30 0 M4) (fun x5 M6 => if inb 0 2 then (if inb 1 2 then (if inb 7 72 then (some ((mw (mw (mw M6 27 9 0) 35 (Int32.toNatClampNeg 0) (vp_nar .boolean 0)) 35 (Int32.toNatClampNeg 1) (vp_nar .boolean 0)) 30 (Int32.toNatClampNeg 7), (mw (mw (mw M6 27 9 0) 35 (Int32.toNatClampNeg 0) (vp_nar .boolean 0)) 35 (Int32.toNatClampNeg 1) (vp_nar .boolean 0)))) else none) else none) else none)) else (some (0, M4)))
def f_X6_load  (M : Mem) : Option (Int32 × Mem) :=
  ob (f_X6_readAll  M) (fun x1 M2 => if x1 = 0 then (f_X6_load_b13 1 M2) else (f_X6_load_b13 0 M2))
def f_X6_cellsLike_b15 (r0 : Nat) (v1 : Int32) (v3 : Int32) (k4 : Int32 → Int32 → Mem → Option (Int32 × Mem)) (k15 : Int32 → Int32 → Mem → Option (Int32 × Mem)) (v2 : Int32) (v4 : Int32) (M : Mem) : Option (Int32 × Mem) :=
  if inb 7 (lnA r0) then (if (M r0 (Int32.toNatClampNeg 7)) ≤ v4 then (k4 v2 (v3 + 1) M) else (ob (f_X6_at v3 v4 M) (fun x1 M2 => if inb (8 + x1) (lnA r0) then (if v1 = 0 then (ob (f_X6_in (Int32.toInt64 (M2 r0 (Int32.toNatClampNeg (8 + x1)))) 0 60 M2) (fun x3 M4 => if x3 = 0 then (k15 (v2 + 0) (v4 + 1) M4) else (k15 (v2 + 1) (v4 + 1) M4))) else (if (M2 r0 (Int32.toNatClampNeg (8 + x1))) = 99 then (k15 (v2 + 1) (v4 + 1) M2) else (k15 (v2 + 0) (v4 + 1) M2))) else none))) else none
def f_X6_cellsLike_b4 (r0 : Nat) (v1 : Int32) (k4 : Int32 → Int32 → Mem → Option (Int32 × Mem)) (v2 : Int32) (v3 : Int32) (M : Mem) : Option (Int32 × Mem) :=
  if inb 6 (lnA r0) then (if (M r0 (Int32.toNatClampNeg 6)) ≤ v3 then (some (v2, M)) else (lq2 (f_X6_cellsLike_b15 r0 v1 v3 k4) 9999 v2 0 M)) else none
def f_X6_cellsLike (r0 : Nat) (v1 : Int32) (M : Mem) : Option (Int32 × Mem) :=
  lq2 (f_X6_cellsLike_b4 r0 v1) 9999 0 0 M
def f_X6_about_b56 (s0 : Int32) (s1 : Nat) (M : Mem) : Option (Int32 × Mem) :=
  ob (f_X6_cellsLike s1 s0 M) (fun x5 M6 => some (x5, M6))
def f_X6_about_b18 (v1 : Int32) (s0 : Int32) (M : Mem) : Option (Int32 × Mem) :=
  ob (f_X6_refused s0 M) (fun x3 M4 => if x3 = 0 then (if 8 ≤ v1 then (if v1 = 9 then (f_X6_about_b56 1 30 M4) else (f_X6_about_b56 0 30 M4)) else (if inb v1 72 then (some (M4 30 (Int32.toNatClampNeg v1), M4)) else none)) else (some (0, M4)))
def f_X6_about (v1 : Int32) (M : Mem) : Option (Int32 × Mem) :=
  ob (f_X6_in (Int32.toInt64 v1) 0 9 M) (fun x1 M2 => if x1 = 0 then (f_X6_about_b18 v1 1 M2) else (f_X6_about_b18 v1 0 M2))
def f_X6_isStaff (r0 : Nat) (v1 : Int32) (M : Mem) : Option (Int32 × Mem) :=
  if inb 6 (lnA r0) then (ob (f_X6_in (Int32.toInt64 v1) 0 (Int32.toInt64 ((M r0 (Int32.toNatClampNeg 6)) - 1)) M) (fun x1 M2 => if x1 &&& 1 = x1 then some (x1, M2) else none)) else none
def f_X6_isBeat (r0 : Nat) (v1 : Int32) (M : Mem) : Option (Int32 × Mem) :=
  if inb 7 (lnA r0) then (ob (f_X6_in (Int32.toInt64 v1) 0 (Int32.toInt64 ((M r0 (Int32.toNatClampNeg 7)) - 1)) M) (fun x1 M2 => if x1 &&& 1 = x1 then some (x1, M2) else none)) else none
def f_X6_isCell (r0 : Nat) (v1 : Int32) (v2 : Int32) (M : Mem) : Option (Int32 × Mem) :=
  ob (f_X6_isStaff r0 v1 M) (fun x1 M2 => if x1 = 0 then (some (0, M2)) else (ob (f_X6_isBeat r0 v2 M2) (fun x3 M4 => if x3 = 0 then (some (0, M4)) else (some (1, M4)))))
def f_X6_cell_b18 (v1 : Int32) (v2 : Int32) (v3 : Int32) (s0 : Int32) (M : Mem) : Option (Int32 × Mem) :=
  ob (f_X6_refused s0 M) (fun x3 M4 => if x3 = 0 then (ob (f_X6_laySounds 30 M4) (fun x5 M6 => if v3 = 0 then (ob (f_X6_at v1 v2 M6) (fun x7 M8 => if inb (8 + x7) 72 then (some (M8 30 (Int32.toNatClampNeg (8 + x7)), M8)) else none)) else (ob (f_X6_at v1 v2 M6) (fun x9 M10 => if inb x9 64 then (some (M10 36 (Int32.toNatClampNeg x9), M10)) else none)))) else (some (0, M4)))
def f_X6_cell (v1 : Int32) (v2 : Int32) (v3 : Int32) (M : Mem) : Option (Int32 × Mem) :=
  ob (f_X6_isCell 30 v1 v2 M) (fun x1 M2 => if x1 = 0 then (f_X6_cell_b18 v1 v2 v3 1 M2) else (f_X6_cell_b18 v1 v2 v3 0 M2))
def f_X6_remember_b49  (M : Mem) : Option (Unit × Mem) :=
  ob (f_X6_copyPage 30 0 33 (72 * (M 27 9)) M) (fun x1 M2 => some ((), (mw M2 27 9 ((M2 27 9) + 1))))
def f_X6_remember_b39  (M : Mem) : Option (Unit × Mem) :=
  f_X6_remember_b49  (mw M 27 9 ((M 27 9) - 1))
def f_X6_remember_b11 (k11 : Int32 → Mem → Option (Unit × Mem)) (v1 : Int32) (M : Mem) : Option (Unit × Mem) :=
  if 936 ≤ v1 then (f_X6_remember_b39  M) else (if inb (v1 + 72) 1008 then (if inb v1 1008 then (k11 (v1 + 1) (mw M 33 (Int32.toNatClampNeg v1) (M 33 (Int32.toNatClampNeg (v1 + 72))))) else none) else none)
def f_X6_remember  (M : Mem) : Option (Unit × Mem) :=
  if (M 27 9) = 14 then (lq1 (f_X6_remember_b11 ) 9999 0 M) else (f_X6_remember_b49  M)
def f_X6_set_b14 (v1 : Int32) (v2 : Int32) (s0 : Int32) (M : Mem) : Option (Int32 × Mem) :=
  ob (f_X6_refused s0 M) (fun x3 M4 => if x3 = 0 then (ob (f_X6_remember  M4) (fun x5 M6 => if inb v1 72 then (if inb v1 72 then (some (M6 30 (Int32.toNatClampNeg v1), (mw M6 30 (Int32.toNatClampNeg v1) v2))) else none) else none)) else (some (0, M4)))
def f_X6_set (v1 : Int32) (v2 : Int32) (M : Mem) : Option (Int32 × Mem) :=
  ob (f_X6_isSetting v1 v2 M) (fun x1 M2 => if x1 = 0 then (f_X6_set_b14 v1 v2 1 M2) else (f_X6_set_b14 v1 v2 0 M2))
def f_X6_canWrite_b27  (M : Mem) : Option (Int32 × Mem) :=
  some (1, M)
def f_X6_canWrite (r0 : Nat) (v1 : Int32) (v2 : Int32) (v3 : Int32) (M : Mem) : Option (Int32 × Mem) :=
  if v3 = 99 then (if v2 ≤ 0 then (some (0, M)) else (ob (f_X6_at v1 v2 M) (fun x1 M2 => if inb ((8 + x1) - 1) (lnA r0) then (if (M2 r0 (Int32.toNatClampNeg ((8 + x1) - 1))) = (-9) then (some (0, M2)) else (f_X6_canWrite_b27  M2)) else none))) else (f_X6_canWrite_b27  M)
def f_X6_put_b19 (r0 : Nat) (s0 : Int32) (s1 : Int32) (s2 : Nat) (M : Mem) : Option (Unit × Mem) :=
  if inb s1 (lnA s2) then (ob (f_X6_mend r0 (mw M s2 (Int32.toNatClampNeg s1) s0)) (fun x3 M4 => some ((), M4))) else none
def f_X6_put (r0 : Nat) (v1 : Int32) (v2 : Int32) (v3 : Int32) (M : Mem) : Option (Unit × Mem) :=
  ob (f_X6_at v1 v2 M) (fun x1 M2 => if 0 ≤ v3 then (f_X6_put_b19 r0 v3 (8 + x1) r0 M2) else (f_X6_put_b19 r0 (-9) (8 + x1) r0 M2))
def f_X6_write_b63 (v1 : Int32) (v2 : Int32) (v3 : Int32) (s0 : Int32) (M : Mem) : Option (Int32 × Mem) :=
  ob (f_X6_refused s0 M) (fun x7 M8 => if x7 = 0 then (ob (f_X6_remember  M8) (fun x9 M10 => ob (f_X6_at v1 v2 M10) (fun x11 M12 => if inb (8 + x11) 72 then (ob (f_X6_put 30 v1 v2 v3 M12) (fun x13 M14 => some (M12 30 (Int32.toNatClampNeg (8 + x11)), M14))) else none))) else (some (0, M8)))
def f_X6_write_b45 (v1 : Int32) (v2 : Int32) (v3 : Int32) (M : Mem) : Option (Int32 × Mem) :=
  ob (f_X6_canWrite 30 v1 v2 v3 M) (fun x5 M6 => if x5 = 0 then (f_X6_write_b63 v1 v2 v3 3 M6) else (f_X6_write_b63 v1 v2 v3 0 M6))
def f_X6_write (v1 : Int32) (v2 : Int32) (v3 : Int32) (M : Mem) : Option (Int32 × Mem) :=
  ob (f_X6_isCell 30 v1 v2 M) (fun x1 M2 => if x1 = 0 then (f_X6_write_b63 v1 v2 v3 1 M2) else (ob (f_X6_in (Int32.toInt64 v3) (-1) 60 M2) (fun x3 M4 => if x3 = 0 then (if v3 = 99 then (f_X6_write_b45 v1 v2 v3 M4) else (f_X6_write_b63 v1 v2 v3 2 M4)) else (f_X6_write_b45 v1 v2 v3 M4))))
def f_X6_canShift_b59 (r0 : Nat) (v1 : Int32) (v2 : Int32) (v4 : Int32) (k5 : Int32 → Int32 → Mem → Option (Int32 × Mem)) (M : Mem) : Option (Int32 × Mem) :=
  k5 1 (v4 + 1) M
def f_X6_canShift_b5 (r0 : Nat) (v1 : Int32) (v2 : Int32) (k5 : Int32 → Int32 → Mem → Option (Int32 × Mem)) (v3 : Int32) (v4 : Int32) (M : Mem) : Option (Int32 × Mem) :=
  if inb 7 (lnA r0) then (if (M r0 (Int32.toNatClampNeg 7)) ≤ v4 then (if v3 &&& 1 = v3 then some (v3, M) else none) else (ob (f_X6_at v1 v4 M) (fun x1 M2 => if inb (8 + x1) (lnA r0) then (if v3 = 0 then (k5 0 (v4 + 1) M2) else (ob (f_X6_in (Int32.toInt64 (M2 r0 (Int32.toNatClampNeg (8 + x1)))) 0 60 M2) (fun x3 M4 => if x3 = 0 then (f_X6_canShift_b59 r0 v1 v2 v4 k5 M4) else (ob (f_X6_in (Int32.toInt64 ((M2 r0 (Int32.toNatClampNeg (8 + x1))) + v2)) 0 60 M4) (fun x5 M6 => if x5 = 0 then (k5 0 (v4 + 1) M6) else (f_X6_canShift_b59 r0 v1 v2 v4 k5 M6)))))) else none))) else none
def f_X6_canShift (r0 : Nat) (v1 : Int32) (v2 : Int32) (M : Mem) : Option (Int32 × Mem) :=
  lq2 (f_X6_canShift_b5 r0 v1 v2) 9999 1 0 M
def f_X6_shift_b5 (r0 : Nat) (v1 : Int32) (v2 : Int32) (k5 : Int32 → Int32 → Mem → Option (Int32 × Mem)) (v3 : Int32) (v4 : Int32) (M : Mem) : Option (Int32 × Mem) :=
  if inb 7 (lnA r0) then (if (M r0 (Int32.toNatClampNeg 7)) ≤ v4 then (some (v3, M)) else (ob (f_X6_at v1 v4 M) (fun x1 M2 => if inb (8 + x1) (lnA r0) then (ob (f_X6_in (Int32.toInt64 (M2 r0 (Int32.toNatClampNeg (8 + x1)))) 0 60 M2) (fun x3 M4 => if x3 = 0 then (k5 v3 (v4 + 1) M4) else (if inb (8 + x1) (lnA r0) then (if inb (8 + x1) (lnA r0) then (k5 (v3 + 1) (v4 + 1) (mw M4 r0 (Int32.toNatClampNeg (8 + x1)) ((M4 r0 (Int32.toNatClampNeg (8 + x1))) + v2))) else none) else none))) else none))) else none
def f_X6_shift (r0 : Nat) (v1 : Int32) (v2 : Int32) (M : Mem) : Option (Int32 × Mem) :=
  lq2 (f_X6_shift_b5 r0 v1 v2) 9999 0 0 M
def f_X6_transpose_b51 (v1 : Int32) (v2 : Int32) (s0 : Int32) (M : Mem) : Option (Int32 × Mem) :=
  ob (f_X6_refused s0 M) (fun x7 M8 => if x7 = 0 then (ob (f_X6_remember  M8) (fun x9 M10 => ob (f_X6_shift 30 v1 v2 M10) (fun x11 M12 => some (x11, M12)))) else (some (0, M8)))
def f_X6_transpose (v1 : Int32) (v2 : Int32) (M : Mem) : Option (Int32 × Mem) :=
  ob (f_X6_isStaff 30 v1 M) (fun x1 M2 => if x1 = 0 then (f_X6_transpose_b51 v1 v2 1 M2) else (ob (f_X6_in (Int32.toInt64 v2) (-60) 60 M2) (fun x3 M4 => if x3 = 0 then (f_X6_transpose_b51 v1 v2 2 M4) else (ob (f_X6_canShift 30 v1 v2 M4) (fun x5 M6 => if x5 = 0 then (f_X6_transpose_b51 v1 v2 3 M6) else (f_X6_transpose_b51 v1 v2 0 M6))))))
def f_X6_swap_b53 (r0 : Nat) (v1 : Int32) (v2 : Int32) (v4 : Int32) (v5 : Int32) (v6 : Int32) (k5 : Int32 → Int32 → Mem → Option (Int32 × Mem)) (s0 : Int32) (s1 : Int32) (M : Mem) : Option (Int32 × Mem) :=
  ob (f_X6_at v1 v4 M) (fun x5 M6 => if inb (8 + x5) (lnA r0) then (ob (f_X6_at v2 v4 (mw M6 r0 (Int32.toNatClampNeg (8 + x5)) v6)) (fun x7 M8 => if inb (8 + x7) (lnA r0) then (k5 (s1 + s0) (v4 + 1) (mw M8 r0 (Int32.toNatClampNeg (8 + x7)) v5)) else none)) else none)
def f_X6_swap_b5 (r0 : Nat) (v1 : Int32) (v2 : Int32) (k5 : Int32 → Int32 → Mem → Option (Int32 × Mem)) (v3 : Int32) (v4 : Int32) (M : Mem) : Option (Int32 × Mem) :=
  if inb 7 (lnA r0) then (if (M r0 (Int32.toNatClampNeg 7)) ≤ v4 then (some (v3, M)) else (ob (f_X6_at v1 v4 M) (fun x1 M2 => if inb (8 + x1) (lnA r0) then (ob (f_X6_at v2 v4 M2) (fun x3 M4 => if inb (8 + x3) (lnA r0) then (if (M2 r0 (Int32.toNatClampNeg (8 + x1))) = (M4 r0 (Int32.toNatClampNeg (8 + x3))) then (f_X6_swap_b53 r0 v1 v2 v4 (M2 r0 (Int32.toNatClampNeg (8 + x1))) (M4 r0 (Int32.toNatClampNeg (8 + x3))) k5 0 v3 M4) else (f_X6_swap_b53 r0 v1 v2 v4 (M2 r0 (Int32.toNatClampNeg (8 + x1))) (M4 r0 (Int32.toNatClampNeg (8 + x3))) k5 1 v3 M4)) else none)) else none))) else none
def f_X6_swap (r0 : Nat) (v1 : Int32) (v2 : Int32) (M : Mem) : Option (Int32 × Mem) :=
  lq2 (f_X6_swap_b5 r0 v1 v2) 9999 0 0 M
def f_X6_exchange_b28 (v1 : Int32) (v2 : Int32) (s0 : Int32) (M : Mem) : Option (Int32 × Mem) :=
  ob (f_X6_refused s0 M) (fun x5 M6 => if x5 = 0 then (ob (f_X6_remember  M6) (fun x7 M8 => ob (f_X6_swap 30 v1 v2 M8) (fun x9 M10 => some (x9, M10)))) else (some (0, M6)))
def f_X6_exchange_b27 (v1 : Int32) (v2 : Int32) (M : Mem) : Option (Int32 × Mem) :=
  f_X6_exchange_b28 v1 v2 1 M
def f_X6_exchange (v1 : Int32) (v2 : Int32) (M : Mem) : Option (Int32 × Mem) :=
  ob (f_X6_isStaff 30 v1 M) (fun x1 M2 => if x1 = 0 then (f_X6_exchange_b27 v1 v2 M2) else (ob (f_X6_isStaff 30 v2 M2) (fun x3 M4 => if x3 = 0 then (f_X6_exchange_b27 v1 v2 M4) else (f_X6_exchange_b28 v1 v2 0 M4))))
def f_X6_staff_b104 (s0 : Int32) (s1 : Int32) (s2 : Int32) (s3 : Nat) (M : Mem) : Option (Int32 × Mem) :=
  if inb s2 72 then (if inb 6 72 then (some ((mw M s3 (Int32.toNatClampNeg s2) (s1 + s0)) 30 (Int32.toNatClampNeg 6), (mw M s3 (Int32.toNatClampNeg s2) (s1 + s0)))) else none) else none
def f_X6_staff_b87 (v1 : Int32) (M : Mem) : Option (Int32 × Mem) :=
  if inb 6 72 then (if v1 = 0 then (f_X6_staff_b104 0 (M 30 (Int32.toNatClampNeg 6)) 6 30 M) else (f_X6_staff_b104 1 (M 30 (Int32.toNatClampNeg 6)) 6 30 M)) else none
def f_X6_staff_b54 (v1 : Int32) (k54 : Int32 → Mem → Option (Int32 × Mem)) (v2 : Int32) (M : Mem) : Option (Int32 × Mem) :=
  if 16 ≤ v2 then (f_X6_staff_b87 v1 M) else (if inb 6 72 then (ob (f_X6_at (M 30 (Int32.toNatClampNeg 6)) v2 M) (fun x5 M6 => if inb (8 + x5) 72 then (k54 (v2 + 1) (mw M6 30 (Int32.toNatClampNeg (8 + x5)) (-9))) else none)) else none)
def f_X6_staff_b52 (v1 : Int32) (M : Mem) : Option (Int32 × Mem) :=
  lq1 (f_X6_staff_b54 v1) 9999 0 M
def f_X6_staff_b25 (v1 : Int32) (s0 : Int32) (M : Mem) : Option (Int32 × Mem) :=
  ob (f_X6_refused s0 M) (fun x1 M2 => if x1 = 0 then (ob (f_X6_remember  M2) (fun x3 M4 => if v1 = 0 then (if inb 6 72 then (if inb 6 72 then (f_X6_staff_b52 v1 (mw M4 30 (Int32.toNatClampNeg 6) ((M4 30 (Int32.toNatClampNeg 6)) - 1))) else none) else none) else (f_X6_staff_b52 v1 M4))) else (some (0, M2)))
def f_X6_staff_b17 (v1 : Int32) (s0 : Int32) (s1 : Int32) (M : Mem) : Option (Int32 × Mem) :=
  if s1 = s0 then (f_X6_staff_b25 v1 1 M) else (f_X6_staff_b25 v1 0 M)
def f_X6_staff (v1 : Int32) (M : Mem) : Option (Int32 × Mem) :=
  if inb 6 72 then (if v1 = 0 then (f_X6_staff_b17 v1 1 (M 30 (Int32.toNatClampNeg 6)) M) else (f_X6_staff_b17 v1 4 (M 30 (Int32.toNatClampNeg 6)) M)) else none
def f_X6_insertBeat_b111 (v1 : Int32) (v2 : Int32) (k53 : Int32 → Mem → Option (Int32 × Mem)) (M : Mem) : Option (Int32 × Mem) :=
  ob (f_X6_at v2 v1 M) (fun x13 M14 => if inb (8 + x13) 72 then (k53 (v2 + 1) (mw M14 30 (Int32.toNatClampNeg (8 + x13)) (-9))) else none)
def f_X6_insertBeat_b72 (v1 : Int32) (v2 : Int32) (k53 : Int32 → Mem → Option (Int32 × Mem)) (k72 : Int32 → Mem → Option (Int32 × Mem)) (v3 : Int32) (M : Mem) : Option (Int32 × Mem) :=
  if v3 ≤ v1 then (f_X6_insertBeat_b111 v1 v2 k53 M) else (ob (f_X6_at v2 v3 M) (fun x9 M10 => ob (f_X6_at v2 (v3 - 1) M10) (fun x11 M12 => if inb (8 + x11) 72 then (if inb (8 + x9) 72 then (k72 (v3 + (-1)) (mw M12 30 (Int32.toNatClampNeg (8 + x9)) (M12 30 (Int32.toNatClampNeg (8 + x11))))) else none) else none)))
def f_X6_insertBeat_b132  (M : Mem) : Option (Int32 × Mem) :=
  if inb 7 72 then (if inb 7 72 then (ob (f_X6_mend 30 (mw M 30 (Int32.toNatClampNeg 7) ((M 30 (Int32.toNatClampNeg 7)) + 1))) (fun x7 M8 => if inb 7 72 then (some (M8 30 (Int32.toNatClampNeg 7), M8)) else none)) else none) else none
def f_X6_insertBeat_b53 (v1 : Int32) (k53 : Int32 → Mem → Option (Int32 × Mem)) (v2 : Int32) (M : Mem) : Option (Int32 × Mem) :=
  if inb 6 72 then (if (M 30 (Int32.toNatClampNeg 6)) ≤ v2 then (f_X6_insertBeat_b132  M) else (if inb 7 72 then (lq1 (f_X6_insertBeat_b72 v1 v2 k53) 9999 (M 30 (Int32.toNatClampNeg 7)) M) else none)) else none
def f_X6_insertBeat_b39 (v1 : Int32) (s0 : Int32) (M : Mem) : Option (Int32 × Mem) :=
  ob (f_X6_refused s0 M) (fun x3 M4 => if x3 = 0 then (ob (f_X6_remember  M4) (fun x5 M6 => lq1 (f_X6_insertBeat_b53 v1) 9999 0 M6)) else (some (0, M4)))
def f_X6_insertBeat (v1 : Int32) (M : Mem) : Option (Int32 × Mem) :=
  if inb 7 72 then (ob (f_X6_in (Int32.toInt64 v1) 0 (Int32.toInt64 (M 30 (Int32.toNatClampNeg 7))) M) (fun x1 M2 => if x1 = 0 then (f_X6_insertBeat_b39 v1 1 M2) else (if inb 7 72 then (if (M2 30 (Int32.toNatClampNeg 7)) = 16 then (f_X6_insertBeat_b39 v1 2 M2) else (f_X6_insertBeat_b39 v1 0 M2)) else none))) else none
def f_X6_dropBeat_b50 (r0 : Nat) (v1 : Int32) (v2 : Int32) (k2 : Int32 → Mem → Option (Unit × Mem)) (M : Mem) : Option (Unit × Mem) :=
  if inb 7 (lnA r0) then (ob (f_X6_at v2 ((M r0 (Int32.toNatClampNeg 7)) - 1) M) (fun x7 M8 => if inb (8 + x7) (lnA r0) then (k2 (v2 + 1) (mw M8 r0 (Int32.toNatClampNeg (8 + x7)) (-9))) else none)) else none
def f_X6_dropBeat_b12 (r0 : Nat) (v1 : Int32) (v2 : Int32) (k2 : Int32 → Mem → Option (Unit × Mem)) (k12 : Int32 → Mem → Option (Unit × Mem)) (v3 : Int32) (M : Mem) : Option (Unit × Mem) :=
  if inb 7 (lnA r0) then (if (M r0 (Int32.toNatClampNeg 7)) ≤ (v3 + 1) then (f_X6_dropBeat_b50 r0 v1 v2 k2 M) else (ob (f_X6_at v2 v3 M) (fun x3 M4 => ob (f_X6_at v2 (v3 + 1) M4) (fun x5 M6 => if inb (8 + x5) (lnA r0) then (if inb (8 + x3) (lnA r0) then (k12 (v3 + 1) (mw M6 r0 (Int32.toNatClampNeg (8 + x3)) (M6 r0 (Int32.toNatClampNeg (8 + x5))))) else none) else none)))) else none
def f_X6_dropBeat_b73 (r0 : Nat) (M : Mem) : Option (Unit × Mem) :=
  if inb 7 (lnA r0) then (if inb 7 (lnA r0) then (ob (f_X6_mend r0 (mw M r0 (Int32.toNatClampNeg 7) ((M r0 (Int32.toNatClampNeg 7)) - 1))) (fun x1 M2 => some ((), M2))) else none) else none
def f_X6_dropBeat_b2 (r0 : Nat) (v1 : Int32) (k2 : Int32 → Mem → Option (Unit × Mem)) (v2 : Int32) (M : Mem) : Option (Unit × Mem) :=
  if inb 6 (lnA r0) then (if (M r0 (Int32.toNatClampNeg 6)) ≤ v2 then (f_X6_dropBeat_b73 r0 M) else (lq1 (f_X6_dropBeat_b12 r0 v1 v2 k2) 9999 v1 M)) else none
def f_X6_dropBeat (r0 : Nat) (v1 : Int32) (M : Mem) : Option (Unit × Mem) :=
  lq1 (f_X6_dropBeat_b2 r0 v1) 9999 0 M
def f_X6_removeBeat_b32 (v1 : Int32) (s0 : Int32) (M : Mem) : Option (Int32 × Mem) :=
  ob (f_X6_refused s0 M) (fun x3 M4 => if x3 = 0 then (ob (f_X6_remember  M4) (fun x5 M6 => ob (f_X6_dropBeat 30 v1 M6) (fun x7 M8 => if inb 7 72 then (some (M8 30 (Int32.toNatClampNeg 7), M8)) else none))) else (some (0, M4)))
def f_X6_removeBeat (v1 : Int32) (M : Mem) : Option (Int32 × Mem) :=
  ob (f_X6_isBeat 30 v1 M) (fun x1 M2 => if x1 = 0 then (f_X6_removeBeat_b32 v1 1 M2) else (if inb 7 72 then (if (M2 30 (Int32.toNatClampNeg 7)) = 1 then (f_X6_removeBeat_b32 v1 2 M2) else (f_X6_removeBeat_b32 v1 0 M2)) else none))
def f_X6_undo_b13 (s0 : Int32) (M : Mem) : Option (Int32 × Mem) :=
  ob (f_X6_refused s0 M) (fun x1 M2 => if x1 = 0 then (ob (f_X6_copyPage 33 (72 * ((mw M2 27 9 ((M2 27 9) - 1)) 27 9)) 30 0 (mw M2 27 9 ((M2 27 9) - 1))) (fun x3 M4 => some (M4 27 9, M4))) else (some (0, M2)))
def f_X6_undo  (M : Mem) : Option (Int32 × Mem) :=
  if (M 27 9) = 0 then (f_X6_undo_b13 1 M) else (f_X6_undo_b13 0 M)
def f_X6_note_b169  (M : Mem) : Option (Int32 × Mem) :=
  some (1, M)
def f_X6_note_b34 (v1 : Int32) (v2 : Int32) (v3 : Int32) (s0 : Int32) (M : Mem) : Option (Int32 × Mem) :=
  ob (f_X6_refused s0 M) (fun x5 M6 => if x5 = 0 then (ob (f_X6_lay 30 M6) (fun x7 M8 => ob (f_X6_at v1 v2 M8) (fun x9 M10 => if inb x9 64 then (if (M10 36 (Int32.toNatClampNeg x9)) = (-9) then (some ((-9), M10)) else (if inb v2 16 then (ob (f_X6_handOf v1 v2 (M10 41 (Int32.toNatClampNeg v2)) M10) (fun x11 M12 => ob (f_X6_isCutHere 30 v1 v2 M12) (fun x13 M14 => if v3 = 0 then (some (x11, M14)) else (if v3 = 1 then (ob (f_X6_at v1 v2 M14) (fun x17 M18 => if inb x17 64 then (some (M18 37 (Int32.toNatClampNeg x17), M18)) else none)) else (if v3 = 3 then (if x13 = 0 then (some (0, M14)) else (some (1, M14))) else (if x11 = (-9) then (some ((-9), M14)) else (if x13 = 0 then (ob (f_X6_isHeld 30 v1 v2 M14) (fun x15 M16 => if x15 = 0 then (f_X6_note_b169  M16) else (some (0, M16)))) else (f_X6_note_b169  M14)))))))) else none)) else none))) else (some (0, M6)))
def f_X6_note (v1 : Int32) (v2 : Int32) (v3 : Int32) (M : Mem) : Option (Int32 × Mem) :=
  ob (f_X6_isCell 30 v1 v2 M) (fun x1 M2 => if x1 = 0 then (f_X6_note_b34 v1 v2 v3 1 M2) else (ob (f_X6_in (Int32.toInt64 v3) 0 3 M2) (fun x3 M4 => if x3 = 0 then (f_X6_note_b34 v1 v2 v3 2 M4) else (f_X6_note_b34 v1 v2 v3 0 M4))))
def f_X6_hand_b43 (v1 : Int32) (v2 : Int32) (v3 : Int32) (s0 : Int32) (M : Mem) : Option (Int32 × Mem) :=
  ob (f_X6_refused s0 M) (fun x7 M8 => if x7 = 0 then (ob (f_X6_lay 30 M8) (fun x9 M10 => if inb v2 16 then (if v3 = 0 then (ob (f_X6_to v1 v2 (M10 41 (Int32.toNatClampNeg v2)) M10) (fun x11 M12 => ob (f_X6_from v1 (M10 41 (Int32.toNatClampNeg v2)) M12) (fun x13 M14 => some (x11 - x13, M14)))) else (if v3 = 1 then (ob (f_X6_position v1 v2 (M10 41 (Int32.toNatClampNeg v2)) M10) (fun x15 M16 => some (x15, M16))) else (if v3 = 2 then (ob (f_X6_from v1 (M10 41 (Int32.toNatClampNeg v2)) M10) (fun x17 M18 => ob (f_X6_to v1 v2 (M10 41 (Int32.toNatClampNeg v2)) M18) (fun x19 M20 => ob (f_X6_width v2 x17 x19 M20) (fun x21 M22 => some (x21, M22))))) else (if v3 = 3 then (ob (f_X6_isRolled 30 v1 v2 (M10 41 (Int32.toNatClampNeg v2)) M10) (fun x23 M24 => if x23 = 0 then (some (0, M24)) else (some (1, M24)))) else (ob (f_X6_before v2 M10) (fun x25 M26 => ob (f_X6_move v1 v2 x25 (M10 41 (Int32.toNatClampNeg v2)) M26) (fun x27 M28 => some (x27, M28)))))))) else none)) else (some (0, M8)))
def f_X6_hand_b22 (v1 : Int32) (v2 : Int32) (v3 : Int32) (M : Mem) : Option (Int32 × Mem) :=
  f_X6_hand_b43 v1 v2 v3 1 M
def f_X6_hand (v1 : Int32) (v2 : Int32) (v3 : Int32) (M : Mem) : Option (Int32 × Mem) :=
  ob (f_X6_in (Int32.toInt64 v1) 0 1 M) (fun x1 M2 => if x1 = 0 then (f_X6_hand_b22 v1 v2 v3 M2) else (ob (f_X6_isBeat 30 v2 M2) (fun x3 M4 => if x3 = 0 then (f_X6_hand_b22 v1 v2 v3 M4) else (ob (f_X6_in (Int32.toInt64 v3) 0 4 M4) (fun x5 M6 => if x5 = 0 then (f_X6_hand_b43 v1 v2 v3 2 M6) else (f_X6_hand_b43 v1 v2 v3 0 M6))))))
def f_X6_beat_b89 (v1 : Int32) (v2 : Int32) (v3 : Int32) (M : Mem) : Option (Int32 × Mem) :=
  if v2 = 0 then (if inb v1 16 then (some (M 41 (Int32.toNatClampNeg v1), M)) else none) else (if v2 = 1 then (some (v3, M)) else (if v2 = 2 then (ob (f_X6_before v1 M) (fun x11 M12 => if inb v1 16 then (ob (f_X6_costOf 30 v1 x11 (M12 41 (Int32.toNatClampNeg v1)) M12) (fun x13 M14 => some (x13, M14))) else none)) else (if v2 = 3 then (if inb v1 16 then (some (M 39 (Int32.toNatClampNeg v1), M)) else none) else (if inb v1 16 then (some (M 40 (Int32.toNatClampNeg v1), M)) else none))))
def f_X6_beat_b54 (v1 : Int32) (v2 : Int32) (k54 : Int32 → Int32 → Mem → Option (Int32 × Mem)) (v3 : Int32) (v4 : Int32) (M : Mem) : Option (Int32 × Mem) :=
  if inb v1 16 then (if (M 39 (Int32.toNatClampNeg v1)) < v4 then (f_X6_beat_b89 v1 v2 v3 M) else (ob (f_X6_can v1 v4 M) (fun x9 M10 => if x9 = 0 then (k54 (v3 + 0) (v4 + 1) M10) else (k54 (v3 + 1) (v4 + 1) M10)))) else none
def f_X6_beat_b33 (v1 : Int32) (v2 : Int32) (s0 : Int32) (M : Mem) : Option (Int32 × Mem) :=
  ob (f_X6_refused s0 M) (fun x5 M6 => if x5 = 0 then (ob (f_X6_lay 30 M6) (fun x7 M8 => lq2 (f_X6_beat_b54 v1 v2) 9999 0 0 M8)) else (some (0, M6)))
def f_X6_beat (v1 : Int32) (v2 : Int32) (M : Mem) : Option (Int32 × Mem) :=
  ob (f_X6_isBeat 30 v1 M) (fun x1 M2 => if x1 = 0 then (f_X6_beat_b33 v1 v2 1 M2) else (ob (f_X6_in (Int32.toInt64 v2) 0 4 M2) (fun x3 M4 => if x3 = 0 then (f_X6_beat_b33 v1 v2 2 M4) else (f_X6_beat_b33 v1 v2 0 M4))))
def f_X6_whole_b18 (v1 : Int32) (s0 : Int32) (M : Mem) : Option (Int32 × Mem) :=
  ob (f_X6_refused s0 M) (fun x3 M4 => if x3 = 0 then (ob (f_X6_wholeOf 30 v1 M4) (fun x5 M6 => some (x5, M6))) else (some (0, M4)))
def f_X6_whole (v1 : Int32) (M : Mem) : Option (Int32 × Mem) :=
  ob (f_X6_in (Int32.toInt64 v1) 0 7 M) (fun x1 M2 => if x1 = 0 then (f_X6_whole_b18 v1 1 M2) else (f_X6_whole_b18 v1 0 M2))
def f_X6_whatIf_b26 (v1 : Int32) (v2 : Int32) (v3 : Int32) (s0 : Int32) (M : Mem) : Option (Int32 × Mem) :=
  ob (f_X6_refused s0 M) (fun x5 M6 => if x5 = 0 then (ob (f_X6_copyPage 30 0 32 0 M6) (fun x7 M8 => if inb v1 72 then (ob (f_X6_wholeOf 32 v3 (mw M8 32 (Int32.toNatClampNeg v1) v2)) (fun x9 M10 => some (x9, M10))) else none)) else (some (0, M6)))
def f_X6_whatIf_b25 (v1 : Int32) (v2 : Int32) (v3 : Int32) (M : Mem) : Option (Int32 × Mem) :=
  f_X6_whatIf_b26 v1 v2 v3 1 M
def f_X6_whatIf (v1 : Int32) (v2 : Int32) (v3 : Int32) (M : Mem) : Option (Int32 × Mem) :=
  ob (f_X6_isSetting v1 v2 M) (fun x1 M2 => if x1 = 0 then (f_X6_whatIf_b25 v1 v2 v3 M2) else (ob (f_X6_in (Int32.toInt64 v3) 0 7 M2) (fun x3 M4 => if x3 = 0 then (f_X6_whatIf_b25 v1 v2 v3 M4) else (f_X6_whatIf_b26 v1 v2 v3 0 M4))))
def f_X6_smallestSpan_b20 (k20 : Int32 → Mem → Option (Int32 × Mem)) (v1 : Int32) (M : Mem) : Option (Int32 × Mem) :=
  if 24 < v1 then (some ((-9), M)) else (if inb 0 72 then (if inb 1 72 then (ob (f_X6_wholeOf 32 3 (mw (mw M 32 (Int32.toNatClampNeg 0) v1) 32 (Int32.toNatClampNeg 1) v1)) (fun x3 M4 => if x3 = 0 then (some (v1, M4)) else (k20 (v1 + 1) M4))) else none) else none)
def f_X6_smallestSpan  (M : Mem) : Option (Int32 × Mem) :=
  ob (f_X6_copyPage 30 0 32 0 (mw M 27 0 0)) (fun x1 M2 => lq1 (f_X6_smallestSpan_b20 ) 9999 1 M2)
def f_X6_dearest_b108 (v2 : Int32) (v3 : Int32) (v4 : Int32) (v5 : Int32) (k12 : Int32 → Int32 → Int32 → Mem → Option (Int32 × Mem)) (s0 : Int32) (M : Mem) : Option (Int32 × Mem) :=
  if v5 = 0 then (k12 s0 v2 (v3 + 1) M) else (k12 s0 v4 (v3 + 1) M)
def f_X6_dearest_b96 (v1 : Int32) (v2 : Int32) (v3 : Int32) (v4 : Int32) (k12 : Int32 → Int32 → Int32 → Mem → Option (Int32 × Mem)) (s0 : Int32) (M : Mem) : Option (Int32 × Mem) :=
  if s0 = 0 then (f_X6_dearest_b108 v2 v3 v4 s0 k12 v1 M) else (f_X6_dearest_b108 v2 v3 v4 s0 k12 v3 M)
def f_X6_dearest_b91 (v1 : Int32) (v2 : Int32) (v3 : Int32) (v4 : Int32) (k12 : Int32 → Int32 → Int32 → Mem → Option (Int32 × Mem)) (M : Mem) : Option (Int32 × Mem) :=
  f_X6_dearest_b96 v1 v2 v3 v4 k12 1 M
def f_X6_dearest_b68 (v1 : Int32) (v2 : Int32) (v3 : Int32) (k12 : Int32 → Int32 → Int32 → Mem → Option (Int32 × Mem)) (M : Mem) : Option (Int32 × Mem) :=
  ob (f_X6_wholeOf 32 0 M) (fun x5 M6 => if v1 = (-9) then (f_X6_dearest_b91 v1 v2 v3 x5 k12 M6) else (if v2 ≤ x5 then (f_X6_dearest_b96 v1 v2 v3 x5 k12 0 M6) else (f_X6_dearest_b91 v1 v2 v3 x5 k12 M6)))
def f_X6_dearest_b39 (v1 : Int32) (v2 : Int32) (v3 : Int32) (k12 : Int32 → Int32 → Int32 → Mem → Option (Int32 × Mem)) (k39 : Int32 → Mem → Option (Int32 × Mem)) (v4 : Int32) (M : Mem) : Option (Int32 × Mem) :=
  if 16 ≤ v4 then (f_X6_dearest_b68 v1 v2 v3 k12 M) else (ob (f_X6_at v3 v4 M) (fun x3 M4 => if inb (8 + x3) 72 then (k39 (v4 + 1) (mw M4 32 (Int32.toNatClampNeg (8 + x3)) (-9))) else none))
def f_X6_dearest_b12 (k12 : Int32 → Int32 → Int32 → Mem → Option (Int32 × Mem)) (v1 : Int32) (v2 : Int32) (v3 : Int32) (M : Mem) : Option (Int32 × Mem) :=
  if inb 6 72 then (if (M 30 (Int32.toNatClampNeg 6)) ≤ v3 then (some (v1, M)) else (ob (f_X6_copyPage 30 0 32 0 M) (fun x1 M2 => lq1 (f_X6_dearest_b39 v1 v2 v3 k12) 9999 0 M2))) else none
def f_X6_dearest  (M : Mem) : Option (Int32 × Mem) :=
  lq3 (f_X6_dearest_b12 ) 9999 (-9) 0 0 (mw M 27 0 0)
def f_X6_bestTransposition_b125 (v1 : Int32) (v3 : Int32) (v4 : Int32) (v5 : Int32) (v6 : Int32) (k40 : Int32 → Int32 → Int32 → Mem → Option (Int32 × Mem)) (k50 : Int32 → Int32 → Int32 → Mem → Option (Int32 × Mem)) (s0 : Int32) (M : Mem) : Option (Int32 × Mem) :=
  if v3 ≤ v6 then (k50 s0 v3 (v5 + (-2)) M) else (k50 s0 v6 (v5 + (-2)) M)
def f_X6_bestTransposition_b50 (v1 : Int32) (v4 : Int32) (k40 : Int32 → Int32 → Int32 → Mem → Option (Int32 × Mem)) (k50 : Int32 → Int32 → Int32 → Mem → Option (Int32 × Mem)) (v2 : Int32) (v3 : Int32) (v5 : Int32) (M : Mem) : Option (Int32 × Mem) :=
  if v5 < (-1) then (k40 v2 v3 (v4 + 1) M) else (ob (f_X6_canShift 30 v1 (v5 * v4) M) (fun x7 M8 => if x7 = 0 then (k50 v2 v3 (v5 + (-2)) M8) else (ob (f_X6_copyPage 30 0 32 0 M8) (fun x9 M10 => ob (f_X6_shift 32 v1 (v5 * v4) M10) (fun x11 M12 => ob (f_X6_wholeOf 32 0 M12) (fun x13 M14 => if v3 ≤ x13 then (f_X6_bestTransposition_b125 v1 v3 v4 v5 x13 k40 k50 v2 M14) else (f_X6_bestTransposition_b125 v1 v3 v4 v5 x13 k40 k50 (v5 * v4) M14)))))))
def f_X6_bestTransposition_b40 (v1 : Int32) (k40 : Int32 → Int32 → Int32 → Mem → Option (Int32 × Mem)) (v2 : Int32) (v3 : Int32) (v4 : Int32) (M : Mem) : Option (Int32 × Mem) :=
  if 60 < v4 then (some (v2, M)) else (lq3 (f_X6_bestTransposition_b50 v1 v4 k40) 9999 v2 v3 1 M)
def f_X6_bestTransposition_b17 (v1 : Int32) (s0 : Int32) (M : Mem) : Option (Int32 × Mem) :=
  ob (f_X6_refused s0 M) (fun x3 M4 => if x3 = 0 then (ob (f_X6_wholeOf 30 0 M4) (fun x5 M6 => lq3 (f_X6_bestTransposition_b40 v1) 9999 0 x5 1 M6)) else (some (0, M4)))
def f_X6_bestTransposition (v1 : Int32) (M : Mem) : Option (Int32 × Mem) :=
  ob (f_X6_isStaff 30 v1 M) (fun x1 M2 => if x1 = 0 then (f_X6_bestTransposition_b17 v1 1 M2) else (f_X6_bestTransposition_b17 v1 0 M2))
def f_X6_writes (v1 : Int32) (v2 : Int32) (v3 : Int32) (M : Mem) : Option (Int32 × Mem) :=
  ob (f_X6_isCell 31 v1 v2 M) (fun x1 M2 => if x1 = 0 then (some (0, M2)) else (ob (f_X6_canWrite 31 v1 v2 v3 M2) (fun x3 M4 => if x3 = 0 then (some (0, M4)) else (ob (f_X6_put 31 v1 v2 v3 M4) (fun x5 M6 => some (1, M6))))))
def f_X6_does (v1 : Int32) (v2 : Int32) (v3 : Int32) (v4 : Int32) (M : Mem) : Option (Int32 × Mem) :=
  if v1 = 1 then (if v3 = 0 then (ob (f_X6_isSetting v2 v4 M) (fun x1 M2 => if x1 = 0 then (some (0, M2)) else (if inb v2 72 then (some (1, (mw M2 31 (Int32.toNatClampNeg v2) v4))) else none))) else (some (0, M))) else (if v1 = 2 then (if 60 < v4 then (some (0, M)) else (ob (f_X6_writes v2 v3 v4 M) (fun x3 M4 => if x3 = 0 then (some (0, M4)) else (some (1, M4))))) else (if v1 = 3 then (if v4 = 0 then (ob (f_X6_writes v2 v3 (-1) M) (fun x5 M6 => if x5 = 0 then (some (0, M6)) else (some (1, M6)))) else (some (0, M))) else (if v1 = 4 then (if v4 = 0 then (ob (f_X6_writes v2 v3 99 M) (fun x7 M8 => if x7 = 0 then (some (0, M8)) else (some (1, M8)))) else (some (0, M))) else (if v1 = 5 then (if v2 = 0 then (if (v4 - v4 / 10 * 10) = 0 then (ob (f_X6_isStaff 31 v3 M) (fun x9 M10 => if x9 = 0 then (some (0, M10)) else (ob (f_X6_isStaff 31 (v4 / 10) M10) (fun x11 M12 => if x11 = 0 then (some (0, M12)) else (ob (f_X6_swap 31 v3 (v4 / 10) M12) (fun x13 M14 => some (1, M14))))))) else (some (0, M))) else (some (0, M))) else (if v1 = 6 then (if v4 = 0 then (ob (f_X6_isBeat 31 ((10 * v2) + v3) M) (fun x15 M16 => if x15 = 0 then (some (0, M16)) else (if inb 7 72 then (if (M16 31 (Int32.toNatClampNeg 7)) = 1 then (some (0, M16)) else (ob (f_X6_dropBeat 31 ((10 * v2) + v3) M16) (fun x17 M18 => some (1, M18)))) else none))) else (some (0, M))) else (if v1 = 7 then (if 8 ≤ v2 then (some (0, M)) else (ob (f_X6_wholeOf 31 v2 M) (fun x19 M20 => if x19 = ((100 * v3) + v4) then (some (1, M20)) else (some (0, M20))))) else (if v1 = 8 then (ob (f_X6_lay 31 M) (fun x21 M22 => if 2 ≤ v4 then (some (0, M22)) else (ob (f_X6_isCell 31 v2 v3 M22) (fun x23 M24 => if x23 = 0 then (some (0, M24)) else (if inb v3 16 then (ob (f_X6_handOf v2 v3 (M24 41 (Int32.toNatClampNeg v3)) M24) (fun x25 M26 => if x25 = v4 then (some (1, M26)) else (some (0, M26)))) else none))))) else (if v1 = 9 then (ob (f_X6_lay 31 M) (fun x27 M28 => if 10 ≤ v4 then (some (0, M28)) else (ob (f_X6_isCell 31 v2 v3 M28) (fun x29 M30 => if x29 = 0 then (some (0, M30)) else (ob (f_X6_at v2 v3 M30) (fun x31 M32 => if inb x31 64 then (if (M32 36 (Int32.toNatClampNeg x31)) = (-9) then (some (0, M32)) else (ob (f_X6_at v2 v3 M32) (fun x33 M34 => if inb x33 64 then (if (M34 37 (Int32.toNatClampNeg x33)) = v4 then (some (1, M34)) else (some (0, M34))) else none))) else none)))))) else (some (0, M))))))))))
def f_X6_runScript_b84 (v1 : Int32) (k84 : Int64 → Int64 → Int32 → Mem → Option (Int32 × Mem)) (w4 : Int64) (w6 : Int64) (v8 : Int32) (M : Mem) : Option (Int32 × Mem) :=
  if v1 ≤ v8 then (some ((-9), M)) else (if ¬ (w4 / 100000) = 0 then (if ¬ (w4 / 100000) = 0 then (ob (f_X6_does ((Int64.toInt32 (w6 / (w4 / 100000))) / 10000) (((Int64.toInt32 (w6 / (w4 / 100000))) / 1000) - ((Int64.toInt32 (w6 / (w4 / 100000))) / 1000) / 10 * 10) (((Int64.toInt32 (w6 / (w4 / 100000))) / 100) - ((Int64.toInt32 (w6 / (w4 / 100000))) / 100) / 10 * 10) ((Int64.toInt32 (w6 / (w4 / 100000))) - (Int64.toInt32 (w6 / (w4 / 100000))) / 100 * 100) M) (fun x9 M10 => if x9 = 0 then (some (v8, M10)) else (k84 (w4 / 100000) (w6 - w6 / (w4 / 100000) * (w4 / 100000)) (v8 + 1) M10))) else none) else none)
def f_X6_runScript_b57 (v1 : Int32) (w2 : Int64) (w4 : Int64) (s0 : Int32) (M : Mem) : Option (Int32 × Mem) :=
  ob (f_X6_refused s0 M) (fun x5 M6 => if x5 = 0 then (ob (f_X6_copyPage 30 0 31 0 M6) (fun x7 M8 => lq3 (f_X6_runScript_b84 v1) 9999 w4 w2 0 M8)) else (some (0, M6)))
def f_X6_runScript_b56 (v1 : Int32) (w2 : Int64) (w4 : Int64) (M : Mem) : Option (Int32 × Mem) :=
  f_X6_runScript_b57 v1 w2 w4 1 M
def f_X6_runScript_b25 (v1 : Int32) (w2 : Int64) (s0 : Int64) (M : Mem) : Option (Int32 × Mem) :=
  ob (f_X6_in (Int32.toInt64 v1) 1 3 M) (fun x1 M2 => if x1 = 0 then (f_X6_runScript_b56 v1 w2 s0 M2) else (ob (f_X6_in w2 0 (s0 - 1) M2) (fun x3 M4 => if x3 = 0 then (f_X6_runScript_b56 v1 w2 s0 M4) else (f_X6_runScript_b57 v1 w2 s0 0 M4))))
def f_X6_runScript (v1 : Int32) (w2 : Int64) (M : Mem) : Option (Int32 × Mem) :=
  if v1 = 1 then (f_X6_runScript_b25 v1 w2 100000 M) else (if v1 = 2 then (f_X6_runScript_b25 v1 w2 10000000000 M) else (f_X6_runScript_b25 v1 w2 1000000000000000 M))
def f_X6_simulate_b129 (v3 : Int32) (w4 : Int64) (v6 : Int32) (k45 : Int64 → Int32 → Mem → Option (Int32 × Mem)) (s0 : Int32) (s1 : Int32) (s2 : Int32) (M : Mem) : Option (Int32 × Mem) :=
  ob (f_X6_writes s2 s1 s0 M) (fun x15 M16 => k45 w4 (v6 + 1) M16)
def f_X6_simulate_b139  (M : Mem) : Option (Int32 × Mem) :=
  ob (f_X6_wholeOf 31 0 M) (fun x7 M8 => ob (f_X6_wholeOf 31 1 M8) (fun x9 M10 => ob (f_X6_wholeOf 31 2 M10) (fun x11 M12 => ob (f_X6_wholeOf 31 3 M12) (fun x13 M14 => some (x7 + (1000 * ((x9 + x11) + x13)), M14)))))
def f_X6_simulate_b45 (v3 : Int32) (k45 : Int64 → Int32 → Mem → Option (Int32 × Mem)) (w4 : Int64) (v6 : Int32) (M : Mem) : Option (Int32 × Mem) :=
  if v3 ≤ v6 then (f_X6_simulate_b139  M) else (if inb 6 72 then (if ¬ (M 31 (Int32.toNatClampNeg 6)) = 0 then (if inb 7 72 then (if ¬ (M 31 (Int32.toNatClampNeg 7)) = 0 then (if 60 < (((Int64.toInt32 ((Int64.toUInt64 ((w4 * 6364136223846793005) + 1442695040888963407) >>> ((Int32.toInt64 33).toUInt64 &&& Int64.toUInt64 63)).toInt64)) / 64) - ((Int64.toInt32 ((Int64.toUInt64 ((w4 * 6364136223846793005) + 1442695040888963407) >>> ((Int32.toInt64 33).toUInt64 &&& Int64.toUInt64 63)).toInt64)) / 64) / 64 * 64) then (if (((Int64.toInt32 ((Int64.toUInt64 ((w4 * 6364136223846793005) + 1442695040888963407) >>> ((Int32.toInt64 33).toUInt64 &&& Int64.toUInt64 63)).toInt64)) / 64) - ((Int64.toInt32 ((Int64.toUInt64 ((w4 * 6364136223846793005) + 1442695040888963407) >>> ((Int32.toInt64 33).toUInt64 &&& Int64.toUInt64 63)).toInt64)) / 64) / 64 * 64) = 61 then (f_X6_simulate_b129 v3 ((w4 * 6364136223846793005) + 1442695040888963407) v6 k45 (-1) (((Int64.toInt32 ((Int64.toUInt64 ((w4 * 6364136223846793005) + 1442695040888963407) >>> ((Int32.toInt64 33).toUInt64 &&& Int64.toUInt64 63)).toInt64)) / 4) - ((Int64.toInt32 ((Int64.toUInt64 ((w4 * 6364136223846793005) + 1442695040888963407) >>> ((Int32.toInt64 33).toUInt64 &&& Int64.toUInt64 63)).toInt64)) / 4) / (M 31 (Int32.toNatClampNeg 7)) * (M 31 (Int32.toNatClampNeg 7))) ((Int64.toInt32 ((Int64.toUInt64 ((w4 * 6364136223846793005) + 1442695040888963407) >>> ((Int32.toInt64 33).toUInt64 &&& Int64.toUInt64 63)).toInt64)) - (Int64.toInt32 ((Int64.toUInt64 ((w4 * 6364136223846793005) + 1442695040888963407) >>> ((Int32.toInt64 33).toUInt64 &&& Int64.toUInt64 63)).toInt64)) / (M 31 (Int32.toNatClampNeg 6)) * (M 31 (Int32.toNatClampNeg 6))) M) else (f_X6_simulate_b129 v3 ((w4 * 6364136223846793005) + 1442695040888963407) v6 k45 99 (((Int64.toInt32 ((Int64.toUInt64 ((w4 * 6364136223846793005) + 1442695040888963407) >>> ((Int32.toInt64 33).toUInt64 &&& Int64.toUInt64 63)).toInt64)) / 4) - ((Int64.toInt32 ((Int64.toUInt64 ((w4 * 6364136223846793005) + 1442695040888963407) >>> ((Int32.toInt64 33).toUInt64 &&& Int64.toUInt64 63)).toInt64)) / 4) / (M 31 (Int32.toNatClampNeg 7)) * (M 31 (Int32.toNatClampNeg 7))) ((Int64.toInt32 ((Int64.toUInt64 ((w4 * 6364136223846793005) + 1442695040888963407) >>> ((Int32.toInt64 33).toUInt64 &&& Int64.toUInt64 63)).toInt64)) - (Int64.toInt32 ((Int64.toUInt64 ((w4 * 6364136223846793005) + 1442695040888963407) >>> ((Int32.toInt64 33).toUInt64 &&& Int64.toUInt64 63)).toInt64)) / (M 31 (Int32.toNatClampNeg 6)) * (M 31 (Int32.toNatClampNeg 6))) M)) else (f_X6_simulate_b129 v3 ((w4 * 6364136223846793005) + 1442695040888963407) v6 k45 (((Int64.toInt32 ((Int64.toUInt64 ((w4 * 6364136223846793005) + 1442695040888963407) >>> ((Int32.toInt64 33).toUInt64 &&& Int64.toUInt64 63)).toInt64)) / 64) - ((Int64.toInt32 ((Int64.toUInt64 ((w4 * 6364136223846793005) + 1442695040888963407) >>> ((Int32.toInt64 33).toUInt64 &&& Int64.toUInt64 63)).toInt64)) / 64) / 64 * 64) (((Int64.toInt32 ((Int64.toUInt64 ((w4 * 6364136223846793005) + 1442695040888963407) >>> ((Int32.toInt64 33).toUInt64 &&& Int64.toUInt64 63)).toInt64)) / 4) - ((Int64.toInt32 ((Int64.toUInt64 ((w4 * 6364136223846793005) + 1442695040888963407) >>> ((Int32.toInt64 33).toUInt64 &&& Int64.toUInt64 63)).toInt64)) / 4) / (M 31 (Int32.toNatClampNeg 7)) * (M 31 (Int32.toNatClampNeg 7))) ((Int64.toInt32 ((Int64.toUInt64 ((w4 * 6364136223846793005) + 1442695040888963407) >>> ((Int32.toInt64 33).toUInt64 &&& Int64.toUInt64 63)).toInt64)) - (Int64.toInt32 ((Int64.toUInt64 ((w4 * 6364136223846793005) + 1442695040888963407) >>> ((Int32.toInt64 33).toUInt64 &&& Int64.toUInt64 63)).toInt64)) / (M 31 (Int32.toNatClampNeg 6)) * (M 31 (Int32.toNatClampNeg 6))) M)) else none) else none) else none) else none)
def f_X6_simulate_b18 (w1 : Int64) (v3 : Int32) (s0 : Int32) (M : Mem) : Option (Int32 × Mem) :=
  ob (f_X6_refused s0 M) (fun x3 M4 => if x3 = 0 then (ob (f_X6_copyPage 30 0 31 0 M4) (fun x5 M6 => lq2 (f_X6_simulate_b45 v3) 9999 w1 0 M6)) else (some (0, M4)))
def f_X6_simulate (w1 : Int64) (v3 : Int32) (M : Mem) : Option (Int32 × Mem) :=
  ob (f_X6_in (Int32.toInt64 v3) 1 40 M) (fun x1 M2 => if x1 = 0 then (f_X6_simulate_b18 w1 v3 1 M2) else (f_X6_simulate_b18 w1 v3 0 M2))
def f_X6_save_b16 (v1 : Int32) (s0 : Int32) (M : Mem) : Option (Int32 × Mem) :=
  ob (f_X6_refused s0 M) (fun x3 M4 => if x3 = 0 then (if inb v1 2 then (ob (f_X6_copyPage 30 0 34 (72 * v1) (mw M4 35 (Int32.toNatClampNeg v1) (vp_nar .boolean 1))) (fun x5 M6 => if inb 7 72 then (some (M6 30 (Int32.toNatClampNeg 7), M6)) else none)) else none) else (some (0, M4)))
def f_X6_save (v1 : Int32) (M : Mem) : Option (Int32 × Mem) :=
  ob (f_X6_in (Int32.toInt64 v1) 0 1 M) (fun x1 M2 => if x1 = 0 then (f_X6_save_b16 v1 1 M2) else (f_X6_save_b16 v1 0 M2))
def f_X6_restore_b29 (v1 : Int32) (s0 : Int32) (M : Mem) : Option (Int32 × Mem) :=
  ob (f_X6_refused s0 M) (fun x3 M4 => if x3 = 0 then (ob (f_X6_copyPage 34 (72 * v1) 30 0 M4) (fun x5 M6 => if inb 7 72 then (some ((mw M6 27 9 0) 30 (Int32.toNatClampNeg 7), (mw M6 27 9 0))) else none)) else (some (0, M4)))
def f_X6_restore (v1 : Int32) (M : Mem) : Option (Int32 × Mem) :=
  ob (f_X6_in (Int32.toInt64 v1) 0 1 M) (fun x1 M2 => if x1 = 0 then (f_X6_restore_b29 v1 1 M2) else (if inb v1 2 then (if (M2 35 (Int32.toNatClampNeg v1)) = 0 then (f_X6_restore_b29 v1 2 M2) else (f_X6_restore_b29 v1 0 M2)) else none))
end
section
-- ===== PART A: goes FIRST, ahead of the names: the tables' words, and 'selects' of the private methods out of them =====
/-- a private method of a class that the tables say can be made, by its rows of tables_1 -/
def lw_okq (q : MethodName × Nat) : Prop := (q.1.cls ≠ "java/lang/invoke/MethodHandle" ∧ q.1.cls ≠ "java/lang/invoke/VarHandle") ∧ Cond.instantiable q.1.cls q.2 ∈ tables_1 ∧ Cond.privateMethod q.1 ∈ tables_1 ∧ Cond.instanceMethod q.1 ∈ tables_1
theorem lw_p0 : lw_okq (⟨"HandSpans$Text", "signAt", "(I)I"⟩, 3) := ⟨⟨by decide +kernel, by decide +kernel⟩, List.mem_of_getElem? (i := 25) (by decide +kernel), List.mem_of_getElem? (i := 216) (by decide +kernel), List.mem_of_getElem? (i := 217) (by decide +kernel)⟩
theorem lw_p1 : lw_okq (⟨"HandSpans$Text", "digitAt", "(I)I"⟩, 3) := ⟨⟨by decide +kernel, by decide +kernel⟩, List.mem_of_getElem? (i := 25) (by decide +kernel), List.mem_of_getElem? (i := 220) (by decide +kernel), List.mem_of_getElem? (i := 221) (by decide +kernel)⟩
theorem lw_p2 : lw_okq (⟨"HandSpans$Text", "readCell", "(LHandSpans$State;II)Z"⟩, 3) := ⟨⟨by decide +kernel, by decide +kernel⟩, List.mem_of_getElem? (i := 25) (by decide +kernel), List.mem_of_getElem? (i := 225) (by decide +kernel), List.mem_of_getElem? (i := 226) (by decide +kernel)⟩
theorem lw_p3 : lw_okq (⟨"HandSpans", "numberOfTrial", "(I)I"⟩, 7) := ⟨⟨by decide +kernel, by decide +kernel⟩, List.mem_of_getElem? (i := 17) (by decide +kernel), List.mem_of_getElem? (i := 271) (by decide +kernel), List.mem_of_getElem? (i := 272) (by decide +kernel)⟩
theorem lw_p4 : lw_okq (⟨"HandSpans$Chord", "readSettings", "(LHandSpans$State;)V"⟩, 14) := ⟨⟨by decide +kernel, by decide +kernel⟩, List.mem_of_getElem? (i := 83) (by decide +kernel), List.mem_of_getElem? (i := 283) (by decide +kernel), List.mem_of_getElem? (i := 284) (by decide +kernel)⟩
theorem lw_p5 : lw_okq (⟨"HandSpans$Chord", "readNotes", "(LHandSpans$State;I)V"⟩, 14) := ⟨⟨by decide +kernel, by decide +kernel⟩, List.mem_of_getElem? (i := 83) (by decide +kernel), List.mem_of_getElem? (i := 291) (by decide +kernel), List.mem_of_getElem? (i := 292) (by decide +kernel)⟩
theorem lw_p6 : lw_okq (⟨"HandSpans$Chord", "reasonFor", "(II)I"⟩, 14) := ⟨⟨by decide +kernel, by decide +kernel⟩, List.mem_of_getElem? (i := 83) (by decide +kernel), List.mem_of_getElem? (i := 300) (by decide +kernel), List.mem_of_getElem? (i := 301) (by decide +kernel)⟩
theorem lw_p7 : lw_okq (⟨"HandSpans$Chord", "share", "()V"⟩, 14) := ⟨⟨by decide +kernel, by decide +kernel⟩, List.mem_of_getElem? (i := 83) (by decide +kernel), List.mem_of_getElem? (i := 307) (by decide +kernel), List.mem_of_getElem? (i := 308) (by decide +kernel)⟩
theorem lw_p8 : lw_okq (⟨"HandSpans$Chord", "insert", "(I)V"⟩, 14) := ⟨⟨by decide +kernel, by decide +kernel⟩, List.mem_of_getElem? (i := 83) (by decide +kernel), List.mem_of_getElem? (i := 311) (by decide +kernel), List.mem_of_getElem? (i := 312) (by decide +kernel)⟩
theorem lw_p9 : lw_okq (⟨"HandSpans$Chord", "measure", "(IIII)V"⟩, 14) := ⟨⟨by decide +kernel, by decide +kernel⟩, List.mem_of_getElem? (i := 83) (by decide +kernel), List.mem_of_getElem? (i := 315) (by decide +kernel), List.mem_of_getElem? (i := 316) (by decide +kernel)⟩
theorem lw_p10 : lw_okq (⟨"HandSpans$Chord", "canPlay", "(II)Z"⟩, 14) := ⟨⟨by decide +kernel, by decide +kernel⟩, List.mem_of_getElem? (i := 83) (by decide +kernel), List.mem_of_getElem? (i := 319) (by decide +kernel), List.mem_of_getElem? (i := 320) (by decide +kernel)⟩
theorem lw_p11 : lw_okq (⟨"HandSpans$Reduction", "lookAhead", "(Z)V"⟩, 5) := ⟨⟨by decide +kernel, by decide +kernel⟩, List.mem_of_getElem? (i := 76) (by decide +kernel), List.mem_of_getElem? (i := 332) (by decide +kernel), List.mem_of_getElem? (i := 333) (by decide +kernel)⟩
theorem lw_p12 : lw_okq (⟨"HandSpans$Reduction", "chordAt", "(I)LHandSpans$Chord;"⟩, 5) := ⟨⟨by decide +kernel, by decide +kernel⟩, List.mem_of_getElem? (i := 76) (by decide +kernel), List.mem_of_getElem? (i := 336) (by decide +kernel), List.mem_of_getElem? (i := 337) (by decide +kernel)⟩
theorem lw_p13 : lw_okq (⟨"HandSpans$Reduction", "bestSplit", "(ILHandSpans$Chord;I)I"⟩, 5) := ⟨⟨by decide +kernel, by decide +kernel⟩, List.mem_of_getElem? (i := 76) (by decide +kernel), List.mem_of_getElem? (i := 344) (by decide +kernel), List.mem_of_getElem? (i := 345) (by decide +kernel)⟩
theorem lw_p14 : lw_okq (⟨"HandSpans$Reduction", "splitAt", "(I)I"⟩, 5) := ⟨⟨by decide +kernel, by decide +kernel⟩, List.mem_of_getElem? (i := 76) (by decide +kernel), List.mem_of_getElem? (i := 375) (by decide +kernel), List.mem_of_getElem? (i := 376) (by decide +kernel)⟩
theorem lw_p15 : lw_okq (⟨"HandSpans$Reduction", "shareOfBeat", "(II)I"⟩, 5) := ⟨⟨by decide +kernel, by decide +kernel⟩, List.mem_of_getElem? (i := 76) (by decide +kernel), List.mem_of_getElem? (i := 383) (by decide +kernel), List.mem_of_getElem? (i := 384) (by decide +kernel)⟩
def lw_privs_1 : List (MethodName × Nat) := [(⟨"HandSpans$Text", "signAt", "(I)I"⟩, 3), (⟨"HandSpans$Text", "digitAt", "(I)I"⟩, 3), (⟨"HandSpans$Text", "readCell", "(LHandSpans$State;II)Z"⟩, 3), (⟨"HandSpans", "numberOfTrial", "(I)I"⟩, 7), (⟨"HandSpans$Chord", "readSettings", "(LHandSpans$State;)V"⟩, 14), (⟨"HandSpans$Chord", "readNotes", "(LHandSpans$State;I)V"⟩, 14), (⟨"HandSpans$Chord", "reasonFor", "(II)I"⟩, 14), (⟨"HandSpans$Chord", "share", "()V"⟩, 14), (⟨"HandSpans$Chord", "insert", "(I)V"⟩, 14), (⟨"HandSpans$Chord", "measure", "(IIII)V"⟩, 14), (⟨"HandSpans$Chord", "canPlay", "(II)Z"⟩, 14), (⟨"HandSpans$Reduction", "lookAhead", "(Z)V"⟩, 5), (⟨"HandSpans$Reduction", "chordAt", "(I)LHandSpans$Chord;"⟩, 5), (⟨"HandSpans$Reduction", "bestSplit", "(ILHandSpans$Chord;I)I"⟩, 5), (⟨"HandSpans$Reduction", "splitAt", "(I)I"⟩, 5), (⟨"HandSpans$Reduction", "shareOfBeat", "(II)I"⟩, 5)]
theorem lw_r1 : ∀ q ∈ lw_privs_1, lw_okq q := List.forall_mem_cons.mpr ⟨lw_p0, List.forall_mem_cons.mpr ⟨lw_p1, List.forall_mem_cons.mpr ⟨lw_p2, List.forall_mem_cons.mpr ⟨lw_p3, List.forall_mem_cons.mpr ⟨lw_p4, List.forall_mem_cons.mpr ⟨lw_p5, List.forall_mem_cons.mpr ⟨lw_p6, List.forall_mem_cons.mpr ⟨lw_p7, List.forall_mem_cons.mpr ⟨lw_p8, List.forall_mem_cons.mpr ⟨lw_p9, List.forall_mem_cons.mpr ⟨lw_p10, List.forall_mem_cons.mpr ⟨lw_p11, List.forall_mem_cons.mpr ⟨lw_p12, List.forall_mem_cons.mpr ⟨lw_p13, List.forall_mem_cons.mpr ⟨lw_p14, List.forall_mem_cons.mpr ⟨lw_p15, fun _ h => absurd h List.not_mem_nil⟩⟩⟩⟩⟩⟩⟩⟩⟩⟩⟩⟩⟩⟩⟩⟩
theorem lw_p16 : lw_okq (⟨"HandSpans$Reduction", "costs", "(I)I"⟩, 5) := ⟨⟨by decide +kernel, by decide +kernel⟩, List.mem_of_getElem? (i := 76) (by decide +kernel), List.mem_of_getElem? (i := 387) (by decide +kernel), List.mem_of_getElem? (i := 388) (by decide +kernel)⟩
theorem lw_p17 : lw_okq (⟨"HandSpans$Reduction", "cutStaves", "(I)I"⟩, 5) := ⟨⟨by decide +kernel, by decide +kernel⟩, List.mem_of_getElem? (i := 76) (by decide +kernel), List.mem_of_getElem? (i := 391) (by decide +kernel), List.mem_of_getElem? (i := 392) (by decide +kernel)⟩
theorem lw_p18 : lw_okq (⟨"HandSpans$Reduction", "move", "(II)I"⟩, 5) := ⟨⟨by decide +kernel, by decide +kernel⟩, List.mem_of_getElem? (i := 76) (by decide +kernel), List.mem_of_getElem? (i := 398) (by decide +kernel), List.mem_of_getElem? (i := 399) (by decide +kernel)⟩
theorem lw_p19 : lw_okq (⟨"java/lang/Throwable", "fillInStackTrace", "(I)Ljava/lang/Throwable;"⟩, 6) := ⟨⟨by decide +kernel, by decide +kernel⟩, List.mem_of_getElem? (i := 464) (by decide +kernel), List.mem_of_getElem? (i := 462) (by decide +kernel), List.mem_of_getElem? (i := 463) (by decide +kernel)⟩
theorem lw_p20 : lw_okq (⟨"HandSpans", "requireCell", "(II)V"⟩, 7) := ⟨⟨by decide +kernel, by decide +kernel⟩, List.mem_of_getElem? (i := 17) (by decide +kernel), List.mem_of_getElem? (i := 554) (by decide +kernel), List.mem_of_getElem? (i := 555) (by decide +kernel)⟩
theorem lw_p21 : lw_okq (⟨"HandSpans", "requireStaff", "(I)V"⟩, 7) := ⟨⟨by decide +kernel, by decide +kernel⟩, List.mem_of_getElem? (i := 17) (by decide +kernel), List.mem_of_getElem? (i := 558) (by decide +kernel), List.mem_of_getElem? (i := 559) (by decide +kernel)⟩
theorem lw_p22 : lw_okq (⟨"HandSpans", "requireBeat", "(I)V"⟩, 7) := ⟨⟨by decide +kernel, by decide +kernel⟩, List.mem_of_getElem? (i := 17) (by decide +kernel), List.mem_of_getElem? (i := 578) (by decide +kernel), List.mem_of_getElem? (i := 579) (by decide +kernel)⟩
theorem lw_p23 : lw_okq (⟨"HandSpans", "succeeds", "(I)Z"⟩, 7) := ⟨⟨by decide +kernel, by decide +kernel⟩, List.mem_of_getElem? (i := 17) (by decide +kernel), List.mem_of_getElem? (i := 769) (by decide +kernel), List.mem_of_getElem? (i := 770) (by decide +kernel)⟩
theorem lw_p24 : lw_okq (⟨"HandSpans", "triedSetting", "(II)Z"⟩, 7) := ⟨⟨by decide +kernel, by decide +kernel⟩, List.mem_of_getElem? (i := 17) (by decide +kernel), List.mem_of_getElem? (i := 773) (by decide +kernel), List.mem_of_getElem? (i := 774) (by decide +kernel)⟩
theorem lw_p25 : lw_okq (⟨"HandSpans", "triedCell", "(III)Z"⟩, 7) := ⟨⟨by decide +kernel, by decide +kernel⟩, List.mem_of_getElem? (i := 17) (by decide +kernel), List.mem_of_getElem? (i := 777) (by decide +kernel), List.mem_of_getElem? (i := 778) (by decide +kernel)⟩
theorem lw_p26 : lw_okq (⟨"HandSpans", "triedExchange", "(II)Z"⟩, 7) := ⟨⟨by decide +kernel, by decide +kernel⟩, List.mem_of_getElem? (i := 17) (by decide +kernel), List.mem_of_getElem? (i := 782) (by decide +kernel), List.mem_of_getElem? (i := 783) (by decide +kernel)⟩
theorem lw_p27 : lw_okq (⟨"HandSpans", "triedRemoval", "(I)Z"⟩, 7) := ⟨⟨by decide +kernel, by decide +kernel⟩, List.mem_of_getElem? (i := 17) (by decide +kernel), List.mem_of_getElem? (i := 786) (by decide +kernel), List.mem_of_getElem? (i := 787) (by decide +kernel)⟩
theorem lw_p28 : lw_okq (⟨"HandSpans", "simulateRound", "(I)V"⟩, 7) := ⟨⟨by decide +kernel, by decide +kernel⟩, List.mem_of_getElem? (i := 17) (by decide +kernel), List.mem_of_getElem? (i := 799) (by decide +kernel), List.mem_of_getElem? (i := 800) (by decide +kernel)⟩
theorem lw_p29 : lw_okq (⟨"HandSpansModel", "refused", "(I)Z"⟩, 19) := ⟨⟨by decide +kernel, by decide +kernel⟩, List.mem_of_getElem? (i := 820) (by decide +kernel), List.mem_of_getElem? (i := 899) (by decide +kernel), List.mem_of_getElem? (i := 900) (by decide +kernel)⟩
theorem lw_p30 : lw_okq (⟨"HandSpansModel", "readAll", "()Z"⟩, 19) := ⟨⟨by decide +kernel, by decide +kernel⟩, List.mem_of_getElem? (i := 820) (by decide +kernel), List.mem_of_getElem? (i := 911) (by decide +kernel), List.mem_of_getElem? (i := 912) (by decide +kernel)⟩
theorem lw_p31 : lw_okq (⟨"HandSpansModel", "eat", "(I)Z"⟩, 19) := ⟨⟨by decide +kernel, by decide +kernel⟩, List.mem_of_getElem? (i := 820) (by decide +kernel), List.mem_of_getElem? (i := 915) (by decide +kernel), List.mem_of_getElem? (i := 916) (by decide +kernel)⟩
def lw_privs_2 : List (MethodName × Nat) := [(⟨"HandSpans$Reduction", "costs", "(I)I"⟩, 5), (⟨"HandSpans$Reduction", "cutStaves", "(I)I"⟩, 5), (⟨"HandSpans$Reduction", "move", "(II)I"⟩, 5), (⟨"java/lang/Throwable", "fillInStackTrace", "(I)Ljava/lang/Throwable;"⟩, 6), (⟨"HandSpans", "requireCell", "(II)V"⟩, 7), (⟨"HandSpans", "requireStaff", "(I)V"⟩, 7), (⟨"HandSpans", "requireBeat", "(I)V"⟩, 7), (⟨"HandSpans", "succeeds", "(I)Z"⟩, 7), (⟨"HandSpans", "triedSetting", "(II)Z"⟩, 7), (⟨"HandSpans", "triedCell", "(III)Z"⟩, 7), (⟨"HandSpans", "triedExchange", "(II)Z"⟩, 7), (⟨"HandSpans", "triedRemoval", "(I)Z"⟩, 7), (⟨"HandSpans", "simulateRound", "(I)V"⟩, 7), (⟨"HandSpansModel", "refused", "(I)Z"⟩, 19), (⟨"HandSpansModel", "readAll", "()Z"⟩, 19), (⟨"HandSpansModel", "eat", "(I)Z"⟩, 19)]
theorem lw_r2 : ∀ q ∈ lw_privs_2, lw_okq q := List.forall_mem_cons.mpr ⟨lw_p16, List.forall_mem_cons.mpr ⟨lw_p17, List.forall_mem_cons.mpr ⟨lw_p18, List.forall_mem_cons.mpr ⟨lw_p19, List.forall_mem_cons.mpr ⟨lw_p20, List.forall_mem_cons.mpr ⟨lw_p21, List.forall_mem_cons.mpr ⟨lw_p22, List.forall_mem_cons.mpr ⟨lw_p23, List.forall_mem_cons.mpr ⟨lw_p24, List.forall_mem_cons.mpr ⟨lw_p25, List.forall_mem_cons.mpr ⟨lw_p26, List.forall_mem_cons.mpr ⟨lw_p27, List.forall_mem_cons.mpr ⟨lw_p28, List.forall_mem_cons.mpr ⟨lw_p29, List.forall_mem_cons.mpr ⟨lw_p30, List.forall_mem_cons.mpr ⟨lw_p31, fun _ h => absurd h List.not_mem_nil⟩⟩⟩⟩⟩⟩⟩⟩⟩⟩⟩⟩⟩⟩⟩⟩
theorem lw_p32 : lw_okq (⟨"HandSpansModel", "digit", "(II)I"⟩, 19) := ⟨⟨by decide +kernel, by decide +kernel⟩, List.mem_of_getElem? (i := 820) (by decide +kernel), List.mem_of_getElem? (i := 919) (by decide +kernel), List.mem_of_getElem? (i := 920) (by decide +kernel)⟩
theorem lw_p33 : lw_okq (⟨"HandSpansModel", "two", "(II)I"⟩, 19) := ⟨⟨by decide +kernel, by decide +kernel⟩, List.mem_of_getElem? (i := 820) (by decide +kernel), List.mem_of_getElem? (i := 923) (by decide +kernel), List.mem_of_getElem? (i := 924) (by decide +kernel)⟩
theorem lw_p34 : lw_okq (⟨"HandSpansModel", "readCell", "(II)Z"⟩, 19) := ⟨⟨by decide +kernel, by decide +kernel⟩, List.mem_of_getElem? (i := 820) (by decide +kernel), List.mem_of_getElem? (i := 927) (by decide +kernel), List.mem_of_getElem? (i := 928) (by decide +kernel)⟩
theorem lw_p35 : lw_okq (⟨"HandSpansModel", "laySounds", "([I)V"⟩, 19) := ⟨⟨by decide +kernel, by decide +kernel⟩, List.mem_of_getElem? (i := 820) (by decide +kernel), List.mem_of_getElem? (i := 963) (by decide +kernel), List.mem_of_getElem? (i := 964) (by decide +kernel)⟩
theorem lw_p36 : lw_okq (⟨"HandSpansModel", "isHeld", "([III)Z"⟩, 19) := ⟨⟨by decide +kernel, by decide +kernel⟩, List.mem_of_getElem? (i := 820) (by decide +kernel), List.mem_of_getElem? (i := 967) (by decide +kernel), List.mem_of_getElem? (i := 968) (by decide +kernel)⟩
theorem lw_p37 : lw_okq (⟨"HandSpansModel", "remember", "()V"⟩, 19) := ⟨⟨by decide +kernel, by decide +kernel⟩, List.mem_of_getElem? (i := 820) (by decide +kernel), List.mem_of_getElem? (i := 979) (by decide +kernel), List.mem_of_getElem? (i := 980) (by decide +kernel)⟩
theorem lw_p38 : lw_okq (⟨"HandSpansModel", "lay", "([I)V"⟩, 19) := ⟨⟨by decide +kernel, by decide +kernel⟩, List.mem_of_getElem? (i := 820) (by decide +kernel), List.mem_of_getElem? (i := 1039) (by decide +kernel), List.mem_of_getElem? (i := 1040) (by decide +kernel)⟩
theorem lw_p39 : lw_okq (⟨"HandSpansModel", "layReasons", "([II)V"⟩, 19) := ⟨⟨by decide +kernel, by decide +kernel⟩, List.mem_of_getElem? (i := 820) (by decide +kernel), List.mem_of_getElem? (i := 1043) (by decide +kernel), List.mem_of_getElem? (i := 1044) (by decide +kernel)⟩
theorem lw_p40 : lw_okq (⟨"HandSpansModel", "stands", "([IIIZ)Z"⟩, 19) := ⟨⟨by decide +kernel, by decide +kernel⟩, List.mem_of_getElem? (i := 820) (by decide +kernel), List.mem_of_getElem? (i := 1047) (by decide +kernel), List.mem_of_getElem? (i := 1048) (by decide +kernel)⟩
theorem lw_p41 : lw_okq (⟨"HandSpansModel", "layRow", "([II)V"⟩, 19) := ⟨⟨by decide +kernel, by decide +kernel⟩, List.mem_of_getElem? (i := 820) (by decide +kernel), List.mem_of_getElem? (i := 1054) (by decide +kernel), List.mem_of_getElem? (i := 1055) (by decide +kernel)⟩
theorem lw_p42 : lw_okq (⟨"HandSpansModel", "layPossible", "([II)V"⟩, 19) := ⟨⟨by decide +kernel, by decide +kernel⟩, List.mem_of_getElem? (i := 820) (by decide +kernel), List.mem_of_getElem? (i := 1058) (by decide +kernel), List.mem_of_getElem? (i := 1059) (by decide +kernel)⟩
theorem lw_p43 : lw_okq (⟨"HandSpansModel", "canPlay", "([IIIII)Z"⟩, 19) := ⟨⟨by decide +kernel, by decide +kernel⟩, List.mem_of_getElem? (i := 820) (by decide +kernel), List.mem_of_getElem? (i := 1062) (by decide +kernel), List.mem_of_getElem? (i := 1063) (by decide +kernel)⟩
theorem lw_p44 : lw_okq (⟨"HandSpansModel", "width", "(III)I"⟩, 19) := ⟨⟨by decide +kernel, by decide +kernel⟩, List.mem_of_getElem? (i := 820) (by decide +kernel), List.mem_of_getElem? (i := 1066) (by decide +kernel), List.mem_of_getElem? (i := 1067) (by decide +kernel)⟩
theorem lw_p45 : lw_okq (⟨"HandSpansModel", "pitchOf", "(II)I"⟩, 19) := ⟨⟨by decide +kernel, by decide +kernel⟩, List.mem_of_getElem? (i := 820) (by decide +kernel), List.mem_of_getElem? (i := 1070) (by decide +kernel), List.mem_of_getElem? (i := 1071) (by decide +kernel)⟩
theorem lw_p46 : lw_okq (⟨"HandSpansModel", "dropInner", "([II)V"⟩, 19) := ⟨⟨by decide +kernel, by decide +kernel⟩, List.mem_of_getElem? (i := 820) (by decide +kernel), List.mem_of_getElem? (i := 1074) (by decide +kernel), List.mem_of_getElem? (i := 1075) (by decide +kernel)⟩
theorem lw_p47 : lw_okq (⟨"HandSpansModel", "layAhead", "([I)V"⟩, 19) := ⟨⟨by decide +kernel, by decide +kernel⟩, List.mem_of_getElem? (i := 820) (by decide +kernel), List.mem_of_getElem? (i := 1078) (by decide +kernel), List.mem_of_getElem? (i := 1079) (by decide +kernel)⟩
def lw_privs_3 : List (MethodName × Nat) := [(⟨"HandSpansModel", "digit", "(II)I"⟩, 19), (⟨"HandSpansModel", "two", "(II)I"⟩, 19), (⟨"HandSpansModel", "readCell", "(II)Z"⟩, 19), (⟨"HandSpansModel", "laySounds", "([I)V"⟩, 19), (⟨"HandSpansModel", "isHeld", "([III)Z"⟩, 19), (⟨"HandSpansModel", "remember", "()V"⟩, 19), (⟨"HandSpansModel", "lay", "([I)V"⟩, 19), (⟨"HandSpansModel", "layReasons", "([II)V"⟩, 19), (⟨"HandSpansModel", "stands", "([IIIZ)Z"⟩, 19), (⟨"HandSpansModel", "layRow", "([II)V"⟩, 19), (⟨"HandSpansModel", "layPossible", "([II)V"⟩, 19), (⟨"HandSpansModel", "canPlay", "([IIIII)Z"⟩, 19), (⟨"HandSpansModel", "width", "(III)I"⟩, 19), (⟨"HandSpansModel", "pitchOf", "(II)I"⟩, 19), (⟨"HandSpansModel", "dropInner", "([II)V"⟩, 19), (⟨"HandSpansModel", "layAhead", "([I)V"⟩, 19)]
theorem lw_r3 : ∀ q ∈ lw_privs_3, lw_okq q := List.forall_mem_cons.mpr ⟨lw_p32, List.forall_mem_cons.mpr ⟨lw_p33, List.forall_mem_cons.mpr ⟨lw_p34, List.forall_mem_cons.mpr ⟨lw_p35, List.forall_mem_cons.mpr ⟨lw_p36, List.forall_mem_cons.mpr ⟨lw_p37, List.forall_mem_cons.mpr ⟨lw_p38, List.forall_mem_cons.mpr ⟨lw_p39, List.forall_mem_cons.mpr ⟨lw_p40, List.forall_mem_cons.mpr ⟨lw_p41, List.forall_mem_cons.mpr ⟨lw_p42, List.forall_mem_cons.mpr ⟨lw_p43, List.forall_mem_cons.mpr ⟨lw_p44, List.forall_mem_cons.mpr ⟨lw_p45, List.forall_mem_cons.mpr ⟨lw_p46, List.forall_mem_cons.mpr ⟨lw_p47, fun _ h => absurd h List.not_mem_nil⟩⟩⟩⟩⟩⟩⟩⟩⟩⟩⟩⟩⟩⟩⟩⟩
theorem lw_p48 : lw_okq (⟨"HandSpansModel", "cheapest", "([IIIZ)I"⟩, 19) := ⟨⟨by decide +kernel, by decide +kernel⟩, List.mem_of_getElem? (i := 820) (by decide +kernel), List.mem_of_getElem? (i := 1082) (by decide +kernel), List.mem_of_getElem? (i := 1083) (by decide +kernel)⟩
theorem lw_p49 : lw_okq (⟨"HandSpansModel", "can", "(II)Z"⟩, 19) := ⟨⟨by decide +kernel, by decide +kernel⟩, List.mem_of_getElem? (i := 820) (by decide +kernel), List.mem_of_getElem? (i := 1086) (by decide +kernel), List.mem_of_getElem? (i := 1087) (by decide +kernel)⟩
theorem lw_p50 : lw_okq (⟨"HandSpansModel", "costOf", "([IIII)I"⟩, 19) := ⟨⟨by decide +kernel, by decide +kernel⟩, List.mem_of_getElem? (i := 820) (by decide +kernel), List.mem_of_getElem? (i := 1090) (by decide +kernel), List.mem_of_getElem? (i := 1091) (by decide +kernel)⟩
theorem lw_p51 : lw_okq (⟨"HandSpansModel", "move", "(IIII)I"⟩, 19) := ⟨⟨by decide +kernel, by decide +kernel⟩, List.mem_of_getElem? (i := 820) (by decide +kernel), List.mem_of_getElem? (i := 1094) (by decide +kernel), List.mem_of_getElem? (i := 1095) (by decide +kernel)⟩
theorem lw_p52 : lw_okq (⟨"HandSpansModel", "position", "(III)I"⟩, 19) := ⟨⟨by decide +kernel, by decide +kernel⟩, List.mem_of_getElem? (i := 820) (by decide +kernel), List.mem_of_getElem? (i := 1098) (by decide +kernel), List.mem_of_getElem? (i := 1099) (by decide +kernel)⟩
theorem lw_p53 : lw_okq (⟨"HandSpansModel", "to", "(III)I"⟩, 19) := ⟨⟨by decide +kernel, by decide +kernel⟩, List.mem_of_getElem? (i := 820) (by decide +kernel), List.mem_of_getElem? (i := 1102) (by decide +kernel), List.mem_of_getElem? (i := 1103) (by decide +kernel)⟩
theorem lw_p54 : lw_okq (⟨"HandSpansModel", "from", "(II)I"⟩, 19) := ⟨⟨by decide +kernel, by decide +kernel⟩, List.mem_of_getElem? (i := 820) (by decide +kernel), List.mem_of_getElem? (i := 1106) (by decide +kernel), List.mem_of_getElem? (i := 1107) (by decide +kernel)⟩
theorem lw_p55 : lw_okq (⟨"HandSpansModel", "isRolled", "([IIII)Z"⟩, 19) := ⟨⟨by decide +kernel, by decide +kernel⟩, List.mem_of_getElem? (i := 820) (by decide +kernel), List.mem_of_getElem? (i := 1110) (by decide +kernel), List.mem_of_getElem? (i := 1111) (by decide +kernel)⟩
theorem lw_p56 : lw_okq (⟨"HandSpansModel", "isCut", "([IIIII)Z"⟩, 19) := ⟨⟨by decide +kernel, by decide +kernel⟩, List.mem_of_getElem? (i := 820) (by decide +kernel), List.mem_of_getElem? (i := 1114) (by decide +kernel), List.mem_of_getElem? (i := 1115) (by decide +kernel)⟩
theorem lw_p57 : lw_okq (⟨"HandSpansModel", "placeOf", "(II)I"⟩, 19) := ⟨⟨by decide +kernel, by decide +kernel⟩, List.mem_of_getElem? (i := 820) (by decide +kernel), List.mem_of_getElem? (i := 1118) (by decide +kernel), List.mem_of_getElem? (i := 1119) (by decide +kernel)⟩
theorem lw_p58 : lw_okq (⟨"HandSpansModel", "handOf", "(III)I"⟩, 19) := ⟨⟨by decide +kernel, by decide +kernel⟩, List.mem_of_getElem? (i := 820) (by decide +kernel), List.mem_of_getElem? (i := 1122) (by decide +kernel), List.mem_of_getElem? (i := 1123) (by decide +kernel)⟩
theorem lw_p59 : lw_okq (⟨"HandSpansModel", "isCutHere", "([III)Z"⟩, 19) := ⟨⟨by decide +kernel, by decide +kernel⟩, List.mem_of_getElem? (i := 820) (by decide +kernel), List.mem_of_getElem? (i := 1126) (by decide +kernel), List.mem_of_getElem? (i := 1127) (by decide +kernel)⟩
theorem lw_p60 : lw_okq (⟨"HandSpansModel", "before", "(I)I"⟩, 19) := ⟨⟨by decide +kernel, by decide +kernel⟩, List.mem_of_getElem? (i := 820) (by decide +kernel), List.mem_of_getElem? (i := 1130) (by decide +kernel), List.mem_of_getElem? (i := 1131) (by decide +kernel)⟩
theorem lw_p61 : lw_okq (⟨"HandSpansModel", "wholeOf", "([II)I"⟩, 19) := ⟨⟨by decide +kernel, by decide +kernel⟩, List.mem_of_getElem? (i := 820) (by decide +kernel), List.mem_of_getElem? (i := 1148) (by decide +kernel), List.mem_of_getElem? (i := 1149) (by decide +kernel)⟩
theorem lw_p62 : lw_okq (⟨"HandSpansModel", "does", "(IIII)Z"⟩, 19) := ⟨⟨by decide +kernel, by decide +kernel⟩, List.mem_of_getElem? (i := 820) (by decide +kernel), List.mem_of_getElem? (i := 1175) (by decide +kernel), List.mem_of_getElem? (i := 1176) (by decide +kernel)⟩
theorem lw_p63 : lw_okq (⟨"HandSpansModel", "writes", "(III)Z"⟩, 19) := ⟨⟨by decide +kernel, by decide +kernel⟩, List.mem_of_getElem? (i := 820) (by decide +kernel), List.mem_of_getElem? (i := 1179) (by decide +kernel), List.mem_of_getElem? (i := 1180) (by decide +kernel)⟩
def lw_privs_4 : List (MethodName × Nat) := [(⟨"HandSpansModel", "cheapest", "([IIIZ)I"⟩, 19), (⟨"HandSpansModel", "can", "(II)Z"⟩, 19), (⟨"HandSpansModel", "costOf", "([IIII)I"⟩, 19), (⟨"HandSpansModel", "move", "(IIII)I"⟩, 19), (⟨"HandSpansModel", "position", "(III)I"⟩, 19), (⟨"HandSpansModel", "to", "(III)I"⟩, 19), (⟨"HandSpansModel", "from", "(II)I"⟩, 19), (⟨"HandSpansModel", "isRolled", "([IIII)Z"⟩, 19), (⟨"HandSpansModel", "isCut", "([IIIII)Z"⟩, 19), (⟨"HandSpansModel", "placeOf", "(II)I"⟩, 19), (⟨"HandSpansModel", "handOf", "(III)I"⟩, 19), (⟨"HandSpansModel", "isCutHere", "([III)Z"⟩, 19), (⟨"HandSpansModel", "before", "(I)I"⟩, 19), (⟨"HandSpansModel", "wholeOf", "([II)I"⟩, 19), (⟨"HandSpansModel", "does", "(IIII)Z"⟩, 19), (⟨"HandSpansModel", "writes", "(III)Z"⟩, 19)]
theorem lw_r4 : ∀ q ∈ lw_privs_4, lw_okq q := List.forall_mem_cons.mpr ⟨lw_p48, List.forall_mem_cons.mpr ⟨lw_p49, List.forall_mem_cons.mpr ⟨lw_p50, List.forall_mem_cons.mpr ⟨lw_p51, List.forall_mem_cons.mpr ⟨lw_p52, List.forall_mem_cons.mpr ⟨lw_p53, List.forall_mem_cons.mpr ⟨lw_p54, List.forall_mem_cons.mpr ⟨lw_p55, List.forall_mem_cons.mpr ⟨lw_p56, List.forall_mem_cons.mpr ⟨lw_p57, List.forall_mem_cons.mpr ⟨lw_p58, List.forall_mem_cons.mpr ⟨lw_p59, List.forall_mem_cons.mpr ⟨lw_p60, List.forall_mem_cons.mpr ⟨lw_p61, List.forall_mem_cons.mpr ⟨lw_p62, List.forall_mem_cons.mpr ⟨lw_p63, fun _ h => absurd h List.not_mem_nil⟩⟩⟩⟩⟩⟩⟩⟩⟩⟩⟩⟩⟩⟩⟩⟩
def lw_privs : List (MethodName × Nat) := lw_privs_1 ++ (lw_privs_2 ++ (lw_privs_3 ++ (lw_privs_4)))
def lw_tbl : List Cond := k2_sels lw_privs ++ tables_1
theorem lw_privs_ok : ∀ q ∈ lw_privs, lw_okq q := by
  show ∀ q ∈ lw_privs_1 ++ (lw_privs_2 ++ (lw_privs_3 ++ (lw_privs_4))), lw_okq q
  exact List.forall_mem_append.mpr ⟨lw_r1, List.forall_mem_append.mpr ⟨lw_r2, List.forall_mem_append.mpr ⟨lw_r3, lw_r4⟩⟩⟩
-- ===== end of PART A; then your names; then what follows =====
def RX0 : String := "HandSpans$Chord"
def TX0 : u_T := fun k => match k with
  | 0 => ("HandSpans$Chord", "spans", "[I", true)
  | 1 => ("HandSpans$Chord", "fingers", "I", false)
  | 2 => ("HandSpans$Chord", "reach", "I", false)
  | 3 => ("HandSpans$Chord", "octaveRule", "Z", false)
  | 4 => ("HandSpans$Chord", "pitches", "[I", true)
  | 5 => ("HandSpans$Chord", "reasons", "[I", true)
  | 6 => ("HandSpans$Chord", "held", "I", false)
  | 7 => ("HandSpans$Chord", "keptHolds", "I", false)
  | 8 => ("HandSpans$Chord", "rising", "[I", true)
  | 9 => ("HandSpans$Chord", "size", "I", false)
  | 10 => ("HandSpans$Chord", "possible", "I", false)
  | 11 => ("HandSpans$Chord", "leftStaves", "[I", true)
  | 12 => ("HandSpans$Chord", "positions", "[[I", true)
  | _ => ("HandSpans$Chord", "widths", "[[I", true)
def tyX0 : Nat → FieldType := fun k => match k with
  | 0 => .array .int
  | 1 => .int
  | 2 => .int
  | 3 => .boolean
  | 4 => .array .int
  | 5 => .array .int
  | 6 => .int
  | 7 => .int
  | 8 => .array .int
  | 9 => .int
  | 10 => .int
  | 11 => .array .int
  | 12 => .array (.array .int)
  | _ => .array (.array .int)
abbrev wsX00 : List Cond := u_ws RX0 TX0 14
theorem nmX0 : ∀ a, a < 14 → ∀ b, b < 14 → a ≠ b → (TX0 a).2.1 ≠ (TX0 b).2.1 := by decide +kernel
theorem tyX0_ok : ∀ k, k < 14 → parseFieldDescriptor (TX0 k).2.2.1 = some (tyX0 k) := by decide +kernel
abbrev cX0_init : ByteArray := prog_2_method_1_code
def yX0_init : MethodName := ⟨RX0, "<init>", "()V"⟩
abbrev cX0_read : ByteArray := prog_2_method_2_code
def yX0_read : MethodName := ⟨RX0, "read", "(LHandSpans$State;I)V"⟩
abbrev cX0_readSettings : ByteArray := prog_2_method_3_code
def yX0_readSettings : MethodName := ⟨RX0, "readSettings", "(LHandSpans$State;)V"⟩
abbrev cX0_readNotes : ByteArray := prog_2_method_4_code
def yX0_readNotes : MethodName := ⟨RX0, "readNotes", "(LHandSpans$State;I)V"⟩
abbrev cX0_reasonFor : ByteArray := prog_2_method_5_code
def yX0_reasonFor : MethodName := ⟨RX0, "reasonFor", "(II)I"⟩
abbrev cX0_share : ByteArray := prog_2_method_6_code
def yX0_share : MethodName := ⟨RX0, "share", "()V"⟩
abbrev cX0_insert : ByteArray := prog_2_method_7_code
def yX0_insert : MethodName := ⟨RX0, "insert", "(I)V"⟩
abbrev cX0_measure : ByteArray := prog_2_method_8_code
def yX0_measure : MethodName := ⟨RX0, "measure", "(IIII)V"⟩
abbrev cX0_canPlay : ByteArray := prog_2_method_9_code
def yX0_canPlay : MethodName := ⟨RX0, "canPlay", "(II)Z"⟩
abbrev cX0_isPossible : ByteArray := prog_2_method_10_code
def yX0_isPossible : MethodName := ⟨RX0, "isPossible", "(I)Z"⟩
abbrev cX0_stavesOf : ByteArray := prog_2_method_11_code
def yX0_stavesOf : MethodName := ⟨RX0, "stavesOf", "(II)I"⟩
abbrev cX0_countOf : ByteArray := prog_2_method_12_code
def yX0_countOf : MethodName := ⟨RX0, "countOf", "(II)I"⟩
abbrev cX0_isRolled : ByteArray := prog_2_method_13_code
def yX0_isRolled : MethodName := ⟨RX0, "isRolled", "(II)Z"⟩
abbrev cX0_countRolled : ByteArray := prog_2_method_14_code
def yX0_countRolled : MethodName := ⟨RX0, "countRolled", "(I)I"⟩
abbrev cX0_move : ByteArray := prog_2_method_15_code
def yX0_move : MethodName := ⟨RX0, "move", "(IILHandSpans$Chord;I)I"⟩
abbrev cX0_cutStaves : ByteArray := prog_2_method_16_code
def yX0_cutStaves : MethodName := ⟨RX0, "cutStaves", "(ILHandSpans$Chord;I)I"⟩
abbrev cX0_costs : ByteArray := prog_2_method_17_code
def yX0_costs : MethodName := ⟨RX0, "costs", "(ILHandSpans$Chord;I)I"⟩
abbrev cX0_countLeftOut : ByteArray := prog_2_method_18_code
def yX0_countLeftOut : MethodName := ⟨RX0, "countLeftOut", "(I)I"⟩
def RX1 : String := "HandSpans$History"
def TX1 : u_T := fun k => match k with
  | 0 => ("HandSpans$History", "ring", "[LHandSpans$State;", true)
  | 1 => ("HandSpans$History", "next", "I", false)
  | _ => ("HandSpans$History", "count", "I", false)
def tyX1 : Nat → FieldType := fun k => match k with
  | 0 => .array (.object "HandSpans$State")
  | 1 => .int
  | _ => .int
abbrev wsX10 : List Cond := u_ws RX1 TX1 3
theorem nmX1 : ∀ a, a < 3 → ∀ b, b < 3 → a ≠ b → (TX1 a).2.1 ≠ (TX1 b).2.1 := by decide +kernel
theorem tyX1_ok : ∀ k, k < 3 → parseFieldDescriptor (TX1 k).2.2.1 = some (tyX1 k) := by decide +kernel
abbrev cX1_init : ByteArray := prog_3_method_1_code
def yX1_init : MethodName := ⟨RX1, "<init>", "()V"⟩
abbrev cX1_isEmpty : ByteArray := prog_3_method_2_code
def yX1_isEmpty : MethodName := ⟨RX1, "isEmpty", "()Z"⟩
abbrev cX1_forget : ByteArray := prog_3_method_3_code
def yX1_forget : MethodName := ⟨RX1, "forget", "()V"⟩
abbrev cX1_remember : ByteArray := prog_3_method_4_code
def yX1_remember : MethodName := ⟨RX1, "remember", "(LHandSpans$State;)V"⟩
abbrev cX1_takeBack : ByteArray := prog_3_method_5_code
def yX1_takeBack : MethodName := ⟨RX1, "takeBack", "(LHandSpans$State;)I"⟩
def RX2 : String := "HandSpans$Reduction"
def TX2 : u_T := fun k => match k with
  | 0 => ("HandSpans$Reduction", "chords", "[LHandSpans$Chord;", true)
  | 1 => ("HandSpans$Reduction", "silence", "LHandSpans$Chord;", true)
  | 2 => ("HandSpans$Reduction", "splits", "[I", true)
  | 3 => ("HandSpans$Reduction", "ahead", "[[I", true)
  | _ => ("HandSpans$Reduction", "beats", "I", false)
def tyX2 : Nat → FieldType := fun k => match k with
  | 0 => .array (.object "HandSpans$Chord")
  | 1 => .object "HandSpans$Chord"
  | 2 => .array .int
  | 3 => .array (.array .int)
  | _ => .int
abbrev wsX20 : List Cond := u_ws RX2 TX2 5
theorem nmX2 : ∀ a, a < 5 → ∀ b, b < 5 → a ≠ b → (TX2 a).2.1 ≠ (TX2 b).2.1 := by decide +kernel
theorem tyX2_ok : ∀ k, k < 5 → parseFieldDescriptor (TX2 k).2.2.1 = some (tyX2 k) := by decide +kernel
abbrev cX2_init : ByteArray := prog_4_method_1_code
def yX2_init : MethodName := ⟨RX2, "<init>", "()V"⟩
abbrev cX2_make : ByteArray := prog_4_method_2_code
def yX2_make : MethodName := ⟨RX2, "make", "(LHandSpans$State;)V"⟩
abbrev cX2_lookAhead : ByteArray := prog_4_method_3_code
def yX2_lookAhead : MethodName := ⟨RX2, "lookAhead", "(Z)V"⟩
abbrev cX2_bestSplit : ByteArray := prog_4_method_4_code
def yX2_bestSplit : MethodName := ⟨RX2, "bestSplit", "(ILHandSpans$Chord;I)I"⟩
abbrev cX2_chordAt : ByteArray := prog_4_method_5_code
def yX2_chordAt : MethodName := ⟨RX2, "chordAt", "(I)LHandSpans$Chord;"⟩
abbrev cX2_splitAt : ByteArray := prog_4_method_6_code
def yX2_splitAt : MethodName := ⟨RX2, "splitAt", "(I)I"⟩
abbrev cX2_cutStaves : ByteArray := prog_4_method_7_code
def yX2_cutStaves : MethodName := ⟨RX2, "cutStaves", "(I)I"⟩
abbrev cX2_move : ByteArray := prog_4_method_8_code
def yX2_move : MethodName := ⟨RX2, "move", "(II)I"⟩
abbrev cX2_costs : ByteArray := prog_4_method_9_code
def yX2_costs : MethodName := ⟨RX2, "costs", "(I)I"⟩
abbrev cX2_numberOfNote : ByteArray := prog_4_method_10_code
def yX2_numberOfNote : MethodName := ⟨RX2, "numberOfNote", "(III)I"⟩
abbrev cX2_numberOfHand : ByteArray := prog_4_method_11_code
def yX2_numberOfHand : MethodName := ⟨RX2, "numberOfHand", "(III)I"⟩
abbrev cX2_numberOfBeat : ByteArray := prog_4_method_12_code
def yX2_numberOfBeat : MethodName := ⟨RX2, "numberOfBeat", "(II)I"⟩
abbrev cX2_numberOfWhole : ByteArray := prog_4_method_13_code
def yX2_numberOfWhole : MethodName := ⟨RX2, "numberOfWhole", "(I)I"⟩
abbrev cX2_shareOfBeat : ByteArray := prog_4_method_14_code
def yX2_shareOfBeat : MethodName := ⟨RX2, "shareOfBeat", "(II)I"⟩
def RX3 : String := "HandSpans$State"
def TX3 : u_T := fun k => match k with
  | 0 => ("HandSpans$State", "settings", "[I", true)
  | 1 => ("HandSpans$State", "cells", "[I", true)
  | 2 => ("HandSpans$State", "staves", "I", false)
  | _ => ("HandSpans$State", "beats", "I", false)
def tyX3 : Nat → FieldType := fun k => match k with
  | 0 => .array .int
  | 1 => .array .int
  | 2 => .int
  | _ => .int
abbrev wsX30 : List Cond := u_ws RX3 TX3 4
theorem nmX3 : ∀ a, a < 4 → ∀ b, b < 4 → a ≠ b → (TX3 a).2.1 ≠ (TX3 b).2.1 := by decide +kernel
theorem tyX3_ok : ∀ k, k < 4 → parseFieldDescriptor (TX3 k).2.2.1 = some (tyX3 k) := by decide +kernel
abbrev cX3_init : ByteArray := prog_5_method_1_code
def yX3_init : MethodName := ⟨RX3, "<init>", "()V"⟩
abbrev cX3_becomeRests : ByteArray := prog_5_method_2_code
def yX3_becomeRests : MethodName := ⟨RX3, "becomeRests", "(II)V"⟩
abbrev cX3_resetSettings : ByteArray := prog_5_method_3_code
def yX3_resetSettings : MethodName := ⟨RX3, "resetSettings", "()V"⟩
abbrev cX3_takeFrom : ByteArray := prog_5_method_4_code
def yX3_takeFrom : MethodName := ⟨RX3, "takeFrom", "(LHandSpans$State;)V"⟩
abbrev cX3_isPitch : ByteArray := prog_5_method_5_code
def yX3_isPitch : MethodName := ⟨RX3, "isPitch", "(I)Z"⟩
abbrev cX3_isSetting : ByteArray := prog_5_method_6_code
def yX3_isSetting : MethodName := ⟨RX3, "isSetting", "(I)Z"⟩
abbrev cX3_allowsSetting : ByteArray := prog_5_method_7_code
def yX3_allowsSetting : MethodName := ⟨RX3, "allowsSetting", "(II)Z"⟩
abbrev cX3_hasStaff : ByteArray := prog_5_method_8_code
def yX3_hasStaff : MethodName := ⟨RX3, "hasStaff", "(I)Z"⟩
abbrev cX3_hasBeat : ByteArray := prog_5_method_9_code
def yX3_hasBeat : MethodName := ⟨RX3, "hasBeat", "(I)Z"⟩
abbrev cX3_hasCell : ByteArray := prog_5_method_10_code
def yX3_hasCell : MethodName := ⟨RX3, "hasCell", "(II)Z"⟩
abbrev cX3_allowsHold : ByteArray := prog_5_method_11_code
def yX3_allowsHold : MethodName := ⟨RX3, "allowsHold", "(II)Z"⟩
abbrev cX3_allowsMoving : ByteArray := prog_5_method_12_code
def yX3_allowsMoving : MethodName := ⟨RX3, "allowsMoving", "(II)Z"⟩
abbrev cX3_settingAt : ByteArray := prog_5_method_13_code
def yX3_settingAt : MethodName := ⟨RX3, "settingAt", "(I)I"⟩
abbrev cX3_written : ByteArray := prog_5_method_14_code
def yX3_written : MethodName := ⟨RX3, "written", "(II)I"⟩
abbrev cX3_sounding : ByteArray := prog_5_method_15_code
def yX3_sounding : MethodName := ⟨RX3, "sounding", "(II)I"⟩
abbrev cX3_countStruck : ByteArray := prog_5_method_16_code
def yX3_countStruck : MethodName := ⟨RX3, "countStruck", "()I"⟩
abbrev cX3_countStruckOf : ByteArray := prog_5_method_17_code
def yX3_countStruckOf : MethodName := ⟨RX3, "countStruckOf", "(I)I"⟩
abbrev cX3_countHolds : ByteArray := prog_5_method_18_code
def yX3_countHolds : MethodName := ⟨RX3, "countHolds", "()I"⟩
abbrev cX3_changeSetting : ByteArray := prog_5_method_19_code
def yX3_changeSetting : MethodName := ⟨RX3, "changeSetting", "(II)V"⟩
abbrev cX3_put : ByteArray := prog_5_method_20_code
def yX3_put : MethodName := ⟨RX3, "put", "(III)V"⟩
abbrev cX3_silenceStaff : ByteArray := prog_5_method_21_code
def yX3_silenceStaff : MethodName := ⟨RX3, "silenceStaff", "(I)V"⟩
abbrev cX3_moveStaff : ByteArray := prog_5_method_22_code
def yX3_moveStaff : MethodName := ⟨RX3, "moveStaff", "(II)I"⟩
abbrev cX3_swapStaves : ByteArray := prog_5_method_23_code
def yX3_swapStaves : MethodName := ⟨RX3, "swapStaves", "(II)I"⟩
abbrev cX3_addStaff : ByteArray := prog_5_method_24_code
def yX3_addStaff : MethodName := ⟨RX3, "addStaff", "()V"⟩
abbrev cX3_dropStaff : ByteArray := prog_5_method_25_code
def yX3_dropStaff : MethodName := ⟨RX3, "dropStaff", "()V"⟩
abbrev cX3_openBeat : ByteArray := prog_5_method_26_code
def yX3_openBeat : MethodName := ⟨RX3, "openBeat", "(I)V"⟩
abbrev cX3_closeBeat : ByteArray := prog_5_method_27_code
def yX3_closeBeat : MethodName := ⟨RX3, "closeBeat", "(I)V"⟩
abbrev cX3_dropLooseHolds : ByteArray := prog_5_method_28_code
def yX3_dropLooseHolds : MethodName := ⟨RX3, "dropLooseHolds", "()V"⟩
def RX4 : String := "HandSpans$Text"
def TX4 : u_T := fun k => match k with
  | 0 => ("HandSpans$Text", "signs", "[C", true)
  | 1 => ("HandSpans$Text", "length", "I", false)
  | _ => ("HandSpans$Text", "at", "I", false)
def tyX4 : Nat → FieldType := fun k => match k with
  | 0 => .array .char
  | 1 => .int
  | _ => .int
abbrev wsX40 : List Cond := u_ws RX4 TX4 3
theorem nmX4 : ∀ a, a < 3 → ∀ b, b < 3 → a ≠ b → (TX4 a).2.1 ≠ (TX4 b).2.1 := by decide +kernel
theorem tyX4_ok : ∀ k, k < 3 → parseFieldDescriptor (TX4 k).2.2.1 = some (tyX4 k) := by decide +kernel
abbrev cX4_init : ByteArray := prog_6_method_1_code
def yX4_init : MethodName := ⟨RX4, "<init>", "()V"⟩
abbrev cX4_isFull : ByteArray := prog_6_method_2_code
def yX4_isFull : MethodName := ⟨RX4, "isFull", "()Z"⟩
abbrev cX4_add : ByteArray := prog_6_method_3_code
def yX4_add : MethodName := ⟨RX4, "add", "(C)I"⟩
abbrev cX4_empty : ByteArray := prog_6_method_4_code
def yX4_empty : MethodName := ⟨RX4, "empty", "()I"⟩
abbrev cX4_readInto : ByteArray := prog_6_method_5_code
def yX4_readInto : MethodName := ⟨RX4, "readInto", "(LHandSpans$State;)I"⟩
abbrev cX4_readCell : ByteArray := prog_6_method_6_code
def yX4_readCell : MethodName := ⟨RX4, "readCell", "(LHandSpans$State;II)Z"⟩
abbrev cX4_signAt : ByteArray := prog_6_method_7_code
def yX4_signAt : MethodName := ⟨RX4, "signAt", "(I)I"⟩
abbrev cX4_digitAt : ByteArray := prog_6_method_8_code
def yX4_digitAt : MethodName := ⟨RX4, "digitAt", "(I)I"⟩
def RX5 : String := "HandSpans"
def TX5 : u_T := fun k => match k with
  | 0 => ("HandSpans", "text", "LHandSpans$Text;", true)
  | 1 => ("HandSpans", "now", "LHandSpans$State;", true)
  | 2 => ("HandSpans", "trial", "LHandSpans$State;", true)
  | 3 => ("HandSpans", "reduction", "LHandSpans$Reduction;", true)
  | 4 => ("HandSpans", "history", "LHandSpans$History;", true)
  | 5 => ("HandSpans", "slots", "[LHandSpans$State;", true)
  | _ => ("HandSpans", "filled", "[Z", true)
def tyX5 : Nat → FieldType := fun k => match k with
  | 0 => .object "HandSpans$Text"
  | 1 => .object "HandSpans$State"
  | 2 => .object "HandSpans$State"
  | 3 => .object "HandSpans$Reduction"
  | 4 => .object "HandSpans$History"
  | 5 => .array (.object "HandSpans$State")
  | _ => .array .boolean
abbrev wsX50 : List Cond := u_ws RX5 TX5 7
theorem nmX5 : ∀ a, a < 7 → ∀ b, b < 7 → a ≠ b → (TX5 a).2.1 ≠ (TX5 b).2.1 := by decide +kernel
theorem tyX5_ok : ∀ k, k < 7 → parseFieldDescriptor (TX5 k).2.2.1 = some (tyX5 k) := by decide +kernel
abbrev cX5_init : ByteArray := prog_1_method_1_code
def yX5_init : MethodName := ⟨RX5, "<init>", "()V"⟩
abbrev cX5_append : ByteArray := prog_1_method_2_code
def yX5_append : MethodName := ⟨RX5, "append", "(I)I"⟩
abbrev cX5_clearText : ByteArray := prog_1_method_3_code
def yX5_clearText : MethodName := ⟨RX5, "clearText", "()I"⟩
abbrev cX5_errorPosition : ByteArray := prog_1_method_4_code
def yX5_errorPosition : MethodName := ⟨RX5, "errorPosition", "()I"⟩
abbrev cX5_load : ByteArray := prog_1_method_5_code
def yX5_load : MethodName := ⟨RX5, "load", "()I"⟩
abbrev cX5_about : ByteArray := prog_1_method_6_code
def yX5_about : MethodName := ⟨RX5, "about", "(I)I"⟩
abbrev cX5_cell : ByteArray := prog_1_method_7_code
def yX5_cell : MethodName := ⟨RX5, "cell", "(IIZ)I"⟩
abbrev cX5_set : ByteArray := prog_1_method_8_code
def yX5_set : MethodName := ⟨RX5, "set", "(II)I"⟩
abbrev cX5_write : ByteArray := prog_1_method_9_code
def yX5_write : MethodName := ⟨RX5, "write", "(III)I"⟩
abbrev cX5_transpose : ByteArray := prog_1_method_10_code
def yX5_transpose : MethodName := ⟨RX5, "transpose", "(II)I"⟩
abbrev cX5_exchange : ByteArray := prog_1_method_11_code
def yX5_exchange : MethodName := ⟨RX5, "exchange", "(II)I"⟩
abbrev cX5_staff : ByteArray := prog_1_method_12_code
def yX5_staff : MethodName := ⟨RX5, "staff", "(Z)I"⟩
abbrev cX5_insertBeat : ByteArray := prog_1_method_13_code
def yX5_insertBeat : MethodName := ⟨RX5, "insertBeat", "(I)I"⟩
abbrev cX5_removeBeat : ByteArray := prog_1_method_14_code
def yX5_removeBeat : MethodName := ⟨RX5, "removeBeat", "(I)I"⟩
abbrev cX5_undo : ByteArray := prog_1_method_15_code
def yX5_undo : MethodName := ⟨RX5, "undo", "()I"⟩
abbrev cX5_note : ByteArray := prog_1_method_16_code
def yX5_note : MethodName := ⟨RX5, "note", "(III)I"⟩
abbrev cX5_hand : ByteArray := prog_1_method_17_code
def yX5_hand : MethodName := ⟨RX5, "hand", "(III)I"⟩
abbrev cX5_beat : ByteArray := prog_1_method_18_code
def yX5_beat : MethodName := ⟨RX5, "beat", "(II)I"⟩
abbrev cX5_whole : ByteArray := prog_1_method_19_code
def yX5_whole : MethodName := ⟨RX5, "whole", "(I)I"⟩
abbrev cX5_whatIf : ByteArray := prog_1_method_20_code
def yX5_whatIf : MethodName := ⟨RX5, "whatIf", "(III)I"⟩
abbrev cX5_smallestSpan : ByteArray := prog_1_method_21_code
def yX5_smallestSpan : MethodName := ⟨RX5, "smallestSpan", "()I"⟩
abbrev cX5_dearest : ByteArray := prog_1_method_22_code
def yX5_dearest : MethodName := ⟨RX5, "dearest", "()I"⟩
abbrev cX5_bestTransposition : ByteArray := prog_1_method_23_code
def yX5_bestTransposition : MethodName := ⟨RX5, "bestTransposition", "(I)I"⟩
abbrev cX5_runScript : ByteArray := prog_1_method_24_code
def yX5_runScript : MethodName := ⟨RX5, "runScript", "(IJ)I"⟩
abbrev cX5_simulate : ByteArray := prog_1_method_25_code
def yX5_simulate : MethodName := ⟨RX5, "simulate", "(JI)I"⟩
abbrev cX5_save : ByteArray := prog_1_method_26_code
def yX5_save : MethodName := ⟨RX5, "save", "(I)I"⟩
abbrev cX5_restore : ByteArray := prog_1_method_27_code
def yX5_restore : MethodName := ⟨RX5, "restore", "(I)I"⟩
abbrev cX5_requireStaff : ByteArray := prog_1_method_28_code
def yX5_requireStaff : MethodName := ⟨RX5, "requireStaff", "(I)V"⟩
abbrev cX5_requireBeat : ByteArray := prog_1_method_29_code
def yX5_requireBeat : MethodName := ⟨RX5, "requireBeat", "(I)V"⟩
abbrev cX5_requireCell : ByteArray := prog_1_method_30_code
def yX5_requireCell : MethodName := ⟨RX5, "requireCell", "(II)V"⟩
abbrev cX5_requireSlot : ByteArray := prog_1_method_31_code
def yX5_requireSlot : MethodName := ⟨RX5, "requireSlot", "(I)V"⟩
abbrev cX5_requireUpTo : ByteArray := prog_1_method_32_code
def yX5_requireUpTo : MethodName := ⟨RX5, "requireUpTo", "(II)V"⟩
abbrev cX5_numberOfTrial : ByteArray := prog_1_method_33_code
def yX5_numberOfTrial : MethodName := ⟨RX5, "numberOfTrial", "(I)I"⟩
abbrev cX5_groupFromEnd : ByteArray := prog_1_method_34_code
def yX5_groupFromEnd : MethodName := ⟨RX5, "groupFromEnd", "(JI)J"⟩
abbrev cX5_succeeds : ByteArray := prog_1_method_35_code
def yX5_succeeds : MethodName := ⟨RX5, "succeeds", "(I)Z"⟩
abbrev cX5_triedSetting : ByteArray := prog_1_method_36_code
def yX5_triedSetting : MethodName := ⟨RX5, "triedSetting", "(II)Z"⟩
abbrev cX5_triedCell : ByteArray := prog_1_method_37_code
def yX5_triedCell : MethodName := ⟨RX5, "triedCell", "(III)Z"⟩
abbrev cX5_triedExchange : ByteArray := prog_1_method_38_code
def yX5_triedExchange : MethodName := ⟨RX5, "triedExchange", "(II)Z"⟩
abbrev cX5_triedRemoval : ByteArray := prog_1_method_39_code
def yX5_triedRemoval : MethodName := ⟨RX5, "triedRemoval", "(I)Z"⟩
abbrev cX5_simulateRound : ByteArray := prog_1_method_40_code
def yX5_simulateRound : MethodName := ⟨RX5, "simulateRound", "(I)V"⟩
def RX6 : String := "HandSpansModel"
def TX6 : u_T := fun k => match k with
  | 0 => ("HandSpansModel", "refusal", "I", false)
  | 1 => ("HandSpansModel", "text", "[I", true)
  | 2 => ("HandSpansModel", "textSize", "I", false)
  | 3 => ("HandSpansModel", "spot", "I", false)
  | 4 => ("HandSpansModel", "read", "[I", true)
  | 5 => ("HandSpansModel", "now", "[I", true)
  | 6 => ("HandSpansModel", "trial", "[I", true)
  | 7 => ("HandSpansModel", "other", "[I", true)
  | 8 => ("HandSpansModel", "diary", "[I", true)
  | 9 => ("HandSpansModel", "acts", "I", false)
  | 10 => ("HandSpansModel", "kept", "[I", true)
  | 11 => ("HandSpansModel", "isKept", "[Z", true)
  | 12 => ("HandSpansModel", "sound", "[I", true)
  | 13 => ("HandSpansModel", "reason", "[I", true)
  | 14 => ("HandSpansModel", "row", "[I", true)
  | 15 => ("HandSpansModel", "rowMany", "[I", true)
  | 16 => ("HandSpansModel", "possible", "[I", true)
  | 17 => ("HandSpansModel", "split", "[I", true)
  | _ => ("HandSpansModel", "ahead", "[I", true)
def tyX6 : Nat → FieldType := fun k => match k with
  | 0 => .int
  | 1 => .array .int
  | 2 => .int
  | 3 => .int
  | 4 => .array .int
  | 5 => .array .int
  | 6 => .array .int
  | 7 => .array .int
  | 8 => .array .int
  | 9 => .int
  | 10 => .array .int
  | 11 => .array .boolean
  | 12 => .array .int
  | 13 => .array .int
  | 14 => .array .int
  | 15 => .array .int
  | 16 => .array .int
  | 17 => .array .int
  | _ => .array .int
abbrev wsX60 : List Cond := u_ws RX6 TX6 19
theorem nmX6 : ∀ a, a < 19 → ∀ b, b < 19 → a ≠ b → (TX6 a).2.1 ≠ (TX6 b).2.1 := by decide +kernel
theorem tyX6_ok : ∀ k, k < 19 → parseFieldDescriptor (TX6 k).2.2.1 = some (tyX6 k) := by decide +kernel
abbrev cX6_init : ByteArray := prog_8_method_1_code
def yX6_init : MethodName := ⟨RX6, "<init>", "()V"⟩
abbrev cX6_thrown : ByteArray := prog_8_method_2_code
def yX6_thrown : MethodName := ⟨RX6, "thrown", "()I"⟩
abbrev cX6_refused : ByteArray := prog_8_method_3_code
def yX6_refused : MethodName := ⟨RX6, "refused", "(I)Z"⟩
abbrev cX6_in : ByteArray := prog_8_method_4_code
def yX6_in : MethodName := ⟨RX6, "in", "(JJJ)Z"⟩
abbrev cX6_copyPage : ByteArray := prog_8_method_5_code
def yX6_copyPage : MethodName := ⟨RX6, "copyPage", "([II[II)V"⟩
abbrev cX6_begin : ByteArray := prog_8_method_6_code
def yX6_begin : MethodName := ⟨RX6, "begin", "([I)V"⟩
abbrev cX6_at : ByteArray := prog_8_method_7_code
def yX6_at : MethodName := ⟨RX6, "at", "(II)I"⟩
abbrev cX6_isSetting : ByteArray := prog_8_method_8_code
def yX6_isSetting : MethodName := ⟨RX6, "isSetting", "(II)Z"⟩
abbrev cX6_isHeld : ByteArray := prog_8_method_9_code
def yX6_isHeld : MethodName := ⟨RX6, "isHeld", "([III)Z"⟩
abbrev cX6_laySounds : ByteArray := prog_8_method_10_code
def yX6_laySounds : MethodName := ⟨RX6, "laySounds", "([I)V"⟩
abbrev cX6_rank : ByteArray := prog_8_method_11_code
def yX6_rank : MethodName := ⟨RX6, "rank", "([II)I"⟩
abbrev cX6_stands : ByteArray := prog_8_method_12_code
def yX6_stands : MethodName := ⟨RX6, "stands", "([IIIZ)Z"⟩
abbrev cX6_layReasons : ByteArray := prog_8_method_13_code
def yX6_layReasons : MethodName := ⟨RX6, "layReasons", "([II)V"⟩
abbrev cX6_layRow : ByteArray := prog_8_method_14_code
def yX6_layRow : MethodName := ⟨RX6, "layRow", "([II)V"⟩
abbrev cX6_pitchOf : ByteArray := prog_8_method_15_code
def yX6_pitchOf : MethodName := ⟨RX6, "pitchOf", "(II)I"⟩
abbrev cX6_width : ByteArray := prog_8_method_16_code
def yX6_width : MethodName := ⟨RX6, "width", "(III)I"⟩
abbrev cX6_canPlay : ByteArray := prog_8_method_17_code
def yX6_canPlay : MethodName := ⟨RX6, "canPlay", "([IIIII)Z"⟩
abbrev cX6_layPossible : ByteArray := prog_8_method_18_code
def yX6_layPossible : MethodName := ⟨RX6, "layPossible", "([II)V"⟩
abbrev cX6_dropInner : ByteArray := prog_8_method_19_code
def yX6_dropInner : MethodName := ⟨RX6, "dropInner", "([II)V"⟩
abbrev cX6_can : ByteArray := prog_8_method_20_code
def yX6_can : MethodName := ⟨RX6, "can", "(II)Z"⟩
abbrev cX6_placeOf : ByteArray := prog_8_method_21_code
def yX6_placeOf : MethodName := ⟨RX6, "placeOf", "(II)I"⟩
abbrev cX6_handOf : ByteArray := prog_8_method_22_code
def yX6_handOf : MethodName := ⟨RX6, "handOf", "(III)I"⟩
abbrev cX6_isCut : ByteArray := prog_8_method_23_code
def yX6_isCut : MethodName := ⟨RX6, "isCut", "([IIIII)Z"⟩
abbrev cX6_from : ByteArray := prog_8_method_24_code
def yX6_from : MethodName := ⟨RX6, "from", "(II)I"⟩
abbrev cX6_to : ByteArray := prog_8_method_25_code
def yX6_to : MethodName := ⟨RX6, "to", "(III)I"⟩
abbrev cX6_position : ByteArray := prog_8_method_26_code
def yX6_position : MethodName := ⟨RX6, "position", "(III)I"⟩
abbrev cX6_move : ByteArray := prog_8_method_27_code
def yX6_move : MethodName := ⟨RX6, "move", "(IIII)I"⟩
abbrev cX6_isRolled : ByteArray := prog_8_method_28_code
def yX6_isRolled : MethodName := ⟨RX6, "isRolled", "([IIII)Z"⟩
abbrev cX6_costOf : ByteArray := prog_8_method_29_code
def yX6_costOf : MethodName := ⟨RX6, "costOf", "([IIII)I"⟩
abbrev cX6_cheapest : ByteArray := prog_8_method_30_code
def yX6_cheapest : MethodName := ⟨RX6, "cheapest", "([IIIZ)I"⟩
abbrev cX6_layAhead : ByteArray := prog_8_method_31_code
def yX6_layAhead : MethodName := ⟨RX6, "layAhead", "([I)V"⟩
abbrev cX6_lay : ByteArray := prog_8_method_32_code
def yX6_lay : MethodName := ⟨RX6, "lay", "([I)V"⟩
abbrev cX6_before : ByteArray := prog_8_method_33_code
def yX6_before : MethodName := ⟨RX6, "before", "(I)I"⟩
abbrev cX6_isCutHere : ByteArray := prog_8_method_34_code
def yX6_isCutHere : MethodName := ⟨RX6, "isCutHere", "([III)Z"⟩
abbrev cX6_wholeOf : ByteArray := prog_8_method_35_code
def yX6_wholeOf : MethodName := ⟨RX6, "wholeOf", "([II)I"⟩
abbrev cX6_mend : ByteArray := prog_8_method_36_code
def yX6_mend : MethodName := ⟨RX6, "mend", "([I)V"⟩
abbrev cX6_append : ByteArray := prog_8_method_37_code
def yX6_append : MethodName := ⟨RX6, "append", "(I)I"⟩
abbrev cX6_clearText : ByteArray := prog_8_method_38_code
def yX6_clearText : MethodName := ⟨RX6, "clearText", "()I"⟩
abbrev cX6_eat : ByteArray := prog_8_method_39_code
def yX6_eat : MethodName := ⟨RX6, "eat", "(I)Z"⟩
abbrev cX6_digit : ByteArray := prog_8_method_40_code
def yX6_digit : MethodName := ⟨RX6, "digit", "(II)I"⟩
abbrev cX6_two : ByteArray := prog_8_method_41_code
def yX6_two : MethodName := ⟨RX6, "two", "(II)I"⟩
abbrev cX6_readCell : ByteArray := prog_8_method_42_code
def yX6_readCell : MethodName := ⟨RX6, "readCell", "(II)Z"⟩
abbrev cX6_readAll : ByteArray := prog_8_method_43_code
def yX6_readAll : MethodName := ⟨RX6, "readAll", "()Z"⟩
abbrev cX6_errorPosition : ByteArray := prog_8_method_44_code
def yX6_errorPosition : MethodName := ⟨RX6, "errorPosition", "()I"⟩
abbrev cX6_load : ByteArray := prog_8_method_45_code
def yX6_load : MethodName := ⟨RX6, "load", "()I"⟩
abbrev cX6_cellsLike : ByteArray := prog_8_method_46_code
def yX6_cellsLike : MethodName := ⟨RX6, "cellsLike", "([IZ)I"⟩
abbrev cX6_about : ByteArray := prog_8_method_47_code
def yX6_about : MethodName := ⟨RX6, "about", "(I)I"⟩
abbrev cX6_isStaff : ByteArray := prog_8_method_48_code
def yX6_isStaff : MethodName := ⟨RX6, "isStaff", "([II)Z"⟩
abbrev cX6_isBeat : ByteArray := prog_8_method_49_code
def yX6_isBeat : MethodName := ⟨RX6, "isBeat", "([II)Z"⟩
abbrev cX6_isCell : ByteArray := prog_8_method_50_code
def yX6_isCell : MethodName := ⟨RX6, "isCell", "([III)Z"⟩
abbrev cX6_cell : ByteArray := prog_8_method_51_code
def yX6_cell : MethodName := ⟨RX6, "cell", "(IIZ)I"⟩
abbrev cX6_remember : ByteArray := prog_8_method_52_code
def yX6_remember : MethodName := ⟨RX6, "remember", "()V"⟩
abbrev cX6_set : ByteArray := prog_8_method_53_code
def yX6_set : MethodName := ⟨RX6, "set", "(II)I"⟩
abbrev cX6_canWrite : ByteArray := prog_8_method_54_code
def yX6_canWrite : MethodName := ⟨RX6, "canWrite", "([IIII)Z"⟩
abbrev cX6_put : ByteArray := prog_8_method_55_code
def yX6_put : MethodName := ⟨RX6, "put", "([IIII)V"⟩
abbrev cX6_write : ByteArray := prog_8_method_56_code
def yX6_write : MethodName := ⟨RX6, "write", "(III)I"⟩
abbrev cX6_canShift : ByteArray := prog_8_method_57_code
def yX6_canShift : MethodName := ⟨RX6, "canShift", "([III)Z"⟩
abbrev cX6_shift : ByteArray := prog_8_method_58_code
def yX6_shift : MethodName := ⟨RX6, "shift", "([III)I"⟩
abbrev cX6_transpose : ByteArray := prog_8_method_59_code
def yX6_transpose : MethodName := ⟨RX6, "transpose", "(II)I"⟩
abbrev cX6_swap : ByteArray := prog_8_method_60_code
def yX6_swap : MethodName := ⟨RX6, "swap", "([III)I"⟩
abbrev cX6_exchange : ByteArray := prog_8_method_61_code
def yX6_exchange : MethodName := ⟨RX6, "exchange", "(II)I"⟩
abbrev cX6_staff : ByteArray := prog_8_method_62_code
def yX6_staff : MethodName := ⟨RX6, "staff", "(Z)I"⟩
abbrev cX6_insertBeat : ByteArray := prog_8_method_63_code
def yX6_insertBeat : MethodName := ⟨RX6, "insertBeat", "(I)I"⟩
abbrev cX6_dropBeat : ByteArray := prog_8_method_64_code
def yX6_dropBeat : MethodName := ⟨RX6, "dropBeat", "([II)V"⟩
abbrev cX6_removeBeat : ByteArray := prog_8_method_65_code
def yX6_removeBeat : MethodName := ⟨RX6, "removeBeat", "(I)I"⟩
abbrev cX6_undo : ByteArray := prog_8_method_66_code
def yX6_undo : MethodName := ⟨RX6, "undo", "()I"⟩
abbrev cX6_note : ByteArray := prog_8_method_67_code
def yX6_note : MethodName := ⟨RX6, "note", "(III)I"⟩
abbrev cX6_hand : ByteArray := prog_8_method_68_code
def yX6_hand : MethodName := ⟨RX6, "hand", "(III)I"⟩
abbrev cX6_beat : ByteArray := prog_8_method_69_code
def yX6_beat : MethodName := ⟨RX6, "beat", "(II)I"⟩
abbrev cX6_whole : ByteArray := prog_8_method_70_code
def yX6_whole : MethodName := ⟨RX6, "whole", "(I)I"⟩
abbrev cX6_whatIf : ByteArray := prog_8_method_71_code
def yX6_whatIf : MethodName := ⟨RX6, "whatIf", "(III)I"⟩
abbrev cX6_smallestSpan : ByteArray := prog_8_method_72_code
def yX6_smallestSpan : MethodName := ⟨RX6, "smallestSpan", "()I"⟩
abbrev cX6_dearest : ByteArray := prog_8_method_73_code
def yX6_dearest : MethodName := ⟨RX6, "dearest", "()I"⟩
abbrev cX6_bestTransposition : ByteArray := prog_8_method_74_code
def yX6_bestTransposition : MethodName := ⟨RX6, "bestTransposition", "(I)I"⟩
abbrev cX6_writes : ByteArray := prog_8_method_75_code
def yX6_writes : MethodName := ⟨RX6, "writes", "(III)Z"⟩
abbrev cX6_does : ByteArray := prog_8_method_76_code
def yX6_does : MethodName := ⟨RX6, "does", "(IIII)Z"⟩
abbrev cX6_runScript : ByteArray := prog_8_method_77_code
def yX6_runScript : MethodName := ⟨RX6, "runScript", "(IJ)I"⟩
abbrev cX6_simulate : ByteArray := prog_8_method_78_code
def yX6_simulate : MethodName := ⟨RX6, "simulate", "(JI)I"⟩
abbrev cX6_save : ByteArray := prog_8_method_79_code
def yX6_save : MethodName := ⟨RX6, "save", "(I)I"⟩
abbrev cX6_restore : ByteArray := prog_8_method_80_code
def yX6_restore : MethodName := ⟨RX6, "restore", "(I)I"⟩
def RJ6 : String := "java/lang/Integer"
def TJ6 : u_T := fun k => match k with
  | _ => ("", "", "", false)
def tyJ6 : Nat → FieldType := fun k => match k with
  | _ => .int
abbrev wsJ60 : List Cond := u_ws RJ6 TJ6 0
theorem nmJ6 : ∀ a, a < 0 → ∀ b, b < 0 → a ≠ b → (TJ6 a).2.1 ≠ (TJ6 b).2.1 := by decide +kernel
theorem tyJ6_ok : ∀ k, k < 0 → parseFieldDescriptor (TJ6 k).2.2.1 = some (tyJ6 k) := by decide +kernel
abbrev cJ6_bitCount_0f7a4 : ByteArray := prog_13_method_49_code
def yJ6_bitCount_0f7a4 : MethodName := ⟨RJ6, "bitCount", "(I)I"⟩
def RJ9 : String := "java/lang/Math"
def TJ9 : u_T := fun k => match k with
  | _ => ("", "", "", false)
def tyJ9 : Nat → FieldType := fun k => match k with
  | _ => .int
abbrev wsJ90 : List Cond := u_ws RJ9 TJ9 0
theorem nmJ9 : ∀ a, a < 0 → ∀ b, b < 0 → a ≠ b → (TJ9 a).2.1 ≠ (TJ9 b).2.1 := by decide +kernel
theorem tyJ9_ok : ∀ k, k < 0 → parseFieldDescriptor (TJ9 k).2.2.1 = some (tyJ9 k) := by decide +kernel
abbrev cJ9_abs_0f7a4 : ByteArray := prog_14_method_59_code
def yJ9_abs_0f7a4 : MethodName := ⟨RJ9, "abs", "(I)I"⟩
def RL : String := "HandSpansLaw"
abbrev cL_append : ByteArray := method_3_code
def yL_append : MethodName := ⟨RL, "append", "(LHandSpans;I[J)I"⟩
abbrev cL_load : ByteArray := method_4_code
def yL_load : MethodName := ⟨RL, "load", "(LHandSpans;[J)I"⟩
abbrev cL_about : ByteArray := method_5_code
def yL_about : MethodName := ⟨RL, "about", "(LHandSpans;I[J)I"⟩
abbrev cL_cell : ByteArray := method_6_code
def yL_cell : MethodName := ⟨RL, "cell", "(LHandSpans;IIZ[J)I"⟩
abbrev cL_set : ByteArray := method_7_code
def yL_set : MethodName := ⟨RL, "set", "(LHandSpans;II[J)I"⟩
abbrev cL_write : ByteArray := method_8_code
def yL_write : MethodName := ⟨RL, "write", "(LHandSpans;III[J)I"⟩
abbrev cL_transpose : ByteArray := method_9_code
def yL_transpose : MethodName := ⟨RL, "transpose", "(LHandSpans;II[J)I"⟩
abbrev cL_exchange : ByteArray := method_10_code
def yL_exchange : MethodName := ⟨RL, "exchange", "(LHandSpans;II[J)I"⟩
abbrev cL_staff : ByteArray := method_11_code
def yL_staff : MethodName := ⟨RL, "staff", "(LHandSpans;Z[J)I"⟩
abbrev cL_insertBeat : ByteArray := method_12_code
def yL_insertBeat : MethodName := ⟨RL, "insertBeat", "(LHandSpans;I[J)I"⟩
abbrev cL_removeBeat : ByteArray := method_13_code
def yL_removeBeat : MethodName := ⟨RL, "removeBeat", "(LHandSpans;I[J)I"⟩
abbrev cL_undo : ByteArray := method_14_code
def yL_undo : MethodName := ⟨RL, "undo", "(LHandSpans;[J)I"⟩
abbrev cL_note : ByteArray := method_15_code
def yL_note : MethodName := ⟨RL, "note", "(LHandSpans;III[J)I"⟩
abbrev cL_hand : ByteArray := method_16_code
def yL_hand : MethodName := ⟨RL, "hand", "(LHandSpans;III[J)I"⟩
abbrev cL_beat : ByteArray := method_17_code
def yL_beat : MethodName := ⟨RL, "beat", "(LHandSpans;II[J)I"⟩
abbrev cL_whole : ByteArray := method_18_code
def yL_whole : MethodName := ⟨RL, "whole", "(LHandSpans;I[J)I"⟩
abbrev cL_whatIf : ByteArray := method_19_code
def yL_whatIf : MethodName := ⟨RL, "whatIf", "(LHandSpans;III[J)I"⟩
abbrev cL_bestTransposition : ByteArray := method_20_code
def yL_bestTransposition : MethodName := ⟨RL, "bestTransposition", "(LHandSpans;I[J)I"⟩
abbrev cL_runScript : ByteArray := method_21_code
def yL_runScript : MethodName := ⟨RL, "runScript", "(LHandSpans;IJ[J)I"⟩
abbrev cL_simulate : ByteArray := method_22_code
def yL_simulate : MethodName := ⟨RL, "simulate", "(LHandSpans;JI[J)I"⟩
abbrev cL_save : ByteArray := method_23_code
def yL_save : MethodName := ⟨RL, "save", "(LHandSpans;I[J)I"⟩
abbrev cL_restore : ByteArray := method_24_code
def yL_restore : MethodName := ⟨RL, "restore", "(LHandSpans;I[J)I"⟩
abbrev cL_law : ByteArray := code
def yL_law : MethodName := ⟨RL, "law", "([I)Z"⟩
abbrev vwCl : List vw_C := [(RX0, TX0, 14), (RX1, TX1, 3), (RX2, TX2, 5), (RX3, TX3, 4), (RX4, TX4, 3), (RX5, TX5, 7), (RX6, TX6, 19)]
end
section
/-! ===== BEGIN words of one list among another's, by their places ===== -/
theorem goodIn_r {big : List Cond} (ws : List Cond) (ps : List Nat) (hp : ws = ps.filterMap (fun i => big[i]?)) (h : ws.all goodWord = true) : GoodIn big ws := by
  intro w hw
  have h1 := List.all_eq_true.mp h w hw
  rw [hp] at hw
  obtain ⟨i, -, hi⟩ := List.mem_filterMap.mp hw
  have hm : w ∈ big := by first | exact List.mem_of_getElem? hi | exact List.getElem?_mem hi
  exact ⟨hm, good_of_word h1⟩
theorem goodIn_app {big a b : List Cond} (ha : GoodIn big a) (hb : GoodIn big b) : GoodIn big (a ++ b) := fun w h => (List.mem_append.mp h).elim (ha w) (hb w)
theorem goodIn_ca {big a b : List Cond} {c : Cond} (ha : GoodIn big (c :: a)) (hb : GoodIn big b) : GoodIn big (c :: (a ++ b)) := fun w h => (List.mem_cons.mp h).elim (fun e => ha w (List.mem_cons.mpr (Or.inl e))) (fun h => (List.mem_append.mp h).elim (fun h => ha w (List.mem_cons.mpr (Or.inr h))) (hb w))
theorem goodIn_sub {big ws : List Cond} (hm : ∀ w ∈ ws, w ∈ big) (h : ws.all goodWord = true) : GoodIn big ws := fun w hw => ⟨hm w hw, good_of_word (List.all_eq_true.mp h w hw)⟩
/-! ===== END ===== -/
/-! ===== BEGIN exceptions that leave a method, and their catching by the caller (launches without stack traces) ===== -/
section VXA
/-! The laws vx_back, vx_callV, vx_callS, vx_callSW, vx_throw0, vx_throwS follow proofs of the library, with one case more: JvmDerived/Free/Laws.lean (Back.of_free), Shelf42/LK1.lean (callV, callS), Shelf/KitTraced.lean (throwNew0V, throwNewS). -/
/-- where a method has thrown q: the class by its name, the cell, what was written, the world -/
def vx_T (XC : String → State → State → Prop) (st : State) (q : Addr) (t : State) (mc ms : Nat) (free : Addr → Prop) : Prop :=
  ∃ (E : String) (ce : Cell) (L : List Loc), XC E st t ∧ t.heap[q]? = some ce ∧ ce.vm = .none ∧ st.vm.findClass E = some ce.cls ∧ st.WarmedH t.vm ∧ st.sameButNew ({ t with vm := st.vm } : State) L mc ms ∧ ∀ z ∈ L, free z.base
def vx_Q (Qc : Array Value → State → Outcome → State → Prop) (XC : String → State → State → Prop) (mc ms : Nat) (free : Addr → Prop) : Array Value → State → Outcome → State → Prop := fun a st o t =>
  (Qc a st o t ∧ ∃ L, FrameEnd st o t L mc ms ∧ ∀ q ∈ L, free q.base) ∨ ∃ q, o = .threw q ∧ vx_T XC st q t mc ms free
/-- a callee that returns or throws -/
def vx_Met (l : Launch) (y : MethodName) (ws : List Cond) (rm : Room) (Pc : Array Value → State → Prop) (Qc : Array Value → State → Outcome → State → Prop) (XC : String → State → State → Prop) (mc ms : Nat) (free : Addr → Prop) : Prop :=
  MetFree l y (headSpec ws rm) Pc (fun _ _ _ _ _ => True) (vx_Q Qc XC mc ms free)
def vx_Post (XC : String → State → State → Prop) (mc ms : Nat) (free : Addr → Prop) : Pt → Array Value → Addr → Pt → Prop := fun A a q B =>
  ∃ (g : JFrame) (mk : MethodId) (t : State) (L : List Loc) (E : String) (ce : Cell), B.U.heap = t.heap ∧ B.U.vm = t.vm ∧ XC E (A.U.calling g mk a) t ∧ t.heap[q]? = some ce ∧ ce.vm = .none ∧ A.U.vm.findClass E = some ce.cls ∧ B.locs = A.locs ++ L ∧ (∀ z ∈ L, free z.base) ∧ B.cells = A.cells + mc ∧ B.slots = A.slots + ms
def vx_Back (l : Launch) (R : Room) (p : Program) (e : Env) (below : List Frame) (s : State) (sargs : Array Value) (y : MethodName) (len W9 : Nat)
    (Pre : Pt → Array Value → Prop) (Post : Pt → Array Value → Option Value → Pt → Prop) (PostX : Pt → Array Value → Addr → Pt → Prop) : Prop :=
  ∀ (m : MethodId) (meth : Method) (c : Code) (A : Pt) (g : JFrame) (ig : Instr) (mk : MethodId) (a : Array Value),
    Stand p l e R s m sargs below meth c A.U A.locs A.cells A.slots → g.method = m → g.locals.size = c.maxLocals → decode c.code g.pc = .ok (ig, len) →
    2 * g.monitorRoom + (g.stack.map fun v => v.category).sum ≤ W9 → A.U.methodNamed? y = some mk → Pre A a →
    (∃ (v : Option Value) (B : Pt), Stand p l e R s m sargs below meth c B.U B.locs B.cells B.slots ∧ Post A a v B ∧
      Steps p.tables e below (doInvoke e (A.U.setTop g) [] mk a).1 (B.U.setTop { g with pc := g.pc + len, stack := v.toList ++ g.stack })) ∨
    (∃ (q : Addr) (B : Pt), Stand p l e R s m sargs below meth c B.U B.locs B.cells B.slots ∧ PostX A a q B ∧
      Steps p.tables e below (doInvoke e (A.U.setTop g) [] mk a).1 ((B.U.setTop g).pushFrame (.throwing q)))
section Payer
variable {l : Launch} {R : Room} {p : Program} {e : Env} {below : List Frame} {s : State} {sargs : Array Value} {y : MethodName} {len W9 : Nat}
theorem vx_back {ws : List Cond} {rm : Room} {Pc : Array Value → State → Prop} {Qc : Array Value → State → Outcome → State → Prop} {XC : String → State → State → Prop} {mc ms : Nat} {free : Addr → Prop} {bytes : ByteArray} {maxL : Nat} {ret : Option FieldType}
    (hM : vx_Met l y ws rm Pc Qc XC mc ms free) (hblind : FrameBlind Pc) (hrc : rm.cells = mc) (hrs : rm.slots = ms)
    (hframes : rm.frames + 1 ≤ R.frames) (hlocals : W9 + (maxL + 11) + rm.locals ≤ R.locals)
    (hws : ∀ w ∈ ws, ∀ a' U, s.WarmedH U.vm → w.before a' U = true) (hcode : Cond.code y bytes maxL ret ∈ ws) (hinit : ∀ a' U, s.WarmedH U.vm → (Cond.initialized y.cls).before a' U = true) :
    vx_Back l R p e below s sargs y len W9 (PreOf R mc ms Pc) (PostOf Qc mc ms free) (vx_Post XC mc ms free) := by
  intro m meth c A g ig mk a X hg hsize hdg hW hn hp
  have h1 : (headSpec ws rm).pre.before a A.U = true := atoms_intro fun w hw => hws w hw _ _ X.warmed
  have h2 : (Cond.code y bytes maxL ret).before a A.U = true := hws _ hcode _ _ X.warmed
  have h3 : (Cond.initialized y.cls).before a A.U = true := hinit _ _ X.warmed
  have h4 : A.cells + (headSpec ws rm).room.cells ≤ R.cells := by rw [show (headSpec ws rm).room.cells = mc from hrc]; exact hp.1
  have h5 : A.slots + (headSpec ws rm).room.slots ≤ R.slots := by rw [show (headSpec ws rm).room.slots = ms from hrs]; exact hp.2.1
  have hPc : Pc a (A.U.calling g mk a) := hblind _ _ _ _ hp.2.2
  obtain ⟨U, Ls, c0, s0⟩ := A
  dsimp only [Pt.U, Pt.locs, Pt.cells, Pt.slots] at h1 h2 h3 h4 h5 X hn hPc ⊢
  obtain ⟨methY, cY, hmY, hcY, -, hlY, -, -, -, -⟩ := Cond.code_spec hn h2
  obtain ⟨kY, hkY, -⟩ := className_of_methodNamed hn
  have hinitY : kY.init = .initialized := Cond.initialized_spec (findClass_of_methodNamed hn) hkY h3
  have h : At U g.method c below := by rw [hg]; exact X.here
  have hlocals9 : W9 + (maxL + 11) + (headSpec ws rm).room.locals ≤ R.locals := hlocals
  have happ : (headSpec ws rm).appliesLoose y e.platform (U.calling g mk a) = true :=
    Spec.appliesLoose_calling (g := g) h hdg hn hkY hinitY
      (X.room_calling (g := g) (R' := (headSpec ws rm).room) hsize hmY hcY hframes (by rw [hlY]; omega) h4 h5) h1
  obtain ⟨mid, hmid⟩ := h.above
  have hfr : (U.setTop g).frames = (.java g :: mid) ++ below := by rw [State.frames_setTop' g h.top, hmid]; rfl
  obtain ⟨o, s₂, hsteps, -, hend, hq⟩ := Steps.callFree hM p X.admits X.cas X.clock (acts := []) hfr happ hPc trivial
  have hq' : vx_Q Qc XC mc ms free a (U.calling g mk a) o s₂ := hq
  rw [State.frames_setTop' g h.top] at hend
  obtain ⟨g₀, hg0⟩ := Option.isSome_iff_exists.mp h.top
  obtain ⟨r, hr⟩ := State.topJava?_eq_some.mp hg0
  have hr' : (({ U with heap := s₂.heap, slotsUsed := s₂.slotsUsed } : State).setVm s₂.vm).frames = .java g₀ :: r := hr
  rcases hq' with ⟨hqc, L, hfe, hL⟩ | ⟨q, rfl, E, ce, L, hx, hce, hcv, hcl, hW₂, hsm, hL⟩
  · obtain ⟨⟨v, rfl⟩, hW₂, e2, q2, q3, q4, q5, q6⟩ := id hfe
    have e3 : s₂ = ({ (U.calling g mk a).setFrames s₂.frames with heap := s₂.heap, slotsUsed := s₂.slotsUsed } : State).setVm s₂.vm := by
      have : s₂ = ({ s₂ with vm := (U.calling g mk a).vm } : State).setVm s₂.vm := rfl
      rw [e2] at this
      exact this
    obtain ⟨c₂, i₂, len₂, hc₂, hd₂, hf₂⟩ := hend
    have hW' : U.WarmedH s₂.vm := hW₂
    have hcc : c₂ = c := by
      have h1 : s₂.code? g.method = U.code? g.method := by
        rw [State.code?_eq, State.code?_eq, hW'.alike.method?]
      exact Option.some.inj (hc₂.symm.trans (h1.trans h.code))
    subst hcc
    have hlen : len₂ = len := by rw [hdg] at hd₂; cases hd₂; rfl
    subst hlen
    have hs₂ : s₂ = (({ U with heap := s₂.heap, slotsUsed := s₂.slotsUsed } : State).setVm s₂.vm).setTop { g with pc := g.pc + len₂, stack := v.toList ++ g.stack } := by
      refine e3.trans ?_
      rw [hf₂, State.calling_eq h.top, State.setFrames_setFrames, State.setTop_of_frames _ hr', hr]
      rfl
    have hsame : U.sameButNew ({ U with heap := s₂.heap, slotsUsed := s₂.slotsUsed } : State) L mc ms := by
      refine ⟨?_, q2, q3, q4, q5, q6⟩
      obtain ⟨t, ht, -⟩ := State.frames_cons hr
      show ({ U with heap := s₂.heap, slotsUsed := s₂.slotsUsed } : State) = { U.setFrames U.frames with heap := s₂.heap, slotsUsed := s₂.slotsUsed }
      rw [State.setFrames_self ht]
    subst hg
    refine Or.inl ⟨v, ⟨(({ U with heap := s₂.heap, slotsUsed := s₂.slotsUsed } : State).setVm s₂.vm), Ls ++ L, c0 + mc, s0 + ms⟩,
      ⟨X.admits, X.cas, X.clock, X.frames, X.room, X.hears, X.method, X.code, (X.here.setHeapUsed s₂.heap s₂.slotsUsed).setVm hW'.alike, X.tail, State.WarmedH.trans X.warmed hW', X.limits, X.bytes, X.same.trans (hsame.setVm s.vm)⟩,
      ⟨g, mk, s₂, L, rfl, rfl, hqc, rfl, hL, rfl, rfl⟩, ?_⟩
    show Steps p.tables e below _ ((({ U with heap := s₂.heap, slotsUsed := s₂.slotsUsed } : State).setVm s₂.vm).setTop { g with pc := g.pc + len₂, stack := v.toList ++ g.stack })
    rw [← hs₂]
    exact hsteps
  · obtain ⟨e2, q2, q3, q4, q5, q6⟩ := id hsm
    have e3 : s₂ = ({ (U.calling g mk a).setFrames s₂.frames with heap := s₂.heap, slotsUsed := s₂.slotsUsed } : State).setVm s₂.vm := by
      have : s₂ = ({ s₂ with vm := (U.calling g mk a).vm } : State).setVm s₂.vm := rfl
      rw [e2] at this
      exact this
    have hf₂ : s₂.frames = .throwing q :: .java g :: U.frames.tail := hend
    have hW' : U.WarmedH s₂.vm := hW₂
    have hs₂ : s₂ = ((({ U with heap := s₂.heap, slotsUsed := s₂.slotsUsed } : State).setVm s₂.vm).setTop g).pushFrame (.throwing q) := by
      refine e3.trans ?_
      rw [hf₂, State.calling_eq h.top, State.setFrames_setFrames, State.pushFrame, State.frames_setTop _ hr', State.setTop_of_frames _ hr', State.setFrames_setFrames, hr]
      rfl
    have hsame : U.sameButNew ({ U with heap := s₂.heap, slotsUsed := s₂.slotsUsed } : State) L mc ms := by
      refine ⟨?_, q2, q3, q4, q5, q6⟩
      obtain ⟨t, ht, -⟩ := State.frames_cons hr
      show ({ U with heap := s₂.heap, slotsUsed := s₂.slotsUsed } : State) = { U.setFrames U.frames with heap := s₂.heap, slotsUsed := s₂.slotsUsed }
      rw [State.setFrames_self ht]
    subst hg
    refine Or.inr ⟨q, ⟨(({ U with heap := s₂.heap, slotsUsed := s₂.slotsUsed } : State).setVm s₂.vm), Ls ++ L, c0 + mc, s0 + ms⟩,
      ⟨X.admits, X.cas, X.clock, X.frames, X.room, X.hears, X.method, X.code, (X.here.setHeapUsed s₂.heap s₂.slotsUsed).setVm hW'.alike, X.tail, State.WarmedH.trans X.warmed hW', X.limits, X.bytes, X.same.trans (hsame.setVm s.vm)⟩,
      ⟨g, mk, s₂, L, E, ce, rfl, rfl, hx, hce, hcv, hcl, rfl, hL, rfl, rfl⟩, ?_⟩
    show Steps p.tables e below _ (((({ U with heap := s₂.heap, slotsUsed := s₂.slotsUsed } : State).setVm s₂.vm).setTop g).pushFrame (.throwing q))
    rw [← hs₂]
    exact hsteps
end Payer
section Calls
variable {p : Program} {l : Launch} {e : Env} {R : Room} {s : State} {m : MethodId} {args : Array Value} {below : List Frame} {meth : Method} {c : Code} {T : State} {locs : List Loc} {cells slots : Nat}
theorem vx_callV (X : Stand p l e R s m args below meth c T locs cells slots) (hexec : p.tables.exec = Jvm.exec) {own C : String} {index : Nat} {y : MethodName} {bytes : ByteArray} {maxL : Nat} {ret : Option FieldType}
    (hown : s.vm.findClass own = some m.cls) (hlink : (Cond.methodLink own index y).before args s = true) (hinst : (Cond.instanceMethod y).before args s = true) (hsel : (Cond.selects C y y).before args s = true)
    (hcode : (Cond.code y bytes maxL ret).before args s = true) (hy : y.cls ≠ "java/lang/invoke/MethodHandle" ∧ y.cls ≠ "java/lang/invoke/VarHandle")
    {W9 : Nat} {Pre : Pt → Array Value → Prop} {Post : Pt → Array Value → Option Value → Pt → Prop} {PostX : Pt → Array Value → Addr → Pt → Prop} (hK : vx_Back l R p e below s args y 3 W9 Pre Post PostX)
    {b : Addr} {cellB : Cell} (hcell : T.heap[b]? = some cellB) (hobj : cellB.vm.isStatics = false) (hcls : s.vm.findClass C = some cellB.cls)
    {g : JFrame} (hg : g.method = m) (hsize : g.locals.size = c.maxLocals) {argsL rest : List Value} (hlen : ∀ sig, parseMethodDescriptor y.desc = some sig → argsL.length = sig.parameters.length)
    (hstack : g.stack = argsL.reverse ++ .ref b :: rest) (hW : 2 * g.monitorRoom + (rest.map fun v => v.category).sum ≤ W9) (hdg : decode c.code g.pc = .ok (.invokevirtual index, 3))
    (hpre : ∀ vm₁, s.WarmedH vm₁ → Pre ⟨T.setVm vm₁, locs, cells, slots⟩ (Value.ref b :: argsL).toArray) :
    (∃ (v : Option Value) (vm₁ : Vm) (B : Pt), s.WarmedH vm₁ ∧ Stand p l e R s m args below meth c B.U B.locs B.cells B.slots ∧ Post ⟨T.setVm vm₁, locs, cells, slots⟩ (Value.ref b :: argsL).toArray v B ∧
      ∀ target, Steps p.tables e below (B.U.setTop { g with pc := g.pc + 3, stack := v.toList ++ rest }) target → Steps p.tables e below (T.setTop g) target) ∨
    (∃ (q : Addr) (vm₁ : Vm) (B : Pt), s.WarmedH vm₁ ∧ Stand p l e R s m args below meth c B.U B.locs B.cells B.slots ∧ PostX ⟨T.setVm vm₁, locs, cells, slots⟩ (Value.ref b :: argsL).toArray q B ∧
      Steps p.tables e below (T.setTop g) ((B.U.setTop { g with stack := rest }).pushFrame (.throwing q))) := by
  obtain ⟨mk, methM, hnamed, hmethM, hstM, habM⟩ := Cond.instanceMethod_spec hinst
  obtain ⟨methM', cM, hmethM', -, -, -, -, -, -, hsigM⟩ := Cond.code_spec hnamed hcode
  cases hmethM.symm.trans hmethM'
  obtain ⟨c2, r2, m2, q1, q2, q3, q4, kP, hkP, hkPi⟩ := Cond.selects_spec hsel
  cases hcls.symm.trans q1
  cases (State.methodFound?_of_named hnamed hy).symm.trans q2
  cases hnamed.symm.trans q3
  have hselP : selectMethod e.platform s.vm cellB.cls mk = .method mk := by rw [Launch.admits_selectMethod X.admits]; exact q4
  obtain ⟨vm₁, X₁, hstep₁⟩ := X.invokevirtual hexec hown hlink hnamed hmethM hstM hkP hkPi hy (a := b) (cell := cellB) hcell
    (fun z h => by rw [h] at hobj; cases hobj) hselP hmethM habM hkP hkPi (g := g) hg (argsL := argsL) (rest := rest) (hlen _ hsigM) hstack hdg
  rcases hK m meth c ⟨T.setVm vm₁, locs, cells, slots⟩ { g with stack := rest } (.invokevirtual index) mk (Value.ref b :: argsL).toArray X₁ hg hsize hdg hW (X₁.named hnamed) (hpre vm₁ X₁.warmed) with ⟨v, B, X', hpost, hsteps⟩ | ⟨q, B, X', hpost, hsteps⟩
  · exact Or.inl ⟨v, vm₁, B, X₁.warmed, X', hpost, fun target h => hstep₁ _ fun acts => by rw [doInvoke_state]; exact hsteps.trans h⟩
  · exact Or.inr ⟨q, vm₁, B, X₁.warmed, X', hpost, hstep₁ _ fun acts => by rw [doInvoke_state]; exact hsteps⟩
theorem vx_callS (X : Stand p l e R s m args below meth c T locs cells slots) (hexec : p.tables.exec = Jvm.exec) {own : String} {index : Nat} {y : MethodName} {bytes : ByteArray} {maxL : Nat} {ret : Option FieldType}
    (hown : s.vm.findClass own = some m.cls) (hlink : (Cond.methodLink own index y).before args s = true) (hstat : (Cond.static y).before args s = true) (hinit : (Cond.initialized y.cls).before args s = true)
    (hcode : (Cond.code y bytes maxL ret).before args s = true) (hy : y.cls ≠ "java/lang/invoke/MethodHandle" ∧ y.cls ≠ "java/lang/invoke/VarHandle")
    {W9 : Nat} {Pre : Pt → Array Value → Prop} {Post : Pt → Array Value → Option Value → Pt → Prop} {PostX : Pt → Array Value → Addr → Pt → Prop} (hK : vx_Back l R p e below s args y 3 W9 Pre Post PostX)
    {g : JFrame} (hg : g.method = m) (hsize : g.locals.size = c.maxLocals) {argsL rest : List Value} (hlen : ∀ sig, parseMethodDescriptor y.desc = some sig → argsL.length = sig.parameters.length)
    (hstack : g.stack = argsL.reverse ++ rest) (hW : 2 * g.monitorRoom + (rest.map fun v => v.category).sum ≤ W9) (hdg : decode c.code g.pc = .ok (.invokestatic index, 3))
    (hpre : ∀ vm₁, s.WarmedH vm₁ → Pre ⟨T.setVm vm₁, locs, cells, slots⟩ argsL.toArray) :
    (∃ (v : Option Value) (vm₁ : Vm) (B : Pt), s.WarmedH vm₁ ∧ Stand p l e R s m args below meth c B.U B.locs B.cells B.slots ∧ Post ⟨T.setVm vm₁, locs, cells, slots⟩ argsL.toArray v B ∧
      ∀ target, Steps p.tables e below (B.U.setTop { g with pc := g.pc + 3, stack := v.toList ++ rest }) target → Steps p.tables e below (T.setTop g) target) ∨
    (∃ (q : Addr) (vm₁ : Vm) (B : Pt), s.WarmedH vm₁ ∧ Stand p l e R s m args below meth c B.U B.locs B.cells B.slots ∧ PostX ⟨T.setVm vm₁, locs, cells, slots⟩ argsL.toArray q B ∧
      Steps p.tables e below (T.setTop g) ((B.U.setTop { g with stack := rest }).pushFrame (.throwing q))) := by
  obtain ⟨mk, hnamed⟩ := Cond.code_named hcode
  obtain ⟨methM, cM, hmethM, -, -, -, -, -, -, hsigM⟩ := Cond.code_spec hnamed hcode
  have hstatic : methM.isStatic = true := Cond.static_spec hnamed hmethM hstat
  obtain ⟨kP, hkP, -⟩ := className_of_methodNamed hnamed
  have hinitP : kP.init = .initialized := Cond.initialized_spec (findClass_of_methodNamed hnamed) hkP hinit
  obtain ⟨vm₁, X₁, hstep₁⟩ := X.invokestatic hexec hown hlink hnamed hmethM hstatic hkP hinitP hy (g := g) hg (argsL := argsL) (rest := rest) (hlen _ hsigM) hstack hdg
  rcases hK m meth c ⟨T.setVm vm₁, locs, cells, slots⟩ { g with stack := rest } (.invokestatic index) mk argsL.toArray X₁ hg hsize hdg hW (X₁.named hnamed) (hpre vm₁ X₁.warmed) with ⟨v, B, X', hpost, hsteps⟩ | ⟨q, B, X', hpost, hsteps⟩
  · exact Or.inl ⟨v, vm₁, B, X₁.warmed, X', hpost, fun target h => hstep₁ _ fun acts => by rw [doInvoke_state]; exact hsteps.trans h⟩
  · exact Or.inr ⟨q, vm₁, B, X₁.warmed, X', hpost, hstep₁ _ fun acts => by rw [doInvoke_state]; exact hsteps⟩
end Calls
theorem vx_cls {s : State} {T : State} {vm₁ : Vm} {E : String} {k : ClassId} (hW : s.WarmedH vm₁) (h : (T.setVm vm₁).vm.findClass E = some k) : s.vm.findClass E = some k := by
  have h1 : vm₁.findClass E = some k := h
  rw [hW.alike.findClass] at h1
  exact h1
/-- the method's frame g, with q thrown over it -/
def vx_W (p : Program) (l : Launch) (e : Env) (R : Room) (s : State) (m : MethodId) (args : Array Value) (below : List Frame) (meth : Method) (c : Code) (H : Heap) (locs : List Loc) (cells slots : Nat) (Q : State → Prop) (g : JFrame) (q : Addr) : Prop :=
  ∀ T : State, T.heap = H → Stand p l e R s m args below meth c T locs cells slots → ∃ t, Steps p.tables e below ((T.setTop g).pushFrame (.throwing q)) t ∧ Q t
def vx_Run (p : Program) (l : Launch) (e : Env) (R : Room) (s : State) (m : MethodId) (args : Array Value) (below : List Frame) (meth : Method) (c : Code) (H : Heap) (locs : List Loc) (cells slots mc ms : Nat) (g : JFrame) (rest : List Value) (Qa : State → Outcome → State → Prop) (XC : String → State → State → Prop) (free : Addr → Prop) : Prop :=
  ∀ T : State, T.heap = H → Stand p l e R s m args below meth c T locs cells slots →
    (∃ (v : Option Value) (st₀ t T' : State) (L : List Loc), st₀.heap = H ∧ Stand p l e R s m args below meth c T' (locs ++ L) (cells + mc) (slots + ms) ∧ (∀ q ∈ L, free q.base) ∧ T'.heap = t.heap ∧ T'.vm = t.vm ∧ Qa st₀ (.returned v) t ∧
      Goes p e below T g T' { g with pc := g.pc + 3, stack := v.toList ++ rest }) ∨
    (∃ (q : Addr) (st₀ t T' : State) (L : List Loc) (E : String) (ce : Cell), st₀.heap = H ∧ Stand p l e R s m args below meth c T' (locs ++ L) (cells + mc) (slots + ms) ∧ (∀ z ∈ L, free z.base) ∧ T'.heap = t.heap ∧ T'.vm = t.vm ∧ XC E st₀ t ∧ t.heap[q]? = some ce ∧ ce.vm = .none ∧ s.vm.findClass E = some ce.cls ∧
      Steps p.tables e below (T.setTop g) ((T'.setTop { g with stack := rest }).pushFrame (.throwing q)))
def vx_X {S : Type} (px : S → Prop) (B : String → S → State → Prop) (A : Nat → Prop) : String → State → State → Prop := fun E st t => ∃ u : S, px u ∧ B E u t ∧ va_F A st t
section Runs
variable {p : Program} {l : Launch} {e : Env} {R : Room} {s : State} {m : MethodId} {args : Array Value} {below : List Frame} {meth : Method} {c : Code} {H : Heap} {locs : List Loc} {cells slots : Nat}
variable {y : MethodName} {bytes cc : ByteArray} {maxL nL mc ms n index : Nat} {ret : Option FieldType} {ws : List Cond} {rm : Room} {Pc : Array Value → State → Prop} {Qc : Array Value → State → Outcome → State → Prop} {XC : String → State → State → Prop} {free : Addr → Prop} {Ts : List Cond} {own C : String} {b : Addr} {As rest : List Value} {g : JFrame}
theorem vx_callBack (cb : CallB R s args own index y bytes maxL ret ws rm mc ms n) (hM : vx_Met l y ws rm Pc Qc XC mc ms free) (hbl : FrameBlind Pc) : vx_Back l R p e below s args y 3 8 (PreOf R mc ms Pc) (PostOf Qc mc ms free) (vx_Post XC mc ms free) := by
  obtain ⟨hrc, hrs, hfr, hlo, hws, hcw, -, hini, -⟩ := cb
  exact vx_back (bytes := bytes) (maxL := maxL) (ret := ret) hM hbl hrc hrs hfr hlo hws hcw (fun a' U hW => word_at hW (Or.inl (by first | rfl | simp [Cond.onTables, Cond.keeps, Cond.steady])) hini)
theorem vx_runV (S : CallFix p m c cc nL s args Ts own) (hM : vx_Met l y ws rm Pc Qc XC mc ms free) (cw : CallW R s args own C index y bytes maxL ret ws rm mc ms n) (hp : PreV s H C b Pc As)
    (hg : g.method = m) (hn : As.length = n) (hsize : g.locals.size = nL) (hstack : g.stack = As.reverse ++ .ref b :: rest) (hW : 2 * g.monitorRoom + (rest.map fun v => v.category).sum ≤ 8) (hdg : decode cc g.pc = .ok (.invokevirtual index, 3)) (hf : cells + mc ≤ R.cells ∧ slots + ms ≤ R.slots) :
    vx_Run p l e R s m args below meth c H locs cells slots mc ms g rest (Qc (Value.ref b :: As).toArray) XC free := by
  have hK : vx_Back l R p e below s args y 3 8 (PreOf R mc ms Pc) (PostOf Qc mc ms free) (vx_Post XC mc ms free) := vx_callBack cw.1 hM hp.1
  obtain ⟨⟨-, -, -, -, -, -, hcode, -, hy, hlen, hl⟩, hin, hse⟩ := cw
  obtain ⟨hx, hb, hml, ho, -⟩ := S
  obtain ⟨-, ⟨cellB, hcB, hoB, hclB⟩, hPc⟩ := hp
  intro T hT X
  rcases vx_callV X hx (C := C) (bytes := bytes) (maxL := maxL) (ret := ret) ho hl hin hse hcode hy hK (by rw [hT]; exact hcB) hoB hclB hg (hsize.trans hml.symm) (argsL := As) (rest := rest) (fun sig h => hn.trans (hlen sig h)) hstack hW (by rw [hb]; exact hdg)
    (fun vm₁ hW₁ => ⟨hf.1, hf.2, hPc (T.setVm vm₁) hT hW₁⟩) with ⟨v, vm₁, ⟨U', l2, c2, s2⟩, hW₁, X', ⟨g', mk, t, L, e1, e2, hq, h1, hL, h2, h3⟩, st⟩ | ⟨q, vm₁, ⟨U', l2, c2, s2⟩, hW₁, X', ⟨g', mk, t, L, E, ce, e1, e2, hq, hce, hcv, hcl, h1, hL, h2, h3⟩, st⟩
  · dsimp only [Pt.U, Pt.locs, Pt.cells, Pt.slots] at X' e1 e2 h1 h2 h3 st
    subst h1; subst h2; subst h3
    exact Or.inl ⟨v, (T.setVm vm₁).calling g' mk (Value.ref b :: As).toArray, t, U', L, hT, X', hL, e1, e2, hq, st⟩
  · dsimp only [Pt.U, Pt.locs, Pt.cells, Pt.slots] at X' e1 e2 h1 h2 h3 st hcl
    subst h1; subst h2; subst h3
    exact Or.inr ⟨q, (T.setVm vm₁).calling g' mk (Value.ref b :: As).toArray, t, U', L, E, ce, hT, X', hL, e1, e2, hq, hce, hcv, vx_cls hW₁ hcl, st⟩
theorem vx_runS (S : CallFix p m c cc nL s args Ts own) (hM : vx_Met l y ws rm Pc Qc XC mc ms free) (cw : CallB R s args own index y bytes maxL ret ws rm mc ms n ∧ (Cond.static y).before args s = true) (hp : PreS s H Pc As)
    (hg : g.method = m) (hn : As.length = n) (hsize : g.locals.size = nL) (hstack : g.stack = As.reverse ++ rest) (hW : 2 * g.monitorRoom + (rest.map fun v => v.category).sum ≤ 8) (hdg : decode cc g.pc = .ok (.invokestatic index, 3)) (hf : cells + mc ≤ R.cells ∧ slots + ms ≤ R.slots) :
    vx_Run p l e R s m args below meth c H locs cells slots mc ms g rest (Qc As.toArray) XC free := by
  have hK : vx_Back l R p e below s args y 3 8 (PreOf R mc ms Pc) (PostOf Qc mc ms free) (vx_Post XC mc ms free) := vx_callBack cw.1 hM hp.1
  obtain ⟨⟨-, -, -, -, -, -, hcode, hini, hy, hlen, hl⟩, hstt⟩ := cw
  obtain ⟨hx, hb, hml, ho, -⟩ := S
  intro T hT X
  rcases vx_callS X hx (bytes := bytes) (maxL := maxL) (ret := ret) ho hl hstt hini hcode hy hK hg (hsize.trans hml.symm) (argsL := As) (rest := rest) (fun sig h => hn.trans (hlen sig h)) hstack hW (by rw [hb]; exact hdg)
    (fun vm₁ hW₁ => ⟨hf.1, hf.2, hp.2 (T.setVm vm₁) hT hW₁⟩) with ⟨v, vm₁, ⟨U', l2, c2, s2⟩, hW₁, X', ⟨g', mk, t, L, e1, e2, hq, h1, hL, h2, h3⟩, st⟩ | ⟨q, vm₁, ⟨U', l2, c2, s2⟩, hW₁, X', ⟨g', mk, t, L, E, ce, e1, e2, hq, hce, hcv, hcl, h1, hL, h2, h3⟩, st⟩
  · dsimp only [Pt.U, Pt.locs, Pt.cells, Pt.slots] at X' e1 e2 h1 h2 h3 st
    subst h1; subst h2; subst h3
    exact Or.inl ⟨v, (T.setVm vm₁).calling g' mk As.toArray, t, U', L, hT, X', hL, e1, e2, hq, st⟩
  · dsimp only [Pt.U, Pt.locs, Pt.cells, Pt.slots] at X' e1 e2 h1 h2 h3 st hcl
    subst h1; subst h2; subst h3
    exact Or.inr ⟨q, (T.setVm vm₁).calling g' mk As.toArray, t, U', L, E, ce, hT, X', hL, e1, e2, hq, hce, hcv, vx_cls hW₁ hcl, st⟩
end Runs
section Rows
variable {p : Program} {l : Launch} {e : Env} {R : Room} {s : State} {m : MethodId} {args : Array Value} {below : List Frame} {meth : Method} {c : Code} {H : Heap} {locs : List Loc} {cells slots : Nat} {Q : State → Prop}
variable {mc ms : Nat} {free : Addr → Prop} {A0 A1 : Nat → Prop} {H0 : Heap} {a : Array Value} {pc : Nat} {ls : Array Slot} {st0 rest : List Value}
theorem vx_keep {st₀ t T' : State} {L : List Loc} (h0 : st₀.heap = H) (e1 : T'.heap = t.heap) (hS : va_S A0 H0 H locs) (hA : ∀ q, q < H.size → A1 q → A0 q) (hf : ∀ q, free q → A0 q) (hL : ∀ q ∈ L, free q.base) (hF : va_F A1 st₀ t) :
    H.size ≤ T'.heap.size ∧ (∀ q : Nat, q < H.size → ¬ A1 q → T'.heap[q]? = H[q]?) ∧ va_S A0 H0 T'.heap (locs ++ L) := by
  obtain ⟨hz, hk⟩ := hF
  rw [h0] at hz hk
  exact ⟨by rw [e1]; exact hz, fun q h1 h2 => by rw [e1]; exact hk q h1 h2,
    ⟨Nat.le_trans hS.1 (by rw [e1]; exact hz), fun q h1 h2 => by rw [e1, hk q (Nat.lt_of_lt_of_le h1 hS.1) (fun z => h2 (hA q (Nat.lt_of_lt_of_le h1 hS.1) z))]; exact hS.2.1 q h1 h2, fun q hq => by
      rcases List.mem_append.mp hq with h | h
      · exact hS.2.2 q h
      · exact hf _ (hL q h)⟩⟩
theorem vx_calli {S SX : Type} {post : Int32 → S → Prop} {px : SX → Prop} {B : S → State → Prop} {BX : String → SX → State → Prop} {AX : Nat → Prop} (hr : vx_Run p l e R s m args below meth c H locs cells slots mc ms (F0 m pc ls st0) rest (va_Qi post B A1 a) (vx_X px BX AX) free) (hS : va_S A0 H0 H locs) (hA : ∀ q, q < H.size → A1 q → A0 q) (hf : ∀ q, free q → A0 q) (hAX : ∀ q, q < H.size → AX q → A0 q)
    (kx : ∀ (E : String) (ce : Cell) (q9 : Addr) (u : SX) (t : State) (H1 : Heap) (locs1 : List Loc), t.heap = H1 → s.vm.Alike t.vm → px u → BX E u t → H.size ≤ H1.size → (∀ q : Nat, q < H.size → ¬ AX q → H1[q]? = H[q]?) → va_S A0 H0 H1 locs1 → H1[q9]? = some ce → ce.vm = .none → s.vm.findClass E = some ce.cls → vx_W p l e R s m args below meth c H1 locs1 (cells + mc) (slots + ms) Q (F0 m pc ls rest) q9)
    (kk : ∀ (r : Int32) (u : S) (t : State) (H1 : Heap) (locs1 : List Loc), t.heap = H1 → s.vm.Alike t.vm → post r u → B u t → H.size ≤ H1.size → (∀ q : Nat, q < H.size → ¬ A1 q → H1[q]? = H[q]?) → va_S A0 H0 H1 locs1 → W p l e R s m args below meth c H1 locs1 (cells + mc) (slots + ms) Q (F0 m (pc + 3) ls (.int r :: rest))) : W p l e R s m args below meth c H locs cells slots Q (F0 m pc ls st0) := by
  intro T hT X
  rcases hr T hT X with ⟨v, st₀, t, T', L, h0, X', hL, e1, e2, ⟨⟨r, u, hv, hp, hb⟩, hF⟩, st⟩ | ⟨q, st₀, t, T', L, E, ce, h0, X', hL, e1, e2, ⟨u, hp, hb, hF⟩, hce, hcv, hcl, st⟩
  · cases hv
    obtain ⟨k1, k2, k3⟩ := vx_keep h0 e1 hS hA hf hL hF
    obtain ⟨t2, a1, b1⟩ := kk r u t T'.heap (locs ++ L) e1.symm (by rw [← e2]; exact X'.warmed.alike) hp hb k1 k2 k3 T' rfl X'
    exact ⟨t2, st t2 a1, b1⟩
  · obtain ⟨k1, k2, k3⟩ := vx_keep h0 e1 hS hAX hf hL hF
    obtain ⟨t2, a1, b1⟩ := kx E ce q u t T'.heap (locs ++ L) e1.symm (by rw [← e2]; exact X'.warmed.alike) hp hb k1 k2 k3 (by rw [e1]; exact hce) hcv hcl T' rfl X'
    exact ⟨t2, st.trans a1, b1⟩
theorem vx_calll {S SX : Type} {post : Int64 → S → Prop} {px : SX → Prop} {B : S → State → Prop} {BX : String → SX → State → Prop} {AX : Nat → Prop} (hr : vx_Run p l e R s m args below meth c H locs cells slots mc ms (F0 m pc ls st0) rest (va_Ql post B A1 a) (vx_X px BX AX) free) (hS : va_S A0 H0 H locs) (hA : ∀ q, q < H.size → A1 q → A0 q) (hf : ∀ q, free q → A0 q) (hAX : ∀ q, q < H.size → AX q → A0 q)
    (kx : ∀ (E : String) (ce : Cell) (q9 : Addr) (u : SX) (t : State) (H1 : Heap) (locs1 : List Loc), t.heap = H1 → s.vm.Alike t.vm → px u → BX E u t → H.size ≤ H1.size → (∀ q : Nat, q < H.size → ¬ AX q → H1[q]? = H[q]?) → va_S A0 H0 H1 locs1 → H1[q9]? = some ce → ce.vm = .none → s.vm.findClass E = some ce.cls → vx_W p l e R s m args below meth c H1 locs1 (cells + mc) (slots + ms) Q (F0 m pc ls rest) q9)
    (kk : ∀ (r : Int64) (u : S) (t : State) (H1 : Heap) (locs1 : List Loc), t.heap = H1 → s.vm.Alike t.vm → post r u → B u t → H.size ≤ H1.size → (∀ q : Nat, q < H.size → ¬ A1 q → H1[q]? = H[q]?) → va_S A0 H0 H1 locs1 → W p l e R s m args below meth c H1 locs1 (cells + mc) (slots + ms) Q (F0 m (pc + 3) ls (.long r :: rest))) : W p l e R s m args below meth c H locs cells slots Q (F0 m pc ls st0) := by
  intro T hT X
  rcases hr T hT X with ⟨v, st₀, t, T', L, h0, X', hL, e1, e2, ⟨⟨r, u, hv, hp, hb⟩, hF⟩, st⟩ | ⟨q, st₀, t, T', L, E, ce, h0, X', hL, e1, e2, ⟨u, hp, hb, hF⟩, hce, hcv, hcl, st⟩
  · cases hv
    obtain ⟨k1, k2, k3⟩ := vx_keep h0 e1 hS hA hf hL hF
    obtain ⟨t2, a1, b1⟩ := kk r u t T'.heap (locs ++ L) e1.symm (by rw [← e2]; exact X'.warmed.alike) hp hb k1 k2 k3 T' rfl X'
    exact ⟨t2, st t2 a1, b1⟩
  · obtain ⟨k1, k2, k3⟩ := vx_keep h0 e1 hS hAX hf hL hF
    obtain ⟨t2, a1, b1⟩ := kx E ce q u t T'.heap (locs ++ L) e1.symm (by rw [← e2]; exact X'.warmed.alike) hp hb k1 k2 k3 (by rw [e1]; exact hce) hcv hcl T' rfl X'
    exact ⟨t2, st.trans a1, b1⟩
theorem vx_callf {S SX : Type} {post : UInt32 → S → Prop} {px : SX → Prop} {B : S → State → Prop} {BX : String → SX → State → Prop} {AX : Nat → Prop} (hr : vx_Run p l e R s m args below meth c H locs cells slots mc ms (F0 m pc ls st0) rest (va_Qf post B A1 a) (vx_X px BX AX) free) (hS : va_S A0 H0 H locs) (hA : ∀ q, q < H.size → A1 q → A0 q) (hf : ∀ q, free q → A0 q) (hAX : ∀ q, q < H.size → AX q → A0 q)
    (kx : ∀ (E : String) (ce : Cell) (q9 : Addr) (u : SX) (t : State) (H1 : Heap) (locs1 : List Loc), t.heap = H1 → s.vm.Alike t.vm → px u → BX E u t → H.size ≤ H1.size → (∀ q : Nat, q < H.size → ¬ AX q → H1[q]? = H[q]?) → va_S A0 H0 H1 locs1 → H1[q9]? = some ce → ce.vm = .none → s.vm.findClass E = some ce.cls → vx_W p l e R s m args below meth c H1 locs1 (cells + mc) (slots + ms) Q (F0 m pc ls rest) q9)
    (kk : ∀ (r : UInt32) (u : S) (t : State) (H1 : Heap) (locs1 : List Loc), t.heap = H1 → s.vm.Alike t.vm → post r u → B u t → H.size ≤ H1.size → (∀ q : Nat, q < H.size → ¬ A1 q → H1[q]? = H[q]?) → va_S A0 H0 H1 locs1 → W p l e R s m args below meth c H1 locs1 (cells + mc) (slots + ms) Q (F0 m (pc + 3) ls (.float r :: rest))) : W p l e R s m args below meth c H locs cells slots Q (F0 m pc ls st0) := by
  intro T hT X
  rcases hr T hT X with ⟨v, st₀, t, T', L, h0, X', hL, e1, e2, ⟨⟨r, u, hv, hp, hb⟩, hF⟩, st⟩ | ⟨q, st₀, t, T', L, E, ce, h0, X', hL, e1, e2, ⟨u, hp, hb, hF⟩, hce, hcv, hcl, st⟩
  · cases hv
    obtain ⟨k1, k2, k3⟩ := vx_keep h0 e1 hS hA hf hL hF
    obtain ⟨t2, a1, b1⟩ := kk r u t T'.heap (locs ++ L) e1.symm (by rw [← e2]; exact X'.warmed.alike) hp hb k1 k2 k3 T' rfl X'
    exact ⟨t2, st t2 a1, b1⟩
  · obtain ⟨k1, k2, k3⟩ := vx_keep h0 e1 hS hAX hf hL hF
    obtain ⟨t2, a1, b1⟩ := kx E ce q u t T'.heap (locs ++ L) e1.symm (by rw [← e2]; exact X'.warmed.alike) hp hb k1 k2 k3 (by rw [e1]; exact hce) hcv hcl T' rfl X'
    exact ⟨t2, st.trans a1, b1⟩
theorem vx_calld {S SX : Type} {post : UInt64 → S → Prop} {px : SX → Prop} {B : S → State → Prop} {BX : String → SX → State → Prop} {AX : Nat → Prop} (hr : vx_Run p l e R s m args below meth c H locs cells slots mc ms (F0 m pc ls st0) rest (va_Qd post B A1 a) (vx_X px BX AX) free) (hS : va_S A0 H0 H locs) (hA : ∀ q, q < H.size → A1 q → A0 q) (hf : ∀ q, free q → A0 q) (hAX : ∀ q, q < H.size → AX q → A0 q)
    (kx : ∀ (E : String) (ce : Cell) (q9 : Addr) (u : SX) (t : State) (H1 : Heap) (locs1 : List Loc), t.heap = H1 → s.vm.Alike t.vm → px u → BX E u t → H.size ≤ H1.size → (∀ q : Nat, q < H.size → ¬ AX q → H1[q]? = H[q]?) → va_S A0 H0 H1 locs1 → H1[q9]? = some ce → ce.vm = .none → s.vm.findClass E = some ce.cls → vx_W p l e R s m args below meth c H1 locs1 (cells + mc) (slots + ms) Q (F0 m pc ls rest) q9)
    (kk : ∀ (r : UInt64) (u : S) (t : State) (H1 : Heap) (locs1 : List Loc), t.heap = H1 → s.vm.Alike t.vm → post r u → B u t → H.size ≤ H1.size → (∀ q : Nat, q < H.size → ¬ A1 q → H1[q]? = H[q]?) → va_S A0 H0 H1 locs1 → W p l e R s m args below meth c H1 locs1 (cells + mc) (slots + ms) Q (F0 m (pc + 3) ls (.double r :: rest))) : W p l e R s m args below meth c H locs cells slots Q (F0 m pc ls st0) := by
  intro T hT X
  rcases hr T hT X with ⟨v, st₀, t, T', L, h0, X', hL, e1, e2, ⟨⟨r, u, hv, hp, hb⟩, hF⟩, st⟩ | ⟨q, st₀, t, T', L, E, ce, h0, X', hL, e1, e2, ⟨u, hp, hb, hF⟩, hce, hcv, hcl, st⟩
  · cases hv
    obtain ⟨k1, k2, k3⟩ := vx_keep h0 e1 hS hA hf hL hF
    obtain ⟨t2, a1, b1⟩ := kk r u t T'.heap (locs ++ L) e1.symm (by rw [← e2]; exact X'.warmed.alike) hp hb k1 k2 k3 T' rfl X'
    exact ⟨t2, st t2 a1, b1⟩
  · obtain ⟨k1, k2, k3⟩ := vx_keep h0 e1 hS hAX hf hL hF
    obtain ⟨t2, a1, b1⟩ := kx E ce q u t T'.heap (locs ++ L) e1.symm (by rw [← e2]; exact X'.warmed.alike) hp hb k1 k2 k3 (by rw [e1]; exact hce) hcv hcl T' rfl X'
    exact ⟨t2, st.trans a1, b1⟩
theorem vx_callv {S SX : Type} {post : S → Prop} {px : SX → Prop} {B : S → State → Prop} {BX : String → SX → State → Prop} {AX : Nat → Prop} (hr : vx_Run p l e R s m args below meth c H locs cells slots mc ms (F0 m pc ls st0) rest (va_Qv post B A1 a) (vx_X px BX AX) free) (hS : va_S A0 H0 H locs) (hA : ∀ q, q < H.size → A1 q → A0 q) (hf : ∀ q, free q → A0 q) (hAX : ∀ q, q < H.size → AX q → A0 q)
    (kx : ∀ (E : String) (ce : Cell) (q9 : Addr) (u : SX) (t : State) (H1 : Heap) (locs1 : List Loc), t.heap = H1 → s.vm.Alike t.vm → px u → BX E u t → H.size ≤ H1.size → (∀ q : Nat, q < H.size → ¬ AX q → H1[q]? = H[q]?) → va_S A0 H0 H1 locs1 → H1[q9]? = some ce → ce.vm = .none → s.vm.findClass E = some ce.cls → vx_W p l e R s m args below meth c H1 locs1 (cells + mc) (slots + ms) Q (F0 m pc ls rest) q9)
    (kk : ∀ (u : S) (t : State) (H1 : Heap) (locs1 : List Loc), t.heap = H1 → s.vm.Alike t.vm → post u → B u t → H.size ≤ H1.size → (∀ q : Nat, q < H.size → ¬ A1 q → H1[q]? = H[q]?) → va_S A0 H0 H1 locs1 → W p l e R s m args below meth c H1 locs1 (cells + mc) (slots + ms) Q (F0 m (pc + 3) ls (rest))) : W p l e R s m args below meth c H locs cells slots Q (F0 m pc ls st0) := by
  intro T hT X
  rcases hr T hT X with ⟨v, st₀, t, T', L, h0, X', hL, e1, e2, ⟨⟨u, hv, hp, hb⟩, hF⟩, st⟩ | ⟨q, st₀, t, T', L, E, ce, h0, X', hL, e1, e2, ⟨u, hp, hb, hF⟩, hce, hcv, hcl, st⟩
  · cases hv
    obtain ⟨k1, k2, k3⟩ := vx_keep h0 e1 hS hA hf hL hF
    obtain ⟨t2, a1, b1⟩ := kk u t T'.heap (locs ++ L) e1.symm (by rw [← e2]; exact X'.warmed.alike) hp hb k1 k2 k3 T' rfl X'
    exact ⟨t2, st t2 a1, b1⟩
  · obtain ⟨k1, k2, k3⟩ := vx_keep h0 e1 hS hAX hf hL hF
    obtain ⟨t2, a1, b1⟩ := kx E ce q u t T'.heap (locs ++ L) e1.symm (by rw [← e2]; exact X'.warmed.alike) hp hb k1 k2 k3 (by rw [e1]; exact hce) hcv hcl T' rfl X'
    exact ⟨t2, st.trans a1, b1⟩
/-- caught by the row x of this method's table; the rows ahead don't take it -/
theorem vx_catch {own name : String} {E : String} {ce : Cell} {q : Addr} (hown : s.vm.findClass own = some m.cls) (pre : List ExceptionTableEntry) (x : ExceptionTableEntry) (suf : List ExceptionTableEntry) (hsplit : c.exceptionTable.toList = pre ++ x :: suf)
    (hpass : ∀ z ∈ pre, covers z pc = false ∨ (z.catchType ≠ 0 ∧ ∃ nm : String, (Cond.classLink own z.catchType nm).before args s = true ∧ va_Nc E nm s)) (hx : covers x pc = true) (h0 : x.catchType ≠ 0)
    (hlink : (Cond.classLink own x.catchType name).before args s = true) (hcast : (Cond.castable E name).before args s = true) (hcell : H[q]? = some ce) (hv : ce.vm = .none) (hcl : s.vm.findClass E = some ce.cls)
    (kk : W p l e R s m args below meth c H locs cells slots Q (F0 m x.handlerPc ls [.ref q])) : vx_W p l e R s m args below meth c H locs cells slots Q (F0 m pc ls rest) q := by
  intro T hT X
  have hpl : e.platform.magicAccessors = ({} : Platform).magicAccessors := by rw [X.admits.platform]
  obtain ⟨c3, c4, hc3, hc4, hasg⟩ := Cond.castable_spec hcast
  cases Option.some.inj (hc3.symm.trans hcl)
  obtain ⟨c5, hc5, hcl5⟩ := Cond.classLink_spec hown hlink e.platform hpl
  cases Option.some.inj (hc4.symm.trans hc5)
  obtain ⟨vm', X', st⟩ := X.thenCaughtThrough q (g := F0 m pc ls rest) rfl (Steps.refl _) (by rw [hT]; exact hcell) (by rw [hv]; rfl) (by obtain ⟨k9, h9, -⟩ := Vm.findClass_spec hcl; exact ⟨k9, h9⟩) pre x suf hsplit
    (fun z hz => by
      rcases hpass z hz with h | ⟨hz0, nm, hl1, hn1⟩
      · exact Or.inl h
      · obtain ⟨c6, hc6, hcl6⟩ := Cond.classLink_spec hown hl1 e.platform hpl
        obtain ⟨a8, b8, h1, h2, h3⟩ := hn1
        cases Option.some.inj (h1.symm.trans hcl)
        cases Option.some.inj (h2.symm.trans hc6)
        exact Or.inr ⟨hz0, _, hcl6, h3⟩) hx (Or.inr ⟨h0, c4, hcl5, hasg⟩)
  obtain ⟨t, a1, b1⟩ := kk (T.setVm vm') hT X'
  exact ⟨t, st.trans a1, b1⟩
end Rows
section Ends
variable {p : Program} {l : Launch} {e : Env} {R : Room} {s : State} {m : MethodId} {args : Array Value} {below : List Frame} {meth : Method} {c : Code} {H : Heap} {locs : List Loc} {cells slots : Nat} {Q : State → Prop}
variable {mc ms : Nat} {free : Addr → Prop} {A0 A1 : Nat → Prop} {H0 : Heap} {a : Array Value} {ls : Array Slot} {st0 rest : List Value}
variable {Qc : Array Value → State → Outcome → State → Prop} {XC : String → State → State → Prop}
/-- what a body that may throw owes at its end -/
def vx_MQ (below : List Frame) (Qc : Array Value → State → Outcome → State → Prop) (XC : String → State → State → Prop) (a : Array Value) (s : State) (mc ms : Nat) (free : Addr → Prop) : State → Prop := fun t =>
  ∃ o, t.status = .running ∧ Ended t below o ∧ vx_Q Qc XC mc ms free a s o t
theorem vx_ret {g : JFrame} {mc ms : Nat} (k : W p l e R s m args below meth c H locs cells slots (MQ below Qc args s mc ms free) g) : W p l e R s m args below meth c H locs cells slots (vx_MQ below Qc XC args s mc ms free) g := by
  intro T hT X
  obtain ⟨t, a1, o, b1, b2, b3, b4⟩ := k T hT X
  exact ⟨t, a1, o, b1, b2, Or.inl ⟨b3, b4⟩⟩
/-- not caught here: it goes on to the caller -/
theorem vx_widen {g : JFrame} {q : Addr} {k n : Nat} (h1 : cells ≤ k) (h2 : slots ≤ n) (kk : vx_W p l e R s m args below meth c H locs k n Q g q) : vx_W p l e R s m args below meth c H locs cells slots Q g q := fun T hT X => kk T hT (stand_widen X h1 h2)
theorem vx_out {pc : Nat} {E : String} {ce : Cell} {q : Addr} {mc ms : Nat} (hout : ∀ x ∈ c.exceptionTable.toList, covers x pc = false) (hlocks : meth.locks = false) (hcell : H[q]? = some ce) (hv : ce.vm = .none) (hcl : s.vm.findClass E = some ce.cls)
    (hx : ∀ t : State, t.heap = H → s.vm.Alike t.vm → XC E s t) (hf : ∀ z ∈ locs, free z.base) (hc : cells ≤ mc) (hs : slots ≤ ms) :
    vx_W p l e R s m args below meth c H locs cells slots (vx_MQ below Qc XC args s mc ms free) (F0 m pc ls rest) q := by
  intro T hT X
  obtain ⟨st1, hrun, hend, hW, hsm⟩ := X.leaveThrown q (g := F0 m pc ls rest) rfl rfl rfl hout hlocks
  have hcell9 : (T.setFrames (.throwing q :: below)).heap[q]? = some ce := by
    show T.heap[q]? = some ce
    rw [hT]; exact hcell
  exact ⟨_, st1, .threw q, hrun, hend, Or.inr ⟨q, rfl, E, ce, locs, hx _ hT hW.alike, hcell9, hv, hcl, hW, hsm.mono hc hs, hf⟩⟩
theorem vx_frame {U : State} {k n : Nat} (h : s.sameButNew ({ U with vm := s.vm } : State) locs k n) : s.heap.size ≤ U.heap.size ∧ ∀ q : Nat, q < s.heap.size → (∀ z ∈ locs, z.base ≠ q) → U.heap[q]? = s.heap[q]? := by
  obtain ⟨-, h2, -, -, -, h6⟩ := h
  refine ⟨h2, fun q hq hz => ?_⟩
  obtain ⟨c9, e1, e2, e3, e4⟩ := h6 q _ (Array.getElem?_eq_getElem hq)
  have hs : c9.slots = (s.heap[q]).slots := Array.ext_getElem? fun i => e4 i fun hm => hz _ hm rfl
  have h9 : c9 = s.heap[q] := by
    rw [hs] at e2
    exact e2
  have e5 : U.heap[q]? = some c9 := e1
  rw [e5, h9, Array.getElem?_eq_getElem hq]
/-- the words of a throw but the four that speak of the heap -/
def vx_no (w : Cond) : Bool := decide (w ≠ .isRef (.static Bundle.tN "UNASSIGNED_STACK" Bundle.steD)) && decide (w ≠ .isRef (.static Bundle.tN "SUPPRESSED_SENTINEL" Bundle.listD)) && decide (w ≠ .laysStatic Bundle.tN "UNASSIGNED_STACK" Bundle.steD) && decide (w ≠ .laysStatic Bundle.tN "SUPPRESSED_SENTINEL" Bundle.listD)
def vx_at0 (own : String) (ic : Nat) (X : String) (names : List String) : List Cond := (Bundle.ownAtoms0 own ic X names).filter vx_no
def vx_atS (own : String) (ic : Nat) (X : String) (names : List String) : List Cond := (Bundle.ownAtoms own ic X names).filter vx_no
/-- a word that the tables alone decide, or a good one -/
def vx_ot (w : Cond) : Bool := w.onTables || goodWord w
theorem vx_ot_at {args a' : Array Value} {s U : State} {w : Cond} (hW : s.WarmedH U.vm) (hvm : s.vm = U.vm) (hg : vx_ot w = true) (h : w.before args s = true) : w.before a' U = true := by
  simp only [vx_ot, Bool.or_eq_true] at hg
  rcases hg with hg | hg
  · exact va_tabs hg hvm h
  · exact word_at hW (good_of_word hg) h
/-- a list's words: the good ones out of the method's own list, the others by premises of their own -/
theorem vx_hat {args : Array Value} {s : State} {L B : List Cond} (h1 : ∀ w ∈ L.filter goodWord, w.before args s = true) (h2 : ∀ w ∈ L.filter (fun w => !goodWord w), w ∈ B) (h3 : ∀ w ∈ B, w.before args s = true) : ∀ w ∈ L, w.before args s = true := by
  intro w hw
  by_cases g : goodWord w = true
  · exact h1 w (List.mem_filter.mpr ⟨hw, g⟩)
  · refine h3 w (h2 w (List.mem_filter.mpr ⟨hw, ?_⟩))
    show (!goodWord w) = true
    cases hgw : goodWord w
    · rfl
    · exact absurd hgw g
theorem vx_c {args : Array Value} {s : State} {w : Cond} {B : List Cond} (h : w.before args s = true) (t : ∀ w ∈ B, w.before args s = true) : ∀ w' ∈ w :: B, w'.before args s = true := fun w' h' => (List.mem_cons.mp h').elim (fun e => by rw [e]; exact h) (t w')
theorem vx_n {args : Array Value} {s : State} : ∀ w ∈ ([] : List Cond), w.before args s = true := fun _ h => nomatch h
theorem vx_own {args : Array Value} {s : State} {L : List Cond} (h1 : ∀ w ∈ L.filter vx_no, w.before args s = true)
    (hU : (Cond.isRef (.static Bundle.tN "UNASSIGNED_STACK" Bundle.steD)).before args s = true) (hN : (Cond.isRef (.static Bundle.tN "SUPPRESSED_SENTINEL" Bundle.listD)).before args s = true)
    (lU : (Cond.laysStatic Bundle.tN "UNASSIGNED_STACK" Bundle.steD).before args s = true) (lN : (Cond.laysStatic Bundle.tN "SUPPRESSED_SENTINEL" Bundle.listD).before args s = true) : ∀ w ∈ L, w.before args s = true := by
  intro w hw
  by_cases e1 : w = .isRef (.static Bundle.tN "UNASSIGNED_STACK" Bundle.steD)
  · rw [e1]; exact hU
  · by_cases e2 : w = .isRef (.static Bundle.tN "SUPPRESSED_SENTINEL" Bundle.listD)
    · rw [e2]; exact hN
    · by_cases e3 : w = .laysStatic Bundle.tN "UNASSIGNED_STACK" Bundle.steD
      · rw [e3]; exact lU
      · by_cases e4 : w = .laysStatic Bundle.tN "SUPPRESSED_SENTINEL" Bundle.listD
        · rw [e4]; exact lN
        · exact h1 w (List.mem_filter.mpr ⟨hw, by unfold vx_no; rw [decide_eq_true e1, decide_eq_true e2, decide_eq_true e3, decide_eq_true e4]; rfl⟩)
/-- where a static field lies, its class's statics cell in H -/
def vx_L (C n d : String) (A : Nat → Prop) (U : State) (H : Heap) : Prop := ∃ (c : ClassId) (k : Class) (i : Nat) (f : Field) (a : Nat) (cell : Cell), U.vm.findClass C = some c ∧ U.fieldFound? C n d = some (c, k, i, f) ∧ f.isStatic = true ∧ k.statics = some a ∧ H[a]? = some cell ∧ cell.vm.isStatics = true ∧ cell.cls = c ∧ f.slot < cell.slots.size ∧ k.staticTypes[f.slot]? = some f.type ∧ ¬ A a
theorem vx_L.moved {C n d : String} {A : Nat → Prop} {u U : State} {H : Heap} (hvm : u.vm.Alike U.vm) (h : vx_L C n d A u H) : vx_L C n d A U H := by
  obtain ⟨c, k, i, f, a, cell, h1, h2, h3, h4, h5, h6, h7, h8, h9, h10⟩ := h
  obtain ⟨k', hi', he⟩ := State.fieldFound?_setVm hvm h2
  exact ⟨c, k', i, f, a, cell, by rw [hvm.findClass]; exact h1, hi', h3, by rw [he]; exact h4, h5, h6, h7, h8, by rw [he]; exact h9, h10⟩
theorem vx_L.kept {C n d : String} {A : Nat → Prop} {U : State} {H H1 : Heap} (h : vx_L C n d A U H) (hq : ∀ a : Nat, a < H.size → ¬ A a → H1[a]? = H[a]?) : vx_L C n d A U H1 := by
  obtain ⟨c, k, i, f, a, cell, h1, h2, h3, h4, h5, h6, h7, h8, h9, h10⟩ := h
  exact ⟨c, k, i, f, a, cell, h1, h2, h3, h4, by rw [hq a (Array.getElem?_eq_some_iff.mp h5).1 h10]; exact h5, h6, h7, h8, h9, h10⟩
theorem vx_L.narrow {C n d : String} {A B : Nat → Prop} {U : State} {H : Heap} (h : vx_L C n d A U H) (hAB : ∀ q, B q → A q) : vx_L C n d B U H := by
  obtain ⟨c, k, i, f, a, cell, h1, h2, h3, h4, h5, h6, h7, h8, h9, h10⟩ := h
  exact ⟨c, k, i, f, a, cell, h1, h2, h3, h4, h5, h6, h7, h8, h9, fun z => h10 (hAB _ z)⟩
theorem vx_L.word {C n d : String} {A : Nat → Prop} {s : State} {args : Array Value} (h : vx_L C n d A s s.heap) : (Cond.laysStatic C n d).before args s = true := by
  obtain ⟨c, k, i, f, a, cell, h1, h2, h3, h4, h5, h6, h7, h8, h9, -⟩ := h
  show (Cond.laysStatic C n d).holds args s none s [] = true
  exact Cond.laysStatic_of h1 h2 h3 h4 h5 h6 h7 h8 h9
/-- .. and what it holds: null or some reference -/
def vx_Zq (C n d : String) (A : Nat → Prop) (U : State) (H : Heap) : Prop := va_Zq C n d A U H ∧ vx_L C n d A U H
theorem vx_Zq.moved {C n d : String} {A : Nat → Prop} {u U : State} {H : Heap} (hvm : u.vm.Alike U.vm) (h : vx_Zq C n d A u H) : vx_Zq C n d A U H := ⟨va_Zq.moved hvm h.1, vx_L.moved hvm h.2⟩
theorem vx_Zq.kept {C n d : String} {A : Nat → Prop} {U : State} {H H1 : Heap} (h : vx_Zq C n d A U H) (hq : ∀ a : Nat, a < H.size → ¬ A a → H1[a]? = H[a]?) : vx_Zq C n d A U H1 := ⟨va_Zq.kept h.1 hq, vx_L.kept h.2 hq⟩
theorem vx_Zq.narrow {C n d : String} {A B : Nat → Prop} {U : State} {H : Heap} (h : vx_Zq C n d A U H) (hAB : ∀ q, B q → A q) : vx_Zq C n d B U H := ⟨va_Zq.narrow h.1 hAB, vx_L.narrow h.2 hAB⟩
theorem vx_Zqof {args : Array Value} {s : State} {C n d : String} {A : Nat → Prop} (hl : (Cond.laysStatic C n d).before args s = true) (hini : (Cond.initialized C).before args s = true) (h : (Cond.isRef (.static C n d)).before args s = true) (hA : ∀ a : Nat, a < s.heap.size → ¬ A a) : vx_Zq C n d A s s.heap := by
  refine ⟨va_Zqof hl hini h hA, ?_⟩
  obtain ⟨c, k, i, f, a, cell, h1, h2, h3, h4, h5, h6, h7, h8, h9⟩ := Cond.laysStatic_spec hl
  exact ⟨c, k, i, f, a, cell, h1, h2, h3, h4, h5, h6, h7, h8, h9, hA a (Array.getElem?_eq_some_iff.mp h5).1⟩
theorem vx_isRef {C n d : String} {v : Value} {A : Nat → Prop} {s : State} {args : Array Value} (h : va_Z C n d v A s s.heap) (hv : v.isRef = true) : (Cond.isRef (.static C n d)).before args s = true := by
  obtain ⟨cf, kf, fi, f, a, cell, h1, h2, h3, h4, h5, h6, h7, -⟩ := h
  have he : (Term.static C n d).eval args s none [] s = some v := by
    simp [Term.eval, State.fieldNamed?, h1, h2, h4, h5, h6, h7]
  simp only [Cond.before, Cond.holds, Cond.value, he]
  cases v <;> simp_all [Value.isRef]
theorem vx_isRefq {C n d : String} {A : Nat → Prop} {s : State} {args : Array Value} (h : va_Zq C n d A s s.heap) : (Cond.isRef (.static C n d)).before args s = true := by
  rcases h with h | ⟨t, h⟩
  · exact vx_isRef h rfl
  · exact vx_isRef h rfl
/-- the same frame, seen from here: as if the method were called anew in this heap -/
theorem vx_rebase {T : State} (X : Stand p l e R s m args below meth c T locs cells slots) {R' : Room} (hf : R'.frames ≤ R.frames) (hl : R'.locals ≤ R.locals) (hc : cells + R'.cells ≤ R.cells) (hs : slots + R'.slots ≤ R.slots) :
    Stand p l e R' ((T.setVm s.vm).setFrames (.invoking m args :: below)) m args below meth c T [] 0 0 := by
  have htop : (T.setVm s.vm).topJava?.isSome := X.here.top
  have hF : ((T.setVm s.vm).setFrames (.invoking m args :: below)).frames = .invoking m args :: below := State.frames_setFrames _ (State.cur_lt_of_top htop)
  obtain ⟨g₀, hg0⟩ := Option.isSome_iff_exists.mp htop
  obtain ⟨r, hr⟩ := State.topJava?_eq_some.mp hg0
  have hl9 : e.platform.stackLimits (T.setVm s.vm).me = e.platform.stackLimits s.me := X.limits
  have hb9 : (T.setVm s.vm).me.stackBytes = s.me.stackBytes := X.bytes
  refine ⟨X.admits, X.cas, X.clock, hF, ?_, X.hears, X.method, X.code, X.here, X.tail, X.warmed, ?_, ?_, ?_⟩
  · have h := X.room
    have hU : ((T.setVm s.vm).setFrames (.invoking m args :: below)).localsInUse = s.localsInUse := by
      rw [State.localsInUse_invoking hF (meth := meth) (c := c) X.method X.code, State.localsInUse_invoking X.frames X.method X.code]
    simp only [State.hasRoom, Bool.and_eq_true, decide_eq_true_eq] at h ⊢
    obtain ⟨⟨⟨⟨h1, h2, h3, h4, h5, h6⟩, h7⟩, h8⟩, h9⟩ := h
    rw [X.frames, List.length_cons] at h2 h3
    have q1 := X.heapSize
    have q2 := X.used
    simp only [hF, hU, List.length_cons, State.stackLimits_setFrames, State.stackBytes_setFrames, hl9, hb9]
    refine ⟨⟨⟨⟨by omega, by omega, by omega, by omega, by omega, h6⟩, ?_⟩, ?_⟩, X.book⟩
    · show T.heap.size + R'.cells ≤ e.platform.maxCells
      omega
    · show T.slotsUsed + R'.slots ≤ e.platform.maxSlots
      omega
  · rw [State.stackLimits_setFrames]; rfl
  · rw [State.stackBytes_setFrames]; rfl
  · refine ⟨?_, Nat.le_refl _, Nat.le_refl _, ?_, ?_, fun a c9 h9 => ⟨c9, h9, rfl, rfl, fun _ _ => rfl⟩⟩
    · obtain ⟨t, ht, -⟩ := State.frames_cons hr
      show T.setVm s.vm = { ((T.setVm s.vm).setFrames (.invoking m args :: below)).setFrames (T.setVm s.vm).frames with heap := T.heap, slotsUsed := T.slotsUsed }
      rw [State.setFrames_setFrames, State.setFrames_self ht]
      rfl
    · show T.slotsUsed = T.slotsUsed + ((T.heap.toList.drop T.heap.size).map (·.slots.size)).sum
      rw [List.drop_eq_nil_of_le (Nat.le_of_eq Array.length_toList)]
      rfl
    · show ((T.heap.toList.drop T.heap.size).map (·.slots.size)).sum ≤ 0
      rw [List.drop_eq_nil_of_le (Nat.le_of_eq Array.length_toList)]
      exact Nat.le_refl _
/-- 'throw new E()': new; dup; invokespecial; athrow -/
theorem vx_throw0 {cc : ByteArray} {pc : Nat} (hexec : p.tables.exec = Jvm.exec) (hb : c.code = cc) (hl : l.stackTraces = false) {own cls : String} {names : List String} {ik ic mc ms : Nat} {A : Nat → Prop}
    (hown : s.vm.findClass own = some m.cls) (hcls : Bundle.fit cls = true) (hnames : ∀ n ∈ names, Bundle.fit n = true)
    (hk : (Cond.classLink own ik cls).before args s = true) (hini : (Cond.initialized cls).before args s = true) (hat : ∀ w ∈ vx_at0 own ic cls names, w.before args s = true)
    (hgood : ∀ w ∈ Cond.classLink own ik cls :: Cond.initialized cls :: vx_at0 own ic cls names, vx_ot w = true)
    (hU : vx_Zq Bundle.tN "UNASSIGNED_STACK" Bundle.steD A s s.heap) (hN : vx_Zq Bundle.tN "SUPPRESSED_SENTINEL" Bundle.listD A s s.heap) (hS : va_S A s.heap H locs) (hsize : ls.size = c.maxLocals)
    (d0 : decode cc pc = .ok (.new ik, 3)) (d3 : decode cc (pc + 3) = .ok (.dup, 1)) (d4 : decode cc (pc + 4) = .ok (.invokespecial ic, 3)) (d7 : decode cc (pc + 7) = .ok (.athrow, 1))
    (hout : ∀ x ∈ c.exceptionTable.toList, covers x (pc + 7) = false)
    (hRframes : names.length + 3 < R.frames) (hRlocals : (rest.map fun v => v.category).sum + (13 * (names.length + 1) + 42) ≤ R.locals) (hRcells : cells + 1 ≤ R.cells) (hRslots : slots + 6 ≤ R.slots) (hlocks : meth.locks = false)
    (hx : ∀ t : State, s.vm.Alike t.vm → H.size ≤ t.heap.size → (∀ q : Nat, q < H.size → t.heap[q]? = H[q]?) → XC cls s t)
    (hf : ∀ z ∈ locs, free z.base) (hc : cells + 1 ≤ mc) (hs : slots + 6 ≤ ms) :
    W p l e R s m args below meth c H locs cells slots (vx_MQ below Qc XC args s mc ms free) (F0 m pc ls rest) := by
  intro T hT X
  have htr : e.platform.stackTraces = false := (show e.platform.stackTraces = l.stackTraces by rw [X.admits.platform]).trans hl
  have Y := vx_rebase X (R' := { frames := R.frames, locals := R.locals, cells := 1, slots := 6 }) (Nat.le_refl _) (Nat.le_refl _) hRcells hRslots
  obtain ⟨s', hA⟩ : ∃ z, z = (T.setVm s.vm).setFrames (.invoking m args :: below) := ⟨_, rfl⟩
  rw [← hA] at Y
  have hvm : s'.vm = s.vm := by rw [hA]; rfl
  have hhp : s'.heap = H := by rw [hA]; exact hT
  have hW0 : s.WarmedH s'.vm := by rw [hvm]; exact State.WarmedH.refl s
  have hat' : ∀ w ∈ vx_at0 own ic cls names, w.before args s' = true := fun w hw => vx_ot_at hW0 hvm.symm (hgood w (List.mem_cons_of_mem _ (List.mem_cons_of_mem _ hw))) (hat w hw)
  have hk' : (Cond.classLink own ik cls).before args s' = true := vx_ot_at hW0 hvm.symm (hgood _ List.mem_cons_self) hk
  have hini' : (Cond.initialized cls).before args s' = true := vx_ot_at hW0 hvm.symm (hgood _ (List.mem_cons_of_mem _ List.mem_cons_self)) hini
  have hU' : vx_Zq Bundle.tN "UNASSIGNED_STACK" Bundle.steD A s' s'.heap := by rw [hhp]; exact vx_Zq.moved hW0.alike (hU.kept hS.2.1)
  have hN' : vx_Zq Bundle.tN "SUPPRESSED_SENTINEL" Bundle.listD A s' s'.heap := by rw [hhp]; exact vx_Zq.moved hW0.alike (hN.kept hS.2.1)
  have h : ∀ w ∈ Bundle.ownAtoms0 own ic cls names, w.before args s' = true := vx_own hat' (vx_isRefq hU'.1) (vx_isRefq hN'.1) hU'.2.word hN'.2.word
  have hown' : s'.vm.findClass own = some m.cls := by rw [hvm]; exact hown
  have hins : (Cond.instantiable cls 6).before args s' = true := h _ (by simp [Bundle.ownAtoms0])
  obtain ⟨vm₁, cX, kX, hfX, hkX, -, -, X₁, st1⟩ := Y.newCold hexec (own := own) (C := cls) (index := ik) (n := 6) hown' hk' hins hini'
    (g := F0 m pc ls rest) rfl (by rw [hb]; exact d0) (Nat.le_refl _) (Nat.le_refl _)
  generalize hT1 : (T.setVm vm₁).pushCell { cls := cX, slots := kX.instanceTypes.map defaultValue, vm := .none } = T1 at X₁ st1
  have hcat : (Value.ref T.heap.size).category = 1 := rfl
  have hcellA : T1.heap[T.heap.size]? = some (freshCell cX kX) := by rw [← hT1]; exact State.heap_pushCell_size _ _
  have d3' : decode c.code (pc + 3) = .ok (.dup, 1) := by rw [hb]; exact d3
  obtain ⟨U, hsteps, hrun, hend, hW, hsame, ce, hce, hO⟩ := X₁.ctorThrow0 hexec htr (own := own) (cls := cls) (names := names) (ic := ic) hown' hcls hnames h (fun x hx => nomatch hx) hfX hkX hcellA (by rw [hhp, hT]; exact Nat.le_refl _)
    (g := { method := m, pc := pc + 4, locals := ls, stack := .ref T.heap.size :: .ref T.heap.size :: rest, locked := none }) rfl hsize rfl rfl (rest := rest) rfl
    (by rw [hb]; exact d4) (by rw [hb]; exact d7) hout hRframes (by simp only [List.map_cons, List.sum_cons, hcat]; omega) hlocks
  obtain ⟨f1, f2⟩ := vx_frame hsame
  rw [hhp] at f1 f2
  have hWs : s.WarmedH U.vm := State.WarmedH.trans hW0 hW
  have hcl : s.vm.findClass cls = some ce.cls := by
    have h9 := hO.cls
    rw [hvm] at h9
    exact h9
  have hall : s.sameButNew ({ U with vm := s.vm } : State) locs mc ms := by
    subst hA
    obtain ⟨e1, e2⟩ := hsame
    rw [State.setFrames_setFrames] at e1
    have h2 : (T.setVm s.vm).sameButNew ({ U with vm := s.vm } : State) [] (0 + 1) (0 + 6) := ⟨e1, e2⟩
    have h3 := X.same.trans h2
    rw [List.append_nil] at h3
    exact h3.mono hc hs
  refine ⟨U, ?_, .threw T.heap.size, hrun, hend, Or.inr ⟨T.heap.size, rfl, cls, ce, locs, hx U hWs.alike f1 (fun q hq => f2 q hq (fun z hz => nomatch hz)), hce, hO.vm, hcl, hWs, hall, hf⟩⟩
  refine st1 _ ?_
  show Steps p.tables e below (T1.setTop { method := m, pc := pc + 3, locals := ls, stack := .ref T.heap.size :: rest, locked := none }) _
  jvm_step X₁.here [X₁.here.top, hexec, d3', Value.category]
  exact hsteps
/-- 'throw new E("text")': new; dup; ldc; invokespecial; athrow -/
theorem vx_throwS {cc : ByteArray} {pc : Nat} (hexec : p.tables.exec = Jvm.exec) (hb : c.code = cc) (hl : l.stackTraces = false) {own cls text : String} {names : List String} {ik is ic mc ms sa : Nat} {A : Nat → Prop}
    (hown : s.vm.findClass own = some m.cls) (hcls : Bundle.fit cls = true) (hnames : ∀ n ∈ names, Bundle.fit n = true)
    (hk : (Cond.classLink own ik cls).before args s = true) (hini : (Cond.initialized cls).before args s = true) (hstr : vk_R own is text sa s) (hat : ∀ w ∈ vx_atS own ic cls names, w.before args s = true)
    (hgood : ∀ w ∈ Cond.classLink own ik cls :: Cond.initialized cls :: vx_atS own ic cls names, vx_ot w = true)
    (hU : vx_Zq Bundle.tN "UNASSIGNED_STACK" Bundle.steD A s s.heap) (hN : vx_Zq Bundle.tN "SUPPRESSED_SENTINEL" Bundle.listD A s s.heap) (hS : va_S A s.heap H locs) (hsize : ls.size = c.maxLocals)
    (d0 : decode cc pc = .ok (.new ik, 3)) (d3 : decode cc (pc + 3) = .ok (.dup, 1)) (d4 : decode cc (pc + 4) = .ok (.ldc is, 2)) (d6 : decode cc (pc + 6) = .ok (.invokespecial ic, 3)) (d9 : decode cc (pc + 9) = .ok (.athrow, 1))
    (hout : ∀ x ∈ c.exceptionTable.toList, covers x (pc + 9) = false)
    (hRframes : names.length + 3 < R.frames) (hRlocals : (rest.map fun v => v.category).sum + (13 * (names.length + 1) + 43) ≤ R.locals) (hRcells : cells + 1 ≤ R.cells) (hRslots : slots + 6 ≤ R.slots) (hlocks : meth.locks = false)
    (hx : ∀ t : State, s.vm.Alike t.vm → H.size ≤ t.heap.size → (∀ q : Nat, q < H.size → t.heap[q]? = H[q]?) → XC cls s t)
    (hf : ∀ z ∈ locs, free z.base) (hc : cells + 1 ≤ mc) (hs : slots + 6 ≤ ms) :
    W p l e R s m args below meth c H locs cells slots (vx_MQ below Qc XC args s mc ms free) (F0 m pc ls rest) := by
  intro T hT X
  have htr : e.platform.stackTraces = false := (show e.platform.stackTraces = l.stackTraces by rw [X.admits.platform]).trans hl
  have Y := vx_rebase X (R' := { frames := R.frames, locals := R.locals, cells := 1, slots := 6 }) (Nat.le_refl _) (Nat.le_refl _) hRcells hRslots
  obtain ⟨s', hA⟩ : ∃ z, z = (T.setVm s.vm).setFrames (.invoking m args :: below) := ⟨_, rfl⟩
  rw [← hA] at Y
  have hvm : s'.vm = s.vm := by rw [hA]; rfl
  have hhp : s'.heap = H := by rw [hA]; exact hT
  have hW0 : s.WarmedH s'.vm := by rw [hvm]; exact State.WarmedH.refl s
  have hat' : ∀ w ∈ vx_atS own ic cls names, w.before args s' = true := fun w hw => vx_ot_at hW0 hvm.symm (hgood w (List.mem_cons_of_mem _ (List.mem_cons_of_mem _ hw))) (hat w hw)
  have hk' : (Cond.classLink own ik cls).before args s' = true := vx_ot_at hW0 hvm.symm (hgood _ List.mem_cons_self) hk
  have hini' : (Cond.initialized cls).before args s' = true := vx_ot_at hW0 hvm.symm (hgood _ (List.mem_cons_of_mem _ List.mem_cons_self)) hini
  have hU' : vx_Zq Bundle.tN "UNASSIGNED_STACK" Bundle.steD A s' s'.heap := by rw [hhp]; exact vx_Zq.moved hW0.alike (hU.kept hS.2.1)
  have hN' : vx_Zq Bundle.tN "SUPPRESSED_SENTINEL" Bundle.listD A s' s'.heap := by rw [hhp]; exact vx_Zq.moved hW0.alike (hN.kept hS.2.1)
  have h : ∀ w ∈ Bundle.ownAtoms own ic cls names, w.before args s' = true := vx_own hat' (vx_isRefq hU'.1) (vx_isRefq hN'.1) hU'.2.word hN'.2.word
  have hown' : s'.vm.findClass own = some m.cls := by rw [hvm]; exact hown
  have hins : (Cond.instantiable cls 6).before args s' = true := h _ (by simp [Bundle.ownAtoms])
  obtain ⟨vm₁, cX, kX, hfX, hkX, -, -, X₁, st1⟩ := Y.newCold hexec (own := own) (C := cls) (index := ik) (n := 6) hown' hk' hins hini'
    (g := F0 m pc ls rest) rfl (by rw [hb]; exact d0) (Nat.le_refl _) (Nat.le_refl _)
  generalize hT1 : (T.setVm vm₁).pushCell { cls := cX, slots := kX.instanceTypes.map defaultValue, vm := .none } = T1 at X₁ st1
  have hcat : (Value.ref T.heap.size).category = 1 := rfl
  have hcellA : T1.heap[T.heap.size]? = some (freshCell cX kX) := by rw [← hT1]; exact State.heap_pushCell_size _ _
  have d3' : decode c.code (pc + 3) = .ok (.dup, 1) := by rw [hb]; exact d3
  have d4' : decode c.code (pc + 4) = .ok (.ldc is, 2) := by rw [hb]; exact d4
  have hstr' : vk_R own is text sa s' := vk_R.warm hW0 hstr
  obtain ⟨U, hsteps, hrun, hend, hW, hsame, ce, hce, hO⟩ := X₁.ctorThrowS hexec htr (own := own) (cls := cls) (names := names) (ic := ic) hown' hcls hnames h (fun x hx => nomatch hx) hfX hkX hcellA (by rw [hhp, hT]; exact Nat.le_refl _) (msg := .ref sa) rfl
    (g := { method := m, pc := pc + 6, locals := ls, stack := .ref sa :: .ref T.heap.size :: .ref T.heap.size :: rest, locked := none }) rfl hsize rfl rfl (rest := rest) rfl
    (by rw [hb]; exact d6) (by rw [hb]; exact d9) hout hRframes (by simp only [List.map_cons, List.sum_cons, hcat]; omega) hlocks
  obtain ⟨f1, f2⟩ := vx_frame hsame
  rw [hhp] at f1 f2
  have hWs : s.WarmedH U.vm := State.WarmedH.trans hW0 hW
  have hcl : s.vm.findClass cls = some ce.cls := by
    have h9 := hO.cls
    rw [hvm] at h9
    exact h9
  have hall : s.sameButNew ({ U with vm := s.vm } : State) locs mc ms := by
    subst hA
    obtain ⟨e1, e2⟩ := hsame
    rw [State.setFrames_setFrames] at e1
    have h2 : (T.setVm s.vm).sameButNew ({ U with vm := s.vm } : State) [] (0 + 1) (0 + 6) := ⟨e1, e2⟩
    have h3 := X.same.trans h2
    rw [List.append_nil] at h3
    exact h3.mono hc hs
  refine ⟨U, ?_, .threw T.heap.size, hrun, hend, Or.inr ⟨T.heap.size, rfl, cls, ce, locs, hx U hWs.alike f1 (fun q hq => f2 q hq (fun z hz => nomatch hz)), hce, hO.vm, hcl, hWs, hall, hf⟩⟩
  refine st1 _ ?_
  show Steps p.tables e below (T1.setTop { method := m, pc := pc + 3, locals := ls, stack := .ref T.heap.size :: rest, locked := none }) _
  jvm_step X₁.here [X₁.here.top, hexec, d3', Value.category]
  exact X₁.ldcString hexec (own := own) (text := text) (index := is) (a := sa) hown' hstr'.1 hstr'.2
    (g := { method := m, pc := pc + 4, locals := ls, stack := .ref T.heap.size :: .ref T.heap.size :: rest, locked := none }) rfl d4' _ hsteps
/-- 'throw new E("text")', the text by a wide index -/
theorem vx_throwSW {cc : ByteArray} {pc : Nat} (hexec : p.tables.exec = Jvm.exec) (hb : c.code = cc) (hl : l.stackTraces = false) {own cls text : String} {names : List String} {ik is ic mc ms sa : Nat} {A : Nat → Prop}
    (hown : s.vm.findClass own = some m.cls) (hcls : Bundle.fit cls = true) (hnames : ∀ n ∈ names, Bundle.fit n = true)
    (hk : (Cond.classLink own ik cls).before args s = true) (hini : (Cond.initialized cls).before args s = true) (hstr : vk_R own is text sa s) (hat : ∀ w ∈ vx_atS own ic cls names, w.before args s = true)
    (hgood : ∀ w ∈ Cond.classLink own ik cls :: Cond.initialized cls :: vx_atS own ic cls names, vx_ot w = true)
    (hU : vx_Zq Bundle.tN "UNASSIGNED_STACK" Bundle.steD A s s.heap) (hN : vx_Zq Bundle.tN "SUPPRESSED_SENTINEL" Bundle.listD A s s.heap) (hS : va_S A s.heap H locs) (hsize : ls.size = c.maxLocals)
    (d0 : decode cc pc = .ok (.new ik, 3)) (d3 : decode cc (pc + 3) = .ok (.dup, 1)) (d4 : decode cc (pc + 4) = .ok (.ldc_w is, 3)) (d7 : decode cc (pc + 7) = .ok (.invokespecial ic, 3)) (d10 : decode cc (pc + 10) = .ok (.athrow, 1))
    (hout : ∀ x ∈ c.exceptionTable.toList, covers x (pc + 10) = false)
    (hRframes : names.length + 3 < R.frames) (hRlocals : (rest.map fun v => v.category).sum + (13 * (names.length + 1) + 43) ≤ R.locals) (hRcells : cells + 1 ≤ R.cells) (hRslots : slots + 6 ≤ R.slots) (hlocks : meth.locks = false)
    (hx : ∀ t : State, s.vm.Alike t.vm → H.size ≤ t.heap.size → (∀ q : Nat, q < H.size → t.heap[q]? = H[q]?) → XC cls s t)
    (hf : ∀ z ∈ locs, free z.base) (hc : cells + 1 ≤ mc) (hs : slots + 6 ≤ ms) :
    W p l e R s m args below meth c H locs cells slots (vx_MQ below Qc XC args s mc ms free) (F0 m pc ls rest) := by
  intro T hT X
  have htr : e.platform.stackTraces = false := (show e.platform.stackTraces = l.stackTraces by rw [X.admits.platform]).trans hl
  have Y := vx_rebase X (R' := { frames := R.frames, locals := R.locals, cells := 1, slots := 6 }) (Nat.le_refl _) (Nat.le_refl _) hRcells hRslots
  obtain ⟨s', hA⟩ : ∃ z, z = (T.setVm s.vm).setFrames (.invoking m args :: below) := ⟨_, rfl⟩
  rw [← hA] at Y
  have hvm : s'.vm = s.vm := by rw [hA]; rfl
  have hhp : s'.heap = H := by rw [hA]; exact hT
  have hW0 : s.WarmedH s'.vm := by rw [hvm]; exact State.WarmedH.refl s
  have hat' : ∀ w ∈ vx_atS own ic cls names, w.before args s' = true := fun w hw => vx_ot_at hW0 hvm.symm (hgood w (List.mem_cons_of_mem _ (List.mem_cons_of_mem _ hw))) (hat w hw)
  have hk' : (Cond.classLink own ik cls).before args s' = true := vx_ot_at hW0 hvm.symm (hgood _ List.mem_cons_self) hk
  have hini' : (Cond.initialized cls).before args s' = true := vx_ot_at hW0 hvm.symm (hgood _ (List.mem_cons_of_mem _ List.mem_cons_self)) hini
  have hU' : vx_Zq Bundle.tN "UNASSIGNED_STACK" Bundle.steD A s' s'.heap := by rw [hhp]; exact vx_Zq.moved hW0.alike (hU.kept hS.2.1)
  have hN' : vx_Zq Bundle.tN "SUPPRESSED_SENTINEL" Bundle.listD A s' s'.heap := by rw [hhp]; exact vx_Zq.moved hW0.alike (hN.kept hS.2.1)
  have h : ∀ w ∈ Bundle.ownAtoms own ic cls names, w.before args s' = true := vx_own hat' (vx_isRefq hU'.1) (vx_isRefq hN'.1) hU'.2.word hN'.2.word
  have hown' : s'.vm.findClass own = some m.cls := by rw [hvm]; exact hown
  have hins : (Cond.instantiable cls 6).before args s' = true := h _ (by simp [Bundle.ownAtoms])
  obtain ⟨vm₁, cX, kX, hfX, hkX, -, -, X₁, st1⟩ := Y.newCold hexec (own := own) (C := cls) (index := ik) (n := 6) hown' hk' hins hini'
    (g := F0 m pc ls rest) rfl (by rw [hb]; exact d0) (Nat.le_refl _) (Nat.le_refl _)
  generalize hT1 : (T.setVm vm₁).pushCell { cls := cX, slots := kX.instanceTypes.map defaultValue, vm := .none } = T1 at X₁ st1
  have hcat : (Value.ref T.heap.size).category = 1 := rfl
  have hcellA : T1.heap[T.heap.size]? = some (freshCell cX kX) := by rw [← hT1]; exact State.heap_pushCell_size _ _
  have d3' : decode c.code (pc + 3) = .ok (.dup, 1) := by rw [hb]; exact d3
  have d4' : decode c.code (pc + 4) = .ok (.ldc_w is, 3) := by rw [hb]; exact d4
  have hstr' : vk_R own is text sa s' := vk_R.warm hW0 hstr
  obtain ⟨U, hsteps, hrun, hend, hW, hsame, ce, hce, hO⟩ := X₁.ctorThrowS hexec htr (own := own) (cls := cls) (names := names) (ic := ic) hown' hcls hnames h (fun x hx => nomatch hx) hfX hkX hcellA (by rw [hhp, hT]; exact Nat.le_refl _) (msg := .ref sa) rfl
    (g := { method := m, pc := pc + 7, locals := ls, stack := .ref sa :: .ref T.heap.size :: .ref T.heap.size :: rest, locked := none }) rfl hsize rfl rfl (rest := rest) rfl
    (by rw [hb]; exact d7) (by rw [hb]; exact d10) hout hRframes (by simp only [List.map_cons, List.sum_cons, hcat]; omega) hlocks
  obtain ⟨f1, f2⟩ := vx_frame hsame
  rw [hhp] at f1 f2
  have hWs : s.WarmedH U.vm := State.WarmedH.trans hW0 hW
  have hcl : s.vm.findClass cls = some ce.cls := by
    have h9 := hO.cls
    rw [hvm] at h9
    exact h9
  have hall : s.sameButNew ({ U with vm := s.vm } : State) locs mc ms := by
    subst hA
    obtain ⟨e1, e2⟩ := hsame
    rw [State.setFrames_setFrames] at e1
    have h2 : (T.setVm s.vm).sameButNew ({ U with vm := s.vm } : State) [] (0 + 1) (0 + 6) := ⟨e1, e2⟩
    have h3 := X.same.trans h2
    rw [List.append_nil] at h3
    exact h3.mono hc hs
  refine ⟨U, ?_, .threw T.heap.size, hrun, hend, Or.inr ⟨T.heap.size, rfl, cls, ce, locs, hx U hWs.alike f1 (fun q hq => f2 q hq (fun z hz => nomatch hz)), hce, hO.vm, hcl, hWs, hall, hf⟩⟩
  refine st1 _ ?_
  show Steps p.tables e below (T1.setTop { method := m, pc := pc + 3, locals := ls, stack := .ref T.heap.size :: rest, locked := none }) _
  jvm_step X₁.here [X₁.here.top, hexec, d3', Value.category]
  exact X₁.ldcStringW hexec (own := own) (text := text) (index := is) (a := sa) hown' hstr'.1 hstr'.2
    (g := { method := m, pc := pc + 4, locals := ls, stack := .ref T.heap.size :: .ref T.heap.size :: rest, locked := none }) rfl d4' _ hsteps
end Ends
section Bodies
variable {l : Launch}
theorem vx_ofW {y : MethodName} {ws ws' : List Cond} {rm : Room} {Pc : Array Value → State → Prop} {Qc : Array Value → State → Outcome → State → Prop} {XC : String → State → State → Prop} {mc ms : Nat} {free : Addr → Prop} {cc : ByteArray} {maxL : Nat} {ret : Option FieldType}
    (hy : plainName y.cls = true) (hw : ws = Cond.code y cc maxL ret :: ws')
    (body : ∀ p e s m args below meth c s₁, BodyLoose p l y (headSpec ws rm) cc maxL ret e s m args below meth c s₁ → c.maxLocals = maxL → (∀ x ∈ c.exceptionTable.toList, False) → Pc args s →
      W p l e (headSpec ws rm).room s m args below meth c s.heap [] 0 0 (vx_MQ below Qc XC args s mc ms free) (entryFrame m args maxL)) : vx_Met l y ws rm Pc Qc XC mc ms free := by
  refine MetFree.of_bodyS (code := cc) (maxLocals := maxL) (ret := ret) hy ?_ ?_
  · intro args s m h hn
    obtain ⟨meth, c, h1, h2, h3, h4, h5, h6, -, -⟩ := Cond.code_spec hn (atoms_spec (ws := ws) h _ (by rw [hw]; exact List.mem_cons_self))
    exact ⟨meth, c, h1, h2, h3, h4, h5, h6⟩
  · intro p e s m args below meth c s₁ B hml hP _
    have hh0 : s₁.heap = s.heap := by rw [B.state]; rfl
    have ht : ∀ x ∈ c.exceptionTable.toList, False := by
      obtain ⟨meth9, c9, h1, h2, -, -, -, -, h7, -⟩ := Cond.code_spec B.named (atoms_spec (ws := ws) B.pre _ (by rw [hw]; exact List.mem_cons_self))
      cases Option.some.inj (h1.symm.trans B.method)
      cases Option.some.inj (h2.symm.trans (Stand.of_body B).code)
      intro x hx
      rw [Array.isEmpty_iff.mp h7] at hx
      cases hx
    obtain ⟨t, a1, o, b1, b2, b3⟩ := body p e s m args below meth c s₁ B hml ht hP s₁ hh0 (Stand.of_body B)
    exact ⟨t, o, a1, b1, b2, b3⟩
/-- the table of a body with handlers -/
theorem vx_table {p : Program} {x y : MethodName} {S : Spec} {cc bytes : ByteArray} {maxL maxL' : Nat} {ret ret' : Option FieldType} {e : Env} {s s₁ : State} {m : MethodId} {args : Array Value} {below : List Frame} {meth : Method} {c : Code} {hh : List (Nat × Nat × Nat × Nat)}
    (B : BodyLoose p l y S cc maxL ret e s m args below meth c s₁) (h : (Cond.codeWith y bytes maxL' ret' hh).before args s = true) : c.exceptionTable.toList = tableOf hh := by
  obtain ⟨m9, meth9, c9, hn9, h1, h2, -, -, h6, -⟩ := Cond.codeWith_spec h
  cases Option.some.inj (hn9.symm.trans B.named)
  cases Option.some.inj (h1.symm.trans B.method)
  cases Option.some.inj (h2.symm.trans (Stand.of_body B).code)
  rw [← h6, table_eq]
end Bodies
end VXA
/-! ===== END ===== -/
/-! ===== BEGIN a static call of a method with an exception table ===== -/
section VXS
variable {p : Program} {l : Launch} {e : Env} {R : Room} {s : State} {m : MethodId} {args : Array Value} {below : List Frame} {meth : Method} {c : Code} {T : State} {H : Heap} {locs : List Loc} {cells slots : Nat}
abbrev vx_CSW (R : Room) (s : State) (args : Array Value) (own : String) (index : Nat) (y : MethodName) (bytes : ByteArray) (maxL : Nat) (ret : Option FieldType) (hh : List (Nat × Nat × Nat × Nat)) (ws : List Cond) (rm : Room) (mc ms n : Nat) : Prop :=
  (rm.cells = mc ∧ rm.slots = ms ∧ rm.frames + 1 ≤ R.frames ∧ 8 + (maxL + 11) + rm.locals ≤ R.locals ∧ (∀ w ∈ ws, ∀ (a' : Array Value) (U : State), s.WarmedH U.vm → w.before a' U = true) ∧ Cond.codeWith y bytes maxL ret hh ∈ ws) ∧
  (Cond.codeWith y bytes maxL ret hh).before args s = true ∧ (Cond.initialized y.cls).before args s = true ∧ (y.cls ≠ "java/lang/invoke/MethodHandle" ∧ y.cls ≠ "java/lang/invoke/VarHandle") ∧
  (∀ sig, parseMethodDescriptor y.desc = some sig → n = sig.parameters.length) ∧ (Cond.methodLink own index y).before args s = true ∧ (Cond.static y).before args s = true
theorem vx_cwSW {own : String} {index maxL mc ms : Nat} {y : MethodName} {bytes : ByteArray} {ret : Option FieldType} {hh : List (Nat × Nat × Nat × Nat)} {Ts ws ws' : List Cond} {rm : Room} (n : Nat) (ht : ∀ w ∈ Ts, w.before args s = true) (hT : GoodIn Ts (va_wsS own index y ws)) (hw : ws = Cond.codeWith y bytes maxL ret hh :: ws') (hrc : rm.cells = mc) (hrs : rm.slots = ms)
    (hd : y.cls ≠ "java/lang/invoke/MethodHandle" ∧ y.cls ≠ "java/lang/invoke/VarHandle" ∧ (parseMethodDescriptor y.desc).map (fun d => d.parameters.length) = some n) (hR : rm.frames + 1 ≤ R.frames ∧ 8 + (maxL + 11) + rm.locals ≤ R.locals) :
    vx_CSW R s args own index y bytes maxL ret hh ws rm mc ms n := by
  have ok : ∀ w ∈ va_wsS own index y ws, w.before args s = true := fun w h => ht w (hT w h).1
  have hG : GoodIn Ts ws := fun w h => hT w (by unfold va_wsS; exact List.mem_append_right _ h)
  have hc : Cond.codeWith y bytes maxL ret hh ∈ ws := by rw [hw]; exact List.mem_cons_self
  refine ⟨⟨hrc, hrs, hR.1, hR.2, pay_in ht hG, hc⟩, ht _ (hG _ hc).1, ok _ (by simp [va_wsS]), ⟨hd.1, hd.2.1⟩, fun sig h => ?_, ok _ (by simp [va_wsS]), ok _ (by simp [va_wsS])⟩
  have h2 := hd.2.2
  rw [h] at h2
  exact (Option.some.inj h2).symm
theorem vx_callSW (X : Stand p l e R s m args below meth c T locs cells slots) (hexec : p.tables.exec = Jvm.exec) {own : String} {index : Nat} {y : MethodName} {bytes : ByteArray} {maxL : Nat} {ret : Option FieldType} {hh : List (Nat × Nat × Nat × Nat)}
    (hown : s.vm.findClass own = some m.cls) (hlink : (Cond.methodLink own index y).before args s = true) (hstat : (Cond.static y).before args s = true) (hinit : (Cond.initialized y.cls).before args s = true)
    (hcode : (Cond.codeWith y bytes maxL ret hh).before args s = true) (hy : y.cls ≠ "java/lang/invoke/MethodHandle" ∧ y.cls ≠ "java/lang/invoke/VarHandle")
    {W9 : Nat} {Pre : Pt → Array Value → Prop} {Post : Pt → Array Value → Option Value → Pt → Prop} (hK : Back l R p e below s args y 3 W9 Pre Post)
    {g : JFrame} (hg : g.method = m) (hsize : g.locals.size = c.maxLocals) {argsL rest : List Value} (hlen : ∀ sig, parseMethodDescriptor y.desc = some sig → argsL.length = sig.parameters.length)
    (hstack : g.stack = argsL.reverse ++ rest) (hW : 2 * g.monitorRoom + (rest.map fun v => v.category).sum ≤ W9) (hdg : decode c.code g.pc = .ok (.invokestatic index, 3))
    (hpre : ∀ vm₁, s.WarmedH vm₁ → Pre ⟨T.setVm vm₁, locs, cells, slots⟩ argsL.toArray) :
    ∃ (v : Option Value) (vm₁ : Vm) (B : Pt), s.WarmedH vm₁ ∧ Stand p l e R s m args below meth c B.U B.locs B.cells B.slots ∧ Post ⟨T.setVm vm₁, locs, cells, slots⟩ argsL.toArray v B ∧
      ∀ target, Steps p.tables e below (B.U.setTop { g with pc := g.pc + 3, stack := v.toList ++ rest }) target → Steps p.tables e below (T.setTop g) target := by
  obtain ⟨mk, methM, cM, hnamed, hmethM, -, -, -, -, -, -, hsigM⟩ := Cond.codeWith_spec hcode
  have hstatic : methM.isStatic = true := Cond.static_spec hnamed hmethM hstat
  obtain ⟨kP, hkP, -⟩ := className_of_methodNamed hnamed
  have hinitP : kP.init = .initialized := Cond.initialized_spec (findClass_of_methodNamed hnamed) hkP hinit
  obtain ⟨vm₁, X₁, hstep₁⟩ := X.invokestatic hexec hown hlink hnamed hmethM hstatic hkP hinitP hy (g := g) hg (argsL := argsL) (rest := rest) (hlen _ hsigM) hstack hdg
  obtain ⟨v, B, X', hpost, hsteps⟩ := hK m meth c ⟨T.setVm vm₁, locs, cells, slots⟩ { g with stack := rest } (.invokestatic index) mk argsL.toArray X₁ hg hsize hdg hW (X₁.named hnamed) (hpre vm₁ X₁.warmed)
  exact ⟨v, vm₁, B, X₁.warmed, X', hpost, fun target h => hstep₁ _ fun acts => by rw [doInvoke_state]; exact hsteps.trans h⟩
theorem vx_runSW {y : MethodName} {bytes cc : ByteArray} {maxL nL mc ms n index : Nat} {ret : Option FieldType} {hh : List (Nat × Nat × Nat × Nat)} {ws : List Cond} {rm : Room} {Pc : Array Value → State → Prop} {Qc : Array Value → State → Outcome → State → Prop} {free : Addr → Prop} {Ts : List Cond} {own : String} {As rest : List Value} {g : JFrame}
    (S : CallFix p m c cc nL s args Ts own) (hM : Met l y ws rm Pc Qc mc ms free) (cw : vx_CSW R s args own index y bytes maxL ret hh ws rm mc ms n) (hp : PreS s H Pc As)
    (hg : g.method = m) (hn : As.length = n) (hsize : g.locals.size = nL) (hstack : g.stack = As.reverse ++ rest) (hW : 2 * g.monitorRoom + (rest.map fun v => v.category).sum ≤ 8) (hdg : decode cc g.pc = .ok (.invokestatic index, 3)) (hf : cells + mc ≤ R.cells ∧ slots + ms ≤ R.slots) :
    va_Run p l e R s m args below meth c H locs cells slots mc ms g rest (Qc As.toArray) (free) := by
  obtain ⟨⟨hrc, hrs, hfr, hlo, hws, hcw⟩, hcode, hini, hy, hlen, hl, hstt⟩ := cw
  have hK : Back l R p e below s args y 3 8 (PreOf R mc ms Pc) (PostOf Qc mc ms free) := va_backW (hh := hh) (bytes := bytes) (maxL := maxL) (ret := ret) hM hp.1 hrc hrs hfr hlo hws hcw (fun a' U hW => word_at hW (Or.inl (by first | rfl | simp [Cond.onTables, Cond.keeps, Cond.steady])) hini)
  obtain ⟨hx, hb, hml, ho, -⟩ := S
  intro T hT X
  obtain ⟨v, vm₁, ⟨U', l2, c2, s2⟩, hW₁, X', ⟨g', mk, t, L, e1, e2, hq, h1, hL, h2, h3⟩, st⟩ := vx_callSW X hx (hh := hh) (bytes := bytes) (maxL := maxL) (ret := ret) ho hl hstt hini hcode hy hK hg (hsize.trans hml.symm) (argsL := As) (rest := rest) (fun sig h => hn.trans (hlen sig h)) hstack hW (by rw [hb]; exact hdg)
    (fun vm₁ hW₁ => ⟨hf.1, hf.2, hp.2 (T.setVm vm₁) hT hW₁⟩)
  dsimp only [Pt.U, Pt.locs, Pt.cells, Pt.slots] at X' e1 e2 h1 h2 h3 st
  subst h1; subst h2; subst h3
  exact ⟨v, (T.setVm vm₁).calling g' mk As.toArray, t, U', L, hT, X', hL, e1, e2, hq, st⟩
/-- not caught here, past rows that name other classes: it goes on to the caller -/
theorem vx_outP {p : Program} {l : Launch} {e : Env} {R : Room} {s : State} {m : MethodId} {args : Array Value} {below : List Frame} {meth : Method} {c : Code} {H : Heap} {locs : List Loc} {cells slots : Nat} {free : Addr → Prop} {ls : Array Slot} {rest : List Value} {Qc : Array Value → State → Outcome → State → Prop} {XC : String → State → State → Prop}
    {pc : Nat} {own E : String} {ce : Cell} {q : Addr} {mc ms : Nat} (hown : s.vm.findClass own = some m.cls) (hlocks : meth.locks = false)
    (hpass : ∀ z ∈ c.exceptionTable.toList, covers z pc = false ∨ (z.catchType ≠ 0 ∧ ∃ nm : String, (Cond.classLink own z.catchType nm).before args s = true ∧ va_Nc E nm s)) (hcell : H[q]? = some ce) (hv : ce.vm = .none) (hcl : s.vm.findClass E = some ce.cls)
    (hx : ∀ t : State, t.heap = H → s.vm.Alike t.vm → XC E s t) (hf : ∀ z ∈ locs, free z.base) (hc : cells ≤ mc) (hs : slots ≤ ms) :
    vx_W p l e R s m args below meth c H locs cells slots (vx_MQ below Qc XC args s mc ms free) (F0 m pc ls rest) q := by
  intro T hT X
  have hpl : e.platform.magicAccessors = ({} : Platform).magicAccessors := by rw [X.admits.platform]
  obtain ⟨vm', hW', X', st⟩ := X.outThrough hlocks q (g := F0 m pc ls rest) rfl rfl rfl (cell := ce) (by rw [hT]; exact hcell) (by rw [hv]; rfl)
    (by obtain ⟨k9, h9, -⟩ := Vm.findClass_spec hcl; exact ⟨k9, h9⟩) (fun z hz => by
      rcases hpass z hz with h | ⟨hz0, nm, hl1, hn1⟩
      · exact Or.inl h
      · obtain ⟨c6, hc6, hcl6⟩ := Cond.classLink_spec hown hl1 e.platform hpl
        obtain ⟨a8, b8, h1, h2, h3⟩ := hn1
        cases Option.some.inj (h1.symm.trans hcl)
        cases Option.some.inj (h2.symm.trans hc6)
        exact Or.inr ⟨hz0, _, hcl6, h3⟩)
  obtain ⟨g₀, hfr⟩ := X'.frames_eq
  have hcell9 : ((T.setVm vm').setFrames (.throwing q :: below)).heap[q]? = some ce := by
    show T.heap[q]? = some ce
    rw [hT]; exact hcell
  have hend : Ended ((T.setVm vm').setFrames (.throwing q :: below)) below (.threw q) := State.frames_setFrames _ (State.cur_lt_of_frames hfr)
  refine ⟨(T.setVm vm').setFrames (.throwing q :: below), ?_, .threw q, X'.here.running, hend, Or.inr ⟨q, rfl, E, ce, locs, hx _ hT (X'.ends _).1.alike, hcell9, hv, hcl, (X'.ends _).1, (X'.ends _).2.mono hc hs, hf⟩⟩
  rw [X.pushThrowing_eq]
  exact st
/-- a thing of a world lies in the heap -/
theorem vx_lt {D : va_G} {cl : List vw_C} {ws : va_W} {H1 : Heap} (h : va_P D cl ws H1) {k : Nat} {q : Nat × va_E} (hk : ws[k]? = some q) : q.1 < H1.size := (h k q hk).lt
end VXS
/-! ===== END ===== -/
/-! ===== BEGIN methods with a table of their own: called by a name, returning or throwing ===== -/
section VXH
/-! vx_backW, vx_callVX, vx_callSX, vx_callVW, vx_runVW, vx_runVX, vx_runSX, vx_ofWH follow the same proofs as their sisters above (Free/Laws.lean, Shelf42/LK1.lean); vx_outP calls Shelf42/NT130.lean (outThrough). -/
section
variable {l : Launch} {R : Room} {p : Program} {e : Env} {below : List Frame} {s : State} {sargs : Array Value} {y : MethodName} {len W9 : Nat}
theorem vx_backW {ws : List Cond} {rm : Room} {Pc : Array Value → State → Prop} {Qc : Array Value → State → Outcome → State → Prop} {XC : String → State → State → Prop} {mc ms : Nat} {free : Addr → Prop} {bytes : ByteArray} {maxL : Nat} {ret : Option FieldType} {hh : List (Nat × Nat × Nat × Nat)}
    (hM : vx_Met l y ws rm Pc Qc XC mc ms free) (hblind : FrameBlind Pc) (hrc : rm.cells = mc) (hrs : rm.slots = ms)
    (hframes : rm.frames + 1 ≤ R.frames) (hlocals : W9 + (maxL + 11) + rm.locals ≤ R.locals)
    (hws : ∀ w ∈ ws, ∀ a' U, s.WarmedH U.vm → w.before a' U = true) (hcode : Cond.codeWith y bytes maxL ret hh ∈ ws) (hinit : ∀ a' U, s.WarmedH U.vm → (Cond.initialized y.cls).before a' U = true) :
    vx_Back l R p e below s sargs y len W9 (PreOf R mc ms Pc) (PostOf Qc mc ms free) (vx_Post XC mc ms free) := by
  intro m meth c A g ig mk a X hg hsize hdg hW hn hp
  have h1 : (headSpec ws rm).pre.before a A.U = true := atoms_intro fun w hw => hws w hw _ _ X.warmed
  have h2 : (Cond.codeWith y bytes maxL ret hh).before a A.U = true := hws _ hcode _ _ X.warmed
  have h3 : (Cond.initialized y.cls).before a A.U = true := hinit _ _ X.warmed
  have h4 : A.cells + (headSpec ws rm).room.cells ≤ R.cells := by rw [show (headSpec ws rm).room.cells = mc from hrc]; exact hp.1
  have h5 : A.slots + (headSpec ws rm).room.slots ≤ R.slots := by rw [show (headSpec ws rm).room.slots = ms from hrs]; exact hp.2.1
  have hPc : Pc a (A.U.calling g mk a) := hblind _ _ _ _ hp.2.2
  obtain ⟨U, Ls, c0, s0⟩ := A
  dsimp only [Pt.U, Pt.locs, Pt.cells, Pt.slots] at h1 h2 h3 h4 h5 X hn hPc ⊢
  obtain ⟨m9, methY, cY, hn9, hmY, hcY, -, hlY, -⟩ := Cond.codeWith_spec h2
  cases Option.some.inj (hn9.symm.trans hn)
  obtain ⟨kY, hkY, -⟩ := className_of_methodNamed hn
  have hinitY : kY.init = .initialized := Cond.initialized_spec (findClass_of_methodNamed hn) hkY h3
  have h : At U g.method c below := by rw [hg]; exact X.here
  have hlocals9 : W9 + (maxL + 11) + (headSpec ws rm).room.locals ≤ R.locals := hlocals
  have happ : (headSpec ws rm).appliesLoose y e.platform (U.calling g mk a) = true :=
    Spec.appliesLoose_calling (g := g) h hdg hn hkY hinitY
      (X.room_calling (g := g) (R' := (headSpec ws rm).room) hsize hmY hcY hframes (by rw [hlY]; omega) h4 h5) h1
  obtain ⟨mid, hmid⟩ := h.above
  have hfr : (U.setTop g).frames = (.java g :: mid) ++ below := by rw [State.frames_setTop' g h.top, hmid]; rfl
  obtain ⟨o, s₂, hsteps, -, hend, hq⟩ := Steps.callFree hM p X.admits X.cas X.clock (acts := []) hfr happ hPc trivial
  have hq' : vx_Q Qc XC mc ms free a (U.calling g mk a) o s₂ := hq
  rw [State.frames_setTop' g h.top] at hend
  obtain ⟨g₀, hg0⟩ := Option.isSome_iff_exists.mp h.top
  obtain ⟨r, hr⟩ := State.topJava?_eq_some.mp hg0
  have hr' : (({ U with heap := s₂.heap, slotsUsed := s₂.slotsUsed } : State).setVm s₂.vm).frames = .java g₀ :: r := hr
  rcases hq' with ⟨hqc, L, hfe, hL⟩ | ⟨q, rfl, E, ce, L, hx, hce, hcv, hcl, hW₂, hsm, hL⟩
  · obtain ⟨⟨v, rfl⟩, hW₂, e2, q2, q3, q4, q5, q6⟩ := id hfe
    have e3 : s₂ = ({ (U.calling g mk a).setFrames s₂.frames with heap := s₂.heap, slotsUsed := s₂.slotsUsed } : State).setVm s₂.vm := by
      have : s₂ = ({ s₂ with vm := (U.calling g mk a).vm } : State).setVm s₂.vm := rfl
      rw [e2] at this
      exact this
    obtain ⟨c₂, i₂, len₂, hc₂, hd₂, hf₂⟩ := hend
    have hW' : U.WarmedH s₂.vm := hW₂
    have hcc : c₂ = c := by
      have h1 : s₂.code? g.method = U.code? g.method := by
        rw [State.code?_eq, State.code?_eq, hW'.alike.method?]
      exact Option.some.inj (hc₂.symm.trans (h1.trans h.code))
    subst hcc
    have hlen : len₂ = len := by rw [hdg] at hd₂; cases hd₂; rfl
    subst hlen
    have hs₂ : s₂ = (({ U with heap := s₂.heap, slotsUsed := s₂.slotsUsed } : State).setVm s₂.vm).setTop { g with pc := g.pc + len₂, stack := v.toList ++ g.stack } := by
      refine e3.trans ?_
      rw [hf₂, State.calling_eq h.top, State.setFrames_setFrames, State.setTop_of_frames _ hr', hr]
      rfl
    have hsame : U.sameButNew ({ U with heap := s₂.heap, slotsUsed := s₂.slotsUsed } : State) L mc ms := by
      refine ⟨?_, q2, q3, q4, q5, q6⟩
      obtain ⟨t, ht, -⟩ := State.frames_cons hr
      show ({ U with heap := s₂.heap, slotsUsed := s₂.slotsUsed } : State) = { U.setFrames U.frames with heap := s₂.heap, slotsUsed := s₂.slotsUsed }
      rw [State.setFrames_self ht]
    subst hg
    refine Or.inl ⟨v, ⟨(({ U with heap := s₂.heap, slotsUsed := s₂.slotsUsed } : State).setVm s₂.vm), Ls ++ L, c0 + mc, s0 + ms⟩,
      ⟨X.admits, X.cas, X.clock, X.frames, X.room, X.hears, X.method, X.code, (X.here.setHeapUsed s₂.heap s₂.slotsUsed).setVm hW'.alike, X.tail, State.WarmedH.trans X.warmed hW', X.limits, X.bytes, X.same.trans (hsame.setVm s.vm)⟩,
      ⟨g, mk, s₂, L, rfl, rfl, hqc, rfl, hL, rfl, rfl⟩, ?_⟩
    show Steps p.tables e below _ ((({ U with heap := s₂.heap, slotsUsed := s₂.slotsUsed } : State).setVm s₂.vm).setTop { g with pc := g.pc + len₂, stack := v.toList ++ g.stack })
    rw [← hs₂]
    exact hsteps
  · obtain ⟨e2, q2, q3, q4, q5, q6⟩ := id hsm
    have e3 : s₂ = ({ (U.calling g mk a).setFrames s₂.frames with heap := s₂.heap, slotsUsed := s₂.slotsUsed } : State).setVm s₂.vm := by
      have : s₂ = ({ s₂ with vm := (U.calling g mk a).vm } : State).setVm s₂.vm := rfl
      rw [e2] at this
      exact this
    have hf₂ : s₂.frames = .throwing q :: .java g :: U.frames.tail := hend
    have hW' : U.WarmedH s₂.vm := hW₂
    have hs₂ : s₂ = ((({ U with heap := s₂.heap, slotsUsed := s₂.slotsUsed } : State).setVm s₂.vm).setTop g).pushFrame (.throwing q) := by
      refine e3.trans ?_
      rw [hf₂, State.calling_eq h.top, State.setFrames_setFrames, State.pushFrame, State.frames_setTop _ hr', State.setTop_of_frames _ hr', State.setFrames_setFrames, hr]
      rfl
    have hsame : U.sameButNew ({ U with heap := s₂.heap, slotsUsed := s₂.slotsUsed } : State) L mc ms := by
      refine ⟨?_, q2, q3, q4, q5, q6⟩
      obtain ⟨t, ht, -⟩ := State.frames_cons hr
      show ({ U with heap := s₂.heap, slotsUsed := s₂.slotsUsed } : State) = { U.setFrames U.frames with heap := s₂.heap, slotsUsed := s₂.slotsUsed }
      rw [State.setFrames_self ht]
    subst hg
    refine Or.inr ⟨q, ⟨(({ U with heap := s₂.heap, slotsUsed := s₂.slotsUsed } : State).setVm s₂.vm), Ls ++ L, c0 + mc, s0 + ms⟩,
      ⟨X.admits, X.cas, X.clock, X.frames, X.room, X.hears, X.method, X.code, (X.here.setHeapUsed s₂.heap s₂.slotsUsed).setVm hW'.alike, X.tail, State.WarmedH.trans X.warmed hW', X.limits, X.bytes, X.same.trans (hsame.setVm s.vm)⟩,
      ⟨g, mk, s₂, L, E, ce, rfl, rfl, hx, hce, hcv, hcl, rfl, hL, rfl, rfl⟩, ?_⟩
    show Steps p.tables e below _ (((({ U with heap := s₂.heap, slotsUsed := s₂.slotsUsed } : State).setVm s₂.vm).setTop g).pushFrame (.throwing q))
    rw [← hs₂]
    exact hsteps
end
variable {p : Program} {l : Launch} {e : Env} {R : Room} {s : State} {m : MethodId} {args : Array Value} {below : List Frame} {meth : Method} {c : Code} {T : State} {H : Heap} {locs : List Loc} {cells slots : Nat}
theorem vx_callVX (X : Stand p l e R s m args below meth c T locs cells slots) (hexec : p.tables.exec = Jvm.exec) {own C : String} {index : Nat} {y : MethodName} {bytes : ByteArray} {maxL : Nat} {ret : Option FieldType} {hh : List (Nat × Nat × Nat × Nat)}
    (hown : s.vm.findClass own = some m.cls) (hlink : (Cond.methodLink own index y).before args s = true) (hinst : (Cond.instanceMethod y).before args s = true) (hsel : (Cond.selects C y y).before args s = true)
    (hcode : (Cond.codeWith y bytes maxL ret hh).before args s = true) (hy : y.cls ≠ "java/lang/invoke/MethodHandle" ∧ y.cls ≠ "java/lang/invoke/VarHandle")
    {W9 : Nat} {Pre : Pt → Array Value → Prop} {Post : Pt → Array Value → Option Value → Pt → Prop} {PostX : Pt → Array Value → Addr → Pt → Prop} (hK : vx_Back l R p e below s args y 3 W9 Pre Post PostX)
    {b : Addr} {cellB : Cell} (hcell : T.heap[b]? = some cellB) (hobj : cellB.vm.isStatics = false) (hcls : s.vm.findClass C = some cellB.cls)
    {g : JFrame} (hg : g.method = m) (hsize : g.locals.size = c.maxLocals) {argsL rest : List Value} (hlen : ∀ sig, parseMethodDescriptor y.desc = some sig → argsL.length = sig.parameters.length)
    (hstack : g.stack = argsL.reverse ++ .ref b :: rest) (hW : 2 * g.monitorRoom + (rest.map fun v => v.category).sum ≤ W9) (hdg : decode c.code g.pc = .ok (.invokevirtual index, 3))
    (hpre : ∀ vm₁, s.WarmedH vm₁ → Pre ⟨T.setVm vm₁, locs, cells, slots⟩ (Value.ref b :: argsL).toArray) :
    (∃ (v : Option Value) (vm₁ : Vm) (B : Pt), s.WarmedH vm₁ ∧ Stand p l e R s m args below meth c B.U B.locs B.cells B.slots ∧ Post ⟨T.setVm vm₁, locs, cells, slots⟩ (Value.ref b :: argsL).toArray v B ∧
      ∀ target, Steps p.tables e below (B.U.setTop { g with pc := g.pc + 3, stack := v.toList ++ rest }) target → Steps p.tables e below (T.setTop g) target) ∨
    (∃ (q : Addr) (vm₁ : Vm) (B : Pt), s.WarmedH vm₁ ∧ Stand p l e R s m args below meth c B.U B.locs B.cells B.slots ∧ PostX ⟨T.setVm vm₁, locs, cells, slots⟩ (Value.ref b :: argsL).toArray q B ∧
      Steps p.tables e below (T.setTop g) ((B.U.setTop { g with stack := rest }).pushFrame (.throwing q))) := by
  obtain ⟨mk, methM, hnamed, hmethM, hstM, habM⟩ := Cond.instanceMethod_spec hinst
  obtain ⟨m8, methM', cM, hn8, hmethM', -, -, -, -, -, -, hsigM⟩ := Cond.codeWith_spec hcode
  cases Option.some.inj (hn8.symm.trans hnamed)
  cases hmethM.symm.trans hmethM'
  obtain ⟨c2, r2, m2, q1, q2, q3, q4, kP, hkP, hkPi⟩ := Cond.selects_spec hsel
  cases hcls.symm.trans q1
  cases (State.methodFound?_of_named hnamed hy).symm.trans q2
  cases hnamed.symm.trans q3
  have hselP : selectMethod e.platform s.vm cellB.cls mk = .method mk := by rw [Launch.admits_selectMethod X.admits]; exact q4
  obtain ⟨vm₁, X₁, hstep₁⟩ := X.invokevirtual hexec hown hlink hnamed hmethM hstM hkP hkPi hy (a := b) (cell := cellB) hcell
    (fun z h => by rw [h] at hobj; cases hobj) hselP hmethM habM hkP hkPi (g := g) hg (argsL := argsL) (rest := rest) (hlen _ hsigM) hstack hdg
  rcases hK m meth c ⟨T.setVm vm₁, locs, cells, slots⟩ { g with stack := rest } (.invokevirtual index) mk (Value.ref b :: argsL).toArray X₁ hg hsize hdg hW (X₁.named hnamed) (hpre vm₁ X₁.warmed) with ⟨v, B, X', hpost, hsteps⟩ | ⟨q, B, X', hpost, hsteps⟩
  · exact Or.inl ⟨v, vm₁, B, X₁.warmed, X', hpost, fun target h => hstep₁ _ fun acts => by rw [doInvoke_state]; exact hsteps.trans h⟩
  · exact Or.inr ⟨q, vm₁, B, X₁.warmed, X', hpost, hstep₁ _ fun acts => by rw [doInvoke_state]; exact hsteps⟩
theorem vx_callSX (X : Stand p l e R s m args below meth c T locs cells slots) (hexec : p.tables.exec = Jvm.exec) {own : String} {index : Nat} {y : MethodName} {bytes : ByteArray} {maxL : Nat} {ret : Option FieldType} {hh : List (Nat × Nat × Nat × Nat)}
    (hown : s.vm.findClass own = some m.cls) (hlink : (Cond.methodLink own index y).before args s = true) (hstat : (Cond.static y).before args s = true) (hinit : (Cond.initialized y.cls).before args s = true)
    (hcode : (Cond.codeWith y bytes maxL ret hh).before args s = true) (hy : y.cls ≠ "java/lang/invoke/MethodHandle" ∧ y.cls ≠ "java/lang/invoke/VarHandle")
    {W9 : Nat} {Pre : Pt → Array Value → Prop} {Post : Pt → Array Value → Option Value → Pt → Prop} {PostX : Pt → Array Value → Addr → Pt → Prop} (hK : vx_Back l R p e below s args y 3 W9 Pre Post PostX)
    {g : JFrame} (hg : g.method = m) (hsize : g.locals.size = c.maxLocals) {argsL rest : List Value} (hlen : ∀ sig, parseMethodDescriptor y.desc = some sig → argsL.length = sig.parameters.length)
    (hstack : g.stack = argsL.reverse ++ rest) (hW : 2 * g.monitorRoom + (rest.map fun v => v.category).sum ≤ W9) (hdg : decode c.code g.pc = .ok (.invokestatic index, 3))
    (hpre : ∀ vm₁, s.WarmedH vm₁ → Pre ⟨T.setVm vm₁, locs, cells, slots⟩ argsL.toArray) :
    (∃ (v : Option Value) (vm₁ : Vm) (B : Pt), s.WarmedH vm₁ ∧ Stand p l e R s m args below meth c B.U B.locs B.cells B.slots ∧ Post ⟨T.setVm vm₁, locs, cells, slots⟩ argsL.toArray v B ∧
      ∀ target, Steps p.tables e below (B.U.setTop { g with pc := g.pc + 3, stack := v.toList ++ rest }) target → Steps p.tables e below (T.setTop g) target) ∨
    (∃ (q : Addr) (vm₁ : Vm) (B : Pt), s.WarmedH vm₁ ∧ Stand p l e R s m args below meth c B.U B.locs B.cells B.slots ∧ PostX ⟨T.setVm vm₁, locs, cells, slots⟩ argsL.toArray q B ∧
      Steps p.tables e below (T.setTop g) ((B.U.setTop { g with stack := rest }).pushFrame (.throwing q))) := by
  obtain ⟨mk, methM, cM, hnamed, hmethM, -, -, -, -, -, -, hsigM⟩ := Cond.codeWith_spec hcode
  have hstatic : methM.isStatic = true := Cond.static_spec hnamed hmethM hstat
  obtain ⟨kP, hkP, -⟩ := className_of_methodNamed hnamed
  have hinitP : kP.init = .initialized := Cond.initialized_spec (findClass_of_methodNamed hnamed) hkP hinit
  obtain ⟨vm₁, X₁, hstep₁⟩ := X.invokestatic hexec hown hlink hnamed hmethM hstatic hkP hinitP hy (g := g) hg (argsL := argsL) (rest := rest) (hlen _ hsigM) hstack hdg
  rcases hK m meth c ⟨T.setVm vm₁, locs, cells, slots⟩ { g with stack := rest } (.invokestatic index) mk argsL.toArray X₁ hg hsize hdg hW (X₁.named hnamed) (hpre vm₁ X₁.warmed) with ⟨v, B, X', hpost, hsteps⟩ | ⟨q, B, X', hpost, hsteps⟩
  · exact Or.inl ⟨v, vm₁, B, X₁.warmed, X', hpost, fun target h => hstep₁ _ fun acts => by rw [doInvoke_state]; exact hsteps.trans h⟩
  · exact Or.inr ⟨q, vm₁, B, X₁.warmed, X', hpost, hstep₁ _ fun acts => by rw [doInvoke_state]; exact hsteps⟩
theorem vx_callVW (X : Stand p l e R s m args below meth c T locs cells slots) (hexec : p.tables.exec = Jvm.exec) {own C : String} {index : Nat} {y : MethodName} {bytes : ByteArray} {maxL : Nat} {ret : Option FieldType} {hh : List (Nat × Nat × Nat × Nat)}
    (hown : s.vm.findClass own = some m.cls) (hlink : (Cond.methodLink own index y).before args s = true) (hinst : (Cond.instanceMethod y).before args s = true) (hsel : (Cond.selects C y y).before args s = true)
    (hcode : (Cond.codeWith y bytes maxL ret hh).before args s = true) (hy : y.cls ≠ "java/lang/invoke/MethodHandle" ∧ y.cls ≠ "java/lang/invoke/VarHandle")
    {W9 : Nat} {Pre : Pt → Array Value → Prop} {Post : Pt → Array Value → Option Value → Pt → Prop} (hK : Back l R p e below s args y 3 W9 Pre Post)
    {b : Addr} {cellB : Cell} (hcell : T.heap[b]? = some cellB) (hobj : cellB.vm.isStatics = false) (hcls : s.vm.findClass C = some cellB.cls)
    {g : JFrame} (hg : g.method = m) (hsize : g.locals.size = c.maxLocals) {argsL rest : List Value} (hlen : ∀ sig, parseMethodDescriptor y.desc = some sig → argsL.length = sig.parameters.length)
    (hstack : g.stack = argsL.reverse ++ .ref b :: rest) (hW : 2 * g.monitorRoom + (rest.map fun v => v.category).sum ≤ W9) (hdg : decode c.code g.pc = .ok (.invokevirtual index, 3))
    (hpre : ∀ vm₁, s.WarmedH vm₁ → Pre ⟨T.setVm vm₁, locs, cells, slots⟩ (Value.ref b :: argsL).toArray) :
    ∃ (v : Option Value) (vm₁ : Vm) (B : Pt), s.WarmedH vm₁ ∧ Stand p l e R s m args below meth c B.U B.locs B.cells B.slots ∧ Post ⟨T.setVm vm₁, locs, cells, slots⟩ (Value.ref b :: argsL).toArray v B ∧
      ∀ target, Steps p.tables e below (B.U.setTop { g with pc := g.pc + 3, stack := v.toList ++ rest }) target → Steps p.tables e below (T.setTop g) target := by
  obtain ⟨mk, methM, hnamed, hmethM, hstM, habM⟩ := Cond.instanceMethod_spec hinst
  obtain ⟨m8, methM', cM, hn8, hmethM', -, -, -, -, -, -, hsigM⟩ := Cond.codeWith_spec hcode
  cases Option.some.inj (hn8.symm.trans hnamed)
  cases hmethM.symm.trans hmethM'
  obtain ⟨c2, r2, m2, q1, q2, q3, q4, kP, hkP, hkPi⟩ := Cond.selects_spec hsel
  cases hcls.symm.trans q1
  cases (State.methodFound?_of_named hnamed hy).symm.trans q2
  cases hnamed.symm.trans q3
  have hselP : selectMethod e.platform s.vm cellB.cls mk = .method mk := by rw [Launch.admits_selectMethod X.admits]; exact q4
  obtain ⟨vm₁, X₁, hstep₁⟩ := X.invokevirtual hexec hown hlink hnamed hmethM hstM hkP hkPi hy (a := b) (cell := cellB) hcell
    (fun z h => by rw [h] at hobj; cases hobj) hselP hmethM habM hkP hkPi (g := g) hg (argsL := argsL) (rest := rest) (hlen _ hsigM) hstack hdg
  obtain ⟨v, B, X', hpost, hsteps⟩ := hK m meth c ⟨T.setVm vm₁, locs, cells, slots⟩ { g with stack := rest } (.invokevirtual index) mk (Value.ref b :: argsL).toArray X₁ hg hsize hdg hW (X₁.named hnamed) (hpre vm₁ X₁.warmed)
  exact ⟨v, vm₁, B, X₁.warmed, X', hpost, fun target h => hstep₁ _ fun acts => by rw [doInvoke_state]; exact hsteps.trans h⟩
abbrev vx_CVW (R : Room) (s : State) (args : Array Value) (own C : String) (index : Nat) (y : MethodName) (bytes : ByteArray) (maxL : Nat) (ret : Option FieldType) (hh : List (Nat × Nat × Nat × Nat)) (ws : List Cond) (rm : Room) (mc ms n : Nat) : Prop :=
  (rm.cells = mc ∧ rm.slots = ms ∧ rm.frames + 1 ≤ R.frames ∧ 8 + (maxL + 11) + rm.locals ≤ R.locals ∧ (∀ w ∈ ws, ∀ (a' : Array Value) (U : State), s.WarmedH U.vm → w.before a' U = true) ∧ Cond.codeWith y bytes maxL ret hh ∈ ws) ∧
  (Cond.codeWith y bytes maxL ret hh).before args s = true ∧ (Cond.initialized y.cls).before args s = true ∧ (y.cls ≠ "java/lang/invoke/MethodHandle" ∧ y.cls ≠ "java/lang/invoke/VarHandle") ∧
  (∀ sig, parseMethodDescriptor y.desc = some sig → n = sig.parameters.length) ∧ (Cond.methodLink own index y).before args s = true ∧ (Cond.instanceMethod y).before args s = true ∧ (Cond.selects C y y).before args s = true
theorem vx_cwVW {own C : String} {index maxL mc ms : Nat} {y : MethodName} {bytes : ByteArray} {ret : Option FieldType} {hh : List (Nat × Nat × Nat × Nat)} {Ts ws ws' : List Cond} {rm : Room} (n : Nat) (ht : ∀ w ∈ Ts, w.before args s = true) (hT : GoodIn Ts (wsV own index C y ws)) (hw : ws = Cond.codeWith y bytes maxL ret hh :: ws') (hrc : rm.cells = mc) (hrs : rm.slots = ms)
    (hd : y.cls = C ∧ y.cls ≠ "java/lang/invoke/MethodHandle" ∧ y.cls ≠ "java/lang/invoke/VarHandle" ∧ (parseMethodDescriptor y.desc).map (fun d => d.parameters.length) = some n) (hR : rm.frames + 1 ≤ R.frames ∧ 8 + (maxL + 11) + rm.locals ≤ R.locals) :
    vx_CVW R s args own C index y bytes maxL ret hh ws rm mc ms n := by
  obtain ⟨hC, hd⟩ := hd
  subst hC
  have ok : ∀ w ∈ wsV own index y.cls y ws, w.before args s = true := fun w h => ht w (hT w h).1
  have hG : GoodIn Ts ws := fun w h => hT w (by unfold wsV; exact List.mem_append_right _ h)
  have hc : Cond.codeWith y bytes maxL ret hh ∈ ws := by rw [hw]; exact List.mem_cons_self
  refine ⟨⟨hrc, hrs, hR.1, hR.2, pay_in ht hG, hc⟩, ht _ (hG _ hc).1, ok _ (by simp [wsV]), ⟨hd.1, hd.2.1⟩, fun sig h => ?_, ok _ (by simp [wsV]), ok _ (by simp [wsV]), ok _ (by simp [wsV])⟩
  have h2 := hd.2.2
  rw [h] at h2
  exact (Option.some.inj h2).symm
theorem vx_runVW {y : MethodName} {bytes cc : ByteArray} {maxL nL mc ms n index : Nat} {ret : Option FieldType} {hh : List (Nat × Nat × Nat × Nat)} {ws : List Cond} {rm : Room} {Pc : Array Value → State → Prop} {Qc : Array Value → State → Outcome → State → Prop} {free : Addr → Prop} {Ts : List Cond} {own C : String} {b : Addr} {As rest : List Value} {g : JFrame}
    (S : CallFix p m c cc nL s args Ts own) (hM : Met l y ws rm Pc Qc mc ms free) (cw : vx_CVW R s args own C index y bytes maxL ret hh ws rm mc ms n) (hp : PreV s H C b Pc As)
    (hg : g.method = m) (hn : As.length = n) (hsize : g.locals.size = nL) (hstack : g.stack = As.reverse ++ .ref b :: rest) (hW : 2 * g.monitorRoom + (rest.map fun v => v.category).sum ≤ 8) (hdg : decode cc g.pc = .ok (.invokevirtual index, 3)) (hf : cells + mc ≤ R.cells ∧ slots + ms ≤ R.slots) :
    va_Run p l e R s m args below meth c H locs cells slots mc ms g rest (Qc (Value.ref b :: As).toArray) free := by
  obtain ⟨⟨hrc, hrs, hfr, hlo, hws, hcw⟩, hcode, hini, hy, hlen, hl, hin, hse⟩ := cw
  have hK : Back l R p e below s args y 3 8 (PreOf R mc ms Pc) (PostOf Qc mc ms free) := va_backW (hh := hh) (bytes := bytes) (maxL := maxL) (ret := ret) hM hp.1 hrc hrs hfr hlo hws hcw (fun a' U hW => word_at hW (Or.inl (by first | rfl | simp [Cond.onTables, Cond.keeps, Cond.steady])) hini)
  obtain ⟨hx, hb, hml, ho, -⟩ := S
  obtain ⟨-, ⟨cellB, hcB, hoB, hclB⟩, hPc⟩ := hp
  intro T hT X
  obtain ⟨v, vm₁, ⟨U', l2, c2, s2⟩, hW₁, X', ⟨g', mk, t, L, e1, e2, hq, h1, hL, h2, h3⟩, st⟩ := vx_callVW X hx (C := C) (hh := hh) (bytes := bytes) (maxL := maxL) (ret := ret) ho hl hin hse hcode hy hK (by rw [hT]; exact hcB) hoB hclB hg (hsize.trans hml.symm) (argsL := As) (rest := rest) (fun sig h => hn.trans (hlen sig h)) hstack hW (by rw [hb]; exact hdg)
    (fun vm₁ hW₁ => ⟨hf.1, hf.2, hPc (T.setVm vm₁) hT hW₁⟩)
  dsimp only [Pt.U, Pt.locs, Pt.cells, Pt.slots] at X' e1 e2 h1 h2 h3 st
  subst h1; subst h2; subst h3
  exact ⟨v, (T.setVm vm₁).calling g' mk (Value.ref b :: As).toArray, t, U', L, hT, X', hL, e1, e2, hq, st⟩
section
variable {y : MethodName} {bytes cc : ByteArray} {maxL nL mc ms n index : Nat} {ret : Option FieldType} {ws : List Cond} {rm : Room} {Pc : Array Value → State → Prop} {Qc : Array Value → State → Outcome → State → Prop} {XC : String → State → State → Prop} {free : Addr → Prop} {Ts : List Cond} {own C : String} {b : Addr} {As rest : List Value} {g : JFrame}
theorem vx_runVX {hh : List (Nat × Nat × Nat × Nat)} (S : CallFix p m c cc nL s args Ts own) (hM : vx_Met l y ws rm Pc Qc XC mc ms free) (cw : vx_CVW R s args own C index y bytes maxL ret hh ws rm mc ms n) (hp : PreV s H C b Pc As)
    (hg : g.method = m) (hn : As.length = n) (hsize : g.locals.size = nL) (hstack : g.stack = As.reverse ++ .ref b :: rest) (hW : 2 * g.monitorRoom + (rest.map fun v => v.category).sum ≤ 8) (hdg : decode cc g.pc = .ok (.invokevirtual index, 3)) (hf : cells + mc ≤ R.cells ∧ slots + ms ≤ R.slots) :
    vx_Run p l e R s m args below meth c H locs cells slots mc ms g rest (Qc (Value.ref b :: As).toArray) XC free := by
  obtain ⟨⟨hrc, hrs, hfr, hlo, hws, hcw⟩, hcode, hini, hy, hlen, hl, hin, hse⟩ := cw
  have hK : vx_Back l R p e below s args y 3 8 (PreOf R mc ms Pc) (PostOf Qc mc ms free) (vx_Post XC mc ms free) := vx_backW (hh := hh) (bytes := bytes) (maxL := maxL) (ret := ret) hM hp.1 hrc hrs hfr hlo hws hcw (fun a' U hW => word_at hW (Or.inl (by first | rfl | simp [Cond.onTables, Cond.keeps, Cond.steady])) hini)
  obtain ⟨hx, hb, hml, ho, -⟩ := S
  obtain ⟨-, ⟨cellB, hcB, hoB, hclB⟩, hPc⟩ := hp
  intro T hT X
  rcases vx_callVX X hx (C := C) (hh := hh) (bytes := bytes) (maxL := maxL) (ret := ret) ho hl hin hse hcode hy hK (by rw [hT]; exact hcB) hoB hclB hg (hsize.trans hml.symm) (argsL := As) (rest := rest) (fun sig h => hn.trans (hlen sig h)) hstack hW (by rw [hb]; exact hdg)
    (fun vm₁ hW₁ => ⟨hf.1, hf.2, hPc (T.setVm vm₁) hT hW₁⟩) with ⟨v, vm₁, ⟨U', l2, c2, s2⟩, hW₁, X', ⟨g', mk, t, L, e1, e2, hq, h1, hL, h2, h3⟩, st⟩ | ⟨q, vm₁, ⟨U', l2, c2, s2⟩, hW₁, X', ⟨g', mk, t, L, E, ce, e1, e2, hq, hce, hcv, hcl, h1, hL, h2, h3⟩, st⟩
  · dsimp only [Pt.U, Pt.locs, Pt.cells, Pt.slots] at X' e1 e2 h1 h2 h3 st
    subst h1; subst h2; subst h3
    exact Or.inl ⟨v, (T.setVm vm₁).calling g' mk (Value.ref b :: As).toArray, t, U', L, hT, X', hL, e1, e2, hq, st⟩
  · dsimp only [Pt.U, Pt.locs, Pt.cells, Pt.slots] at X' e1 e2 h1 h2 h3 st hcl
    subst h1; subst h2; subst h3
    exact Or.inr ⟨q, (T.setVm vm₁).calling g' mk (Value.ref b :: As).toArray, t, U', L, E, ce, hT, X', hL, e1, e2, hq, hce, hcv, vx_cls hW₁ hcl, st⟩
theorem vx_runSX {hh : List (Nat × Nat × Nat × Nat)} (S : CallFix p m c cc nL s args Ts own) (hM : vx_Met l y ws rm Pc Qc XC mc ms free) (cw : vx_CSW R s args own index y bytes maxL ret hh ws rm mc ms n) (hp : PreS s H Pc As)
    (hg : g.method = m) (hn : As.length = n) (hsize : g.locals.size = nL) (hstack : g.stack = As.reverse ++ rest) (hW : 2 * g.monitorRoom + (rest.map fun v => v.category).sum ≤ 8) (hdg : decode cc g.pc = .ok (.invokestatic index, 3)) (hf : cells + mc ≤ R.cells ∧ slots + ms ≤ R.slots) :
    vx_Run p l e R s m args below meth c H locs cells slots mc ms g rest (Qc As.toArray) XC free := by
  obtain ⟨⟨hrc, hrs, hfr, hlo, hws, hcw⟩, hcode, hini, hy, hlen, hl, hstt⟩ := cw
  have hK : vx_Back l R p e below s args y 3 8 (PreOf R mc ms Pc) (PostOf Qc mc ms free) (vx_Post XC mc ms free) := vx_backW (hh := hh) (bytes := bytes) (maxL := maxL) (ret := ret) hM hp.1 hrc hrs hfr hlo hws hcw (fun a' U hW => word_at hW (Or.inl (by first | rfl | simp [Cond.onTables, Cond.keeps, Cond.steady])) hini)
  obtain ⟨hx, hb, hml, ho, -⟩ := S
  intro T hT X
  rcases vx_callSX X hx (hh := hh) (bytes := bytes) (maxL := maxL) (ret := ret) ho hl hstt hini hcode hy hK hg (hsize.trans hml.symm) (argsL := As) (rest := rest) (fun sig h => hn.trans (hlen sig h)) hstack hW (by rw [hb]; exact hdg)
    (fun vm₁ hW₁ => ⟨hf.1, hf.2, hp.2 (T.setVm vm₁) hT hW₁⟩) with ⟨v, vm₁, ⟨U', l2, c2, s2⟩, hW₁, X', ⟨g', mk, t, L, e1, e2, hq, h1, hL, h2, h3⟩, st⟩ | ⟨q, vm₁, ⟨U', l2, c2, s2⟩, hW₁, X', ⟨g', mk, t, L, E, ce, e1, e2, hq, hce, hcv, hcl, h1, hL, h2, h3⟩, st⟩
  · dsimp only [Pt.U, Pt.locs, Pt.cells, Pt.slots] at X' e1 e2 h1 h2 h3 st
    subst h1; subst h2; subst h3
    exact Or.inl ⟨v, (T.setVm vm₁).calling g' mk As.toArray, t, U', L, hT, X', hL, e1, e2, hq, st⟩
  · dsimp only [Pt.U, Pt.locs, Pt.cells, Pt.slots] at X' e1 e2 h1 h2 h3 st hcl
    subst h1; subst h2; subst h3
    exact Or.inr ⟨q, (T.setVm vm₁).calling g' mk As.toArray, t, U', L, E, ce, hT, X', hL, e1, e2, hq, hce, hcv, vx_cls hW₁ hcl, st⟩
end
end VXH
theorem vx_ofWH {l : Launch} {y : MethodName} {ws ws' : List Cond} {rm : Room} {Pc : Array Value → State → Prop} {Qc : Array Value → State → Outcome → State → Prop} {XC : String → State → State → Prop} {mc ms : Nat} {free : Addr → Prop} {cc : ByteArray} {maxL : Nat} {ret : Option FieldType} {hh : List (Nat × Nat × Nat × Nat)}
    (hy : plainName y.cls = true) (hw : ws = Cond.codeWith y cc maxL ret hh :: ws')
    (body : ∀ p e s m args below meth c s₁, BodyLoose p l y (headSpec ws rm) cc maxL ret e s m args below meth c s₁ → c.maxLocals = maxL → Pc args s →
      W p l e (headSpec ws rm).room s m args below meth c s.heap [] 0 0 (vx_MQ below Qc XC args s mc ms free) (entryFrame m args maxL)) : vx_Met l y ws rm Pc Qc XC mc ms free := by
  refine MetFree.of_bodyS (code := cc) (maxLocals := maxL) (ret := ret) hy ?_ ?_
  · intro args s m h hn
    obtain ⟨m9, meth, c, hn9, h1, h2, h3, h4, -, h5, h6, -⟩ := Cond.codeWith_spec (atoms_spec (ws := ws) h _ (by rw [hw]; exact List.mem_cons_self))
    cases hn.symm.trans hn9
    exact ⟨meth, c, h1, h2, h3, h4, h5, h6⟩
  · intro p e s m args below meth c s₁ B hml hP _
    have hh0 : s₁.heap = s.heap := by rw [B.state]; rfl
    obtain ⟨t, a1, o, b1, b2, b3⟩ := body p e s m args below meth c s₁ B hml hP s₁ hh0 (Stand.of_body B)
    exact ⟨t, o, a1, b1, b2, b3⟩
/-! ===== END ===== -/
end
section
/-! THE TABLES' WORDS, all of one kind: a fact of the machine's state that stays when it warms up -/
def okw : Cond → Bool
  | .arrayClass _ => true
  | .fieldLinkNest .. => true
  | .methodLinkNest .. => true
  | .declares _ => true
  | .castable .. => true
  | .arrayOver _ => true
  | w => w.onTables && w.keeps
def TW : List Cond := lw_tbl.filter okw
theorem tw_in {w : Cond} (h : w ∈ lw_tbl) (o : okw w = true) : w ∈ TW := List.mem_filter.mpr ⟨h, o⟩
theorem tw_at {i : Nat} {w : Cond} (h : lw_tbl[i]? = some w) (o : okw w = true) : w ∈ TW := tw_in (List.mem_of_getElem? h) o
theorem tw_warm {a a' : Array Value} {s U : State} (hW : s.WarmedH U.vm) {w : Cond} (ho : okw w = true) (h : w.before a s = true) : w.before a' U = true := by
  cases w with
  | arrayClass t => exact word_at hW (Or.inr ⟨_, rfl⟩) h
  | fieldLinkNest x i b n d hh => exact va_Nw.use rfl (va_Nw.warmF hW (va_Nw.of rfl h))
  | methodLinkNest x i b hh => exact va_Nw.use rfl (va_Nw.warmM hW (va_Nw.of rfl h))
  | declares x => exact va_Nw.use rfl (va_Nw.warmD hW (va_Nw.of rfl h))
  | castable x y => exact va_Nw.use rfl (va_Nw.warmC hW (va_Nw.of rfl h))
  | arrayOver ty =>
    have h1 : (Cond.arrayOver ty).before a (s.setVm U.vm) = true := by rw [Cond.arrayOver_setVmC hW.alike]; exact h
    exact h1
  | _ => exact word_at hW (Or.inl ho) h
/-- all words, at a state -/
def Tw (U : State) : Prop := ∀ w ∈ TW, w.before #[] U = true
theorem Tw.warm {s U : State} (hW : s.WarmedH U.vm) (h : Tw s) : Tw U := fun w hw => tw_warm hW (List.mem_filter.mp hw).2 (h w hw)
theorem Tw.of {a : Array Value} {s : State} (h : ∀ w ∈ lw_tbl, w.before a s = true) : Tw s := fun w hw => tw_warm (State.WarmedH.refl s) (List.mem_filter.mp hw).2 (h w (List.mem_filter.mp hw).1)
theorem Tw.use {s : State} (h : Tw s) (a : Array Value) : ∀ w ∈ TW, w.before a s = true := fun w hw => tw_warm (State.WarmedH.refl s) (List.mem_filter.mp hw).2 (h w hw)
theorem Tw.same {s U : State} (e : s.vm = U.vm) (h : Tw s) : Tw U := Tw.warm (by rw [← e]; exact State.WarmedH.refl s) h
theorem tw_wsX0 : ∀ w ∈ u_ws RX0 TX0 14, w ∈ TW := by decide +kernel
theorem tw_wsX1 : ∀ w ∈ u_ws RX1 TX1 3, w ∈ TW := by decide +kernel
theorem tw_wsX2 : ∀ w ∈ u_ws RX2 TX2 5, w ∈ TW := by decide +kernel
theorem tw_wsX3 : ∀ w ∈ u_ws RX3 TX3 4, w ∈ TW := by decide +kernel
theorem tw_wsX4 : ∀ w ∈ u_ws RX4 TX4 3, w ∈ TW := by decide +kernel
theorem tw_wsX5 : ∀ w ∈ u_ws RX5 TX5 7, w ∈ TW := by decide +kernel
theorem tw_wsX6 : ∀ w ∈ u_ws RX6 TX6 19, w ∈ TW := by decide +kernel
end
section
/-- what a cell is: an object (class, slots; a slot: a number, null, or a reference), an array of ints (kind, length), of references, of longs -/
abbrev Ds : Type := (Nat × Nat × (Nat → Option (Option Nat))) ⊕ (Nat × Nat) ⊕ (Nat × Nat × (Nat → Option Nat)) ⊕ Nat
def fv (ad : Nat → Nat) (m : Nat → Int32) (f : Nat → Option (Option Nat)) (k : Nat) : Value := match f k with
  | none => .int (m k)
  | some none => .null
  | some (some j) => .ref (ad j)
def el (dA : Nat → ClassId) (ad : Nat → Nat) (m : Nat → Int32) : Ds → va_E
  | .inl (ci, n, f) => .inr (ci, (List.range n).map (fv ad m f))
  | .inr (.inl (t, n)) => .inl (dA t, n, .inl m)
  | .inr (.inr (.inl (t, n, f))) => .inl (dA t, n, .inr (.inr (.inr (.inr fun k => (f k).map ad))))
  | .inr (.inr (.inr n)) => .inl (dA 3, n, .inr (.inl fun k => (m k).toInt64))
/-- the class tables, the array classes, the region, the three static arrays -/
abbrev GG : Type := va_G × (Nat → ClassId) × (Nat → Prop) × (Nat → Nat)
/-- addresses, what the cells are, which there are -/
abbrev ZZ : Type := (Nat → Nat) × (Nat → Ds) × List Nat
def wv (G : GG) (Z : ZZ) (M : Mem) : va_W := Z.2.2.map fun i => (Z.1 i, el G.2.1 Z.1 (M i) (Z.2.1 i))
def tys (G : GG) : List (ClassId × FieldType) := [(G.2.1 0, .int), (G.2.1 1, .boolean), (G.2.1 2, .char), (G.2.1 3, .long), (G.2.1 4, .array .int), (G.2.1 5, .object RX3), (G.2.1 6, .object RX0)]
def At (Z : ZZ) (i : Nat) (D : Ds) : Prop := i ∈ Z.2.2 ∧ Z.2.1 i = D
def ZOk (G : GG) (Z : ZZ) : Prop := Z.2.2.Nodup ∧ (∀ i ∈ Z.2.2, ∀ j ∈ Z.2.2, Z.1 i = Z.1 j → i = j) ∧ ∀ i ∈ Z.2.2, G.2.2.1 (Z.1 i)
theorem wv_get {G : GG} {Z : ZZ} {M : Mem} {i : Nat} {D : Ds} (h : At Z i D) : ∃ k : Nat, Z.2.2[k]? = some i ∧ (wv G Z M)[k]? = some (Z.1 i, el G.2.1 Z.1 (M i) D) := by
  obtain ⟨h1, rfl⟩ := h
  obtain ⟨k, hk⟩ := List.mem_iff_getElem?.mp h1
  exact ⟨k, hk, by unfold wv; rw [List.getElem?_map, hk]; rfl⟩
theorem map_set {α : Type} (f g : Nat → α) {i : Nat} : ∀ (l : List Nat) (k : Nat), l[k]? = some i → l.Nodup → (∀ j, j ≠ i → g j = f j) → (l.map f).set k (g i) = l.map g
  | [], k, h, _, _ => by simp at h
  | a :: l, 0, h, hn, hg => by
    simp at h; subst h
    rw [List.nodup_cons] at hn
    show g a :: l.map f = g a :: l.map g
    congr 1
    exact List.map_congr_left fun j hj => (hg j (fun e => hn.1 (e ▸ hj))).symm
  | a :: l, k + 1, h, hn, hg => by
    simp at h
    rw [List.nodup_cons] at hn
    have hi : i ∈ l := List.mem_of_getElem? h
    show f a :: (l.map f).set k (g i) = g a :: l.map g
    rw [map_set f g l k h hn.2 hg, hg a (fun e => hn.1 (e ▸ hi))]
theorem wv_set {G : GG} {Z : ZZ} {M : Mem} {i k : Nat} (hz : ZOk G Z) (hk : Z.2.2[k]? = some i) (f : Nat → Int32) : (wv G Z M).set k (Z.1 i, el G.2.1 Z.1 f (Z.2.1 i)) = wv G Z (ms M i f) := by
  unfold wv
  have := map_set (fun j => (Z.1 j, el G.2.1 Z.1 (M j) (Z.2.1 j))) (fun j => (Z.1 j, el G.2.1 Z.1 (ms M i f j) (Z.2.1 j))) Z.2.2 k hk hz.1 (fun j hj => by simp [ms, hj])
  rw [← this]
  simp [ms]
theorem wv_D {G : GG} {Z : ZZ} (hz : ZOk G Z) (M : Mem) : va_D G.2.2.1 (wv G Z M) := by
  obtain ⟨h1, h2, h3⟩ := hz
  unfold wv
  refine ⟨fun i j p q hi hj e => ?_, fun k q hk => ?_⟩
  · rw [List.getElem?_map] at hi hj
    cases a : Z.2.2[i]? with
    | none => rw [a] at hi; cases hi
    | some x =>
      cases b : Z.2.2[j]? with
      | none => rw [b] at hj; cases hj
      | some y =>
        rw [a] at hi; rw [b] at hj
        cases hi; cases hj
        have hxy := h2 x (List.mem_of_getElem? a) y (List.mem_of_getElem? b) e
        subst hxy
        have hl := (List.getElem?_eq_some_iff.mp a).1
        exact (List.getElem?_inj hl h1).mp (a.trans b.symm)
  · rw [List.getElem?_map] at hk
    cases a : Z.2.2[k]? with
    | none => rw [a] at hk; cases hk
    | some x =>
      rw [a] at hk; cases hk
      exact h3 x (List.mem_of_getElem? a)
/-- the statics that the program reads or that a throw carries -/
def Sg (G : GG) (U : State) (H : Heap) : Prop :=
  (va_Z "HandSpans" "SETTING_AT_FIRST" "[I" (.ref (G.2.2.2 0)) G.2.2.1 U H ∧ va_T .int (G.2.2.2 0) 6 (fun k => .int (sa_first.getD k 0)) G.2.2.1 U H) ∧
  (va_Z "HandSpans" "LEAST_SETTING" "[I" (.ref (G.2.2.2 1)) G.2.2.1 U H ∧ va_T .int (G.2.2.2 1) 6 (fun k => .int (sa_least.getD k 0)) G.2.2.1 U H) ∧
  (va_Z "HandSpans" "MOST_SETTING" "[I" (.ref (G.2.2.2 2)) G.2.2.1 U H ∧ va_T .int (G.2.2.2 2) 6 (fun k => .int (sa_most.getD k 0)) G.2.2.1 U H) ∧
  vx_Zq Bundle.tN "UNASSIGNED_STACK" Bundle.steD G.2.2.1 U H ∧ vx_Zq Bundle.tN "SUPPRESSED_SENTINEL" Bundle.listD G.2.2.1 U H
theorem Sg.moved {G : GG} {u U : State} {H : Heap} (hvm : u.vm.Alike U.vm) (h : Sg G u H) : Sg G U H := by
  obtain ⟨⟨a1, a2⟩, ⟨b1, b2⟩, ⟨c1, c2⟩, d, e⟩ := h
  exact ⟨⟨va_Z.moved hvm a1, va_T.moved hvm a2⟩, ⟨va_Z.moved hvm b1, va_T.moved hvm b2⟩, ⟨va_Z.moved hvm c1, va_T.moved hvm c2⟩, vx_Zq.moved hvm d, vx_Zq.moved hvm e⟩
theorem Sg.kept {G : GG} {U : State} {H H1 : Heap} (h : Sg G U H) (hq : ∀ a : Nat, a < H.size → ¬ G.2.2.1 a → H1[a]? = H[a]?) : Sg G U H1 := by
  obtain ⟨⟨a1, a2⟩, ⟨b1, b2⟩, ⟨c1, c2⟩, d, e⟩ := h
  exact ⟨⟨va_Z.kept a1 hq, va_T.kept a2 hq⟩, ⟨va_Z.kept b1 hq, va_T.kept b2 hq⟩, ⟨va_Z.kept c1 hq, va_T.kept c2 hq⟩, vx_Zq.kept d hq, vx_Zq.kept e hq⟩
/-- the world at a state: the memory, the tables, the statics, the words -/
def Wd (G : GG) (Z : ZZ) (M : Mem) (U : State) : Prop := va_P G.1 vwCl (wv G Z M) U.heap ∧ va_K G.1 vwCl (tys G) U ∧ (∀ q : Nat, U.heap.size ≤ q → G.2.2.1 q) ∧ Sg G U U.heap ∧ Tw U
theorem Wd.blind {G : GG} {Z : ZZ} {M : Mem} (As : List Value) : FrameBlind (va_Pc As (Wd G Z M)) := by
  intro a U g mk ⟨h0, h1, h2, h3, h4, h5⟩
  exact ⟨h0, h1, va_K.moved (u := U) (U := U.calling g mk a) (Vm.Alike.refl U.vm) h2, h3, Sg.moved (u := U) (U := U.calling g mk a) (Vm.Alike.refl U.vm) h4, Tw.same (s := U) (U := U.calling g mk a) rfl h5⟩
/-! THE PLACE IN A METHOD -/
abbrev XX : Type := Program × Launch × Env × Room × State × MethodId × Array Value × List Frame × Method × Code × Nat
abbrev xp (X : XX) : Program := X.1
abbrev xl (X : XX) : Launch := X.2.1
abbrev xe (X : XX) : Env := X.2.2.1
abbrev xR (X : XX) : Room := X.2.2.2.1
abbrev xs (X : XX) : State := X.2.2.2.2.1
abbrev xm (X : XX) : MethodId := X.2.2.2.2.2.1
abbrev xa (X : XX) : Array Value := X.2.2.2.2.2.2.1
abbrev xb (X : XX) : List Frame := X.2.2.2.2.2.2.2.1
abbrev xM (X : XX) : Method := X.2.2.2.2.2.2.2.2.1
abbrev xc (X : XX) : Code := X.2.2.2.2.2.2.2.2.2.1
abbrev xn (X : XX) : Nat := X.2.2.2.2.2.2.2.2.2.2
abbrev WX (X : XX) (H : Heap) (locs : List Loc) (k n : Nat) (Q : State → Prop) (pc : Nat) (ls : Array Slot) (st : List Value) : Prop :=
  W (xp X) (xl X) (xe X) (xR X) (xs X) (xm X) (xa X) (xb X) (xM X) (xc X) H locs k n Q (F0 (xm X) pc ls st)
def V (X : XX) (G : GG) (Z : ZZ) (M : Mem) (k n : Nat) (Q : State → Prop) (pc : Nat) (L : List (Nat × Value)) (st : List Value) : Prop :=
  ∀ (H : Heap) (locs : List Loc) (ls : Array Slot), va_P G.1 vwCl (wv G Z M) H → va_S G.2.2.1 (xs X).heap H locs → lv_has ls (xn X) L → WX X H locs k n Q pc ls st
def rmd (d mc ms : Nat) : Room := { frames := d, cells := mc, slots := ms, locals := 40 * d }
/-- what holds all along a body -/
def Cx (X : XX) (G : GG) (own : String) (cc : ByteArray) (ret : Option FieldType) (d mc ms nL : Nat) : Prop :=
  ((xp X).tables.exec = Jvm.exec ∧ (xc X).code = cc ∧ (xM X).sig.returnType = ret ∧ (xc X).maxLocals = nL ∧ xn X = nL) ∧ (xs X).vm.findClass own = some (xm X).cls ∧ Tw (xs X) ∧ (xM X).locks = false ∧
  va_K G.1 vwCl (tys G) (xs X) ∧ (∀ q : Nat, (xs X).heap.size ≤ q → G.2.2.1 q) ∧ Sg G (xs X) (xs X).heap ∧ (xl X).stackTraces = false ∧ xR X = rmd d mc ms
theorem Wd.mk {X : XX} {G : GG} {Z : ZZ} {M : Mem} {own : String} {cc : ByteArray} {ret : Option FieldType} {d mc ms nL : Nat} (hC : Cx X G own cc ret d mc ms nL) {H : Heap} {locs : List Loc} (hP : va_P G.1 vwCl (wv G Z M) H) (hS : va_S G.2.2.1 (xs X).heap H locs) {U : State} (hU : U.heap = H) (hW : (xs X).WarmedH U.vm) : Wd G Z M U := by
  obtain ⟨-, -, h2, -, h4, h5, h6, -⟩ := hC
  subst hU
  exact ⟨hP, va_K.moved hW.alike h4, fun q hq => h5 q (Nat.le_trans hS.1 hq), Sg.moved hW.alike (h6.kept hS.2.1), h2.warm hW⟩
end
section
section RR
variable {X : XX} {G : GG} {Z : ZZ} {M : Mem} {k n : Nat} {Q : State → Prop} {pc : Nat} {L : List (Nat × Value)} {rest : List Value} {own : String} {cc : ByteArray} {ret : Option FieldType} {d mc ms nL : Nat}
theorem r_iconst {c : Int} {v : Int32} (hC : Cx X G own cc ret d mc ms nL) (hdg : decode cc pc = .ok (.iconst c, 1)) (hv : Int32.ofInt c = v) (kk : V X G Z M k n Q (pc + 1) L (.int v :: rest)) : V X G Z M k n Q pc L rest := by
  obtain ⟨⟨hx, hb, hr, hml, hn⟩, hown, htw, hlk, hK, hA, hsg, hst, hR⟩ := hC
  intro H locs ls hP hS hl
  exact lv_iconst hx hb hdg hv (kk H locs ls hP hS hl)
theorem r_bipush {c : Int} {v : Int32} (hC : Cx X G own cc ret d mc ms nL) (hdg : decode cc pc = .ok (.bipush c, 2)) (hv : (Int8.ofInt c).toInt32 = v) (kk : V X G Z M k n Q (pc + 2) L (.int v :: rest)) : V X G Z M k n Q pc L rest := by
  obtain ⟨⟨hx, hb, hr, hml, hn⟩, hown, htw, hlk, hK, hA, hsg, hst, hR⟩ := hC
  intro H locs ls hP hS hl
  exact lv_bipush hx hb hdg hv (kk H locs ls hP hS hl)
theorem r_sipush {c : Int} {v : Int32} (hC : Cx X G own cc ret d mc ms nL) (hdg : decode cc pc = .ok (.sipush c, 3)) (hv : (Int16.ofInt c).toInt32 = v) (kk : V X G Z M k n Q (pc + 3) L (.int v :: rest)) : V X G Z M k n Q pc L rest := by
  obtain ⟨⟨hx, hb, hr, hml, hn⟩, hown, htw, hlk, hK, hA, hsg, hst, hR⟩ := hC
  intro H locs ls hP hS hl
  exact lv_sipush hx hb hdg hv (kk H locs ls hP hS hl)
theorem r_lconst {c : Fin 2} {v : Int64} (hC : Cx X G own cc ret d mc ms nL) (hdg : decode cc pc = .ok (.lconst c, 1)) (hv : Int64.ofNat (c : Nat) = v) (kk : V X G Z M k n Q (pc + 1) L (.long v :: rest)) : V X G Z M k n Q pc L rest := by
  obtain ⟨⟨hx, hb, hr, hml, hn⟩, hown, htw, hlk, hK, hA, hsg, hst, hR⟩ := hC
  intro H locs ls hP hS hl
  exact lv_lconst hx hb hdg hv (kk H locs ls hP hS hl)
theorem r_ldc {i : Nat} {v : Int32} (hC : Cx X G own cc ret d mc ms nL) (hdg : decode cc pc = .ok (.ldc i, 2)) (hw : Cond.constant own i v ∈ TW) (kk : V X G Z M k n Q (pc + 2) L (.int v :: rest)) : V X G Z M k n Q pc L rest := by
  obtain ⟨⟨hx, hb, hr, hml, hn⟩, hown, htw, hlk, hK, hA, hsg, hst, hR⟩ := hC
  intro H locs ls hP hS hl
  exact lv_ldc hx hb hown (htw.use _ _ hw) hdg (kk H locs ls hP hS hl)
theorem r_ldcw {i : Nat} {v : Int32} (hC : Cx X G own cc ret d mc ms nL) (hdg : decode cc pc = .ok (.ldc_w i, 3)) (hw : Cond.constant own i v ∈ TW) (kk : V X G Z M k n Q (pc + 3) L (.int v :: rest)) : V X G Z M k n Q pc L rest := by
  obtain ⟨⟨hx, hb, hr, hml, hn⟩, hown, htw, hlk, hK, hA, hsg, hst, hR⟩ := hC
  intro H locs ls hP hS hl
  exact lv_ldcw hx hb hown (htw.use _ _ hw) hdg (kk H locs ls hP hS hl)
theorem r_ldc2 {i : Nat} {v : Int64} (hC : Cx X G own cc ret d mc ms nL) (hdg : decode cc pc = .ok (.ldc2_w i, 3)) (hw : Cond.constantLong own i v ∈ TW) (kk : V X G Z M k n Q (pc + 3) L (.long v :: rest)) : V X G Z M k n Q pc L rest := by
  obtain ⟨⟨hx, hb, hr, hml, hn⟩, hown, htw, hlk, hK, hA, hsg, hst, hR⟩ := hC
  intro H locs ls hP hS hl
  exact lv_ldc2 hx hb hown (htw.use _ _ hw) hdg (kk H locs ls hP hS hl)
theorem r_iload_n {c : Fin 4} {x : Int32} (hC : Cx X G own cc ret d mc ms nL) (hdg : decode cc pc = .ok (.iload_n c, 1)) (j : Nat) (hj : L[j]? = some ((c : Nat), .int x)) (kk : V X G Z M k n Q (pc + 1) L (.int x :: rest)) : V X G Z M k n Q pc L rest := by
  obtain ⟨⟨hx, hb, hr, hml, hn⟩, hown, htw, hlk, hK, hA, hsg, hst, hR⟩ := hC
  intro H locs ls hP hS hl
  exact lv_iload_n hx hb hdg rfl (lv_at hl j hj) (kk H locs ls hP hS hl)
theorem r_iload {c : Nat} {x : Int32} (hC : Cx X G own cc ret d mc ms nL) (hdg : decode cc pc = .ok (.iload c, 2)) (j : Nat) (hj : L[j]? = some (c, .int x)) (kk : V X G Z M k n Q (pc + 2) L (.int x :: rest)) : V X G Z M k n Q pc L rest := by
  obtain ⟨⟨hx, hb, hr, hml, hn⟩, hown, htw, hlk, hK, hA, hsg, hst, hR⟩ := hC
  intro H locs ls hP hS hl
  exact lv_iload hx hb hdg (lv_at hl j hj) (kk H locs ls hP hS hl)
theorem r_lload_n {c : Fin 4} {x : Int64} (hC : Cx X G own cc ret d mc ms nL) (hdg : decode cc pc = .ok (.lload_n c, 1)) (j : Nat) (hj : L[j]? = some ((c : Nat), .long x)) (kk : V X G Z M k n Q (pc + 1) L (.long x :: rest)) : V X G Z M k n Q pc L rest := by
  obtain ⟨⟨hx, hb, hr, hml, hn⟩, hown, htw, hlk, hK, hA, hsg, hst, hR⟩ := hC
  intro H locs ls hP hS hl
  exact lv_lload_n hx hb hdg rfl (lv_at hl j hj) (kk H locs ls hP hS hl)
theorem r_lload {c : Nat} {x : Int64} (hC : Cx X G own cc ret d mc ms nL) (hdg : decode cc pc = .ok (.lload c, 2)) (j : Nat) (hj : L[j]? = some (c, .long x)) (kk : V X G Z M k n Q (pc + 2) L (.long x :: rest)) : V X G Z M k n Q pc L rest := by
  obtain ⟨⟨hx, hb, hr, hml, hn⟩, hown, htw, hlk, hK, hA, hsg, hst, hR⟩ := hC
  intro H locs ls hP hS hl
  exact lv_lload hx hb hdg (lv_at hl j hj) (kk H locs ls hP hS hl)
theorem r_aload_n {c : Fin 4} {x : Nat} (hC : Cx X G own cc ret d mc ms nL) (hdg : decode cc pc = .ok (.aload_n c, 1)) (j : Nat) (hj : L[j]? = some ((c : Nat), .ref x)) (kk : V X G Z M k n Q (pc + 1) L (.ref x :: rest)) : V X G Z M k n Q pc L rest := by
  obtain ⟨⟨hx, hb, hr, hml, hn⟩, hown, htw, hlk, hK, hA, hsg, hst, hR⟩ := hC
  intro H locs ls hP hS hl
  exact lv_aload_n hx hb hdg rfl (lv_at hl j hj) (kk H locs ls hP hS hl)
theorem r_aload {c : Nat} {x : Nat} (hC : Cx X G own cc ret d mc ms nL) (hdg : decode cc pc = .ok (.aload c, 2)) (j : Nat) (hj : L[j]? = some (c, .ref x)) (kk : V X G Z M k n Q (pc + 2) L (.ref x :: rest)) : V X G Z M k n Q pc L rest := by
  obtain ⟨⟨hx, hb, hr, hml, hn⟩, hown, htw, hlk, hK, hA, hsg, hst, hR⟩ := hC
  intro H locs ls hP hS hl
  exact lv_aload hx hb hdg (lv_at hl j hj) (kk H locs ls hP hS hl)
theorem r_istore_n {c : Fin 4} {x : Int32} {L' : List (Nat × Value)} (hC : Cx X G own cc ret d mc ms nL) (hdg : decode cc pc = .ok (.istore_n c, 1)) (hc : ((c : Nat) < nL)) (hL : ((c : Nat), Value.int x) :: L.filter (fun q => !(q.1 == (c : Nat)) && !(q.1 + 1 == (c : Nat) && q.2.category == 2)) = L') (kk : V X G Z M k n Q (pc + 1) L' rest) : V X G Z M k n Q pc L (.int x :: rest) := by
  obtain ⟨⟨hx, hb, hr, hml, hn⟩, hown, htw, hlk, hK, hA, hsg, hst, hR⟩ := hC
  intro H locs ls hP hS hl
  exact lv_istore_n hx hb hdg rfl hl (by rw [hn]; exact hc) hL (fun ls' hl' => kk H locs ls' hP hS hl')
theorem r_istore {c : Nat} {x : Int32} {L' : List (Nat × Value)} (hC : Cx X G own cc ret d mc ms nL) (hdg : decode cc pc = .ok (.istore c, 2)) (hc : (c < nL)) (hL : (c, Value.int x) :: L.filter (fun q => !(q.1 == c) && !(q.1 + 1 == c && q.2.category == 2)) = L') (kk : V X G Z M k n Q (pc + 2) L' rest) : V X G Z M k n Q pc L (.int x :: rest) := by
  obtain ⟨⟨hx, hb, hr, hml, hn⟩, hown, htw, hlk, hK, hA, hsg, hst, hR⟩ := hC
  intro H locs ls hP hS hl
  exact lv_istore hx hb hdg hl (by rw [hn]; exact hc) hL (fun ls' hl' => kk H locs ls' hP hS hl')
theorem r_astore_n {c : Fin 4} {x : Nat} {L' : List (Nat × Value)} (hC : Cx X G own cc ret d mc ms nL) (hdg : decode cc pc = .ok (.astore_n c, 1)) (hc : ((c : Nat) < nL)) (hL : ((c : Nat), Value.ref x) :: L.filter (fun q => !(q.1 == (c : Nat)) && !(q.1 + 1 == (c : Nat) && q.2.category == 2)) = L') (kk : V X G Z M k n Q (pc + 1) L' rest) : V X G Z M k n Q pc L (.ref x :: rest) := by
  obtain ⟨⟨hx, hb, hr, hml, hn⟩, hown, htw, hlk, hK, hA, hsg, hst, hR⟩ := hC
  intro H locs ls hP hS hl
  exact lv_astore_n hx hb hdg rfl hl (by rw [hn]; exact hc) hL (fun ls' hl' => kk H locs ls' hP hS hl')
theorem r_astore {c : Nat} {x : Nat} {L' : List (Nat × Value)} (hC : Cx X G own cc ret d mc ms nL) (hdg : decode cc pc = .ok (.astore c, 2)) (hc : (c < nL)) (hL : (c, Value.ref x) :: L.filter (fun q => !(q.1 == c) && !(q.1 + 1 == c && q.2.category == 2)) = L') (kk : V X G Z M k n Q (pc + 2) L' rest) : V X G Z M k n Q pc L (.ref x :: rest) := by
  obtain ⟨⟨hx, hb, hr, hml, hn⟩, hown, htw, hlk, hK, hA, hsg, hst, hR⟩ := hC
  intro H locs ls hP hS hl
  exact lv_astore hx hb hdg hl (by rw [hn]; exact hc) hL (fun ls' hl' => kk H locs ls' hP hS hl')
theorem r_lstore_n {c : Fin 4} {x : Int64} {L' : List (Nat × Value)} (hC : Cx X G own cc ret d mc ms nL) (hdg : decode cc pc = .ok (.lstore_n c, 1)) (hc : ((c : Nat) + 1 < nL)) (hL : ((c : Nat), Value.long x) :: L.filter (fun q => !(q.1 == (c : Nat)) && (!(q.1 == (c : Nat) + 1) && !(q.1 + 1 == (c : Nat) && q.2.category == 2))) = L') (kk : V X G Z M k n Q (pc + 1) L' rest) : V X G Z M k n Q pc L (.long x :: rest) := by
  obtain ⟨⟨hx, hb, hr, hml, hn⟩, hown, htw, hlk, hK, hA, hsg, hst, hR⟩ := hC
  intro H locs ls hP hS hl
  exact lv_lstore_n hx hb hdg rfl hl (by rw [hn]; exact hc) hL (fun ls' hl' => kk H locs ls' hP hS hl')
theorem r_lstore {c : Nat} {x : Int64} {L' : List (Nat × Value)} (hC : Cx X G own cc ret d mc ms nL) (hdg : decode cc pc = .ok (.lstore c, 2)) (hc : (c + 1 < nL)) (hL : (c, Value.long x) :: L.filter (fun q => !(q.1 == c) && (!(q.1 == c + 1) && !(q.1 + 1 == c && q.2.category == 2))) = L') (kk : V X G Z M k n Q (pc + 2) L' rest) : V X G Z M k n Q pc L (.long x :: rest) := by
  obtain ⟨⟨hx, hb, hr, hml, hn⟩, hown, htw, hlk, hK, hA, hsg, hst, hR⟩ := hC
  intro H locs ls hP hS hl
  exact lv_lstore hx hb hdg hl (by rw [hn]; exact hc) hL (fun ls' hl' => kk H locs ls' hP hS hl')
theorem r_iinc {c : Nat} {a : Int} {x v : Int32} {L' : List (Nat × Value)} (hC : Cx X G own cc ret d mc ms nL) (hdg : decode cc pc = .ok (.iinc c a, 3)) (j : Nat) (hj : L[j]? = some (c, .int x)) (hv : x + Int32.ofInt a = v) (hc : c < nL) (hL : (c, Value.int v) :: L.filter (fun q => !(q.1 == c) && !(q.1 + 1 == c && q.2.category == 2)) = L') (kk : V X G Z M k n Q (pc + 3) L' rest) : V X G Z M k n Q pc L rest := by
  obtain ⟨⟨hx, hb, hr, hml, hn⟩, hown, htw, hlk, hK, hA, hsg, hst, hR⟩ := hC
  intro H locs ls hP hS hl
  exact lv_iinc hx hb hdg hl hj hv (by rw [hn]; exact hc) hL (fun ls' hl' => kk H locs ls' hP hS hl')
theorem r_iadd {x y : Int32} (hC : Cx X G own cc ret d mc ms nL) (hdg : decode cc pc = .ok (.iadd, 1)) (kk : V X G Z M k n Q (pc + 1) L (.int (x + y) :: rest)) : V X G Z M k n Q pc L (.int y :: .int x :: rest) := by
  obtain ⟨⟨hx, hb, hr, hml, hn⟩, hown, htw, hlk, hK, hA, hsg, hst, hR⟩ := hC
  intro H locs ls hP hS hl
  exact lv_iadd hx hb hdg (kk H locs ls hP hS hl)
theorem r_isub {x y : Int32} (hC : Cx X G own cc ret d mc ms nL) (hdg : decode cc pc = .ok (.isub, 1)) (kk : V X G Z M k n Q (pc + 1) L (.int (x - y) :: rest)) : V X G Z M k n Q pc L (.int y :: .int x :: rest) := by
  obtain ⟨⟨hx, hb, hr, hml, hn⟩, hown, htw, hlk, hK, hA, hsg, hst, hR⟩ := hC
  intro H locs ls hP hS hl
  exact lv_isub hx hb hdg (kk H locs ls hP hS hl)
theorem r_imul {x y : Int32} (hC : Cx X G own cc ret d mc ms nL) (hdg : decode cc pc = .ok (.imul, 1)) (kk : V X G Z M k n Q (pc + 1) L (.int (x * y) :: rest)) : V X G Z M k n Q pc L (.int y :: .int x :: rest) := by
  obtain ⟨⟨hx, hb, hr, hml, hn⟩, hown, htw, hlk, hK, hA, hsg, hst, hR⟩ := hC
  intro H locs ls hP hS hl
  exact lv_imul hx hb hdg (kk H locs ls hP hS hl)
theorem r_iand {x y : Int32} (hC : Cx X G own cc ret d mc ms nL) (hdg : decode cc pc = .ok (.iand, 1)) (kk : V X G Z M k n Q (pc + 1) L (.int (x &&& y) :: rest)) : V X G Z M k n Q pc L (.int y :: .int x :: rest) := by
  obtain ⟨⟨hx, hb, hr, hml, hn⟩, hown, htw, hlk, hK, hA, hsg, hst, hR⟩ := hC
  intro H locs ls hP hS hl
  exact lv_iand hx hb hdg (kk H locs ls hP hS hl)
theorem r_ior {x y : Int32} (hC : Cx X G own cc ret d mc ms nL) (hdg : decode cc pc = .ok (.ior, 1)) (kk : V X G Z M k n Q (pc + 1) L (.int (x ||| y) :: rest)) : V X G Z M k n Q pc L (.int y :: .int x :: rest) := by
  obtain ⟨⟨hx, hb, hr, hml, hn⟩, hown, htw, hlk, hK, hA, hsg, hst, hR⟩ := hC
  intro H locs ls hP hS hl
  exact lv_ior hx hb hdg (kk H locs ls hP hS hl)
theorem r_ixor {x y : Int32} (hC : Cx X G own cc ret d mc ms nL) (hdg : decode cc pc = .ok (.ixor, 1)) (kk : V X G Z M k n Q (pc + 1) L (.int (x ^^^ y) :: rest)) : V X G Z M k n Q pc L (.int y :: .int x :: rest) := by
  obtain ⟨⟨hx, hb, hr, hml, hn⟩, hown, htw, hlk, hK, hA, hsg, hst, hR⟩ := hC
  intro H locs ls hP hS hl
  exact lv_ixor hx hb hdg (kk H locs ls hP hS hl)
theorem r_ishl {x y : Int32} (hC : Cx X G own cc ret d mc ms nL) (hdg : decode cc pc = .ok (.ishl, 1)) (kk : V X G Z M k n Q (pc + 1) L (.int (x <<< (y &&& 31)) :: rest)) : V X G Z M k n Q pc L (.int y :: .int x :: rest) := by
  obtain ⟨⟨hx, hb, hr, hml, hn⟩, hown, htw, hlk, hK, hA, hsg, hst, hR⟩ := hC
  intro H locs ls hP hS hl
  exact lv_ishl hx hb hdg (kk H locs ls hP hS hl)
theorem r_ishr {x y : Int32} (hC : Cx X G own cc ret d mc ms nL) (hdg : decode cc pc = .ok (.ishr, 1)) (kk : V X G Z M k n Q (pc + 1) L (.int (x >>> (y &&& 31)) :: rest)) : V X G Z M k n Q pc L (.int y :: .int x :: rest) := by
  obtain ⟨⟨hx, hb, hr, hml, hn⟩, hown, htw, hlk, hK, hA, hsg, hst, hR⟩ := hC
  intro H locs ls hP hS hl
  exact lv_ishr hx hb hdg (kk H locs ls hP hS hl)
theorem r_iushr {x y : Int32} (hC : Cx X G own cc ret d mc ms nL) (hdg : decode cc pc = .ok (.iushr, 1)) (kk : V X G Z M k n Q (pc + 1) L (.int ((x.toUInt32 >>> (y.toUInt32 &&& Int32.toUInt32 31)).toInt32) :: rest)) : V X G Z M k n Q pc L (.int y :: .int x :: rest) := by
  obtain ⟨⟨hx, hb, hr, hml, hn⟩, hown, htw, hlk, hK, hA, hsg, hst, hR⟩ := hC
  intro H locs ls hP hS hl
  exact lv_iushr hx hb hdg rfl (kk H locs ls hP hS hl)
theorem r_idiv {x y : Int32} (hC : Cx X G own cc ret d mc ms nL) (hdg : decode cc pc = .ok (.idiv, 1)) (hne : ¬ y = 0) (kk : V X G Z M k n Q (pc + 1) L (.int (x / y) :: rest)) : V X G Z M k n Q pc L (.int y :: .int x :: rest) := by
  obtain ⟨⟨hx, hb, hr, hml, hn⟩, hown, htw, hlk, hK, hA, hsg, hst, hR⟩ := hC
  intro H locs ls hP hS hl
  exact lv_idiv hx hb hdg hne (kk H locs ls hP hS hl)
theorem r_irem {x y : Int32} (hC : Cx X G own cc ret d mc ms nL) (hdg : decode cc pc = .ok (.irem, 1)) (hne : ¬ y = 0) (kk : V X G Z M k n Q (pc + 1) L (.int (x - x / y * y) :: rest)) : V X G Z M k n Q pc L (.int y :: .int x :: rest) := by
  obtain ⟨⟨hx, hb, hr, hml, hn⟩, hown, htw, hlk, hK, hA, hsg, hst, hR⟩ := hC
  intro H locs ls hP hS hl
  exact lv_irem hx hb hdg hne (kk H locs ls hP hS hl)
theorem r_ineg {x : Int32} (hC : Cx X G own cc ret d mc ms nL) (hdg : decode cc pc = .ok (.ineg, 1)) (kk : V X G Z M k n Q (pc + 1) L (.int (-x) :: rest)) : V X G Z M k n Q pc L (.int x :: rest) := by
  obtain ⟨⟨hx, hb, hr, hml, hn⟩, hown, htw, hlk, hK, hA, hsg, hst, hR⟩ := hC
  intro H locs ls hP hS hl
  exact lv_ineg hx hb hdg (kk H locs ls hP hS hl)
theorem r_ladd {x y : Int64} (hC : Cx X G own cc ret d mc ms nL) (hdg : decode cc pc = .ok (.ladd, 1)) (kk : V X G Z M k n Q (pc + 1) L (.long (x + y) :: rest)) : V X G Z M k n Q pc L (.long y :: .long x :: rest) := by
  obtain ⟨⟨hx, hb, hr, hml, hn⟩, hown, htw, hlk, hK, hA, hsg, hst, hR⟩ := hC
  intro H locs ls hP hS hl
  exact lv_ladd hx hb hdg (kk H locs ls hP hS hl)
theorem r_lsub {x y : Int64} (hC : Cx X G own cc ret d mc ms nL) (hdg : decode cc pc = .ok (.lsub, 1)) (kk : V X G Z M k n Q (pc + 1) L (.long (x - y) :: rest)) : V X G Z M k n Q pc L (.long y :: .long x :: rest) := by
  obtain ⟨⟨hx, hb, hr, hml, hn⟩, hown, htw, hlk, hK, hA, hsg, hst, hR⟩ := hC
  intro H locs ls hP hS hl
  exact lv_lsub hx hb hdg (kk H locs ls hP hS hl)
theorem r_lmul {x y : Int64} (hC : Cx X G own cc ret d mc ms nL) (hdg : decode cc pc = .ok (.lmul, 1)) (kk : V X G Z M k n Q (pc + 1) L (.long (x * y) :: rest)) : V X G Z M k n Q pc L (.long y :: .long x :: rest) := by
  obtain ⟨⟨hx, hb, hr, hml, hn⟩, hown, htw, hlk, hK, hA, hsg, hst, hR⟩ := hC
  intro H locs ls hP hS hl
  exact lv_lmul hx hb hdg (kk H locs ls hP hS hl)
theorem r_land {x y : Int64} (hC : Cx X G own cc ret d mc ms nL) (hdg : decode cc pc = .ok (.land, 1)) (kk : V X G Z M k n Q (pc + 1) L (.long (x &&& y) :: rest)) : V X G Z M k n Q pc L (.long y :: .long x :: rest) := by
  obtain ⟨⟨hx, hb, hr, hml, hn⟩, hown, htw, hlk, hK, hA, hsg, hst, hR⟩ := hC
  intro H locs ls hP hS hl
  exact lv_land hx hb hdg (kk H locs ls hP hS hl)
theorem r_lor {x y : Int64} (hC : Cx X G own cc ret d mc ms nL) (hdg : decode cc pc = .ok (.lor, 1)) (kk : V X G Z M k n Q (pc + 1) L (.long (x ||| y) :: rest)) : V X G Z M k n Q pc L (.long y :: .long x :: rest) := by
  obtain ⟨⟨hx, hb, hr, hml, hn⟩, hown, htw, hlk, hK, hA, hsg, hst, hR⟩ := hC
  intro H locs ls hP hS hl
  exact lv_lor hx hb hdg (kk H locs ls hP hS hl)
theorem r_lxor {x y : Int64} (hC : Cx X G own cc ret d mc ms nL) (hdg : decode cc pc = .ok (.lxor, 1)) (kk : V X G Z M k n Q (pc + 1) L (.long (x ^^^ y) :: rest)) : V X G Z M k n Q pc L (.long y :: .long x :: rest) := by
  obtain ⟨⟨hx, hb, hr, hml, hn⟩, hown, htw, hlk, hK, hA, hsg, hst, hR⟩ := hC
  intro H locs ls hP hS hl
  exact lv_lxor hx hb hdg (kk H locs ls hP hS hl)
theorem r_ldiv {x y : Int64} (hC : Cx X G own cc ret d mc ms nL) (hdg : decode cc pc = .ok (.ldiv, 1)) (hne : ¬ y = 0) (kk : V X G Z M k n Q (pc + 1) L (.long (x / y) :: rest)) : V X G Z M k n Q pc L (.long y :: .long x :: rest) := by
  obtain ⟨⟨hx, hb, hr, hml, hn⟩, hown, htw, hlk, hK, hA, hsg, hst, hR⟩ := hC
  intro H locs ls hP hS hl
  exact lv_ldiv hx hb hdg hne (kk H locs ls hP hS hl)
theorem r_lrem {x y : Int64} (hC : Cx X G own cc ret d mc ms nL) (hdg : decode cc pc = .ok (.lrem, 1)) (hne : ¬ y = 0) (kk : V X G Z M k n Q (pc + 1) L (.long (x - x / y * y) :: rest)) : V X G Z M k n Q pc L (.long y :: .long x :: rest) := by
  obtain ⟨⟨hx, hb, hr, hml, hn⟩, hown, htw, hlk, hK, hA, hsg, hst, hR⟩ := hC
  intro H locs ls hP hS hl
  exact lv_lrem hx hb hdg hne (kk H locs ls hP hS hl)
theorem r_lshl {x : Int64} {y : Int32} (hC : Cx X G own cc ret d mc ms nL) (hdg : decode cc pc = .ok (.lshl, 1)) (kk : V X G Z M k n Q (pc + 1) L (.long (x <<< (y.toInt64 &&& 63)) :: rest)) : V X G Z M k n Q pc L (.int y :: .long x :: rest) := by
  obtain ⟨⟨hx, hb, hr, hml, hn⟩, hown, htw, hlk, hK, hA, hsg, hst, hR⟩ := hC
  intro H locs ls hP hS hl
  exact lv_lshl hx hb hdg rfl (kk H locs ls hP hS hl)
theorem r_lushr {x : Int64} {y : Int32} (hC : Cx X G own cc ret d mc ms nL) (hdg : decode cc pc = .ok (.lushr, 1)) (kk : V X G Z M k n Q (pc + 1) L (.long ((x.toUInt64 >>> (y.toInt64.toUInt64 &&& Int64.toUInt64 63)).toInt64) :: rest)) : V X G Z M k n Q pc L (.int y :: .long x :: rest) := by
  obtain ⟨⟨hx, hb, hr, hml, hn⟩, hown, htw, hlk, hK, hA, hsg, hst, hR⟩ := hC
  intro H locs ls hP hS hl
  exact lv_lushr hx hb hdg rfl (kk H locs ls hP hS hl)
theorem r_lcmp {x y : Int64} (hC : Cx X G own cc ret d mc ms nL) (hdg : decode cc pc = .ok (.lcmp, 1)) (kk : V X G Z M k n Q (pc + 1) L (.int (lg_cmp x y) :: rest)) : V X G Z M k n Q pc L (.long y :: .long x :: rest) := by
  obtain ⟨⟨hx, hb, hr, hml, hn⟩, hown, htw, hlk, hK, hA, hsg, hst, hR⟩ := hC
  intro H locs ls hP hS hl
  exact W.lcmp hx hb hdg (kk H locs ls hP hS hl)
theorem r_i2l {x : Int32} (hC : Cx X G own cc ret d mc ms nL) (hdg : decode cc pc = .ok (.i2l, 1)) (kk : V X G Z M k n Q (pc + 1) L (.long x.toInt64 :: rest)) : V X G Z M k n Q pc L (.int x :: rest) := by
  obtain ⟨⟨hx, hb, hr, hml, hn⟩, hown, htw, hlk, hK, hA, hsg, hst, hR⟩ := hC
  intro H locs ls hP hS hl
  exact lv_i2l hx hb hdg rfl (kk H locs ls hP hS hl)
theorem r_l2i {x : Int64} (hC : Cx X G own cc ret d mc ms nL) (hdg : decode cc pc = .ok (.l2i, 1)) (kk : V X G Z M k n Q (pc + 1) L (.int x.toInt32 :: rest)) : V X G Z M k n Q pc L (.long x :: rest) := by
  obtain ⟨⟨hx, hb, hr, hml, hn⟩, hown, htw, hlk, hK, hA, hsg, hst, hR⟩ := hC
  intro H locs ls hP hS hl
  exact lv_l2i hx hb hdg rfl (kk H locs ls hP hS hl)
theorem r_i2c {x : Int32} (hC : Cx X G own cc ret d mc ms nL) (hdg : decode cc pc = .ok (.i2c, 1)) (kk : V X G Z M k n Q (pc + 1) L (.int ((x.toUInt32 % 65536).toInt32) :: rest)) : V X G Z M k n Q pc L (.int x :: rest) := by
  obtain ⟨⟨hx, hb, hr, hml, hn⟩, hown, htw, hlk, hK, hA, hsg, hst, hR⟩ := hC
  intro H locs ls hP hS hl
  exact lv_i2c hx hb hdg rfl (kk H locs ls hP hS hl)
theorem r_dup {v : Value} (hC : Cx X G own cc ret d mc ms nL) (hdg : decode cc pc = .ok (.dup, 1)) (hv : v.category = 1) (kk : V X G Z M k n Q (pc + 1) L (v :: v :: rest)) : V X G Z M k n Q pc L (v :: rest) := by
  obtain ⟨⟨hx, hb, hr, hml, hn⟩, hown, htw, hlk, hK, hA, hsg, hst, hR⟩ := hC
  intro H locs ls hP hS hl
  exact lv_dup hx hb hdg hv (kk H locs ls hP hS hl)
theorem r_pop {v : Value} (hC : Cx X G own cc ret d mc ms nL) (hdg : decode cc pc = .ok (.pop, 1)) (hv : v.category = 1) (kk : V X G Z M k n Q (pc + 1) L rest) : V X G Z M k n Q pc L (v :: rest) := by
  obtain ⟨⟨hx, hb, hr, hml, hn⟩, hown, htw, hlk, hK, hA, hsg, hst, hR⟩ := hC
  intro H locs ls hP hS hl
  exact lv_pop hx hb hdg hv (kk H locs ls hP hS hl)
theorem r_dup2 {v w : Value} (hC : Cx X G own cc ret d mc ms nL) (hdg : decode cc pc = .ok (.dup2, 1)) (hv : v.category = 1) (hw : w.category = 1) (kk : V X G Z M k n Q (pc + 1) L (v :: w :: v :: w :: rest)) : V X G Z M k n Q pc L (v :: w :: rest) := by
  obtain ⟨⟨hx, hb, hr, hml, hn⟩, hown, htw, hlk, hK, hA, hsg, hst, hR⟩ := hC
  intro H locs ls hP hS hl
  exact lv_dup2_11 hx hb hdg hv hw (kk H locs ls hP hS hl)
theorem r_if_eq {x : Int32} {off : Int} (tgt : Nat) (hC : Cx X G own cc ret d mc ms nL) (hdg : decode cc pc = .ok (.ifCond .eq off, 3)) (ht : (pc : Int) + off = (tgt : Int)) (kt : x = 0 → V X G Z M k n Q tgt L rest) (kf : ¬ x = 0 → V X G Z M k n Q (pc + 3) L rest) : V X G Z M k n Q pc L (.int x :: rest) := by
  obtain ⟨⟨hx, hb, hr, hml, hn⟩, hown, htw, hlk, hK, hA, hsg, hst, hR⟩ := hC
  intro H locs ls hP hS hl
  exact lv_if_eq hx hb hdg ht (fun h => kt h H locs ls hP hS hl) (fun h => kf h H locs ls hP hS hl)
theorem r_if_ne {x : Int32} {off : Int} (tgt : Nat) (hC : Cx X G own cc ret d mc ms nL) (hdg : decode cc pc = .ok (.ifCond .ne off, 3)) (ht : (pc : Int) + off = (tgt : Int)) (kt : ¬ x = 0 → V X G Z M k n Q tgt L rest) (kf : x = 0 → V X G Z M k n Q (pc + 3) L rest) : V X G Z M k n Q pc L (.int x :: rest) := by
  obtain ⟨⟨hx, hb, hr, hml, hn⟩, hown, htw, hlk, hK, hA, hsg, hst, hR⟩ := hC
  intro H locs ls hP hS hl
  exact lv_if_ne hx hb hdg ht (fun h => kt h H locs ls hP hS hl) (fun h => kf h H locs ls hP hS hl)
theorem r_if_lt {x : Int32} {off : Int} (tgt : Nat) (hC : Cx X G own cc ret d mc ms nL) (hdg : decode cc pc = .ok (.ifCond .lt off, 3)) (ht : (pc : Int) + off = (tgt : Int)) (kt : x < 0 → V X G Z M k n Q tgt L rest) (kf : ¬ x < 0 → V X G Z M k n Q (pc + 3) L rest) : V X G Z M k n Q pc L (.int x :: rest) := by
  obtain ⟨⟨hx, hb, hr, hml, hn⟩, hown, htw, hlk, hK, hA, hsg, hst, hR⟩ := hC
  intro H locs ls hP hS hl
  exact lv_if_lt hx hb hdg ht (fun h => kt h H locs ls hP hS hl) (fun h => kf h H locs ls hP hS hl)
theorem r_if_ge {x : Int32} {off : Int} (tgt : Nat) (hC : Cx X G own cc ret d mc ms nL) (hdg : decode cc pc = .ok (.ifCond .ge off, 3)) (ht : (pc : Int) + off = (tgt : Int)) (kt : 0 ≤ x → V X G Z M k n Q tgt L rest) (kf : ¬ 0 ≤ x → V X G Z M k n Q (pc + 3) L rest) : V X G Z M k n Q pc L (.int x :: rest) := by
  obtain ⟨⟨hx, hb, hr, hml, hn⟩, hown, htw, hlk, hK, hA, hsg, hst, hR⟩ := hC
  intro H locs ls hP hS hl
  exact lv_if_ge hx hb hdg ht (fun h => kt h H locs ls hP hS hl) (fun h => kf h H locs ls hP hS hl)
theorem r_if_gt {x : Int32} {off : Int} (tgt : Nat) (hC : Cx X G own cc ret d mc ms nL) (hdg : decode cc pc = .ok (.ifCond .gt off, 3)) (ht : (pc : Int) + off = (tgt : Int)) (kt : 0 < x → V X G Z M k n Q tgt L rest) (kf : ¬ 0 < x → V X G Z M k n Q (pc + 3) L rest) : V X G Z M k n Q pc L (.int x :: rest) := by
  obtain ⟨⟨hx, hb, hr, hml, hn⟩, hown, htw, hlk, hK, hA, hsg, hst, hR⟩ := hC
  intro H locs ls hP hS hl
  exact lv_if_gt hx hb hdg ht (fun h => kt h H locs ls hP hS hl) (fun h => kf h H locs ls hP hS hl)
theorem r_if_le {x : Int32} {off : Int} (tgt : Nat) (hC : Cx X G own cc ret d mc ms nL) (hdg : decode cc pc = .ok (.ifCond .le off, 3)) (ht : (pc : Int) + off = (tgt : Int)) (kt : x ≤ 0 → V X G Z M k n Q tgt L rest) (kf : ¬ x ≤ 0 → V X G Z M k n Q (pc + 3) L rest) : V X G Z M k n Q pc L (.int x :: rest) := by
  obtain ⟨⟨hx, hb, hr, hml, hn⟩, hown, htw, hlk, hK, hA, hsg, hst, hR⟩ := hC
  intro H locs ls hP hS hl
  exact lv_if_le hx hb hdg ht (fun h => kt h H locs ls hP hS hl) (fun h => kf h H locs ls hP hS hl)
theorem r_icmp_eq {x y : Int32} {off : Int} (tgt : Nat) (hC : Cx X G own cc ret d mc ms nL) (hdg : decode cc pc = .ok (.if_icmp .eq off, 3)) (ht : (pc : Int) + off = (tgt : Int)) (kt : x = y → V X G Z M k n Q tgt L rest) (kf : ¬ x = y → V X G Z M k n Q (pc + 3) L rest) : V X G Z M k n Q pc L (.int y :: .int x :: rest) := by
  obtain ⟨⟨hx, hb, hr, hml, hn⟩, hown, htw, hlk, hK, hA, hsg, hst, hR⟩ := hC
  intro H locs ls hP hS hl
  exact lv_icmp_eq hx hb hdg ht (fun h => kt h H locs ls hP hS hl) (fun h => kf h H locs ls hP hS hl)
theorem r_icmp_ne {x y : Int32} {off : Int} (tgt : Nat) (hC : Cx X G own cc ret d mc ms nL) (hdg : decode cc pc = .ok (.if_icmp .ne off, 3)) (ht : (pc : Int) + off = (tgt : Int)) (kt : ¬ x = y → V X G Z M k n Q tgt L rest) (kf : x = y → V X G Z M k n Q (pc + 3) L rest) : V X G Z M k n Q pc L (.int y :: .int x :: rest) := by
  obtain ⟨⟨hx, hb, hr, hml, hn⟩, hown, htw, hlk, hK, hA, hsg, hst, hR⟩ := hC
  intro H locs ls hP hS hl
  exact lv_icmp_ne hx hb hdg ht (fun h => kt h H locs ls hP hS hl) (fun h => kf h H locs ls hP hS hl)
theorem r_icmp_lt {x y : Int32} {off : Int} (tgt : Nat) (hC : Cx X G own cc ret d mc ms nL) (hdg : decode cc pc = .ok (.if_icmp .lt off, 3)) (ht : (pc : Int) + off = (tgt : Int)) (kt : x < y → V X G Z M k n Q tgt L rest) (kf : ¬ x < y → V X G Z M k n Q (pc + 3) L rest) : V X G Z M k n Q pc L (.int y :: .int x :: rest) := by
  obtain ⟨⟨hx, hb, hr, hml, hn⟩, hown, htw, hlk, hK, hA, hsg, hst, hR⟩ := hC
  intro H locs ls hP hS hl
  exact lv_icmp_lt hx hb hdg ht (fun h => kt h H locs ls hP hS hl) (fun h => kf h H locs ls hP hS hl)
theorem r_icmp_ge {x y : Int32} {off : Int} (tgt : Nat) (hC : Cx X G own cc ret d mc ms nL) (hdg : decode cc pc = .ok (.if_icmp .ge off, 3)) (ht : (pc : Int) + off = (tgt : Int)) (kt : y ≤ x → V X G Z M k n Q tgt L rest) (kf : ¬ y ≤ x → V X G Z M k n Q (pc + 3) L rest) : V X G Z M k n Q pc L (.int y :: .int x :: rest) := by
  obtain ⟨⟨hx, hb, hr, hml, hn⟩, hown, htw, hlk, hK, hA, hsg, hst, hR⟩ := hC
  intro H locs ls hP hS hl
  exact lv_icmp_ge hx hb hdg ht (fun h => kt h H locs ls hP hS hl) (fun h => kf h H locs ls hP hS hl)
theorem r_icmp_gt {x y : Int32} {off : Int} (tgt : Nat) (hC : Cx X G own cc ret d mc ms nL) (hdg : decode cc pc = .ok (.if_icmp .gt off, 3)) (ht : (pc : Int) + off = (tgt : Int)) (kt : y < x → V X G Z M k n Q tgt L rest) (kf : ¬ y < x → V X G Z M k n Q (pc + 3) L rest) : V X G Z M k n Q pc L (.int y :: .int x :: rest) := by
  obtain ⟨⟨hx, hb, hr, hml, hn⟩, hown, htw, hlk, hK, hA, hsg, hst, hR⟩ := hC
  intro H locs ls hP hS hl
  exact lv_icmp_gt hx hb hdg ht (fun h => kt h H locs ls hP hS hl) (fun h => kf h H locs ls hP hS hl)
theorem r_icmp_le {x y : Int32} {off : Int} (tgt : Nat) (hC : Cx X G own cc ret d mc ms nL) (hdg : decode cc pc = .ok (.if_icmp .le off, 3)) (ht : (pc : Int) + off = (tgt : Int)) (kt : x ≤ y → V X G Z M k n Q tgt L rest) (kf : ¬ x ≤ y → V X G Z M k n Q (pc + 3) L rest) : V X G Z M k n Q pc L (.int y :: .int x :: rest) := by
  obtain ⟨⟨hx, hb, hr, hml, hn⟩, hown, htw, hlk, hK, hA, hsg, hst, hR⟩ := hC
  intro H locs ls hP hS hl
  exact lv_icmp_le hx hb hdg ht (fun h => kt h H locs ls hP hS hl) (fun h => kf h H locs ls hP hS hl)
theorem r_goto {off : Int} (tgt : Nat) (hC : Cx X G own cc ret d mc ms nL) (hdg : decode cc pc = .ok (.goto off, 3)) (ht : (pc : Int) + off = (tgt : Int)) (kk : V X G Z M k n Q tgt L rest) : V X G Z M k n Q pc L rest := by
  obtain ⟨⟨hx, hb, hr, hml, hn⟩, hown, htw, hlk, hK, hA, hsg, hst, hR⟩ := hC
  intro H locs ls hP hS hl
  exact lv_goto hx hb hdg ht (kk H locs ls hP hS hl)
theorem r_switch {x : Int32} {dflt lo hi : Int} {offs : Array Int} {len : Nat} (hC : Cx X G own cc ret d mc ms nL) (hdg : decode cc pc = .ok (.tableswitch dflt lo hi offs, len)) (td : Nat) (htd : (pc : Int) + dflt = (td : Int)) (tg : List Nat) (htg : ∀ i : Nat, i < tg.length → ∃ off : Int, offs[i]? = some off ∧ (pc : Int) + off = ((tg.getD i 0 : Nat) : Int)) (hlen : hi - lo + 1 = tg.length)
    (kd : (x.toInt < lo ∨ hi < x.toInt) → V X G Z M k n Q td L rest) (kk : ∀ i : Nat, i < tg.length → x.toInt = lo + i → V X G Z M k n Q (tg.getD i 0) L rest) : V X G Z M k n Q pc L (.int x :: rest) := by
  obtain ⟨⟨hx, hb, hr, hml, hn⟩, hown, htw, hlk, hK, hA, hsg, hst, hR⟩ := hC
  intro H locs ls hP hS hl
  by_cases h1 : x.toInt < lo
  · exact lv_tableOut hx hb hdg (Or.inl h1) htd (kd (Or.inl h1) H locs ls hP hS hl)
  · by_cases h2 : hi < x.toInt
    · exact lv_tableOut hx hb hdg (Or.inr h2) htd (kd (Or.inr h2) H locs ls hP hS hl)
    · have hi' : (x.toInt - lo).toNat < tg.length := by omega
      obtain ⟨off, ho, ht⟩ := htg _ hi'
      exact lv_tableIn hx hb hdg h1 h2 ho ht (kk _ hi' (by omega) H locs ls hP hS hl)
theorem r_L {L' : List (Nat × Value)} (ps : List Nat) (hL : lv_pick L ps = L') (kk : V X G Z M k n Q pc L' rest) : V X G Z M k n Q pc L rest := by
  intro H locs ls hP hS hl
  exact kk H locs ls hP hS (lv_sub hl ps hL)
theorem r_wide {k' n' : Nat} (h1 : k ≤ k') (h2 : n ≤ n') (kk : V X G Z M k' n' Q pc L rest) : V X G Z M k n Q pc L rest := by
  intro H locs ls hP hS hl
  exact W.widen h1 h2 (kk H locs ls hP hS hl)
theorem r_get {C : String} {T : u_T} {N ci idx i : Nat} {F : Nat → Option (Option Nat)} {v : Value} (hin : ∀ w ∈ u_ws C T N, w ∈ TW) (hc : vwCl[ci]? = some (C, T, N)) (kf : Nat) (hk : kf < N) (hown2 : (T kf).1 = C) (hw : Cond.fieldLink own idx C (T kf).2.1 (T kf).2.2.1 ∈ TW)
    (hC : Cx X G own cc ret d mc ms nL) (hi : At Z i (.inl (ci, N, F))) (hv : fv Z.1 (M i) F kf = v) (hdg : decode cc pc = .ok (.getfield idx, 3)) (kk : V X G Z M k n Q (pc + 3) L (v :: rest)) : V X G Z M k n Q pc L (.ref (Z.1 i) :: rest) := by
  obtain ⟨⟨hx, hb, hr, hml, hn⟩, hown, htw, hlk, hK, hA, hsg, hst, hR⟩ := hC
  intro H locs ls hP hS hl
  obtain ⟨q, -, hq⟩ := wv_get (G := G) (M := M) hi
  exact va_get (Ts := TW) hx hb (htw.use _) hin hown hK hP q hq hc kf hk (htw.use _ _ hw) (fun x h => by rw [hown2] at h; exact h) (by rw [List.getElem?_map, List.getElem?_range hk, ← hv]; rfl) hdg (kk H locs ls hP hS hl)
theorem r_getN {C : String} {T : u_T} {N ci idx i : Nat} {F : Nat → Option (Option Nat)} {v : Value} (hin : ∀ w ∈ u_ws C T N, w ∈ TW) (hc : vwCl[ci]? = some (C, T, N)) (kf : Nat) (hk : kf < N) (hown2 : (T kf).1 = C) (hw : Cond.fieldLinkNest own idx C (T kf).2.1 (T kf).2.2.1 "HandSpans" ∈ TW)
    (hC : Cx X G own cc ret d mc ms nL) (hi : At Z i (.inl (ci, N, F))) (hv : fv Z.1 (M i) F kf = v) (hdg : decode cc pc = .ok (.getfield idx, 3)) (kk : V X G Z M k n Q (pc + 3) L (v :: rest)) : V X G Z M k n Q pc L (.ref (Z.1 i) :: rest) := by
  obtain ⟨⟨hx, hb, hr, hml, hn⟩, hown, htw, hlk, hK, hA, hsg, hst, hR⟩ := hC
  intro H locs ls hP hS hl
  obtain ⟨q, -, hq⟩ := wv_get (G := G) (M := M) hi
  exact va_getN (Ts := TW) hx hb (htw.use _) hin hown hK hP q hq hc kf hk (htw.use _ _ hw) (fun x h => by rw [hown2] at h; exact h) (by rw [List.getElem?_map, List.getElem?_range hk, ← hv]; rfl) hdg (kk H locs ls hP hS hl)
theorem r_put {C : String} {T : u_T} {N ci idx i : Nat} {F : Nat → Option (Option Nat)} {x : Int32} {ty : FieldType} (hin : ∀ w ∈ u_ws C T N, w ∈ TW) (ty0 : Nat → FieldType) (hty : ∀ k, k < N → parseFieldDescriptor (T k).2.2.1 = some (ty0 k)) (hnm : ∀ a, a < N → ∀ b, b < N → a ≠ b → (T a).2.1 ≠ (T b).2.1) (hc : vwCl[ci]? = some (C, T, N)) (kf : Nat) (hk : kf < N) (hown2 : (T kf).1 = C) (hfin : (T kf).2.2.2 = false) (hd : parseFieldDescriptor (T kf).2.2.1 = some ty) (hw : Cond.fieldLink own idx C (T kf).2.1 (T kf).2.2.1 ∈ TW)
    (hC : Cx X G own cc ret d mc ms nL) (hz : ZOk G Z) (hi : At Z i (.inl (ci, N, F))) (hF : F kf = none) (hnr : narrow ty (.int x) = .int x) (hfit : fits ty (.int x) = true) (hdg : decode cc pc = .ok (.putfield idx, 3)) (kk : V X G Z (mw M i kf x) k n Q (pc + 3) L rest) : V X G Z M k n Q pc L (.int x :: .ref (Z.1 i) :: rest) := by
  obtain ⟨⟨hx, hb, hr, hml, hn⟩, hown, htw, hlk, hK, hA, hsg, hst, hR⟩ := hC
  intro H locs ls hP hS hl
  obtain ⟨q, hq0, hq⟩ := wv_get (G := G) (M := M) hi
  refine va_put (Ts := TW) hx hb (htw.use _) hin ty0 hty hnm hown hK hP (wv_D hz M) hS q hq hc kf hk (htw.use _ _ hw) (fun x h => by rw [hown2] at h; exact h) hfin hd hnr hfit (by simp; exact hk) hdg (fun H1 locs1 hP1 _ hS1 => kk H1 locs1 ls ?_ hS1 hl)
  have e : (((List.range N).map (fv Z.1 (M i) F)).set kf (.int x)) = (List.range N).map (fv Z.1 (upd (M i) kf x) F) := by
    have := map_set (fv Z.1 (M i) F) (fv Z.1 (upd (M i) kf x) F) (List.range N) kf (List.getElem?_range hk) List.nodup_range (fun j hj => by simp [fv, upd, hj])
    rw [← this]
    simp [fv, hF, upd]
  rw [e] at hP1
  have e2 := wv_set (M := M) hz hq0 (upd (M i) kf x)
  rw [hi.2] at e2
  have e3 : wv G Z (mw M i kf x) = (wv G Z M).set q (Z.1 i, .inr (ci, (List.range N).map (fv Z.1 (upd (M i) kf x) F))) := e2.symm
  rw [e3]
  exact hP1
theorem r_putN {C : String} {T : u_T} {N ci idx i : Nat} {F : Nat → Option (Option Nat)} {x : Int32} {ty : FieldType} (hin : ∀ w ∈ u_ws C T N, w ∈ TW) (ty0 : Nat → FieldType) (hty : ∀ k, k < N → parseFieldDescriptor (T k).2.2.1 = some (ty0 k)) (hnm : ∀ a, a < N → ∀ b, b < N → a ≠ b → (T a).2.1 ≠ (T b).2.1) (hc : vwCl[ci]? = some (C, T, N)) (kf : Nat) (hk : kf < N) (hown2 : (T kf).1 = C) (hfin : (T kf).2.2.2 = false) (hd : parseFieldDescriptor (T kf).2.2.1 = some ty) (hw : Cond.fieldLinkNest own idx C (T kf).2.1 (T kf).2.2.1 "HandSpans" ∈ TW)
    (hC : Cx X G own cc ret d mc ms nL) (hz : ZOk G Z) (hi : At Z i (.inl (ci, N, F))) (hF : F kf = none) (hnr : narrow ty (.int x) = .int x) (hfit : fits ty (.int x) = true) (hdg : decode cc pc = .ok (.putfield idx, 3)) (kk : V X G Z (mw M i kf x) k n Q (pc + 3) L rest) : V X G Z M k n Q pc L (.int x :: .ref (Z.1 i) :: rest) := by
  obtain ⟨⟨hx, hb, hr, hml, hn⟩, hown, htw, hlk, hK, hA, hsg, hst, hR⟩ := hC
  intro H locs ls hP hS hl
  obtain ⟨q, hq0, hq⟩ := wv_get (G := G) (M := M) hi
  refine va_putN (Ts := TW) hx hb (htw.use _) hin ty0 hty hnm hown hK hP (wv_D hz M) hS q hq hc kf hk (htw.use _ _ hw) (fun x h => by rw [hown2] at h; exact h) hfin hd hnr hfit (by simp; exact hk) hdg (fun H1 locs1 hP1 _ hS1 => kk H1 locs1 ls ?_ hS1 hl)
  have e : (((List.range N).map (fv Z.1 (M i) F)).set kf (.int x)) = (List.range N).map (fv Z.1 (upd (M i) kf x) F) := by
    have := map_set (fv Z.1 (M i) F) (fv Z.1 (upd (M i) kf x) F) (List.range N) kf (List.getElem?_range hk) List.nodup_range (fun j hj => by simp [fv, upd, hj])
    rw [← this]
    simp [fv, hF, upd]
  rw [e] at hP1
  have e2 := wv_set (M := M) hz hq0 (upd (M i) kf x)
  rw [hi.2] at e2
  have e3 : wv G Z (mw M i kf x) = (wv G Z M).set q (Z.1 i, .inr (ci, (List.range N).map (fv Z.1 (upd (M i) kf x) F))) := e2.symm
  rw [e3]
  exact hP1
theorem r_iald {i N : Nat} {x : Int32} (hC : Cx X G own cc ret d mc ms nL) (hi : At Z i (.inr (.inl (0, N)))) (hin : vp_in x N) (hdg : decode cc pc = .ok (.iaload, 1)) (kk : V X G Z M k n Q (pc + 1) L (.int (M i x.toNatClampNeg) :: rest)) : V X G Z M k n Q pc L (.int x :: .ref (Z.1 i) :: rest) := by
  obtain ⟨⟨hx, hb, hr, hml, hn⟩, hown, htw, hlk, hK, hA, hsg, hst, hR⟩ := hC
  intro H locs ls hP hS hl
  obtain ⟨q, hq0, hq⟩ := wv_get (G := G) (M := M) hi
  exact va_iald hx hb hK hP q 0 hq rfl hin hdg (kk H locs ls hP hS hl)
theorem r_zald {i N : Nat} {x : Int32} (hC : Cx X G own cc ret d mc ms nL) (hi : At Z i (.inr (.inl (1, N)))) (hin : vp_in x N) (hdg : decode cc pc = .ok (.baload, 1)) (kk : V X G Z M k n Q (pc + 1) L (.int (M i x.toNatClampNeg) :: rest)) : V X G Z M k n Q pc L (.int x :: .ref (Z.1 i) :: rest) := by
  obtain ⟨⟨hx, hb, hr, hml, hn⟩, hown, htw, hlk, hK, hA, hsg, hst, hR⟩ := hC
  intro H locs ls hP hS hl
  obtain ⟨q, hq0, hq⟩ := wv_get (G := G) (M := M) hi
  exact va_zald hx hb hK hP q 1 hq rfl hin hdg (kk H locs ls hP hS hl)
theorem r_cald {i N : Nat} {x : Int32} (hC : Cx X G own cc ret d mc ms nL) (hi : At Z i (.inr (.inl (2, N)))) (hin : vp_in x N) (hdg : decode cc pc = .ok (.caload, 1)) (kk : V X G Z M k n Q (pc + 1) L (.int (M i x.toNatClampNeg) :: rest)) : V X G Z M k n Q pc L (.int x :: .ref (Z.1 i) :: rest) := by
  obtain ⟨⟨hx, hb, hr, hml, hn⟩, hown, htw, hlk, hK, hA, hsg, hst, hR⟩ := hC
  intro H locs ls hP hS hl
  obtain ⟨q, hq0, hq⟩ := wv_get (G := G) (M := M) hi
  exact va_cald hx hb hK hP q 2 hq rfl hin hdg (kk H locs ls hP hS hl)
theorem r_iast {i N : Nat} {j x : Int32} (hC : Cx X G own cc ret d mc ms nL) (hz : ZOk G Z) (hi : At Z i (.inr (.inl (0, N)))) (hin : vp_in j N) (hdg : decode cc pc = .ok (.iastore, 1)) (kk : V X G Z (mw M i j.toNatClampNeg (x)) k n Q (pc + 1) L rest) : V X G Z M k n Q pc L (.int x :: .int j :: .ref (Z.1 i) :: rest) := by
  obtain ⟨⟨hx, hb, hr, hml, hn⟩, hown, htw, hlk, hK, hA, hsg, hst, hR⟩ := hC
  intro H locs ls hP hS hl
  obtain ⟨q, hq0, hq⟩ := wv_get (G := G) (M := M) hi
  refine va_iast hx hb hK hP (wv_D hz M) hS q 0 hq rfl hin hdg (fun H1 locs1 hP1 _ hS1 => kk H1 locs1 ls ?_ hS1 hl)
  have e2 := wv_set (M := M) hz hq0 (upd (M i) j.toNatClampNeg (x))
  rw [hi.2] at e2
  have e3 : wv G Z (mw M i j.toNatClampNeg (x)) = (wv G Z M).set q (Z.1 i, .inl (G.2.1 0, N, .inl (upd (M i) j.toNatClampNeg (x)))) := e2.symm
  rw [e3]
  exact hP1
theorem r_zast {i N : Nat} {j x : Int32} (hC : Cx X G own cc ret d mc ms nL) (hz : ZOk G Z) (hi : At Z i (.inr (.inl (1, N)))) (hin : vp_in j N) (hdg : decode cc pc = .ok (.bastore, 1)) (kk : V X G Z (mw M i j.toNatClampNeg (vp_nar .boolean x)) k n Q (pc + 1) L rest) : V X G Z M k n Q pc L (.int x :: .int j :: .ref (Z.1 i) :: rest) := by
  obtain ⟨⟨hx, hb, hr, hml, hn⟩, hown, htw, hlk, hK, hA, hsg, hst, hR⟩ := hC
  intro H locs ls hP hS hl
  obtain ⟨q, hq0, hq⟩ := wv_get (G := G) (M := M) hi
  refine va_zast hx hb hK hP (wv_D hz M) hS q 1 hq rfl hin hdg (fun H1 locs1 hP1 _ hS1 => kk H1 locs1 ls ?_ hS1 hl)
  have e2 := wv_set (M := M) hz hq0 (upd (M i) j.toNatClampNeg (vp_nar .boolean x))
  rw [hi.2] at e2
  have e3 : wv G Z (mw M i j.toNatClampNeg (vp_nar .boolean x)) = (wv G Z M).set q (Z.1 i, .inl (G.2.1 1, N, .inl (upd (M i) j.toNatClampNeg (vp_nar .boolean x)))) := e2.symm
  rw [e3]
  exact hP1
theorem r_cast {i N : Nat} {j x : Int32} (hC : Cx X G own cc ret d mc ms nL) (hz : ZOk G Z) (hi : At Z i (.inr (.inl (2, N)))) (hin : vp_in j N) (hdg : decode cc pc = .ok (.castore, 1)) (kk : V X G Z (mw M i j.toNatClampNeg (vp_nar .char x)) k n Q (pc + 1) L rest) : V X G Z M k n Q pc L (.int x :: .int j :: .ref (Z.1 i) :: rest) := by
  obtain ⟨⟨hx, hb, hr, hml, hn⟩, hown, htw, hlk, hK, hA, hsg, hst, hR⟩ := hC
  intro H locs ls hP hS hl
  obtain ⟨q, hq0, hq⟩ := wv_get (G := G) (M := M) hi
  refine va_cast hx hb hK hP (wv_D hz M) hS q 2 hq rfl hin hdg (fun H1 locs1 hP1 _ hS1 => kk H1 locs1 ls ?_ hS1 hl)
  have e2 := wv_set (M := M) hz hq0 (upd (M i) j.toNatClampNeg (vp_nar .char x))
  rw [hi.2] at e2
  have e3 : wv G Z (mw M i j.toNatClampNeg (vp_nar .char x)) = (wv G Z M).set q (Z.1 i, .inl (G.2.1 2, N, .inl (upd (M i) j.toNatClampNeg (vp_nar .char x)))) := e2.symm
  rw [e3]
  exact hP1
theorem r_alen {i N : Nat} {v : Int32} (hC : Cx X G own cc ret d mc ms nL) (hi : At Z i (.inr (.inl (0, N)))) (hv : N.toInt32 = v) (hdg : decode cc pc = .ok (.arraylength, 1)) (kk : V X G Z M k n Q (pc + 1) L (.int v :: rest)) : V X G Z M k n Q pc L (.ref (Z.1 i) :: rest) := by
  obtain ⟨⟨hx, hb, hr, hml, hn⟩, hown, htw, hlk, hK, hA, hsg, hst, hR⟩ := hC
  intro H locs ls hP hS hl
  obtain ⟨q, hq0, hq⟩ := wv_get (G := G) (M := M) hi
  exact va_alen hx hb hK hP q 0 hq rfl hv hdg (kk H locs ls hP hS hl)
theorem r_lald {i N : Nat} {x : Int32} (hC : Cx X G own cc ret d mc ms nL) (hi : At Z i (.inr (.inr (.inr N)))) (hin : vp_in x N) (hdg : decode cc pc = .ok (.laload, 1)) (kk : V X G Z M k n Q (pc + 1) L (.long (M i x.toNatClampNeg).toInt64 :: rest)) : V X G Z M k n Q pc L (.int x :: .ref (Z.1 i) :: rest) := by
  obtain ⟨⟨hx, hb, hr, hml, hn⟩, hown, htw, hlk, hK, hA, hsg, hst, hR⟩ := hC
  intro H locs ls hP hS hl
  obtain ⟨q, hq0, hq⟩ := wv_get (G := G) (M := M) hi
  exact va_lald hx hb hK hP q 3 hq rfl hin hdg (kk H locs ls hP hS hl)
theorem r_last {i N : Nat} {j x : Int32} (hC : Cx X G own cc ret d mc ms nL) (hz : ZOk G Z) (hi : At Z i (.inr (.inr (.inr N)))) (hin : vp_in j N) (hdg : decode cc pc = .ok (.lastore, 1)) (kk : V X G Z (mw M i j.toNatClampNeg x) k n Q (pc + 1) L rest) : V X G Z M k n Q pc L (.long x.toInt64 :: .int j :: .ref (Z.1 i) :: rest) := by
  obtain ⟨⟨hx, hb, hr, hml, hn⟩, hown, htw, hlk, hK, hA, hsg, hst, hR⟩ := hC
  intro H locs ls hP hS hl
  obtain ⟨q, hq0, hq⟩ := wv_get (G := G) (M := M) hi
  refine va_last hx hb hK hP (wv_D hz M) hS q 3 hq rfl hin hdg (fun H1 locs1 hP1 _ hS1 => kk H1 locs1 ls ?_ hS1 hl)
  have e2 := wv_set (M := M) hz hq0 (upd (M i) j.toNatClampNeg x)
  rw [hi.2] at e2
  have e0 : vp_updL (fun q => (M i q).toInt64) j.toNatClampNeg x.toInt64 = fun q => (upd (M i) j.toNatClampNeg x q).toInt64 := by
    funext q
    unfold vp_updL upd
    split <;> rfl
  rw [e0] at hP1
  have e3 : wv G Z (mw M i j.toNatClampNeg x) = (wv G Z M).set q (Z.1 i, .inl (G.2.1 3, N, .inr (.inl (fun q => (upd (M i) j.toNatClampNeg x q).toInt64)))) := e2.symm
  rw [e3]
  exact hP1
theorem r_aald {i N t j : Nat} {F : Nat → Option Nat} {C : String} {x : Int32} (hC : Cx X G own cc ret d mc ms nL) (hi : At Z i (.inr (.inr (.inl (t, N, F))))) (ht : (tys G)[t]? = some (G.2.1 t, .object C)) (hin : vp_in x N) (hF : F x.toNatClampNeg = some j) (hdg : decode cc pc = .ok (.aaload, 1)) (kk : V X G Z M k n Q (pc + 1) L (.ref (Z.1 j) :: rest)) : V X G Z M k n Q pc L (.int x :: .ref (Z.1 i) :: rest) := by
  obtain ⟨⟨hx, hb, hr, hml, hn⟩, hown, htw, hlk, hK, hA, hsg, hst, hR⟩ := hC
  intro H locs ls hP hS hl
  obtain ⟨q, hq0, hq⟩ := wv_get (G := G) (M := M) hi
  refine va_aldq hx hb hK hP q t hq ht hin hdg ?_
  rw [hF]
  exact kk H locs ls hP hS hl
theorem r_gald {i N j : Nat} {F : Nat → Option Nat} {x : Int32} (hC : Cx X G own cc ret d mc ms nL) (hi : At Z i (.inr (.inr (.inl (4, N, F))))) (hin : vp_in x N) (hF : F x.toNatClampNeg = some j) (hdg : decode cc pc = .ok (.aaload, 1)) (kk : V X G Z M k n Q (pc + 1) L (.ref (Z.1 j) :: rest)) : V X G Z M k n Q pc L (.int x :: .ref (Z.1 i) :: rest) := by
  obtain ⟨⟨hx, hb, hr, hml, hn⟩, hown, htw, hlk, hK, hA, hsg, hst, hR⟩ := hC
  intro H locs ls hP hS hl
  obtain ⟨q, hq0, hq⟩ := wv_get (G := G) (M := M) hi
  have hlt : x.toNatClampNeg < N := Nat.not_le.mp fun q => hin (Or.inr q)
  refine W.aald (v := .ref (Z.1 j)) (ty := .array .int) hx hb (hP q _ hq) ((hK.2 4 _ rfl).1 N (fun j => va_rf ((F j).map Z.1))) rfl (fun q => by cases q) (by show ¬ (x < 0 ∨ (arrV _ _ _).slots.size ≤ _); rw [arrV_size]; exact hin) (by show (arrV _ _ _).slots[_]? = _; rw [arrV_read _ _ hlt]; show some (va_rf (Option.map Z.1 (F x.toNatClampNeg))) = _; rw [hF]; rfl) rfl rfl hdg (kk H locs ls hP hS hl)
theorem r_gets {j idx : Nat} {nm : String} {f : Nat → Value} (hZ : ∀ {U : State} {H : Heap}, Sg G U H → va_Z "HandSpans" nm "[I" (.ref (G.2.2.2 j)) G.2.2.1 U H) (hC : Cx X G own cc ret d mc ms nL) (hw : Cond.fieldLinkNest own idx "HandSpans" nm "[I" "HandSpans" ∈ TW) (hdg : decode cc pc = .ok (.getstatic idx, 3)) (kk : V X G Z M k n Q (pc + 3) L (.ref (G.2.2.2 j) :: rest)) : V X G Z M k n Q pc L rest := by
  obtain ⟨⟨hx, hb, hr, hml, hn⟩, hown, htw, hlk, hK, hA, hsg, hst, hR⟩ := hC
  intro H locs ls hP hS hl
  exact va_getsN hx hb (hZ hsg) hS hown (htw.use _ _ hw) (fun _ h => h) hdg (kk H locs ls hP hS hl)
theorem r_tald {j : Nat} {x v : Int32} {f : Nat → Int32} (hT : ∀ {U : State} {H : Heap}, Sg G U H → va_T .int (G.2.2.2 j) 6 (fun k => .int (f k)) G.2.2.1 U H) (hC : Cx X G own cc ret d mc ms nL) (hin : vp_in x 6) (hv : f x.toNatClampNeg = v) (hdg : decode cc pc = .ok (.iaload, 1)) (kk : V X G Z M k n Q (pc + 1) L (.int v :: rest)) : V X G Z M k n Q pc L (.int x :: .ref (G.2.2.2 j) :: rest) := by
  obtain ⟨⟨hx, hb, hr, hml, hn⟩, hown, htw, hlk, hK, hA, hsg, hst, hR⟩ := hC
  intro H locs ls hP hS hl
  exact va_ti hx hb (hT hsg) hS hin (by rw [hv]) hdg (kk H locs ls hP hS hl)
end RR
end
section
/-! CONTRACTS -/
def Wp (G : GG) (Z : ZZ) (M : Mem) (t : State) : Prop := va_P G.1 vwCl (wv G Z M) t.heap
def exn : Nat → String
  | 0 => "java/lang/IllegalArgumentException"
  | 1 => "java/lang/IllegalStateException"
  | _ => "java/lang/IndexOutOfBoundsException"
def QcI (G : GG) (Z : ZZ) (r : Int32) (M' : Mem) : Array Value → State → Outcome → State → Prop := va_Qi (fun x (_ : Unit) => x = r) (fun _ t => Wp G Z M' t) G.2.2.1
def QcL (G : GG) (Z : ZZ) (r : Int64) (M' : Mem) : Array Value → State → Outcome → State → Prop := va_Ql (fun x (_ : Unit) => x = r) (fun _ t => Wp G Z M' t) G.2.2.1
def QcV (G : GG) (Z : ZZ) (_ : Unit) (M' : Mem) : Array Value → State → Outcome → State → Prop := va_Qv (fun _ : Unit => True) (fun _ t => Wp G Z M' t) G.2.2.1
def QcR (ido : Nat → Nat) (G : GG) (Z : ZZ) (r : Nat) (M' : Mem) : Array Value → State → Outcome → State → Prop := va_Qr (fun _ : Unit => True) (fun _ a t => a = Z.1 (ido r) ∧ Wp G Z M' t) G.2.2.1
def QcTI (G : GG) (Z : ZZ) (r : Except Nat Int32) (M' : Mem) : Array Value → State → Outcome → State → Prop := va_Qi (fun x (_ : Unit) => r = .ok x) (fun _ t => Wp G Z M' t) G.2.2.1
def QcTV (G : GG) (Z : ZZ) (r : Except Nat Unit) (M' : Mem) : Array Value → State → Outcome → State → Prop := va_Qv (fun _ : Unit => r = .ok ()) (fun _ t => Wp G Z M' t) G.2.2.1
def XcT {α : Type} (G : GG) (Z : ZZ) (r : Except Nat α) (M' : Mem) : String → State → State → Prop := vx_X (fun k : Nat => r = .error k) (fun E k t => E = exn k ∧ Wp G Z M' t) G.2.2.1
def CN (Qc : Array Value → State → Outcome → State → Prop) (l : Launch) (G : GG) (Z : ZZ) (y : MethodName) (cc : ByteArray) (nL : Nat) (ret : Option FieldType) (d : Nat) (As : List Value) (M : Mem) : Prop :=
  Met l y [.code y cc nL ret] (rmd d 0 0) (va_Pc As (Wd G Z M)) Qc 0 0 G.2.2.1
def CT (Qc : Array Value → State → Outcome → State → Prop) (Xc : String → State → State → Prop) (l : Launch) (G : GG) (Z : ZZ) (y : MethodName) (cc : ByteArray) (nL : Nat) (ret : Option FieldType) (d mc ms : Nat) (As : List Value) (M : Mem) : Prop :=
  vx_Met l y [.code y cc nL ret] (rmd d mc ms) (va_Pc As (Wd G Z M)) Qc Xc mc ms G.2.2.1
/-- what a body that returns owes; what one that may throw owes -/
def QN (X : XX) (G : GG) (Qc : Array Value → State → Outcome → State → Prop) (mc ms : Nat) : State → Prop := MQ (xb X) Qc (xa X) (xs X) mc ms G.2.2.1
def QT (X : XX) (G : GG) (Qc : Array Value → State → Outcome → State → Prop) (Xc : String → State → State → Prop) (mc ms : Nat) : State → Prop := vx_MQ (xb X) Qc Xc (xa X) (xs X) mc ms G.2.2.1
theorem CN.of {Qc : Array Value → State → Outcome → State → Prop} {l : Launch} {G : GG} {Z : ZZ} {y : MethodName} {cc : ByteArray} {nL : Nat} {ret : Option FieldType} {d : Nat} {As : List Value} {M : Mem} (L0 : List (Nat × Value)) (hl : l.stackTraces = false) (hy : plainName y.cls = true) (hlen : (lg_sl As).length ≤ nL) (hL : lv_args 0 As = L0)
    (body : ∀ X : XX, Cx X G y.cls cc ret d 0 0 nL → V X G Z M 0 0 (QN X G Qc 0 0) 0 L0 []) : CN Qc l G Z y cc nL ret d As M := by
  refine Met.ofW (cc := cc) (maxL := nL) (ret := ret) hy rfl ?_
  intro p e s m args below meth c s₁ B hml hv
  obtain ⟨rfl, hP, hK, hA, hsg, htw⟩ := hv
  have hown : s.vm.findClass y.cls = some m.cls := findClass_of_methodNamed B.named
  have hl0 := lv_entry As (n := nL) hlen
  rw [hL] at hl0
  rw [lg_entry_eq]
  exact body (p, l, e, rmd d 0 0, s, m, As.toArray, below, meth, c, nL) ⟨⟨B.exec, B.bytes, B.returns, hml, rfl⟩, hown, htw, B.notSynchronized, hK, hA, hsg, hl, rfl⟩ s.heap [] _ hP va_S.rf hl0
theorem CT.of {Qc : Array Value → State → Outcome → State → Prop} {Xc : String → State → State → Prop} {l : Launch} {G : GG} {Z : ZZ} {y : MethodName} {cc : ByteArray} {nL : Nat} {ret : Option FieldType} {d mc ms : Nat} {As : List Value} {M : Mem} (L0 : List (Nat × Value)) (hl : l.stackTraces = false) (hy : plainName y.cls = true) (hlen : (lg_sl As).length ≤ nL) (hL : lv_args 0 As = L0)
    (body : ∀ X : XX, Cx X G y.cls cc ret d mc ms nL → (∀ x ∈ (xc X).exceptionTable.toList, False) → V X G Z M 0 0 (QT X G Qc Xc mc ms) 0 L0 []) : CT Qc Xc l G Z y cc nL ret d mc ms As M := by
  refine vx_ofW (cc := cc) (maxL := nL) (ret := ret) hy rfl ?_
  intro p e s m args below meth c s₁ B hml hno hv
  obtain ⟨rfl, hP, hK, hA, hsg, htw⟩ := hv
  have hown : s.vm.findClass y.cls = some m.cls := findClass_of_methodNamed B.named
  have hl0 := lv_entry As (n := nL) hlen
  rw [hL] at hl0
  rw [lg_entry_eq]
  exact body (p, l, e, rmd d mc ms, s, m, As.toArray, below, meth, c, nL) ⟨⟨B.exec, B.bytes, B.returns, hml, rfl⟩, hown, htw, B.notSynchronized, hK, hA, hsg, hl, rfl⟩ hno s.heap [] _ hP va_S.rf hl0
def CsV (own : String) (idx : Nat) (y : MethodName) (cy : ByteArray) (ny : Nat) (rety : Option FieldType) (na : Nat) : Prop :=
  GoodIn TW (wsV own idx y.cls y [.code y cy ny rety]) ∧ (y.cls ≠ "java/lang/invoke/MethodHandle" ∧ y.cls ≠ "java/lang/invoke/VarHandle") ∧ (parseMethodDescriptor y.desc).map (fun d => d.parameters.length) = some na
def CsS (own : String) (idx : Nat) (y : MethodName) (cy : ByteArray) (ny : Nat) (rety : Option FieldType) (na : Nat) : Prop :=
  GoodIn TW (va_wsS own idx y [.code y cy ny rety]) ∧ (y.cls ≠ "java/lang/invoke/MethodHandle" ∧ y.cls ≠ "java/lang/invoke/VarHandle") ∧ (parseMethodDescriptor y.desc).map (fun d => d.parameters.length) = some na
theorem csV_of {own : String} {idx : Nat} {y : MethodName} {cy : ByteArray} {ny : Nat} {rety : Option FieldType} {na : Nat} (w1 : Cond.methodLink own idx y ∈ lw_tbl) (w2 : Cond.instanceMethod y ∈ lw_tbl) (w3 : Cond.selects y.cls y y ∈ lw_tbl) (w4 : Cond.initialized y.cls ∈ lw_tbl) (w5 : Cond.code y cy ny rety ∈ lw_tbl)
    (hd : (y.cls ≠ "java/lang/invoke/MethodHandle" ∧ y.cls ≠ "java/lang/invoke/VarHandle") ∧ (parseMethodDescriptor y.desc).map (fun d => d.parameters.length) = some na) : CsV own idx y cy ny rety na := by
  refine ⟨fun w hw => ?_, hd⟩
  unfold wsV at hw
  simp only [List.cons_append, List.nil_append, List.mem_cons, List.not_mem_nil, or_false] at hw
  rcases hw with rfl | rfl | rfl | rfl | rfl
  · exact ⟨tw_in w1 rfl, Or.inl rfl⟩
  · exact ⟨tw_in w2 rfl, Or.inl rfl⟩
  · exact ⟨tw_in w3 rfl, Or.inl rfl⟩
  · exact ⟨tw_in w4 rfl, Or.inl rfl⟩
  · exact ⟨tw_in w5 rfl, Or.inl rfl⟩
theorem csS_of {own : String} {idx : Nat} {y : MethodName} {cy : ByteArray} {ny : Nat} {rety : Option FieldType} {na : Nat} (w1 : Cond.methodLink own idx y ∈ lw_tbl) (w2 : Cond.static y ∈ lw_tbl) (w4 : Cond.initialized y.cls ∈ lw_tbl) (w5 : Cond.code y cy ny rety ∈ lw_tbl)
    (hd : (y.cls ≠ "java/lang/invoke/MethodHandle" ∧ y.cls ≠ "java/lang/invoke/VarHandle") ∧ (parseMethodDescriptor y.desc).map (fun d => d.parameters.length) = some na) : CsS own idx y cy ny rety na := by
  refine ⟨fun w hw => ?_, hd⟩
  unfold va_wsS at hw
  simp only [List.cons_append, List.nil_append, List.mem_cons, List.not_mem_nil, or_false] at hw
  rcases hw with rfl | rfl | rfl | rfl
  · exact ⟨tw_in w1 rfl, Or.inl rfl⟩
  · exact ⟨tw_in w2 rfl, Or.inl rfl⟩
  · exact ⟨tw_in w4 rfl, Or.inl rfl⟩
  · exact ⟨tw_in w5 rfl, Or.inl rfl⟩
section RC
variable {X : XX} {G : GG} {Z : ZZ} {M : Mem} {k n : Nat} {Q : State → Prop} {pc : Nat} {L : List (Nat × Value)} {st : List Value} {own : String} {cc : ByteArray} {ret : Option FieldType} {d mc ms nL : Nat}
variable {y : MethodName} {cy : ByteArray} {ny dy na idx : Nat} {rety : Option FieldType} {As : List Value}
theorem r_callVI {β : Type} {f : Option (Int32 × Mem)} {K : Int32 → Mem → Option β} {res : β} (rest : List Value) (C : ∀ (r : Int32) (M1 : Mem), f = some (r, M1) → CN (QcI G Z r M1) (xl X) G Z y cy ny rety dy As M) (hf : ob f K = some res) (cs : CsV own idx y cy ny rety na) (hC : Cx X G own cc ret d mc ms nL) {i ci N : Nat} {F : Nat → Option (Option Nat)} {q0 : vw_C} (hi : At Z i (.inl (ci, N, F))) (hc : vwCl[ci]? = some q0) (hq : q0.1 = y.cls) (As' : List Value) (hAs : As = .ref (Z.1 i) :: As') (hn : As'.length = na) (hst : st = As'.reverse ++ .ref (Z.1 i) :: rest) (hd : dy + 1 ≤ d) (hlo : 8 + (ny + 11) + 40 * dy ≤ 40 * d) (hrest : (rest.map fun v => v.category).sum ≤ 8) (hk : k ≤ mc) (hm : n ≤ ms) (hdg : decode cc pc = .ok (.invokevirtual idx, 3))
    (kk : ∀ (r : Int32) (M1 : Mem), K r M1 = some res → V X G Z M1 k n Q (pc + 3) L (.int r :: rest)) : V X G Z M k n Q pc L st := by
  cases f with
  | none => cases hf
  | some p =>
    obtain ⟨r0, M1⟩ := p
    have C := C r0 M1 rfl
    have kk := kk r0 M1 hf
    have hC0 := hC
    obtain ⟨⟨hx, hb, hr, hml, hn'⟩, hown, htw, hlk, hK, hA, hsg, hst', hR⟩ := hC
    obtain ⟨g1, g2, g3⟩ := cs
    subst hst
    subst hAs
    intro H locs ls hP hS hl
    have hR1 : (xR X).frames = d := by rw [hR]; rfl
    have hR2 : (xR X).locals = 40 * d := by rw [hR]; rfl
    have hR3 : (xR X).cells = mc := by rw [hR]; rfl
    have hR4 : (xR X).slots = ms := by rw [hR]; rfl
    obtain ⟨q, -, hq1⟩ := wv_get (G := G) (M := M) hi
    have cw := cwV (R := xR X) (rm := rmd dy 0 0) (mc := 0) (ms := 0) na (htw.use (xa X)) g1 rfl rfl rfl ⟨rfl, g2.1, g2.2, g3⟩ ⟨by rw [hR1]; exact hd, by rw [hR2]; exact hlo⟩
    have run := va_runV (own := own) (C := y.cls) (g := F0 (xm X) pc ls (As'.reverse ++ .ref (Z.1 i) :: rest)) (H := H) (locs := locs) (cells := k) (slots := n) (e := xe X) (below := xb X) (meth := xM X) ⟨hx, hb, hml, hown, htw.use (xa X)⟩ C cw ⟨Wd.blind _, by have h9 := va_recv hK hP hc hq1; rw [hq] at h9; exact h9, fun U hU hW => ⟨rfl, Wd.mk hC0 hP hS hU hW⟩⟩ rfl hn (by show ls.size = nL; rw [hl.1, hn']) rfl (lv_room hrest) hdg ⟨by rw [hR3]; exact hk, by rw [hR4]; exact hm⟩
    refine va_calli run hS (fun q _ h => h) (fun q h => h) (fun r u t H1 locs1 ht hvm he hB _ _ hS1 => ?_)
    subst he; subst ht
    exact kk t.heap locs1 ls hB hS1 hl
theorem r_callVV {β : Type} {f : Option (Unit × Mem)} {K : Unit → Mem → Option β} {res : β} (rest : List Value) (C : ∀ (r : Unit) (M1 : Mem), f = some (r, M1) → CN (QcV G Z r M1) (xl X) G Z y cy ny rety dy As M) (hf : ob f K = some res) (cs : CsV own idx y cy ny rety na) (hC : Cx X G own cc ret d mc ms nL) {i ci N : Nat} {F : Nat → Option (Option Nat)} {q0 : vw_C} (hi : At Z i (.inl (ci, N, F))) (hc : vwCl[ci]? = some q0) (hq : q0.1 = y.cls) (As' : List Value) (hAs : As = .ref (Z.1 i) :: As') (hn : As'.length = na) (hst : st = As'.reverse ++ .ref (Z.1 i) :: rest) (hd : dy + 1 ≤ d) (hlo : 8 + (ny + 11) + 40 * dy ≤ 40 * d) (hrest : (rest.map fun v => v.category).sum ≤ 8) (hk : k ≤ mc) (hm : n ≤ ms) (hdg : decode cc pc = .ok (.invokevirtual idx, 3))
    (kk : ∀ (r : Unit) (M1 : Mem), K r M1 = some res → V X G Z M1 k n Q (pc + 3) L rest) : V X G Z M k n Q pc L st := by
  cases f with
  | none => cases hf
  | some p =>
    obtain ⟨r0, M1⟩ := p
    have C := C r0 M1 rfl
    have kk := kk r0 M1 hf
    have hC0 := hC
    obtain ⟨⟨hx, hb, hr, hml, hn'⟩, hown, htw, hlk, hK, hA, hsg, hst', hR⟩ := hC
    obtain ⟨g1, g2, g3⟩ := cs
    subst hst
    subst hAs
    intro H locs ls hP hS hl
    have hR1 : (xR X).frames = d := by rw [hR]; rfl
    have hR2 : (xR X).locals = 40 * d := by rw [hR]; rfl
    have hR3 : (xR X).cells = mc := by rw [hR]; rfl
    have hR4 : (xR X).slots = ms := by rw [hR]; rfl
    obtain ⟨q, -, hq1⟩ := wv_get (G := G) (M := M) hi
    have cw := cwV (R := xR X) (rm := rmd dy 0 0) (mc := 0) (ms := 0) na (htw.use (xa X)) g1 rfl rfl rfl ⟨rfl, g2.1, g2.2, g3⟩ ⟨by rw [hR1]; exact hd, by rw [hR2]; exact hlo⟩
    have run := va_runV (own := own) (C := y.cls) (g := F0 (xm X) pc ls (As'.reverse ++ .ref (Z.1 i) :: rest)) (H := H) (locs := locs) (cells := k) (slots := n) (e := xe X) (below := xb X) (meth := xM X) ⟨hx, hb, hml, hown, htw.use (xa X)⟩ C cw ⟨Wd.blind _, by have h9 := va_recv hK hP hc hq1; rw [hq] at h9; exact h9, fun U hU hW => ⟨rfl, Wd.mk hC0 hP hS hU hW⟩⟩ rfl hn (by show ls.size = nL; rw [hl.1, hn']) rfl (lv_room hrest) hdg ⟨by rw [hR3]; exact hk, by rw [hR4]; exact hm⟩
    refine va_callv run hS (fun q _ h => h) (fun q h => h) (fun u t H1 locs1 ht hvm he hB _ _ hS1 => ?_)
    subst ht
    exact kk t.heap locs1 ls hB hS1 hl
theorem r_callVR {β : Type} {f : Option (Nat × Mem)} {K : Nat → Mem → Option β} {res : β} {ido : Nat → Nat} (rest : List Value) (C : ∀ (r : Nat) (M1 : Mem), f = some (r, M1) → CN (QcR ido G Z r M1) (xl X) G Z y cy ny rety dy As M) (hf : ob f K = some res) (cs : CsV own idx y cy ny rety na) (hC : Cx X G own cc ret d mc ms nL) {i ci N : Nat} {F : Nat → Option (Option Nat)} {q0 : vw_C} (hi : At Z i (.inl (ci, N, F))) (hc : vwCl[ci]? = some q0) (hq : q0.1 = y.cls) (As' : List Value) (hAs : As = .ref (Z.1 i) :: As') (hn : As'.length = na) (hst : st = As'.reverse ++ .ref (Z.1 i) :: rest) (hd : dy + 1 ≤ d) (hlo : 8 + (ny + 11) + 40 * dy ≤ 40 * d) (hrest : (rest.map fun v => v.category).sum ≤ 8) (hk : k ≤ mc) (hm : n ≤ ms) (hdg : decode cc pc = .ok (.invokevirtual idx, 3))
    (kk : ∀ (r : Nat) (M1 : Mem), K r M1 = some res → V X G Z M1 k n Q (pc + 3) L (.ref (Z.1 (ido r)) :: rest)) : V X G Z M k n Q pc L st := by
  cases f with
  | none => cases hf
  | some p =>
    obtain ⟨r0, M1⟩ := p
    have C := C r0 M1 rfl
    have kk := kk r0 M1 hf
    have hC0 := hC
    obtain ⟨⟨hx, hb, hr, hml, hn'⟩, hown, htw, hlk, hK, hA, hsg, hst', hR⟩ := hC
    obtain ⟨g1, g2, g3⟩ := cs
    subst hst
    subst hAs
    intro H locs ls hP hS hl
    have hR1 : (xR X).frames = d := by rw [hR]; rfl
    have hR2 : (xR X).locals = 40 * d := by rw [hR]; rfl
    have hR3 : (xR X).cells = mc := by rw [hR]; rfl
    have hR4 : (xR X).slots = ms := by rw [hR]; rfl
    obtain ⟨q, -, hq1⟩ := wv_get (G := G) (M := M) hi
    have cw := cwV (R := xR X) (rm := rmd dy 0 0) (mc := 0) (ms := 0) na (htw.use (xa X)) g1 rfl rfl rfl ⟨rfl, g2.1, g2.2, g3⟩ ⟨by rw [hR1]; exact hd, by rw [hR2]; exact hlo⟩
    have run := va_runV (own := own) (C := y.cls) (g := F0 (xm X) pc ls (As'.reverse ++ .ref (Z.1 i) :: rest)) (H := H) (locs := locs) (cells := k) (slots := n) (e := xe X) (below := xb X) (meth := xM X) ⟨hx, hb, hml, hown, htw.use (xa X)⟩ C cw ⟨Wd.blind _, by have h9 := va_recv hK hP hc hq1; rw [hq] at h9; exact h9, fun U hU hW => ⟨rfl, Wd.mk hC0 hP hS hU hW⟩⟩ rfl hn (by show ls.size = nL; rw [hl.1, hn']) rfl (lv_room hrest) hdg ⟨by rw [hR3]; exact hk, by rw [hR4]; exact hm⟩
    refine va_callr run hS (fun q _ h => h) (fun q h => h) (fun u ra t H1 locs1 ht hvm he hB _ _ hS1 => ?_)
    obtain ⟨rfl, hB⟩ := hB
    subst ht
    exact kk t.heap locs1 ls hB hS1 hl
theorem r_callSI {β : Type} {f : Option (Int32 × Mem)} {K : Int32 → Mem → Option β} {res : β} (rest : List Value) (C : ∀ (r : Int32) (M1 : Mem), f = some (r, M1) → CN (QcI G Z r M1) (xl X) G Z y cy ny rety dy As M) (hf : ob f K = some res) (cs : CsS own idx y cy ny rety na) (hC : Cx X G own cc ret d mc ms nL) (hn : As.length = na) (hst : st = As.reverse ++ rest) (hd : dy + 1 ≤ d) (hlo : 8 + (ny + 11) + 40 * dy ≤ 40 * d) (hrest : (rest.map fun v => v.category).sum ≤ 8) (hk : k ≤ mc) (hm : n ≤ ms) (hdg : decode cc pc = .ok (.invokestatic idx, 3))
    (kk : ∀ (r : Int32) (M1 : Mem), K r M1 = some res → V X G Z M1 k n Q (pc + 3) L (.int r :: rest)) : V X G Z M k n Q pc L st := by
  cases f with
  | none => cases hf
  | some p =>
    obtain ⟨r0, M1⟩ := p
    have C := C r0 M1 rfl
    have kk := kk r0 M1 hf
    have hC0 := hC
    obtain ⟨⟨hx, hb, hr, hml, hn'⟩, hown, htw, hlk, hK, hA, hsg, hst', hR⟩ := hC
    obtain ⟨g1, g2, g3⟩ := cs
    subst hst
    intro H locs ls hP hS hl
    have hR1 : (xR X).frames = d := by rw [hR]; rfl
    have hR2 : (xR X).locals = 40 * d := by rw [hR]; rfl
    have hR3 : (xR X).cells = mc := by rw [hR]; rfl
    have hR4 : (xR X).slots = ms := by rw [hR]; rfl
    have cw := va_cwS (R := xR X) (rm := rmd dy 0 0) (mc := 0) (ms := 0) na (htw.use (xa X)) g1 rfl rfl rfl ⟨g2.1, g2.2, g3⟩ ⟨by rw [hR1]; exact hd, by rw [hR2]; exact hlo⟩
    have run := va_runS (own := own) (g := F0 (xm X) pc ls (As.reverse ++ rest)) (H := H) (locs := locs) (cells := k) (slots := n) (e := xe X) (below := xb X) (meth := xM X) ⟨hx, hb, hml, hown, htw.use (xa X)⟩ C cw ⟨Wd.blind _, fun U hU hW => ⟨rfl, Wd.mk hC0 hP hS hU hW⟩⟩ rfl hn (by show ls.size = nL; rw [hl.1, hn']) rfl (lv_room hrest) hdg ⟨by rw [hR3]; exact hk, by rw [hR4]; exact hm⟩
    refine va_calli run hS (fun q _ h => h) (fun q h => h) (fun r u t H1 locs1 ht hvm he hB _ _ hS1 => ?_)
    subst he; subst ht
    exact kk t.heap locs1 ls hB hS1 hl
theorem r_callSL {β : Type} {f : Option (Int64 × Mem)} {K : Int64 → Mem → Option β} {res : β} (rest : List Value) (C : ∀ (r : Int64) (M1 : Mem), f = some (r, M1) → CN (QcL G Z r M1) (xl X) G Z y cy ny rety dy As M) (hf : ob f K = some res) (cs : CsS own idx y cy ny rety na) (hC : Cx X G own cc ret d mc ms nL) (hn : As.length = na) (hst : st = As.reverse ++ rest) (hd : dy + 1 ≤ d) (hlo : 8 + (ny + 11) + 40 * dy ≤ 40 * d) (hrest : (rest.map fun v => v.category).sum ≤ 8) (hk : k ≤ mc) (hm : n ≤ ms) (hdg : decode cc pc = .ok (.invokestatic idx, 3))
    (kk : ∀ (r : Int64) (M1 : Mem), K r M1 = some res → V X G Z M1 k n Q (pc + 3) L (.long r :: rest)) : V X G Z M k n Q pc L st := by
  cases f with
  | none => cases hf
  | some p =>
    obtain ⟨r0, M1⟩ := p
    have C := C r0 M1 rfl
    have kk := kk r0 M1 hf
    have hC0 := hC
    obtain ⟨⟨hx, hb, hr, hml, hn'⟩, hown, htw, hlk, hK, hA, hsg, hst', hR⟩ := hC
    obtain ⟨g1, g2, g3⟩ := cs
    subst hst
    intro H locs ls hP hS hl
    have hR1 : (xR X).frames = d := by rw [hR]; rfl
    have hR2 : (xR X).locals = 40 * d := by rw [hR]; rfl
    have hR3 : (xR X).cells = mc := by rw [hR]; rfl
    have hR4 : (xR X).slots = ms := by rw [hR]; rfl
    have cw := va_cwS (R := xR X) (rm := rmd dy 0 0) (mc := 0) (ms := 0) na (htw.use (xa X)) g1 rfl rfl rfl ⟨g2.1, g2.2, g3⟩ ⟨by rw [hR1]; exact hd, by rw [hR2]; exact hlo⟩
    have run := va_runS (own := own) (g := F0 (xm X) pc ls (As.reverse ++ rest)) (H := H) (locs := locs) (cells := k) (slots := n) (e := xe X) (below := xb X) (meth := xM X) ⟨hx, hb, hml, hown, htw.use (xa X)⟩ C cw ⟨Wd.blind _, fun U hU hW => ⟨rfl, Wd.mk hC0 hP hS hU hW⟩⟩ rfl hn (by show ls.size = nL; rw [hl.1, hn']) rfl (lv_room hrest) hdg ⟨by rw [hR3]; exact hk, by rw [hR4]; exact hm⟩
    refine va_calll run hS (fun q _ h => h) (fun q h => h) (fun r u t H1 locs1 ht hvm he hB _ _ hS1 => ?_)
    subst he; subst ht
    exact kk t.heap locs1 ls hB hS1 hl
theorem r_callSV {β : Type} {f : Option (Unit × Mem)} {K : Unit → Mem → Option β} {res : β} (rest : List Value) (C : ∀ (r : Unit) (M1 : Mem), f = some (r, M1) → CN (QcV G Z r M1) (xl X) G Z y cy ny rety dy As M) (hf : ob f K = some res) (cs : CsS own idx y cy ny rety na) (hC : Cx X G own cc ret d mc ms nL) (hn : As.length = na) (hst : st = As.reverse ++ rest) (hd : dy + 1 ≤ d) (hlo : 8 + (ny + 11) + 40 * dy ≤ 40 * d) (hrest : (rest.map fun v => v.category).sum ≤ 8) (hk : k ≤ mc) (hm : n ≤ ms) (hdg : decode cc pc = .ok (.invokestatic idx, 3))
    (kk : ∀ (r : Unit) (M1 : Mem), K r M1 = some res → V X G Z M1 k n Q (pc + 3) L rest) : V X G Z M k n Q pc L st := by
  cases f with
  | none => cases hf
  | some p =>
    obtain ⟨r0, M1⟩ := p
    have C := C r0 M1 rfl
    have kk := kk r0 M1 hf
    have hC0 := hC
    obtain ⟨⟨hx, hb, hr, hml, hn'⟩, hown, htw, hlk, hK, hA, hsg, hst', hR⟩ := hC
    obtain ⟨g1, g2, g3⟩ := cs
    subst hst
    intro H locs ls hP hS hl
    have hR1 : (xR X).frames = d := by rw [hR]; rfl
    have hR2 : (xR X).locals = 40 * d := by rw [hR]; rfl
    have hR3 : (xR X).cells = mc := by rw [hR]; rfl
    have hR4 : (xR X).slots = ms := by rw [hR]; rfl
    have cw := va_cwS (R := xR X) (rm := rmd dy 0 0) (mc := 0) (ms := 0) na (htw.use (xa X)) g1 rfl rfl rfl ⟨g2.1, g2.2, g3⟩ ⟨by rw [hR1]; exact hd, by rw [hR2]; exact hlo⟩
    have run := va_runS (own := own) (g := F0 (xm X) pc ls (As.reverse ++ rest)) (H := H) (locs := locs) (cells := k) (slots := n) (e := xe X) (below := xb X) (meth := xM X) ⟨hx, hb, hml, hown, htw.use (xa X)⟩ C cw ⟨Wd.blind _, fun U hU hW => ⟨rfl, Wd.mk hC0 hP hS hU hW⟩⟩ rfl hn (by show ls.size = nL; rw [hl.1, hn']) rfl (lv_room hrest) hdg ⟨by rw [hR3]; exact hk, by rw [hR4]; exact hm⟩
    refine va_callv run hS (fun q _ h => h) (fun q h => h) (fun u t H1 locs1 ht hvm he hB _ _ hS1 => ?_)
    subst ht
    exact kk t.heap locs1 ls hB hS1 hl
theorem r_tcallVV {β : Type} {f : Option (Except Nat Unit × Mem)} {K : Unit → Mem → Option (Except Nat β × Mem)} {res : Except Nat β} {M' : Mem} {Qc : Array Value → State → Outcome → State → Prop} {mcy msy : Nat} (rest : List Value) (C : ∀ (r : Except Nat Unit) (M1 : Mem), f = some (r, M1) → CT (QcTV G Z r M1) (XcT G Z r M1) (xl X) G Z y cy ny rety dy mcy msy As M) (hf : oe f K = some (res, M')) (cs : CsV own idx y cy ny rety na) (hC : Cx X G own cc ret d mc ms nL) (hno : ∀ x ∈ (xc X).exceptionTable.toList, False) {i ci N : Nat} {F : Nat → Option (Option Nat)} {q0 : vw_C} (hi : At Z i (.inl (ci, N, F))) (hc : vwCl[ci]? = some q0) (hq : q0.1 = y.cls) (As' : List Value) (hAs : As = .ref (Z.1 i) :: As') (hn : As'.length = na) (hst : st = As'.reverse ++ .ref (Z.1 i) :: rest) (hd : dy + 1 ≤ d) (hlo : 8 + (ny + 11) + 40 * dy ≤ 40 * d) (hrest : (rest.map fun v => v.category).sum ≤ 8) (hk : k + mcy ≤ mc) (hm : n + msy ≤ ms) (hdg : decode cc pc = .ok (.invokevirtual idx, 3))
    (kk : ∀ (r : Unit) (M1 : Mem), K r M1 = some (res, M') → V X G Z M1 (k + mcy) (n + msy) (QT X G Qc (XcT G Z res M') mc ms) (pc + 3) L rest) : V X G Z M k n (QT X G Qc (XcT G Z res M') mc ms) pc L st := by
  cases f with
  | none => cases hf
  | some p =>
    obtain ⟨r0, M1⟩ := p
    have C := C r0 M1 rfl
    have hC0 := hC
    obtain ⟨⟨hx, hb, hr, hml, hn'⟩, hown, htw, hlk, hK, hA, hsg, hst', hR⟩ := hC
    obtain ⟨g1, g2, g3⟩ := cs
    subst hst
    subst hAs
    intro H locs ls hP hS hl
    have hR1 : (xR X).frames = d := by rw [hR]; rfl
    have hR2 : (xR X).locals = 40 * d := by rw [hR]; rfl
    have hR3 : (xR X).cells = mc := by rw [hR]; rfl
    have hR4 : (xR X).slots = ms := by rw [hR]; rfl
    obtain ⟨q, -, hq1⟩ := wv_get (G := G) (M := M) hi
    have cw := cwV (R := xR X) (rm := rmd dy mcy msy) (mc := mcy) (ms := msy) na (htw.use (xa X)) g1 rfl rfl rfl ⟨rfl, g2.1, g2.2, g3⟩ ⟨by rw [hR1]; exact hd, by rw [hR2]; exact hlo⟩
    have run := vx_runV (own := own) (C := y.cls) (g := F0 (xm X) pc ls (As'.reverse ++ .ref (Z.1 i) :: rest)) (H := H) (locs := locs) (cells := k) (slots := n) (e := xe X) (below := xb X) (meth := xM X) ⟨hx, hb, hml, hown, htw.use (xa X)⟩ C cw ⟨Wd.blind _, by have h9 := va_recv hK hP hc hq1; rw [hq] at h9; exact h9, fun U hU hW => ⟨rfl, Wd.mk hC0 hP hS hU hW⟩⟩ rfl hn (by show ls.size = nL; rw [hl.1, hn']) rfl (lv_room hrest) hdg ⟨by rw [hR3]; exact hk, by rw [hR4]; exact hm⟩
    refine vx_callv run hS (fun q _ h => h) (fun q h => h) (fun q _ h => h) (fun E ce q9 u t H1 locs1 ht hvm hu hB _ _ hS1 hce hcv hcl => ?_) (fun u t H1 locs1 ht hvm he hB _ _ hS1 => ?_)
    · subst hu
      obtain ⟨rfl, hB⟩ := hB
      cases hf
      subst ht
      exact vx_out (fun x hx => (hno x hx).elim) hlk hce hcv hcl (fun t2 ht2 hvm2 => ⟨u, rfl, ⟨rfl, by unfold Wp; rw [ht2]; exact hB⟩, hS1.F ht2⟩) hS1.2.2 hk hm
    · subst he; subst ht
      exact kk () M1 hf t.heap locs1 ls hB hS1 hl
theorem r_tcallSV {β : Type} {f : Option (Except Nat Unit × Mem)} {K : Unit → Mem → Option (Except Nat β × Mem)} {res : Except Nat β} {M' : Mem} {Qc : Array Value → State → Outcome → State → Prop} {mcy msy : Nat} (rest : List Value) (C : ∀ (r : Except Nat Unit) (M1 : Mem), f = some (r, M1) → CT (QcTV G Z r M1) (XcT G Z r M1) (xl X) G Z y cy ny rety dy mcy msy As M) (hf : oe f K = some (res, M')) (cs : CsS own idx y cy ny rety na) (hC : Cx X G own cc ret d mc ms nL) (hno : ∀ x ∈ (xc X).exceptionTable.toList, False) (hn : As.length = na) (hst : st = As.reverse ++ rest) (hd : dy + 1 ≤ d) (hlo : 8 + (ny + 11) + 40 * dy ≤ 40 * d) (hrest : (rest.map fun v => v.category).sum ≤ 8) (hk : k + mcy ≤ mc) (hm : n + msy ≤ ms) (hdg : decode cc pc = .ok (.invokestatic idx, 3))
    (kk : ∀ (r : Unit) (M1 : Mem), K r M1 = some (res, M') → V X G Z M1 (k + mcy) (n + msy) (QT X G Qc (XcT G Z res M') mc ms) (pc + 3) L rest) : V X G Z M k n (QT X G Qc (XcT G Z res M') mc ms) pc L st := by
  cases f with
  | none => cases hf
  | some p =>
    obtain ⟨r0, M1⟩ := p
    have C := C r0 M1 rfl
    have hC0 := hC
    obtain ⟨⟨hx, hb, hr, hml, hn'⟩, hown, htw, hlk, hK, hA, hsg, hst', hR⟩ := hC
    obtain ⟨g1, g2, g3⟩ := cs
    subst hst
    intro H locs ls hP hS hl
    have hR1 : (xR X).frames = d := by rw [hR]; rfl
    have hR2 : (xR X).locals = 40 * d := by rw [hR]; rfl
    have hR3 : (xR X).cells = mc := by rw [hR]; rfl
    have hR4 : (xR X).slots = ms := by rw [hR]; rfl
    have cw := va_cwS (R := xR X) (rm := rmd dy mcy msy) (mc := mcy) (ms := msy) na (htw.use (xa X)) g1 rfl rfl rfl ⟨g2.1, g2.2, g3⟩ ⟨by rw [hR1]; exact hd, by rw [hR2]; exact hlo⟩
    have run := vx_runS (own := own) (g := F0 (xm X) pc ls (As.reverse ++ rest)) (H := H) (locs := locs) (cells := k) (slots := n) (e := xe X) (below := xb X) (meth := xM X) ⟨hx, hb, hml, hown, htw.use (xa X)⟩ C cw ⟨Wd.blind _, fun U hU hW => ⟨rfl, Wd.mk hC0 hP hS hU hW⟩⟩ rfl hn (by show ls.size = nL; rw [hl.1, hn']) rfl (lv_room hrest) hdg ⟨by rw [hR3]; exact hk, by rw [hR4]; exact hm⟩
    refine vx_callv run hS (fun q _ h => h) (fun q h => h) (fun q _ h => h) (fun E ce q9 u t H1 locs1 ht hvm hu hB _ _ hS1 hce hcv hcl => ?_) (fun u t H1 locs1 ht hvm he hB _ _ hS1 => ?_)
    · subst hu
      obtain ⟨rfl, hB⟩ := hB
      cases hf
      subst ht
      exact vx_out (fun x hx => (hno x hx).elim) hlk hce hcv hcl (fun t2 ht2 hvm2 => ⟨u, rfl, ⟨rfl, by unfold Wp; rw [ht2]; exact hB⟩, hS1.F ht2⟩) hS1.2.2 hk hm
    · subst he; subst ht
      exact kk () M1 hf t.heap locs1 ls hB hS1 hl
end RC
end
section
section RX
variable {X : XX} {G : GG} {Z : ZZ} {M M' : Mem} {k n : Nat} {pc : Nat} {L : List (Nat × Value)} {own : String} {cc : ByteArray} {ret : Option FieldType} {d mc ms nL : Nat}
theorem r_iret {x r : Int32} (hf : some (x, M) = some (r, M')) (hC : Cx X G own cc ret d mc ms nL) (hk : k ≤ mc) (hm : n ≤ ms) (hdg : decode cc pc = .ok (.ireturn, 1)) (he : ret = some .int := by rfl) : V X G Z M k n (QN X G (QcI G Z r M') mc ms) pc L [.int x] := by
  cases hf
  obtain ⟨⟨hx, hb, hr, hml, hn⟩, hown, htw, hlk, hK, hA, hsg, hst, hR⟩ := hC
  intro H locs ls hP hS hl
  refine W.widen hk hm ?_
  exact W.iret hx hb (by rw [hr, he]) (fun t ht hW => ⟨⟨x, (), rfl, rfl, by show va_P _ _ _ t.heap; rw [ht]; exact hP⟩, hS.F ht⟩) hS.2.2 hdg hlk
theorem r_zret {x r : Int32} (hf : some (x, M) = some (r, M')) (hC : Cx X G own cc ret d mc ms nL) {ty : FieldType} (he : ret = some ty) (hnr : narrow ty (.int x) = .int x) (hk : k ≤ mc) (hm : n ≤ ms) (hdg : decode cc pc = .ok (.ireturn, 1)) : V X G Z M k n (QN X G (QcI G Z r M') mc ms) pc L [.int x] := by
  cases hf
  obtain ⟨⟨hx, hb, hr, hml, hn⟩, hown, htw, hlk, hK, hA, hsg, hst, hR⟩ := hC
  intro H locs ls hP hS hl
  refine W.widen hk hm ?_
  exact W.zret hx hb (by rw [hr, he]) hnr (fun t ht hW => ⟨⟨x, (), rfl, rfl, by show va_P _ _ _ t.heap; rw [ht]; exact hP⟩, hS.F ht⟩) hS.2.2 hdg hlk
theorem r_lret {x r : Int64} (hf : some (x, M) = some (r, M')) (hC : Cx X G own cc ret d mc ms nL) (hk : k ≤ mc) (hm : n ≤ ms) (hdg : decode cc pc = .ok (.lreturn, 1)) (he : ret = some .long := by rfl) : V X G Z M k n (QN X G (QcL G Z r M') mc ms) pc L [.long x] := by
  cases hf
  obtain ⟨⟨hx, hb, hr, hml, hn⟩, hown, htw, hlk, hK, hA, hsg, hst, hR⟩ := hC
  intro H locs ls hP hS hl
  refine W.widen hk hm ?_
  exact W.lret hx hb (by rw [hr, he]) (fun t ht hW => ⟨⟨x, (), rfl, rfl, by show va_P _ _ _ t.heap; rw [ht]; exact hP⟩, hS.F ht⟩) hS.2.2 hdg hlk
theorem r_vret {x r : Unit} {rest : List Value} (hf : some (x, M) = some (r, M')) (hC : Cx X G own cc ret d mc ms nL) (hk : k ≤ mc) (hm : n ≤ ms) (hdg : decode cc pc = .ok (.return_, 1)) (he : ret = none := by rfl) (hrest : rest = [] := by rfl) : V X G Z M k n (QN X G (QcV G Z r M') mc ms) pc L rest := by
  cases hf
  obtain ⟨⟨hx, hb, hr, hml, hn⟩, hown, htw, hlk, hK, hA, hsg, hst, hR⟩ := hC
  intro H locs ls hP hS hl
  subst hrest
  refine W.widen hk hm ?_
  exact W.vret hx hb (by rw [hr, he]) (fun t ht hW => ⟨⟨(), rfl, trivial, by show va_P _ _ _ t.heap; rw [ht]; exact hP⟩, hS.F ht⟩) hS.2.2 hdg hlk
theorem r_aret {ido : Nat → Nat} {x r : Nat} {C : String} (hf : some (x, M) = some (r, M')) (hC : Cx X G own cc ret d mc ms nL) (he : ret = some (.object C)) (hk : k ≤ mc) (hm : n ≤ ms) (hdg : decode cc pc = .ok (.areturn, 1)) : V X G Z M k n (QN X G (QcR ido G Z r M') mc ms) pc L [.ref (Z.1 (ido x))] := by
  cases hf
  obtain ⟨⟨hx, hb, hr, hml, hn⟩, hown, htw, hlk, hK, hA, hsg, hst, hR⟩ := hC
  intro H locs ls hP hS hl
  refine W.widen hk hm ?_
  exact W.aret hx hb (by rw [hr, he]) (Or.inl ⟨_, rfl⟩) (Or.inr ⟨_, rfl⟩) (fun t ht hW => ⟨⟨(), Z.1 (ido x), rfl, trivial, rfl, by show va_P _ _ _ t.heap; rw [ht]; exact hP⟩, hS.F ht⟩) hS.2.2 hdg hlk
theorem r_iretT {x : Int32} {res : Except Nat Int32} {Xc : String → State → State → Prop} (hf : some (Except.ok x, M) = some (res, M')) (hC : Cx X G own cc ret d mc ms nL) (hk : k ≤ mc) (hm : n ≤ ms) (hdg : decode cc pc = .ok (.ireturn, 1)) (he : ret = some .int := by rfl) : V X G Z M k n (QT X G (QcTI G Z res M') Xc mc ms) pc L [.int x] := by
  cases hf
  obtain ⟨⟨hx, hb, hr, hml, hn⟩, hown, htw, hlk, hK, hA, hsg, hst, hR⟩ := hC
  intro H locs ls hP hS hl
  refine W.widen hk hm (vx_ret ?_)
  exact W.iret hx hb (by rw [hr, he]) (fun t ht hW => ⟨⟨x, (), rfl, rfl, by show va_P _ _ _ t.heap; rw [ht]; exact hP⟩, hS.F ht⟩) hS.2.2 hdg hlk
theorem r_vretT {x : Unit} {rest : List Value} {res : Except Nat Unit} {Xc : String → State → State → Prop} (hf : some (Except.ok x, M) = some (res, M')) (hC : Cx X G own cc ret d mc ms nL) (hk : k ≤ mc) (hm : n ≤ ms) (hdg : decode cc pc = .ok (.return_, 1)) (he : ret = none := by rfl) (hrest : rest = [] := by rfl) : V X G Z M k n (QT X G (QcTV G Z res M') Xc mc ms) pc L rest := by
  cases hf
  obtain ⟨⟨hx, hb, hr, hml, hn⟩, hown, htw, hlk, hK, hA, hsg, hst, hR⟩ := hC
  intro H locs ls hP hS hl
  subst hrest
  refine W.widen hk hm (vx_ret ?_)
  exact W.vret hx hb (by rw [hr, he]) (fun t ht hW => ⟨⟨(), rfl, rfl, by show va_P _ _ _ t.heap; rw [ht]; exact hP⟩, hS.F ht⟩) hS.2.2 hdg hlk
end RX
def th_names : List String := ["java/lang/RuntimeException", "java/lang/Exception"]
def ThK (own : String) (ik ic e : Nat) : Prop := Bundle.fit (exn e) = true ∧ (∀ n ∈ th_names, Bundle.fit n = true) ∧ Cond.classLink own ik (exn e) ∈ TW ∧ Cond.initialized (exn e) ∈ TW ∧ (∀ w ∈ vx_at0 own ic (exn e) th_names, w ∈ TW) ∧ (∀ w ∈ Cond.classLink own ik (exn e) :: Cond.initialized (exn e) :: vx_at0 own ic (exn e) th_names, vx_ot w = true)
theorem r_throw {X : XX} {G : GG} {Z : ZZ} {M M' : Mem} {k n : Nat} {pc : Nat} {L : List (Nat × Value)} {own : String} {cc : ByteArray} {ret : Option FieldType} {d mc ms nL : Nat} {α : Type} {res : Except Nat α} {Qc : Array Value → State → Outcome → State → Prop} {rest : List Value} {ik ic e : Nat} (hf : some (Except.error e, M) = some (res, M')) (hC : Cx X G own cc ret d mc ms nL) (hno : ∀ x ∈ (xc X).exceptionTable.toList, False) (th : ThK own ik ic e)
    (d0 : decode cc pc = .ok (.new ik, 3)) (d3 : decode cc (pc + 3) = .ok (.dup, 1)) (d4 : decode cc (pc + 4) = .ok (.invokespecial ic, 3)) (d7 : decode cc (pc + 7) = .ok (.athrow, 1)) (hd : 6 ≤ d) (hrest : (rest.map fun v => v.category).sum ≤ 8) (hk : k + 1 ≤ mc) (hm : n + 6 ≤ ms) : V X G Z M k n (QT X G Qc (XcT G Z res M') mc ms) pc L rest := by
  cases hf
  have hC0 := hC
  obtain ⟨⟨hx, hb, hr, hml, hn⟩, hown, htw, hlk, hK, hA, hsg, hst, hR⟩ := hC
  obtain ⟨t1, t2, t3, t4, t5, t6⟩ := th
  intro H locs ls hP hS hl
  have hR1 : (xR X).frames = d := by rw [hR]; rfl
  have hR2 : (xR X).locals = 40 * d := by rw [hR]; rfl
  have hR3 : (xR X).cells = mc := by rw [hR]; rfl
  have hR4 : (xR X).slots = ms := by rw [hR]; rfl
  have hsg2 := hsg
  obtain ⟨-, -, -, hU, hN⟩ := hsg2
  refine vx_throw0 (names := th_names) hx hb hst hown t1 t2 (htw.use _ _ t3) (htw.use _ _ t4) (fun w hw => htw.use _ _ (t5 w hw)) t6 hU hN hS (by rw [hl.1, hn, hml]) d0 d3 d4 d7 (fun x hx => (hno x hx).elim) (by rw [hR1]; show 2 + 3 < d; omega) (by rw [hR2]; show _ + (13 * (2 + 1) + 42) ≤ _; omega) (by rw [hR3]; omega) (by rw [hR4]; omega) hlk (fun t hvm hsz hq => ?_) hS.2.2 hk hm
  refine ⟨e, rfl, ⟨rfl, ?_⟩, ⟨Nat.le_trans hS.1 hsz, fun q h1 h2 => (hq q (Nat.lt_of_lt_of_le h1 hS.1)).trans (hS.2.1 q h1 h2)⟩⟩
  exact hP.kept (fun i q hi => hq _ ((hP i q hi).lt))
theorem th_iae : ThK RX5 48 50 0 := ⟨by decide +kernel, by decide +kernel, by decide +kernel, by decide +kernel, by decide +kernel, by decide +kernel⟩
theorem th_ise : ThK RX5 55 57 1 := ⟨by decide +kernel, by decide +kernel, by decide +kernel, by decide +kernel, by decide +kernel, by decide +kernel⟩
theorem th_iob : ThK RX5 151 153 2 := ⟨by decide +kernel, by decide +kernel, by decide +kernel, by decide +kernel, by decide +kernel, by decide +kernel⟩
end
section
/-! THE CELLS OF A RUN: HandSpans (0), Text (1, 2), History (3, 4), slots (5), filled (6), Reduction (7 .. 26), the model (27 .. 42), the law's answer (43), 18 states of 3, 17 chords of 12 -/
abbrev rf (j : Nat) : Option (Option Nat) := some (some j)
abbrev dHS : Ds := .inl (5, 7, fun k => match k with | 0 => rf 1 | 1 => rf (iSt 0) | 2 => rf (iSt 1) | 3 => rf 7 | 4 => rf 3 | 5 => rf 5 | _ => rf 6)
abbrev dText : Ds := .inl (4, 3, fun k => match k with | 0 => rf 2 | _ => none)
abbrev dHist : Ds := .inl (1, 3, fun k => match k with | 0 => rf 4 | _ => none)
abbrev dRed : Ds := .inl (2, 5, fun k => match k with | 0 => rf 8 | 1 => rf (iCh 16) | 2 => rf 9 | 3 => rf 10 | _ => none)
abbrev dMod : Ds := .inl (6, 19, fun k => match k with | 0 => none | 1 => rf 28 | 2 => none | 3 => none | 4 => rf 29 | 5 => rf 30 | 6 => rf 31 | 7 => rf 32 | 8 => rf 33 | 9 => none | 10 => rf 34 | 11 => rf 35 | 12 => rf 36 | 13 => rf 37 | 14 => rf 38 | 15 => rf 39 | 16 => rf 40 | 17 => rf 41 | _ => rf 42)
abbrev dSt (k : Nat) : Ds := .inl (3, 4, fun j => match j with | 0 => rf (iSt k + 1) | 1 => rf (iSt k + 2) | _ => none)
abbrev dCh (b : Nat) : Ds := .inl (0, 14, fun j => match j with | 0 => rf (iCh b + 1) | 1 => none | 2 => none | 3 => none | 4 => rf (iCh b + 2) | 5 => rf (iCh b + 3) | 6 => none | 7 => none | 8 => rf (iCh b + 4) | 9 => none | 10 => none | 11 => rf (iCh b + 5) | 12 => rf (iCh b + 6) | _ => rf (iCh b + 9))
abbrev dA (t n : Nat) : Ds := .inr (.inl (t, n))
abbrev dR (t n : Nat) (f : Nat → Nat) : Ds := .inr (.inr (.inl (t, n, fun j => some (f j))))
abbrev dRing : Ds := dR 5 14 (fun j => iSt (4 + j))
abbrev dSlots : Ds := dR 5 2 (fun j => iSt (2 + j))
abbrev dChords : Ds := dR 6 16 (fun j => iCh j)
abbrev dAhead : Ds := dR 4 16 (fun j => 11 + j)
abbrev dPos (b : Nat) : Ds := dR 4 2 (fun j => iCh b + 7 + j)
abbrev dWid (b : Nat) : Ds := dR 4 2 (fun j => iCh b + 10 + j)
abbrev dOut : Ds := .inr (.inr (.inr 1))
def TB1 (i : Nat) : Ds := match i with
  | 0 => dHS | 1 => dText | 2 => dA 2 140 | 3 => dHist | 4 => dRing | 5 => dSlots | 6 => dA 1 2 | 7 => dRed | 8 => dChords | 9 => dA 0 16 | 10 => dAhead
  | 27 => dMod | 28 => dA 0 140 | 29 => dA 0 72 | 30 => dA 0 72 | 31 => dA 0 72 | 32 => dA 0 72 | 33 => dA 0 1008 | 34 => dA 0 144 | 35 => dA 1 2 | 36 => dA 0 64 | 37 => dA 0 64 | 38 => dA 0 64 | 39 => dA 0 16 | 40 => dA 0 16 | 41 => dA 0 16 | 42 => dA 0 80 | 43 => dOut
  | _ => dA 0 5
def TBS (k j : Nat) : Ds := match j with | 0 => dSt k | 1 => dA 0 6 | _ => dA 0 64
def TBC (b j : Nat) : Ds := match j with | 0 => dCh b | 1 => dA 0 2 | 2 => dA 0 4 | 3 => dA 0 4 | 4 => dA 0 4 | 5 => dA 0 5 | 6 => dPos b | 7 => dA 0 5 | 8 => dA 0 5 | 9 => dWid b | 10 => dA 0 5 | _ => dA 0 5
def TB (i : Nat) : Ds := if i < 44 then TB1 i else if i < 98 then TBS ((i - 44) / 3) ((i - 44) % 3) else TBC ((i - 98) / 12) ((i - 98) % 12)
def ZM (Z : ZZ) : Prop := ∀ i : Nat, i < 302 → At Z i (TB i)
theorem TB_1 {i : Nat} (h : i < 44) : TB i = TB1 i := by unfold TB; rw [if_pos h]
theorem TB_S {k j : Nat} (hk : k < 18) (hj : j < 3) : TB (iSt k + j) = TBS k j := by
  unfold TB iSt
  rw [if_neg (by omega), if_pos (by omega), show (44 + 3 * k + j - 44) / 3 = k by omega, show (44 + 3 * k + j - 44) % 3 = j by omega]
theorem TB_C {b j : Nat} (hj : j < 12) : TB (iCh b + j) = TBC b j := by
  unfold TB iCh
  rw [if_neg (by omega), if_neg (by omega), show (98 + 12 * b + j - 98) / 12 = b by omega, show (98 + 12 * b + j - 98) % 12 = j by omega]
theorem z_1 {Z : ZZ} (hZ : ZM Z) (i : Nat) {D : Ds} (h : i < 44) (e : TB1 i = D) : At Z i D := by
  have := hZ i (by omega)
  rw [TB_1 h, e] at this
  exact this
theorem z_S {Z : ZZ} (hZ : ZM Z) {k : Nat} (hk : k < 18) : At Z (iSt k) (dSt k) := by
  have := hZ (iSt k + 0) (by unfold iSt; omega)
  rw [TB_S hk (by decide)] at this
  exact this
theorem z_S1 {Z : ZZ} (hZ : ZM Z) {k : Nat} (hk : k < 18) : At Z (iSt k + 1) (dA 0 6) := by
  have := hZ (iSt k + 1) (by unfold iSt; omega)
  rw [TB_S hk (by decide)] at this
  exact this
theorem z_S2 {Z : ZZ} (hZ : ZM Z) {k : Nat} (hk : k < 18) : At Z (iSt k + 2) (dA 0 64) := by
  have := hZ (iSt k + 2) (by unfold iSt; omega)
  rw [TB_S hk (by decide)] at this
  exact this
theorem z_C {Z : ZZ} (hZ : ZM Z) {b : Nat} (hb : b < 17) : At Z (iCh b) (dCh b) := by
  have := hZ (iCh b + 0) (by unfold iCh; omega)
  rw [TB_C (by decide)] at this
  exact this
theorem z_Cj {Z : ZZ} (hZ : ZM Z) {b : Nat} (hb : b < 17) (j : Nat) {D : Ds} (hj : j < 12) (e : TBC b j = D) : At Z (iCh b + j) D := by
  have := hZ (iCh b + j) (by unfold iCh; omega)
  rw [TB_C hj, e] at this
  exact this
/-- positions and widths by hand -/
theorem z_Ph {Z : ZZ} (hZ : ZM Z) {b h : Nat} (hb : b < 17) (hh : h < 2) : At Z (iCh b + 7 + h) (dA 0 5) := by
  match h, hh with
  | 0, _ => exact z_Cj hZ hb 7 (by decide) rfl
  | 1, _ => exact z_Cj hZ hb 8 (by decide) rfl
theorem z_Wh {Z : ZZ} (hZ : ZM Z) {b h : Nat} (hb : b < 17) (hh : h < 2) : At Z (iCh b + 10 + h) (dA 0 5) := by
  match h, hh with
  | 0, _ => exact z_Cj hZ hb 10 (by decide) rfl
  | 1, _ => exact z_Cj hZ hb 11 (by decide) rfl
theorem z_Ah {Z : ZZ} (hZ : ZM Z) {j : Nat} (hj : j < 16) : At Z (11 + j) (dA 0 5) := by
  have h := hZ (11 + j) (by omega)
  rw [TB_1 (by omega)] at h
  have e : TB1 (11 + j) = dA 0 5 := by
    match j, hj with
    | 0, _ => rfl | 1, _ => rfl | 2, _ => rfl | 3, _ => rfl | 4, _ => rfl | 5, _ => rfl | 6, _ => rfl | 7, _ => rfl | 8, _ => rfl | 9, _ => rfl | 10, _ => rfl | 11, _ => rfl | 12, _ => rfl | 13, _ => rfl | 14, _ => rfl | 15, _ => rfl | n + 16, h => exact absurd h (by omega)
  rw [e] at h
  exact h
def ArI (r : Nat) : Prop := r < 44 ∧ TB1 r = dA 0 (lnA r)
theorem z_r {Z : ZZ} (hZ : ZM Z) {r : Nat} (h : ArI r) : At Z r (dA 0 (lnA r)) := z_1 hZ r h.1 h.2
theorem inb_vp {x : Int32} {N : Nat} (h : inb x N) : vp_in x N := vp_in_iff.mpr h
theorem inb_lt {x : Int32} {N : Nat} (h : inb x N) : x.toNatClampNeg < N := by
  have h1 := h.1
  have h2 := h.2
  show x.toInt.toNat < N
  omega
theorem st_ring {x : Int32} (h : inb x 14) : 4 + x.toNatClampNeg < 18 := by have := inb_lt h; omega
theorem st_slot {x : Int32} (h : inb x 2) : 2 + x.toNatClampNeg < 18 := by have := inb_lt h; omega
theorem ch_at {x : Int32} (h : inb x 16) : x.toNatClampNeg < 17 := by have := inb_lt h; omega
end
section
theorem cx_st {X : XX} {G : GG} {own : String} {cc : ByteArray} {ret : Option FieldType} {d mc ms nL : Nat} (hC : Cx X G own cc ret d mc ms nL) : (xl X).stackTraces = false := hC.2.2.2.2.2.2.2.1
theorem nar_bool {x : Int32} (h : x &&& 1 = x) : narrow .boolean (.int x) = .int x ∧ fits .boolean (.int x) = true := by
  have h1 : narrow .boolean (.int x) = .int (x &&& 1) := rfl
  refine ⟨by rw [h1, h], ?_⟩
  obtain ⟨j, hj, e⟩ := pk_andE x (m := 1) 1 (by decide)
  rw [h] at e
  have hj2 : j = 0 ∨ j = 1 := by omega
  rcases hj2 with rfl | rfl
  · rw [e]; decide
  · rw [e]; decide
theorem sw_out {x : Int32} (lo hi : Int) (h1 : -2147483648 ≤ lo) (h2 : hi < 2147483648) (h : ∀ c : Int, lo ≤ c → c ≤ hi → x ≠ Int32.ofInt c) : x.toInt < lo ∨ hi < x.toInt := by
  by_cases a : x.toInt < lo
  · exact Or.inl a
  · by_cases b : hi < x.toInt
    · exact Or.inr b
    · refine absurd ?_ (h x.toInt (by omega) (by omega))
      simp
section LK
variable {X : XX} {G : GG} {Z : ZZ} {M : Mem} {k n : Nat} {Q : State → Prop} {pc : Nat} {L : List (Nat × Value)} {rest : List Value} {own : String} {cc : ByteArray} {ret : Option FieldType} {d mc ms nL : Nat}
theorem r_swIn {x c : Int32} {dflt lo hi off : Int} {offs : Array Int} {len tgt : Nat} (hC : Cx X G own cc ret d mc ms nL) (hdg : decode cc pc = .ok (.tableswitch dflt lo hi offs, len)) (he : x = c) (h1 : ¬ c.toInt < lo) (h2 : ¬ hi < c.toInt) (ho : offs[(c.toInt - lo).toNat]? = some off) (ht : (pc : Int) + off = (tgt : Int)) (kk : V X G Z M k n Q tgt L rest) : V X G Z M k n Q pc L (.int x :: rest) := by
  subst he
  obtain ⟨⟨hx, hb, hr, hml, hn⟩, hown, htw, hlk, hK, hA, hsg, hst, hR⟩ := hC
  intro H locs ls hP hS hl
  exact lv_tableIn hx hb hdg h1 h2 ho ht (kk H locs ls hP hS hl)
theorem r_swOut {x : Int32} {dflt lo hi : Int} {offs : Array Int} {len tgt : Nat} (hC : Cx X G own cc ret d mc ms nL) (hdg : decode cc pc = .ok (.tableswitch dflt lo hi offs, len)) (h : x.toInt < lo ∨ hi < x.toInt) (ht : (pc : Int) + dflt = (tgt : Int)) (kk : V X G Z M k n Q tgt L rest) : V X G Z M k n Q pc L (.int x :: rest) := by
  obtain ⟨⟨hx, hb, hr, hml, hn⟩, hown, htw, hlk, hK, hA, hsg, hst, hR⟩ := hC
  intro H locs ls hP hS hl
  exact lv_tableOut hx hb hdg h ht (kk H locs ls hP hS hl)
def MaK (own : String) (idx : Nat) : Prop := Cond.methodLink own idx Lib.Math.abs.name ∈ TW ∧ Cond.static Lib.Math.abs.name ∈ TW ∧ Cond.initialized "java/lang/Math" ∈ TW ∧ Cond.code Lib.Math.abs.name Lib.Math.abs.code 1 (some .int) ∈ TW
theorem r_mabs {x : Int32} {idx : Nat} (hC : Cx X G own cc ret d mc ms nL) (ma : MaK own idx) (hd : 1 ≤ d) (hrest : (rest.map fun v => v.category).sum ≤ 8) (hk : k ≤ mc) (hm : n ≤ ms) (hdg : decode cc pc = .ok (.invokestatic idx, 3)) (kk : V X G Z M k n Q (pc + 3) L (.int (if 0 ≤ x then x else 0 - x) :: rest)) : V X G Z M k n Q pc L (.int x :: rest) := by
  obtain ⟨⟨hx, hb, hr, hml, hn⟩, hown, htw, hlk, hK, hA, hsg, hst, hR⟩ := hC
  intro H locs ls hP hS hl
  have hR1 : (xR X).frames = d := by rw [hR]; rfl
  have hR2 : (xR X).locals = 40 * d := by rw [hR]; rfl
  have hR3 : (xR X).cells = mc := by rw [hR]; rfl
  have hR4 : (xR X).slots = ms := by rw [hR]; rfl
  exact va_mabs hx hb (by rw [hml, hl.1, hn]) hown (htw.use _ _ ma.1) (htw.use _ _ ma.2.1) (htw.use _ _ ma.2.2.1) (htw.use _ _ ma.2.2.2) (by rw [hR1]; exact hd) (by rw [hR2]; omega) (by rw [hR3]; exact hk) (by rw [hR4]; exact hm) hdg (kk H locs ls hP hS hl)
end LK
end
section
section LK
variable {X : XX} {G : GG} {Z : ZZ} {M : Mem} {k n : Nat} {Q : State → Prop} {pc : Nat} {L : List (Nat × Value)} {rest : List Value} {own : String} {cc : ByteArray} {ret : Option FieldType} {d mc ms nL : Nat}
theorem kw_J6_265 : Cond.constant RJ6 265 (1431655765) ∈ TW := (tw_at (i := 423) (by decide +kernel) rfl)
theorem kw_J6_266 : Cond.constant RJ6 266 (858993459) ∈ TW := (tw_at (i := 424) (by decide +kernel) rfl)
theorem kw_J6_267 : Cond.constant RJ6 267 (252645135) ∈ TW := (tw_at (i := 425) (by decide +kernel) rfl)
theorem kw_X2_70 : Cond.constant RX2 70 (2147483647) ∈ TW := (tw_at (i := 411) (by decide +kernel) rfl)
theorem kw_X5_193 : Cond.constant RX5 193 (2147483647) ∈ TW := (tw_at (i := 474) (by decide +kernel) rfl)
theorem kw_X5_201 : Cond.constantLong RX5 201 (100000) ∈ TW := (tw_at (i := 831) (by decide +kernel) rfl)
theorem kw_X5_206 : Cond.constantLong RX5 206 (6364136223846793005) ∈ TW := (tw_at (i := 860) (by decide +kernel) rfl)
theorem kw_X5_208 : Cond.constantLong RX5 208 (1442695040888963407) ∈ TW := (tw_at (i := 861) (by decide +kernel) rfl)
theorem kw_X6_64 : Cond.constantLong RX6 64 (5) ∈ TW := (tw_at (i := 1041) (by decide +kernel) rfl)
theorem kw_X6_164 : Cond.constantLong RX6 164 (255) ∈ TW := (tw_at (i := 958) (by decide +kernel) rfl)
theorem kw_X6_199 : Cond.constantLong RX6 199 (60) ∈ TW := (tw_at (i := 1012) (by decide +kernel) rfl)
theorem kw_X6_201 : Cond.constantLong RX6 201 (9) ∈ TW := (tw_at (i := 1008) (by decide +kernel) rfl)
theorem kw_X6_226 : Cond.constantLong RX6 226 (-1) ∈ TW := (tw_at (i := 1050) (by decide +kernel) rfl)
theorem kw_X6_235 : Cond.constantLong RX6 235 (-60) ∈ TW := (tw_at (i := 1064) (by decide +kernel) rfl)
theorem kw_X6_250 : Cond.constantLong RX6 250 (3) ∈ TW := (tw_at (i := 1101) (by decide +kernel) rfl)
theorem kw_X6_252 : Cond.constantLong RX6 252 (4) ∈ TW := (tw_at (i := 1201) (by decide +kernel) rfl)
theorem kw_X6_254 : Cond.constantLong RX6 254 (7) ∈ TW := (tw_at (i := 1210) (by decide +kernel) rfl)
theorem kw_X6_263 : Cond.constantLong RX6 263 (100000) ∈ TW := (tw_at (i := 1235) (by decide +kernel) rfl)
theorem kw_X6_265 : Cond.constantLong RX6 265 (10000000000) ∈ TW := (tw_at (i := 1236) (by decide +kernel) rfl)
theorem kw_X6_267 : Cond.constantLong RX6 267 (1000000000000000) ∈ TW := (tw_at (i := 1237) (by decide +kernel) rfl)
theorem kw_X6_273 : Cond.constantLong RX6 273 (40) ∈ TW := (tw_at (i := 1250) (by decide +kernel) rfl)
theorem kw_X6_275 : Cond.constantLong RX6 275 (6364136223846793005) ∈ TW := (tw_at (i := 1251) (by decide +kernel) rfl)
theorem kw_X6_277 : Cond.constantLong RX6 277 (1442695040888963407) ∈ TW := (tw_at (i := 1252) (by decide +kernel) rfl)
theorem kw_X3_32 : Cond.fieldLinkNest RX3 32 "HandSpans" "SETTING_AT_FIRST" "[I" "HandSpans" ∈ TW := (tw_at (i := 119) (by decide +kernel) rfl)
theorem kw_X3_39 : Cond.fieldLinkNest RX3 39 "HandSpans" "LEAST_SETTING" "[I" "HandSpans" ∈ TW := (tw_at (i := 658) (by decide +kernel) rfl)
theorem kw_X3_42 : Cond.fieldLinkNest RX3 42 "HandSpans" "MOST_SETTING" "[I" "HandSpans" ∈ TW := (tw_at (i := 660) (by decide +kernel) rfl)
theorem gf_X0_9 {i : Nat} {F : Nat → Option (Option Nat)} {v : Value} (hC : Cx X G RX0 cc ret d mc ms nL) (hi : At Z i (.inl (0, 14, F))) (hv : fv Z.1 (M i) F 0 = v) (hdg : decode cc pc = .ok (.getfield 9, 3)) (kk : V X G Z M k n Q (pc + 3) L (v :: rest)) : V X G Z M k n Q pc L (.ref (Z.1 i) :: rest) :=
  r_get tw_wsX0 rfl 0 (by decide) rfl (tw_at (i := 154) (by decide +kernel) rfl) hC hi hv hdg kk
theorem gf_X0_15 {i : Nat} {F : Nat → Option (Option Nat)} {v : Value} (hC : Cx X G RX0 cc ret d mc ms nL) (hi : At Z i (.inl (0, 14, F))) (hv : fv Z.1 (M i) F 4 = v) (hdg : decode cc pc = .ok (.getfield 15, 3)) (kk : V X G Z M k n Q (pc + 3) L (v :: rest)) : V X G Z M k n Q pc L (.ref (Z.1 i) :: rest) :=
  r_get tw_wsX0 rfl 4 (by decide) rfl (tw_at (i := 158) (by decide +kernel) rfl) hC hi hv hdg kk
theorem gf_X0_18 {i : Nat} {F : Nat → Option (Option Nat)} {v : Value} (hC : Cx X G RX0 cc ret d mc ms nL) (hi : At Z i (.inl (0, 14, F))) (hv : fv Z.1 (M i) F 5 = v) (hdg : decode cc pc = .ok (.getfield 18, 3)) (kk : V X G Z M k n Q (pc + 3) L (v :: rest)) : V X G Z M k n Q pc L (.ref (Z.1 i) :: rest) :=
  r_get tw_wsX0 rfl 5 (by decide) rfl (tw_at (i := 159) (by decide +kernel) rfl) hC hi hv hdg kk
theorem gf_X0_21 {i : Nat} {F : Nat → Option (Option Nat)} {v : Value} (hC : Cx X G RX0 cc ret d mc ms nL) (hi : At Z i (.inl (0, 14, F))) (hv : fv Z.1 (M i) F 8 = v) (hdg : decode cc pc = .ok (.getfield 21, 3)) (kk : V X G Z M k n Q (pc + 3) L (v :: rest)) : V X G Z M k n Q pc L (.ref (Z.1 i) :: rest) :=
  r_get tw_wsX0 rfl 8 (by decide) rfl (tw_at (i := 165) (by decide +kernel) rfl) hC hi hv hdg kk
theorem gf_X0_24 {i : Nat} {F : Nat → Option (Option Nat)} {v : Value} (hC : Cx X G RX0 cc ret d mc ms nL) (hi : At Z i (.inl (0, 14, F))) (hv : fv Z.1 (M i) F 11 = v) (hdg : decode cc pc = .ok (.getfield 24, 3)) (kk : V X G Z M k n Q (pc + 3) L (v :: rest)) : V X G Z M k n Q pc L (.ref (Z.1 i) :: rest) :=
  r_get tw_wsX0 rfl 11 (by decide) rfl (tw_at (i := 170) (by decide +kernel) rfl) hC hi hv hdg kk
theorem gf_X0_29 {i : Nat} {F : Nat → Option (Option Nat)} {v : Value} (hC : Cx X G RX0 cc ret d mc ms nL) (hi : At Z i (.inl (0, 14, F))) (hv : fv Z.1 (M i) F 12 = v) (hdg : decode cc pc = .ok (.getfield 29, 3)) (kk : V X G Z M k n Q (pc + 3) L (v :: rest)) : V X G Z M k n Q pc L (.ref (Z.1 i) :: rest) :=
  r_get tw_wsX0 rfl 12 (by decide) rfl (tw_at (i := 171) (by decide +kernel) rfl) hC hi hv hdg kk
theorem gf_X0_32 {i : Nat} {F : Nat → Option (Option Nat)} {v : Value} (hC : Cx X G RX0 cc ret d mc ms nL) (hi : At Z i (.inl (0, 14, F))) (hv : fv Z.1 (M i) F 13 = v) (hdg : decode cc pc = .ok (.getfield 32, 3)) (kk : V X G Z M k n Q (pc + 3) L (v :: rest)) : V X G Z M k n Q pc L (.ref (Z.1 i) :: rest) :=
  r_get tw_wsX0 rfl 13 (by decide) rfl (tw_at (i := 173) (by decide +kernel) rfl) hC hi hv hdg kk
theorem gf_X0_43 {i : Nat} {F : Nat → Option (Option Nat)} {v : Value} (hC : Cx X G RX0 cc ret d mc ms nL) (hi : At Z i (.inl (3, 4, F))) (hv : fv Z.1 (M i) F 2 = v) (hdg : decode cc pc = .ok (.getfield 43, 3)) (kk : V X G Z M k n Q (pc + 3) L (v :: rest)) : V X G Z M k n Q pc L (.ref (Z.1 i) :: rest) :=
  r_getN tw_wsX3 rfl 2 (by decide) rfl (tw_at (i := 124) (by decide +kernel) rfl) hC hi hv hdg kk
theorem gf_X0_56 {i : Nat} {F : Nat → Option (Option Nat)} {v : Value} (hC : Cx X G RX0 cc ret d mc ms nL) (hi : At Z i (.inl (0, 14, F))) (hv : fv Z.1 (M i) F 10 = v) (hdg : decode cc pc = .ok (.getfield 56, 3)) (kk : V X G Z M k n Q (pc + 3) L (v :: rest)) : V X G Z M k n Q pc L (.ref (Z.1 i) :: rest) :=
  r_get tw_wsX0 rfl 10 (by decide) rfl (tw_at (i := 168) (by decide +kernel) rfl) hC hi hv hdg kk
theorem gf_X0_63 {i : Nat} {F : Nat → Option (Option Nat)} {v : Value} (hC : Cx X G RX0 cc ret d mc ms nL) (hi : At Z i (.inl (0, 14, F))) (hv : fv Z.1 (M i) F 1 = v) (hdg : decode cc pc = .ok (.getfield 63, 3)) (kk : V X G Z M k n Q (pc + 3) L (v :: rest)) : V X G Z M k n Q pc L (.ref (Z.1 i) :: rest) :=
  r_get tw_wsX0 rfl 1 (by decide) rfl (tw_at (i := 155) (by decide +kernel) rfl) hC hi hv hdg kk
theorem gf_X0_66 {i : Nat} {F : Nat → Option (Option Nat)} {v : Value} (hC : Cx X G RX0 cc ret d mc ms nL) (hi : At Z i (.inl (0, 14, F))) (hv : fv Z.1 (M i) F 2 = v) (hdg : decode cc pc = .ok (.getfield 66, 3)) (kk : V X G Z M k n Q (pc + 3) L (v :: rest)) : V X G Z M k n Q pc L (.ref (Z.1 i) :: rest) :=
  r_get tw_wsX0 rfl 2 (by decide) rfl (tw_at (i := 156) (by decide +kernel) rfl) hC hi hv hdg kk
theorem gf_X0_69 {i : Nat} {F : Nat → Option (Option Nat)} {v : Value} (hC : Cx X G RX0 cc ret d mc ms nL) (hi : At Z i (.inl (0, 14, F))) (hv : fv Z.1 (M i) F 3 = v) (hdg : decode cc pc = .ok (.getfield 69, 3)) (kk : V X G Z M k n Q (pc + 3) L (v :: rest)) : V X G Z M k n Q pc L (.ref (Z.1 i) :: rest) :=
  r_get tw_wsX0 rfl 3 (by decide) rfl (tw_at (i := 157) (by decide +kernel) rfl) hC hi hv hdg kk
theorem gf_X0_73 {i : Nat} {F : Nat → Option (Option Nat)} {v : Value} (hC : Cx X G RX0 cc ret d mc ms nL) (hi : At Z i (.inl (0, 14, F))) (hv : fv Z.1 (M i) F 6 = v) (hdg : decode cc pc = .ok (.getfield 73, 3)) (kk : V X G Z M k n Q (pc + 3) L (v :: rest)) : V X G Z M k n Q pc L (.ref (Z.1 i) :: rest) :=
  r_get tw_wsX0 rfl 6 (by decide) rfl (tw_at (i := 161) (by decide +kernel) rfl) hC hi hv hdg kk
theorem gf_X0_87 {i : Nat} {F : Nat → Option (Option Nat)} {v : Value} (hC : Cx X G RX0 cc ret d mc ms nL) (hi : At Z i (.inl (0, 14, F))) (hv : fv Z.1 (M i) F 9 = v) (hdg : decode cc pc = .ok (.getfield 87, 3)) (kk : V X G Z M k n Q (pc + 3) L (v :: rest)) : V X G Z M k n Q pc L (.ref (Z.1 i) :: rest) :=
  r_get tw_wsX0 rfl 9 (by decide) rfl (tw_at (i := 166) (by decide +kernel) rfl) hC hi hv hdg kk
theorem gf_X0_94 {i : Nat} {F : Nat → Option (Option Nat)} {v : Value} (hC : Cx X G RX0 cc ret d mc ms nL) (hi : At Z i (.inl (0, 14, F))) (hv : fv Z.1 (M i) F 7 = v) (hdg : decode cc pc = .ok (.getfield 94, 3)) (kk : V X G Z M k n Q (pc + 3) L (v :: rest)) : V X G Z M k n Q pc L (.ref (Z.1 i) :: rest) :=
  r_get tw_wsX0 rfl 7 (by decide) rfl (tw_at (i := 163) (by decide +kernel) rfl) hC hi hv hdg kk
theorem gf_X1_11 {i : Nat} {F : Nat → Option (Option Nat)} {v : Value} (hC : Cx X G RX1 cc ret d mc ms nL) (hi : At Z i (.inl (1, 3, F))) (hv : fv Z.1 (M i) F 0 = v) (hdg : decode cc pc = .ok (.getfield 11, 3)) (kk : V X G Z M k n Q (pc + 3) L (v :: rest)) : V X G Z M k n Q pc L (.ref (Z.1 i) :: rest) :=
  r_get tw_wsX1 rfl 0 (by decide) rfl (tw_at (i := 230) (by decide +kernel) rfl) hC hi hv hdg kk
theorem gf_X1_18 {i : Nat} {F : Nat → Option (Option Nat)} {v : Value} (hC : Cx X G RX1 cc ret d mc ms nL) (hi : At Z i (.inl (1, 3, F))) (hv : fv Z.1 (M i) F 2 = v) (hdg : decode cc pc = .ok (.getfield 18, 3)) (kk : V X G Z M k n Q (pc + 3) L (v :: rest)) : V X G Z M k n Q pc L (.ref (Z.1 i) :: rest) :=
  r_get tw_wsX1 rfl 2 (by decide) rfl (tw_at (i := 232) (by decide +kernel) rfl) hC hi hv hdg kk
theorem gf_X1_22 {i : Nat} {F : Nat → Option (Option Nat)} {v : Value} (hC : Cx X G RX1 cc ret d mc ms nL) (hi : At Z i (.inl (1, 3, F))) (hv : fv Z.1 (M i) F 1 = v) (hdg : decode cc pc = .ok (.getfield 22, 3)) (kk : V X G Z M k n Q (pc + 3) L (v :: rest)) : V X G Z M k n Q pc L (.ref (Z.1 i) :: rest) :=
  r_get tw_wsX1 rfl 1 (by decide) rfl (tw_at (i := 231) (by decide +kernel) rfl) hC hi hv hdg kk
theorem gf_X2_11 {i : Nat} {F : Nat → Option (Option Nat)} {v : Value} (hC : Cx X G RX2 cc ret d mc ms nL) (hi : At Z i (.inl (2, 5, F))) (hv : fv Z.1 (M i) F 0 = v) (hdg : decode cc pc = .ok (.getfield 11, 3)) (kk : V X G Z M k n Q (pc + 3) L (v :: rest)) : V X G Z M k n Q pc L (.ref (Z.1 i) :: rest) :=
  r_get tw_wsX2 rfl 0 (by decide) rfl (tw_at (i := 205) (by decide +kernel) rfl) hC hi hv hdg kk
theorem gf_X2_18 {i : Nat} {F : Nat → Option (Option Nat)} {v : Value} (hC : Cx X G RX2 cc ret d mc ms nL) (hi : At Z i (.inl (2, 5, F))) (hv : fv Z.1 (M i) F 1 = v) (hdg : decode cc pc = .ok (.getfield 18, 3)) (kk : V X G Z M k n Q (pc + 3) L (v :: rest)) : V X G Z M k n Q pc L (.ref (Z.1 i) :: rest) :=
  r_get tw_wsX2 rfl 1 (by decide) rfl (tw_at (i := 206) (by decide +kernel) rfl) hC hi hv hdg kk
theorem gf_X2_22 {i : Nat} {F : Nat → Option (Option Nat)} {v : Value} (hC : Cx X G RX2 cc ret d mc ms nL) (hi : At Z i (.inl (2, 5, F))) (hv : fv Z.1 (M i) F 2 = v) (hdg : decode cc pc = .ok (.getfield 22, 3)) (kk : V X G Z M k n Q (pc + 3) L (v :: rest)) : V X G Z M k n Q pc L (.ref (Z.1 i) :: rest) :=
  r_get tw_wsX2 rfl 2 (by decide) rfl (tw_at (i := 207) (by decide +kernel) rfl) hC hi hv hdg kk
theorem gf_X2_28 {i : Nat} {F : Nat → Option (Option Nat)} {v : Value} (hC : Cx X G RX2 cc ret d mc ms nL) (hi : At Z i (.inl (2, 5, F))) (hv : fv Z.1 (M i) F 3 = v) (hdg : decode cc pc = .ok (.getfield 28, 3)) (kk : V X G Z M k n Q (pc + 3) L (v :: rest)) : V X G Z M k n Q pc L (.ref (Z.1 i) :: rest) :=
  r_get tw_wsX2 rfl 3 (by decide) rfl (tw_at (i := 208) (by decide +kernel) rfl) hC hi hv hdg kk
theorem gf_X2_31 {i : Nat} {F : Nat → Option (Option Nat)} {v : Value} (hC : Cx X G RX2 cc ret d mc ms nL) (hi : At Z i (.inl (3, 4, F))) (hv : fv Z.1 (M i) F 3 = v) (hdg : decode cc pc = .ok (.getfield 31, 3)) (kk : V X G Z M k n Q (pc + 3) L (v :: rest)) : V X G Z M k n Q pc L (.ref (Z.1 i) :: rest) :=
  r_getN tw_wsX3 rfl 3 (by decide) rfl (tw_at (i := 126) (by decide +kernel) rfl) hC hi hv hdg kk
theorem gf_X2_37 {i : Nat} {F : Nat → Option (Option Nat)} {v : Value} (hC : Cx X G RX2 cc ret d mc ms nL) (hi : At Z i (.inl (2, 5, F))) (hv : fv Z.1 (M i) F 4 = v) (hdg : decode cc pc = .ok (.getfield 37, 3)) (kk : V X G Z M k n Q (pc + 3) L (v :: rest)) : V X G Z M k n Q pc L (.ref (Z.1 i) :: rest) :=
  r_get tw_wsX2 rfl 4 (by decide) rfl (tw_at (i := 209) (by decide +kernel) rfl) hC hi hv hdg kk
theorem gf_X2_78 {i : Nat} {F : Nat → Option (Option Nat)} {v : Value} (hC : Cx X G RX2 cc ret d mc ms nL) (hi : At Z i (.inl (0, 14, F))) (hv : fv Z.1 (M i) F 5 = v) (hdg : decode cc pc = .ok (.getfield 78, 3)) (kk : V X G Z M k n Q (pc + 3) L (v :: rest)) : V X G Z M k n Q pc L (.ref (Z.1 i) :: rest) :=
  r_getN tw_wsX0 rfl 5 (by decide) rfl (tw_at (i := 160) (by decide +kernel) rfl) hC hi hv hdg kk
theorem gf_X2_83 {i : Nat} {F : Nat → Option (Option Nat)} {v : Value} (hC : Cx X G RX2 cc ret d mc ms nL) (hi : At Z i (.inl (0, 14, F))) (hv : fv Z.1 (M i) F 6 = v) (hdg : decode cc pc = .ok (.getfield 83, 3)) (kk : V X G Z M k n Q (pc + 3) L (v :: rest)) : V X G Z M k n Q pc L (.ref (Z.1 i) :: rest) :=
  r_getN tw_wsX0 rfl 6 (by decide) rfl (tw_at (i := 162) (by decide +kernel) rfl) hC hi hv hdg kk
theorem gf_X2_93 {i : Nat} {F : Nat → Option (Option Nat)} {v : Value} (hC : Cx X G RX2 cc ret d mc ms nL) (hi : At Z i (.inl (0, 14, F))) (hv : fv Z.1 (M i) F 12 = v) (hdg : decode cc pc = .ok (.getfield 93, 3)) (kk : V X G Z M k n Q (pc + 3) L (v :: rest)) : V X G Z M k n Q pc L (.ref (Z.1 i) :: rest) :=
  r_getN tw_wsX0 rfl 12 (by decide) rfl (tw_at (i := 172) (by decide +kernel) rfl) hC hi hv hdg kk
theorem gf_X2_96 {i : Nat} {F : Nat → Option (Option Nat)} {v : Value} (hC : Cx X G RX2 cc ret d mc ms nL) (hi : At Z i (.inl (0, 14, F))) (hv : fv Z.1 (M i) F 13 = v) (hdg : decode cc pc = .ok (.getfield 96, 3)) (kk : V X G Z M k n Q (pc + 3) L (v :: rest)) : V X G Z M k n Q pc L (.ref (Z.1 i) :: rest) :=
  r_getN tw_wsX0 rfl 13 (by decide) rfl (tw_at (i := 174) (by decide +kernel) rfl) hC hi hv hdg kk
theorem gf_X2_105 {i : Nat} {F : Nat → Option (Option Nat)} {v : Value} (hC : Cx X G RX2 cc ret d mc ms nL) (hi : At Z i (.inl (0, 14, F))) (hv : fv Z.1 (M i) F 10 = v) (hdg : decode cc pc = .ok (.getfield 105, 3)) (kk : V X G Z M k n Q (pc + 3) L (v :: rest)) : V X G Z M k n Q pc L (.ref (Z.1 i) :: rest) :=
  r_getN tw_wsX0 rfl 10 (by decide) rfl (tw_at (i := 169) (by decide +kernel) rfl) hC hi hv hdg kk
theorem gf_X2_113 {i : Nat} {F : Nat → Option (Option Nat)} {v : Value} (hC : Cx X G RX2 cc ret d mc ms nL) (hi : At Z i (.inl (0, 14, F))) (hv : fv Z.1 (M i) F 9 = v) (hdg : decode cc pc = .ok (.getfield 113, 3)) (kk : V X G Z M k n Q (pc + 3) L (v :: rest)) : V X G Z M k n Q pc L (.ref (Z.1 i) :: rest) :=
  r_getN tw_wsX0 rfl 9 (by decide) rfl (tw_at (i := 167) (by decide +kernel) rfl) hC hi hv hdg kk
theorem gf_X2_122 {i : Nat} {F : Nat → Option (Option Nat)} {v : Value} (hC : Cx X G RX2 cc ret d mc ms nL) (hi : At Z i (.inl (0, 14, F))) (hv : fv Z.1 (M i) F 7 = v) (hdg : decode cc pc = .ok (.getfield 122, 3)) (kk : V X G Z M k n Q (pc + 3) L (v :: rest)) : V X G Z M k n Q pc L (.ref (Z.1 i) :: rest) :=
  r_getN tw_wsX0 rfl 7 (by decide) rfl (tw_at (i := 164) (by decide +kernel) rfl) hC hi hv hdg kk
theorem gf_X3_9 {i : Nat} {F : Nat → Option (Option Nat)} {v : Value} (hC : Cx X G RX3 cc ret d mc ms nL) (hi : At Z i (.inl (3, 4, F))) (hv : fv Z.1 (M i) F 0 = v) (hdg : decode cc pc = .ok (.getfield 9, 3)) (kk : V X G Z M k n Q (pc + 3) L (v :: rest)) : V X G Z M k n Q pc L (.ref (Z.1 i) :: rest) :=
  r_get tw_wsX3 rfl 0 (by decide) rfl (tw_at (i := 121) (by decide +kernel) rfl) hC hi hv hdg kk
theorem gf_X3_15 {i : Nat} {F : Nat → Option (Option Nat)} {v : Value} (hC : Cx X G RX3 cc ret d mc ms nL) (hi : At Z i (.inl (3, 4, F))) (hv : fv Z.1 (M i) F 1 = v) (hdg : decode cc pc = .ok (.getfield 15, 3)) (kk : V X G Z M k n Q (pc + 3) L (v :: rest)) : V X G Z M k n Q pc L (.ref (Z.1 i) :: rest) :=
  r_get tw_wsX3 rfl 1 (by decide) rfl (tw_at (i := 122) (by decide +kernel) rfl) hC hi hv hdg kk
theorem gf_X3_25 {i : Nat} {F : Nat → Option (Option Nat)} {v : Value} (hC : Cx X G RX3 cc ret d mc ms nL) (hi : At Z i (.inl (3, 4, F))) (hv : fv Z.1 (M i) F 2 = v) (hdg : decode cc pc = .ok (.getfield 25, 3)) (kk : V X G Z M k n Q (pc + 3) L (v :: rest)) : V X G Z M k n Q pc L (.ref (Z.1 i) :: rest) :=
  r_get tw_wsX3 rfl 2 (by decide) rfl (tw_at (i := 123) (by decide +kernel) rfl) hC hi hv hdg kk
theorem gf_X3_29 {i : Nat} {F : Nat → Option (Option Nat)} {v : Value} (hC : Cx X G RX3 cc ret d mc ms nL) (hi : At Z i (.inl (3, 4, F))) (hv : fv Z.1 (M i) F 3 = v) (hdg : decode cc pc = .ok (.getfield 29, 3)) (kk : V X G Z M k n Q (pc + 3) L (v :: rest)) : V X G Z M k n Q pc L (.ref (Z.1 i) :: rest) :=
  r_get tw_wsX3 rfl 3 (by decide) rfl (tw_at (i := 127) (by decide +kernel) rfl) hC hi hv hdg kk
theorem gf_X4_9 {i : Nat} {F : Nat → Option (Option Nat)} {v : Value} (hC : Cx X G RX4 cc ret d mc ms nL) (hi : At Z i (.inl (4, 3, F))) (hv : fv Z.1 (M i) F 0 = v) (hdg : decode cc pc = .ok (.getfield 9, 3)) (kk : V X G Z M k n Q (pc + 3) L (v :: rest)) : V X G Z M k n Q pc L (.ref (Z.1 i) :: rest) :=
  r_get tw_wsX4 rfl 0 (by decide) rfl (tw_at (i := 94) (by decide +kernel) rfl) hC hi hv hdg kk
theorem gf_X4_15 {i : Nat} {F : Nat → Option (Option Nat)} {v : Value} (hC : Cx X G RX4 cc ret d mc ms nL) (hi : At Z i (.inl (4, 3, F))) (hv : fv Z.1 (M i) F 1 = v) (hdg : decode cc pc = .ok (.getfield 15, 3)) (kk : V X G Z M k n Q (pc + 3) L (v :: rest)) : V X G Z M k n Q pc L (.ref (Z.1 i) :: rest) :=
  r_get tw_wsX4 rfl 1 (by decide) rfl (tw_at (i := 95) (by decide +kernel) rfl) hC hi hv hdg kk
theorem gf_X4_36 {i : Nat} {F : Nat → Option (Option Nat)} {v : Value} (hC : Cx X G RX4 cc ret d mc ms nL) (hi : At Z i (.inl (4, 3, F))) (hv : fv Z.1 (M i) F 2 = v) (hdg : decode cc pc = .ok (.getfield 36, 3)) (kk : V X G Z M k n Q (pc + 3) L (v :: rest)) : V X G Z M k n Q pc L (.ref (Z.1 i) :: rest) :=
  r_get tw_wsX4 rfl 2 (by decide) rfl (tw_at (i := 96) (by decide +kernel) rfl) hC hi hv hdg kk
theorem gf_X5_12 {i : Nat} {F : Nat → Option (Option Nat)} {v : Value} (hC : Cx X G RX5 cc ret d mc ms nL) (hi : At Z i (.inl (5, 7, F))) (hv : fv Z.1 (M i) F 0 = v) (hdg : decode cc pc = .ok (.getfield 12, 3)) (kk : V X G Z M k n Q (pc + 3) L (v :: rest)) : V X G Z M k n Q pc L (.ref (Z.1 i) :: rest) :=
  r_get tw_wsX5 rfl 0 (by decide) rfl (tw_at (i := 240) (by decide +kernel) rfl) hC hi hv hdg kk
theorem gf_X5_19 {i : Nat} {F : Nat → Option (Option Nat)} {v : Value} (hC : Cx X G RX5 cc ret d mc ms nL) (hi : At Z i (.inl (5, 7, F))) (hv : fv Z.1 (M i) F 1 = v) (hdg : decode cc pc = .ok (.getfield 19, 3)) (kk : V X G Z M k n Q (pc + 3) L (v :: rest)) : V X G Z M k n Q pc L (.ref (Z.1 i) :: rest) :=
  r_get tw_wsX5 rfl 1 (by decide) rfl (tw_at (i := 241) (by decide +kernel) rfl) hC hi hv hdg kk
theorem gf_X5_23 {i : Nat} {F : Nat → Option (Option Nat)} {v : Value} (hC : Cx X G RX5 cc ret d mc ms nL) (hi : At Z i (.inl (5, 7, F))) (hv : fv Z.1 (M i) F 2 = v) (hdg : decode cc pc = .ok (.getfield 23, 3)) (kk : V X G Z M k n Q (pc + 3) L (v :: rest)) : V X G Z M k n Q pc L (.ref (Z.1 i) :: rest) :=
  r_get tw_wsX5 rfl 2 (by decide) rfl (tw_at (i := 242) (by decide +kernel) rfl) hC hi hv hdg kk
theorem gf_X5_29 {i : Nat} {F : Nat → Option (Option Nat)} {v : Value} (hC : Cx X G RX5 cc ret d mc ms nL) (hi : At Z i (.inl (5, 7, F))) (hv : fv Z.1 (M i) F 3 = v) (hdg : decode cc pc = .ok (.getfield 29, 3)) (kk : V X G Z M k n Q (pc + 3) L (v :: rest)) : V X G Z M k n Q pc L (.ref (Z.1 i) :: rest) :=
  r_get tw_wsX5 rfl 3 (by decide) rfl (tw_at (i := 243) (by decide +kernel) rfl) hC hi hv hdg kk
theorem gf_X5_36 {i : Nat} {F : Nat → Option (Option Nat)} {v : Value} (hC : Cx X G RX5 cc ret d mc ms nL) (hi : At Z i (.inl (5, 7, F))) (hv : fv Z.1 (M i) F 4 = v) (hdg : decode cc pc = .ok (.getfield 36, 3)) (kk : V X G Z M k n Q (pc + 3) L (v :: rest)) : V X G Z M k n Q pc L (.ref (Z.1 i) :: rest) :=
  r_get tw_wsX5 rfl 4 (by decide) rfl (tw_at (i := 244) (by decide +kernel) rfl) hC hi hv hdg kk
theorem gf_X5_40 {i : Nat} {F : Nat → Option (Option Nat)} {v : Value} (hC : Cx X G RX5 cc ret d mc ms nL) (hi : At Z i (.inl (5, 7, F))) (hv : fv Z.1 (M i) F 5 = v) (hdg : decode cc pc = .ok (.getfield 40, 3)) (kk : V X G Z M k n Q (pc + 3) L (v :: rest)) : V X G Z M k n Q pc L (.ref (Z.1 i) :: rest) :=
  r_get tw_wsX5 rfl 5 (by decide) rfl (tw_at (i := 245) (by decide +kernel) rfl) hC hi hv hdg kk
theorem gf_X5_44 {i : Nat} {F : Nat → Option (Option Nat)} {v : Value} (hC : Cx X G RX5 cc ret d mc ms nL) (hi : At Z i (.inl (5, 7, F))) (hv : fv Z.1 (M i) F 6 = v) (hdg : decode cc pc = .ok (.getfield 44, 3)) (kk : V X G Z M k n Q (pc + 3) L (v :: rest)) : V X G Z M k n Q pc L (.ref (Z.1 i) :: rest) :=
  r_get tw_wsX5 rfl 6 (by decide) rfl (tw_at (i := 246) (by decide +kernel) rfl) hC hi hv hdg kk
theorem gf_X5_80 {i : Nat} {F : Nat → Option (Option Nat)} {v : Value} (hC : Cx X G RX5 cc ret d mc ms nL) (hi : At Z i (.inl (3, 4, F))) (hv : fv Z.1 (M i) F 3 = v) (hdg : decode cc pc = .ok (.getfield 80, 3)) (kk : V X G Z M k n Q (pc + 3) L (v :: rest)) : V X G Z M k n Q pc L (.ref (Z.1 i) :: rest) :=
  r_getN tw_wsX3 rfl 3 (by decide) rfl (tw_at (i := 128) (by decide +kernel) rfl) hC hi hv hdg kk
theorem gf_X5_88 {i : Nat} {F : Nat → Option (Option Nat)} {v : Value} (hC : Cx X G RX5 cc ret d mc ms nL) (hi : At Z i (.inl (3, 4, F))) (hv : fv Z.1 (M i) F 2 = v) (hdg : decode cc pc = .ok (.getfield 88, 3)) (kk : V X G Z M k n Q (pc + 3) L (v :: rest)) : V X G Z M k n Q pc L (.ref (Z.1 i) :: rest) :=
  r_getN tw_wsX3 rfl 2 (by decide) rfl (tw_at (i := 125) (by decide +kernel) rfl) hC hi hv hdg kk
theorem gf_X6_7 {i : Nat} {F : Nat → Option (Option Nat)} {v : Value} (hC : Cx X G RX6 cc ret d mc ms nL) (hi : At Z i (.inl (6, 19, F))) (hv : fv Z.1 (M i) F 1 = v) (hdg : decode cc pc = .ok (.getfield 7, 3)) (kk : V X G Z M k n Q (pc + 3) L (v :: rest)) : V X G Z M k n Q pc L (.ref (Z.1 i) :: rest) :=
  r_get tw_wsX6 rfl 1 (by decide) rfl (tw_at (i := 893) (by decide +kernel) rfl) hC hi hv hdg kk
theorem gf_X6_13 {i : Nat} {F : Nat → Option (Option Nat)} {v : Value} (hC : Cx X G RX6 cc ret d mc ms nL) (hi : At Z i (.inl (6, 19, F))) (hv : fv Z.1 (M i) F 4 = v) (hdg : decode cc pc = .ok (.getfield 13, 3)) (kk : V X G Z M k n Q (pc + 3) L (v :: rest)) : V X G Z M k n Q pc L (.ref (Z.1 i) :: rest) :=
  r_get tw_wsX6 rfl 4 (by decide) rfl (tw_at (i := 896) (by decide +kernel) rfl) hC hi hv hdg kk
theorem gf_X6_16 {i : Nat} {F : Nat → Option (Option Nat)} {v : Value} (hC : Cx X G RX6 cc ret d mc ms nL) (hi : At Z i (.inl (6, 19, F))) (hv : fv Z.1 (M i) F 5 = v) (hdg : decode cc pc = .ok (.getfield 16, 3)) (kk : V X G Z M k n Q (pc + 3) L (v :: rest)) : V X G Z M k n Q pc L (.ref (Z.1 i) :: rest) :=
  r_get tw_wsX6 rfl 5 (by decide) rfl (tw_at (i := 897) (by decide +kernel) rfl) hC hi hv hdg kk
theorem gf_X6_19 {i : Nat} {F : Nat → Option (Option Nat)} {v : Value} (hC : Cx X G RX6 cc ret d mc ms nL) (hi : At Z i (.inl (6, 19, F))) (hv : fv Z.1 (M i) F 6 = v) (hdg : decode cc pc = .ok (.getfield 19, 3)) (kk : V X G Z M k n Q (pc + 3) L (v :: rest)) : V X G Z M k n Q pc L (.ref (Z.1 i) :: rest) :=
  r_get tw_wsX6 rfl 6 (by decide) rfl (tw_at (i := 898) (by decide +kernel) rfl) hC hi hv hdg kk
theorem gf_X6_22 {i : Nat} {F : Nat → Option (Option Nat)} {v : Value} (hC : Cx X G RX6 cc ret d mc ms nL) (hi : At Z i (.inl (6, 19, F))) (hv : fv Z.1 (M i) F 7 = v) (hdg : decode cc pc = .ok (.getfield 22, 3)) (kk : V X G Z M k n Q (pc + 3) L (v :: rest)) : V X G Z M k n Q pc L (.ref (Z.1 i) :: rest) :=
  r_get tw_wsX6 rfl 7 (by decide) rfl (tw_at (i := 899) (by decide +kernel) rfl) hC hi hv hdg kk
theorem gf_X6_25 {i : Nat} {F : Nat → Option (Option Nat)} {v : Value} (hC : Cx X G RX6 cc ret d mc ms nL) (hi : At Z i (.inl (6, 19, F))) (hv : fv Z.1 (M i) F 8 = v) (hdg : decode cc pc = .ok (.getfield 25, 3)) (kk : V X G Z M k n Q (pc + 3) L (v :: rest)) : V X G Z M k n Q pc L (.ref (Z.1 i) :: rest) :=
  r_get tw_wsX6 rfl 8 (by decide) rfl (tw_at (i := 900) (by decide +kernel) rfl) hC hi hv hdg kk
theorem gf_X6_28 {i : Nat} {F : Nat → Option (Option Nat)} {v : Value} (hC : Cx X G RX6 cc ret d mc ms nL) (hi : At Z i (.inl (6, 19, F))) (hv : fv Z.1 (M i) F 10 = v) (hdg : decode cc pc = .ok (.getfield 28, 3)) (kk : V X G Z M k n Q (pc + 3) L (v :: rest)) : V X G Z M k n Q pc L (.ref (Z.1 i) :: rest) :=
  r_get tw_wsX6 rfl 10 (by decide) rfl (tw_at (i := 902) (by decide +kernel) rfl) hC hi hv hdg kk
theorem gf_X6_31 {i : Nat} {F : Nat → Option (Option Nat)} {v : Value} (hC : Cx X G RX6 cc ret d mc ms nL) (hi : At Z i (.inl (6, 19, F))) (hv : fv Z.1 (M i) F 11 = v) (hdg : decode cc pc = .ok (.getfield 31, 3)) (kk : V X G Z M k n Q (pc + 3) L (v :: rest)) : V X G Z M k n Q pc L (.ref (Z.1 i) :: rest) :=
  r_get tw_wsX6 rfl 11 (by decide) rfl (tw_at (i := 903) (by decide +kernel) rfl) hC hi hv hdg kk
theorem gf_X6_35 {i : Nat} {F : Nat → Option (Option Nat)} {v : Value} (hC : Cx X G RX6 cc ret d mc ms nL) (hi : At Z i (.inl (6, 19, F))) (hv : fv Z.1 (M i) F 12 = v) (hdg : decode cc pc = .ok (.getfield 35, 3)) (kk : V X G Z M k n Q (pc + 3) L (v :: rest)) : V X G Z M k n Q pc L (.ref (Z.1 i) :: rest) :=
  r_get tw_wsX6 rfl 12 (by decide) rfl (tw_at (i := 904) (by decide +kernel) rfl) hC hi hv hdg kk
theorem gf_X6_38 {i : Nat} {F : Nat → Option (Option Nat)} {v : Value} (hC : Cx X G RX6 cc ret d mc ms nL) (hi : At Z i (.inl (6, 19, F))) (hv : fv Z.1 (M i) F 13 = v) (hdg : decode cc pc = .ok (.getfield 38, 3)) (kk : V X G Z M k n Q (pc + 3) L (v :: rest)) : V X G Z M k n Q pc L (.ref (Z.1 i) :: rest) :=
  r_get tw_wsX6 rfl 13 (by decide) rfl (tw_at (i := 905) (by decide +kernel) rfl) hC hi hv hdg kk
theorem gf_X6_41 {i : Nat} {F : Nat → Option (Option Nat)} {v : Value} (hC : Cx X G RX6 cc ret d mc ms nL) (hi : At Z i (.inl (6, 19, F))) (hv : fv Z.1 (M i) F 14 = v) (hdg : decode cc pc = .ok (.getfield 41, 3)) (kk : V X G Z M k n Q (pc + 3) L (v :: rest)) : V X G Z M k n Q pc L (.ref (Z.1 i) :: rest) :=
  r_get tw_wsX6 rfl 14 (by decide) rfl (tw_at (i := 906) (by decide +kernel) rfl) hC hi hv hdg kk
theorem gf_X6_44 {i : Nat} {F : Nat → Option (Option Nat)} {v : Value} (hC : Cx X G RX6 cc ret d mc ms nL) (hi : At Z i (.inl (6, 19, F))) (hv : fv Z.1 (M i) F 15 = v) (hdg : decode cc pc = .ok (.getfield 44, 3)) (kk : V X G Z M k n Q (pc + 3) L (v :: rest)) : V X G Z M k n Q pc L (.ref (Z.1 i) :: rest) :=
  r_get tw_wsX6 rfl 15 (by decide) rfl (tw_at (i := 907) (by decide +kernel) rfl) hC hi hv hdg kk
theorem gf_X6_47 {i : Nat} {F : Nat → Option (Option Nat)} {v : Value} (hC : Cx X G RX6 cc ret d mc ms nL) (hi : At Z i (.inl (6, 19, F))) (hv : fv Z.1 (M i) F 16 = v) (hdg : decode cc pc = .ok (.getfield 47, 3)) (kk : V X G Z M k n Q (pc + 3) L (v :: rest)) : V X G Z M k n Q pc L (.ref (Z.1 i) :: rest) :=
  r_get tw_wsX6 rfl 16 (by decide) rfl (tw_at (i := 908) (by decide +kernel) rfl) hC hi hv hdg kk
theorem gf_X6_50 {i : Nat} {F : Nat → Option (Option Nat)} {v : Value} (hC : Cx X G RX6 cc ret d mc ms nL) (hi : At Z i (.inl (6, 19, F))) (hv : fv Z.1 (M i) F 17 = v) (hdg : decode cc pc = .ok (.getfield 50, 3)) (kk : V X G Z M k n Q (pc + 3) L (v :: rest)) : V X G Z M k n Q pc L (.ref (Z.1 i) :: rest) :=
  r_get tw_wsX6 rfl 17 (by decide) rfl (tw_at (i := 909) (by decide +kernel) rfl) hC hi hv hdg kk
theorem gf_X6_53 {i : Nat} {F : Nat → Option (Option Nat)} {v : Value} (hC : Cx X G RX6 cc ret d mc ms nL) (hi : At Z i (.inl (6, 19, F))) (hv : fv Z.1 (M i) F 18 = v) (hdg : decode cc pc = .ok (.getfield 53, 3)) (kk : V X G Z M k n Q (pc + 3) L (v :: rest)) : V X G Z M k n Q pc L (.ref (Z.1 i) :: rest) :=
  r_get tw_wsX6 rfl 18 (by decide) rfl (tw_at (i := 910) (by decide +kernel) rfl) hC hi hv hdg kk
theorem gf_X6_60 {i : Nat} {F : Nat → Option (Option Nat)} {v : Value} (hC : Cx X G RX6 cc ret d mc ms nL) (hi : At Z i (.inl (6, 19, F))) (hv : fv Z.1 (M i) F 0 = v) (hdg : decode cc pc = .ok (.getfield 60, 3)) (kk : V X G Z M k n Q (pc + 3) L (v :: rest)) : V X G Z M k n Q pc L (.ref (Z.1 i) :: rest) :=
  r_get tw_wsX6 rfl 0 (by decide) rfl (tw_at (i := 892) (by decide +kernel) rfl) hC hi hv hdg kk
theorem gf_X6_166 {i : Nat} {F : Nat → Option (Option Nat)} {v : Value} (hC : Cx X G RX6 cc ret d mc ms nL) (hi : At Z i (.inl (6, 19, F))) (hv : fv Z.1 (M i) F 2 = v) (hdg : decode cc pc = .ok (.getfield 166, 3)) (kk : V X G Z M k n Q (pc + 3) L (v :: rest)) : V X G Z M k n Q pc L (.ref (Z.1 i) :: rest) :=
  r_get tw_wsX6 rfl 2 (by decide) rfl (tw_at (i := 894) (by decide +kernel) rfl) hC hi hv hdg kk
theorem gf_X6_173 {i : Nat} {F : Nat → Option (Option Nat)} {v : Value} (hC : Cx X G RX6 cc ret d mc ms nL) (hi : At Z i (.inl (6, 19, F))) (hv : fv Z.1 (M i) F 3 = v) (hdg : decode cc pc = .ok (.getfield 173, 3)) (kk : V X G Z M k n Q (pc + 3) L (v :: rest)) : V X G Z M k n Q pc L (.ref (Z.1 i) :: rest) :=
  r_get tw_wsX6 rfl 3 (by decide) rfl (tw_at (i := 895) (by decide +kernel) rfl) hC hi hv hdg kk
theorem gf_X6_196 {i : Nat} {F : Nat → Option (Option Nat)} {v : Value} (hC : Cx X G RX6 cc ret d mc ms nL) (hi : At Z i (.inl (6, 19, F))) (hv : fv Z.1 (M i) F 9 = v) (hdg : decode cc pc = .ok (.getfield 196, 3)) (kk : V X G Z M k n Q (pc + 3) L (v :: rest)) : V X G Z M k n Q pc L (.ref (Z.1 i) :: rest) :=
  r_get tw_wsX6 rfl 9 (by decide) rfl (tw_at (i := 901) (by decide +kernel) rfl) hC hi hv hdg kk
theorem pf_X0_56 {i : Nat} {F : Nat → Option (Option Nat)} {x : Int32} (hC : Cx X G RX0 cc ret d mc ms nL) (hz : ZOk G Z) (hi : At Z i (.inl (0, 14, F))) (hF : F 10 = none) (hdg : decode cc pc = .ok (.putfield 56, 3)) (kk : V X G Z (mw M i 10 x) k n Q (pc + 3) L rest) : V X G Z M k n Q pc L (.int x :: .ref (Z.1 i) :: rest) :=
  r_put (ty := .int) tw_wsX0 tyX0 tyX0_ok nmX0 rfl 10 (by decide) rfl rfl (by decide +kernel) (tw_at (i := 168) (by decide +kernel) rfl) hC hz hi hF rfl rfl hdg kk
theorem pf_X0_63 {i : Nat} {F : Nat → Option (Option Nat)} {x : Int32} (hC : Cx X G RX0 cc ret d mc ms nL) (hz : ZOk G Z) (hi : At Z i (.inl (0, 14, F))) (hF : F 1 = none) (hdg : decode cc pc = .ok (.putfield 63, 3)) (kk : V X G Z (mw M i 1 x) k n Q (pc + 3) L rest) : V X G Z M k n Q pc L (.int x :: .ref (Z.1 i) :: rest) :=
  r_put (ty := .int) tw_wsX0 tyX0 tyX0_ok nmX0 rfl 1 (by decide) rfl rfl (by decide +kernel) (tw_at (i := 155) (by decide +kernel) rfl) hC hz hi hF rfl rfl hdg kk
theorem pf_X0_66 {i : Nat} {F : Nat → Option (Option Nat)} {x : Int32} (hC : Cx X G RX0 cc ret d mc ms nL) (hz : ZOk G Z) (hi : At Z i (.inl (0, 14, F))) (hF : F 2 = none) (hdg : decode cc pc = .ok (.putfield 66, 3)) (kk : V X G Z (mw M i 2 x) k n Q (pc + 3) L rest) : V X G Z M k n Q pc L (.int x :: .ref (Z.1 i) :: rest) :=
  r_put (ty := .int) tw_wsX0 tyX0 tyX0_ok nmX0 rfl 2 (by decide) rfl rfl (by decide +kernel) (tw_at (i := 156) (by decide +kernel) rfl) hC hz hi hF rfl rfl hdg kk
theorem pf_X0_69 {i : Nat} {F : Nat → Option (Option Nat)} {x : Int32} (hC : Cx X G RX0 cc ret d mc ms nL) (hz : ZOk G Z) (hi : At Z i (.inl (0, 14, F))) (hF : F 3 = none) (hnb : narrow .boolean (.int x) = .int x ∧ fits .boolean (.int x) = true) (hdg : decode cc pc = .ok (.putfield 69, 3)) (kk : V X G Z (mw M i 3 x) k n Q (pc + 3) L rest) : V X G Z M k n Q pc L (.int x :: .ref (Z.1 i) :: rest) :=
  r_put (ty := .boolean) tw_wsX0 tyX0 tyX0_ok nmX0 rfl 3 (by decide) rfl rfl (by decide +kernel) (tw_at (i := 157) (by decide +kernel) rfl) hC hz hi hF hnb.1 hnb.2 hdg kk
theorem pf_X0_73 {i : Nat} {F : Nat → Option (Option Nat)} {x : Int32} (hC : Cx X G RX0 cc ret d mc ms nL) (hz : ZOk G Z) (hi : At Z i (.inl (0, 14, F))) (hF : F 6 = none) (hdg : decode cc pc = .ok (.putfield 73, 3)) (kk : V X G Z (mw M i 6 x) k n Q (pc + 3) L rest) : V X G Z M k n Q pc L (.int x :: .ref (Z.1 i) :: rest) :=
  r_put (ty := .int) tw_wsX0 tyX0 tyX0_ok nmX0 rfl 6 (by decide) rfl rfl (by decide +kernel) (tw_at (i := 161) (by decide +kernel) rfl) hC hz hi hF rfl rfl hdg kk
theorem pf_X0_87 {i : Nat} {F : Nat → Option (Option Nat)} {x : Int32} (hC : Cx X G RX0 cc ret d mc ms nL) (hz : ZOk G Z) (hi : At Z i (.inl (0, 14, F))) (hF : F 9 = none) (hdg : decode cc pc = .ok (.putfield 87, 3)) (kk : V X G Z (mw M i 9 x) k n Q (pc + 3) L rest) : V X G Z M k n Q pc L (.int x :: .ref (Z.1 i) :: rest) :=
  r_put (ty := .int) tw_wsX0 tyX0 tyX0_ok nmX0 rfl 9 (by decide) rfl rfl (by decide +kernel) (tw_at (i := 166) (by decide +kernel) rfl) hC hz hi hF rfl rfl hdg kk
theorem pf_X0_94 {i : Nat} {F : Nat → Option (Option Nat)} {x : Int32} (hC : Cx X G RX0 cc ret d mc ms nL) (hz : ZOk G Z) (hi : At Z i (.inl (0, 14, F))) (hF : F 7 = none) (hdg : decode cc pc = .ok (.putfield 94, 3)) (kk : V X G Z (mw M i 7 x) k n Q (pc + 3) L rest) : V X G Z M k n Q pc L (.int x :: .ref (Z.1 i) :: rest) :=
  r_put (ty := .int) tw_wsX0 tyX0 tyX0_ok nmX0 rfl 7 (by decide) rfl rfl (by decide +kernel) (tw_at (i := 163) (by decide +kernel) rfl) hC hz hi hF rfl rfl hdg kk
theorem pf_X1_18 {i : Nat} {F : Nat → Option (Option Nat)} {x : Int32} (hC : Cx X G RX1 cc ret d mc ms nL) (hz : ZOk G Z) (hi : At Z i (.inl (1, 3, F))) (hF : F 2 = none) (hdg : decode cc pc = .ok (.putfield 18, 3)) (kk : V X G Z (mw M i 2 x) k n Q (pc + 3) L rest) : V X G Z M k n Q pc L (.int x :: .ref (Z.1 i) :: rest) :=
  r_put (ty := .int) tw_wsX1 tyX1 tyX1_ok nmX1 rfl 2 (by decide) rfl rfl (by decide +kernel) (tw_at (i := 232) (by decide +kernel) rfl) hC hz hi hF rfl rfl hdg kk
theorem pf_X1_22 {i : Nat} {F : Nat → Option (Option Nat)} {x : Int32} (hC : Cx X G RX1 cc ret d mc ms nL) (hz : ZOk G Z) (hi : At Z i (.inl (1, 3, F))) (hF : F 1 = none) (hdg : decode cc pc = .ok (.putfield 22, 3)) (kk : V X G Z (mw M i 1 x) k n Q (pc + 3) L rest) : V X G Z M k n Q pc L (.int x :: .ref (Z.1 i) :: rest) :=
  r_put (ty := .int) tw_wsX1 tyX1 tyX1_ok nmX1 rfl 1 (by decide) rfl rfl (by decide +kernel) (tw_at (i := 231) (by decide +kernel) rfl) hC hz hi hF rfl rfl hdg kk
theorem pf_X2_37 {i : Nat} {F : Nat → Option (Option Nat)} {x : Int32} (hC : Cx X G RX2 cc ret d mc ms nL) (hz : ZOk G Z) (hi : At Z i (.inl (2, 5, F))) (hF : F 4 = none) (hdg : decode cc pc = .ok (.putfield 37, 3)) (kk : V X G Z (mw M i 4 x) k n Q (pc + 3) L rest) : V X G Z M k n Q pc L (.int x :: .ref (Z.1 i) :: rest) :=
  r_put (ty := .int) tw_wsX2 tyX2 tyX2_ok nmX2 rfl 4 (by decide) rfl rfl (by decide +kernel) (tw_at (i := 209) (by decide +kernel) rfl) hC hz hi hF rfl rfl hdg kk
theorem pf_X3_25 {i : Nat} {F : Nat → Option (Option Nat)} {x : Int32} (hC : Cx X G RX3 cc ret d mc ms nL) (hz : ZOk G Z) (hi : At Z i (.inl (3, 4, F))) (hF : F 2 = none) (hdg : decode cc pc = .ok (.putfield 25, 3)) (kk : V X G Z (mw M i 2 x) k n Q (pc + 3) L rest) : V X G Z M k n Q pc L (.int x :: .ref (Z.1 i) :: rest) :=
  r_put (ty := .int) tw_wsX3 tyX3 tyX3_ok nmX3 rfl 2 (by decide) rfl rfl (by decide +kernel) (tw_at (i := 123) (by decide +kernel) rfl) hC hz hi hF rfl rfl hdg kk
theorem pf_X3_29 {i : Nat} {F : Nat → Option (Option Nat)} {x : Int32} (hC : Cx X G RX3 cc ret d mc ms nL) (hz : ZOk G Z) (hi : At Z i (.inl (3, 4, F))) (hF : F 3 = none) (hdg : decode cc pc = .ok (.putfield 29, 3)) (kk : V X G Z (mw M i 3 x) k n Q (pc + 3) L rest) : V X G Z M k n Q pc L (.int x :: .ref (Z.1 i) :: rest) :=
  r_put (ty := .int) tw_wsX3 tyX3 tyX3_ok nmX3 rfl 3 (by decide) rfl rfl (by decide +kernel) (tw_at (i := 127) (by decide +kernel) rfl) hC hz hi hF rfl rfl hdg kk
theorem pf_X4_15 {i : Nat} {F : Nat → Option (Option Nat)} {x : Int32} (hC : Cx X G RX4 cc ret d mc ms nL) (hz : ZOk G Z) (hi : At Z i (.inl (4, 3, F))) (hF : F 1 = none) (hdg : decode cc pc = .ok (.putfield 15, 3)) (kk : V X G Z (mw M i 1 x) k n Q (pc + 3) L rest) : V X G Z M k n Q pc L (.int x :: .ref (Z.1 i) :: rest) :=
  r_put (ty := .int) tw_wsX4 tyX4 tyX4_ok nmX4 rfl 1 (by decide) rfl rfl (by decide +kernel) (tw_at (i := 95) (by decide +kernel) rfl) hC hz hi hF rfl rfl hdg kk
theorem pf_X4_36 {i : Nat} {F : Nat → Option (Option Nat)} {x : Int32} (hC : Cx X G RX4 cc ret d mc ms nL) (hz : ZOk G Z) (hi : At Z i (.inl (4, 3, F))) (hF : F 2 = none) (hdg : decode cc pc = .ok (.putfield 36, 3)) (kk : V X G Z (mw M i 2 x) k n Q (pc + 3) L rest) : V X G Z M k n Q pc L (.int x :: .ref (Z.1 i) :: rest) :=
  r_put (ty := .int) tw_wsX4 tyX4 tyX4_ok nmX4 rfl 2 (by decide) rfl rfl (by decide +kernel) (tw_at (i := 96) (by decide +kernel) rfl) hC hz hi hF rfl rfl hdg kk
theorem pf_X6_60 {i : Nat} {F : Nat → Option (Option Nat)} {x : Int32} (hC : Cx X G RX6 cc ret d mc ms nL) (hz : ZOk G Z) (hi : At Z i (.inl (6, 19, F))) (hF : F 0 = none) (hdg : decode cc pc = .ok (.putfield 60, 3)) (kk : V X G Z (mw M i 0 x) k n Q (pc + 3) L rest) : V X G Z M k n Q pc L (.int x :: .ref (Z.1 i) :: rest) :=
  r_put (ty := .int) tw_wsX6 tyX6 tyX6_ok nmX6 rfl 0 (by decide) rfl rfl (by decide +kernel) (tw_at (i := 892) (by decide +kernel) rfl) hC hz hi hF rfl rfl hdg kk
theorem pf_X6_166 {i : Nat} {F : Nat → Option (Option Nat)} {x : Int32} (hC : Cx X G RX6 cc ret d mc ms nL) (hz : ZOk G Z) (hi : At Z i (.inl (6, 19, F))) (hF : F 2 = none) (hdg : decode cc pc = .ok (.putfield 166, 3)) (kk : V X G Z (mw M i 2 x) k n Q (pc + 3) L rest) : V X G Z M k n Q pc L (.int x :: .ref (Z.1 i) :: rest) :=
  r_put (ty := .int) tw_wsX6 tyX6 tyX6_ok nmX6 rfl 2 (by decide) rfl rfl (by decide +kernel) (tw_at (i := 894) (by decide +kernel) rfl) hC hz hi hF rfl rfl hdg kk
theorem pf_X6_173 {i : Nat} {F : Nat → Option (Option Nat)} {x : Int32} (hC : Cx X G RX6 cc ret d mc ms nL) (hz : ZOk G Z) (hi : At Z i (.inl (6, 19, F))) (hF : F 3 = none) (hdg : decode cc pc = .ok (.putfield 173, 3)) (kk : V X G Z (mw M i 3 x) k n Q (pc + 3) L rest) : V X G Z M k n Q pc L (.int x :: .ref (Z.1 i) :: rest) :=
  r_put (ty := .int) tw_wsX6 tyX6 tyX6_ok nmX6 rfl 3 (by decide) rfl rfl (by decide +kernel) (tw_at (i := 895) (by decide +kernel) rfl) hC hz hi hF rfl rfl hdg kk
theorem pf_X6_196 {i : Nat} {F : Nat → Option (Option Nat)} {x : Int32} (hC : Cx X G RX6 cc ret d mc ms nL) (hz : ZOk G Z) (hi : At Z i (.inl (6, 19, F))) (hF : F 9 = none) (hdg : decode cc pc = .ok (.putfield 196, 3)) (kk : V X G Z (mw M i 9 x) k n Q (pc + 3) L rest) : V X G Z M k n Q pc L (.int x :: .ref (Z.1 i) :: rest) :=
  r_put (ty := .int) tw_wsX6 tyX6 tyX6_ok nmX6 rfl 9 (by decide) rfl rfl (by decide +kernel) (tw_at (i := 901) (by decide +kernel) rfl) hC hz hi hF rfl rfl hdg kk
end LK
theorem cs_X0_35 : CsV RX0 35 yX0_readSettings cX0_readSettings 3 none 1 := csV_of (List.mem_of_getElem? (i := 346) (by decide +kernel)) (List.mem_of_getElem? (i := 348) (by decide +kernel)) (List.mem_of_getElem? (i := 4) (by decide +kernel)) (List.mem_of_getElem? (i := 69) (by decide +kernel)) (List.mem_of_getElem? (i := 349) (by decide +kernel)) (by decide +kernel)
theorem cs_X0_39 : CsV RX0 39 yX0_readNotes cX0_readNotes 4 none 2 := csV_of (List.mem_of_getElem? (i := 354) (by decide +kernel)) (List.mem_of_getElem? (i := 356) (by decide +kernel)) (List.mem_of_getElem? (i := 5) (by decide +kernel)) (List.mem_of_getElem? (i := 69) (by decide +kernel)) (List.mem_of_getElem? (i := 357) (by decide +kernel)) (by decide +kernel)
theorem cs_X0_49 : CsV RX0 49 yX0_reasonFor cX0_reasonFor 6 (some .int) 2 := csV_of (List.mem_of_getElem? (i := 363) (by decide +kernel)) (List.mem_of_getElem? (i := 365) (by decide +kernel)) (List.mem_of_getElem? (i := 6) (by decide +kernel)) (List.mem_of_getElem? (i := 69) (by decide +kernel)) (List.mem_of_getElem? (i := 366) (by decide +kernel)) (by decide +kernel)
theorem cs_X0_53 : CsV RX0 53 yX0_share cX0_share 2 none 0 := csV_of (List.mem_of_getElem? (i := 370) (by decide +kernel)) (List.mem_of_getElem? (i := 372) (by decide +kernel)) (List.mem_of_getElem? (i := 7) (by decide +kernel)) (List.mem_of_getElem? (i := 69) (by decide +kernel)) (List.mem_of_getElem? (i := 373) (by decide +kernel)) (by decide +kernel)
theorem cs_X0_59 : CsV RX0 59 yX3_settingAt cX3_settingAt 2 (some .int) 1 := csV_of (List.mem_of_getElem? (i := 350) (by decide +kernel)) (List.mem_of_getElem? (i := 351) (by decide +kernel)) (List.mem_of_getElem? (i := 352) (by decide +kernel)) (List.mem_of_getElem? (i := 67) (by decide +kernel)) (List.mem_of_getElem? (i := 353) (by decide +kernel)) (by decide +kernel)
theorem cs_X0_76 : CsV RX0 76 yX3_sounding cX3_sounding 5 (some .int) 2 := csV_of (List.mem_of_getElem? (i := 358) (by decide +kernel)) (List.mem_of_getElem? (i := 359) (by decide +kernel)) (List.mem_of_getElem? (i := 360) (by decide +kernel)) (List.mem_of_getElem? (i := 67) (by decide +kernel)) (List.mem_of_getElem? (i := 361) (by decide +kernel)) (by decide +kernel)
theorem cs_X0_79 : CsV RX0 79 yX3_written cX3_written 3 (some .int) 2 := csV_of (List.mem_of_getElem? (i := 362) (by decide +kernel)) (List.mem_of_getElem? (i := 297) (by decide +kernel)) (List.mem_of_getElem? (i := 298) (by decide +kernel)) (List.mem_of_getElem? (i := 67) (by decide +kernel)) (List.mem_of_getElem? (i := 299) (by decide +kernel)) (by decide +kernel)
theorem cs_X0_90 : CsV RX0 90 yX0_insert cX0_insert 3 none 1 := csV_of (List.mem_of_getElem? (i := 374) (by decide +kernel)) (List.mem_of_getElem? (i := 376) (by decide +kernel)) (List.mem_of_getElem? (i := 8) (by decide +kernel)) (List.mem_of_getElem? (i := 69) (by decide +kernel)) (List.mem_of_getElem? (i := 377) (by decide +kernel)) (by decide +kernel)
theorem cs_X0_97 : CsV RX0 97 yX0_measure cX0_measure 5 none 4 := csV_of (List.mem_of_getElem? (i := 378) (by decide +kernel)) (List.mem_of_getElem? (i := 380) (by decide +kernel)) (List.mem_of_getElem? (i := 9) (by decide +kernel)) (List.mem_of_getElem? (i := 69) (by decide +kernel)) (List.mem_of_getElem? (i := 381) (by decide +kernel)) (by decide +kernel)
theorem cs_X0_101 : CsV RX0 101 yX0_canPlay cX0_canPlay 4 (some .boolean) 2 := csV_of (List.mem_of_getElem? (i := 382) (by decide +kernel)) (List.mem_of_getElem? (i := 384) (by decide +kernel)) (List.mem_of_getElem? (i := 10) (by decide +kernel)) (List.mem_of_getElem? (i := 69) (by decide +kernel)) (List.mem_of_getElem? (i := 385) (by decide +kernel)) (by decide +kernel)
theorem cs_X0_105 : CsV RX0 105 yX0_countOf cX0_countOf 3 (some .int) 2 := csV_of (List.mem_of_getElem? (i := 386) (by decide +kernel)) (List.mem_of_getElem? (i := 387) (by decide +kernel)) (List.mem_of_getElem? (i := 388) (by decide +kernel)) (List.mem_of_getElem? (i := 69) (by decide +kernel)) (List.mem_of_getElem? (i := 389) (by decide +kernel)) (by decide +kernel)
theorem cs_X0_108 : CsV RX0 108 yX0_stavesOf cX0_stavesOf 3 (some .int) 2 := csV_of (List.mem_of_getElem? (i := 390) (by decide +kernel)) (List.mem_of_getElem? (i := 391) (by decide +kernel)) (List.mem_of_getElem? (i := 392) (by decide +kernel)) (List.mem_of_getElem? (i := 69) (by decide +kernel)) (List.mem_of_getElem? (i := 393) (by decide +kernel)) (by decide +kernel)
theorem cs_X0_111 : CsV RX0 111 yX0_isRolled cX0_isRolled 3 (some .boolean) 2 := csV_of (List.mem_of_getElem? (i := 430) (by decide +kernel)) (List.mem_of_getElem? (i := 431) (by decide +kernel)) (List.mem_of_getElem? (i := 432) (by decide +kernel)) (List.mem_of_getElem? (i := 69) (by decide +kernel)) (List.mem_of_getElem? (i := 433) (by decide +kernel)) (by decide +kernel)
theorem cs_X0_114 : CsV RX0 114 yX0_cutStaves cX0_cutStaves 6 (some .int) 3 := csV_of (List.mem_of_getElem? (i := 416) (by decide +kernel)) (List.mem_of_getElem? (i := 417) (by decide +kernel)) (List.mem_of_getElem? (i := 418) (by decide +kernel)) (List.mem_of_getElem? (i := 69) (by decide +kernel)) (List.mem_of_getElem? (i := 419) (by decide +kernel)) (by decide +kernel)
theorem cs_X0_118 : CsS RX0 118 yJ6_bitCount_0f7a4 cJ6_bitCount_0f7a4 1 (some .int) 1 := csS_of (List.mem_of_getElem? (i := 420) (by decide +kernel)) (List.mem_of_getElem? (i := 421) (by decide +kernel)) (List.mem_of_getElem? (i := 79) (by decide +kernel)) (List.mem_of_getElem? (i := 422) (by decide +kernel)) (by decide +kernel)
theorem cs_X0_123 : CsV RX0 123 yX0_countRolled cX0_countRolled 2 (some .int) 1 := csV_of (List.mem_of_getElem? (i := 426) (by decide +kernel)) (List.mem_of_getElem? (i := 427) (by decide +kernel)) (List.mem_of_getElem? (i := 428) (by decide +kernel)) (List.mem_of_getElem? (i := 69) (by decide +kernel)) (List.mem_of_getElem? (i := 429) (by decide +kernel)) (by decide +kernel)
theorem cs_X0_126 : CsV RX0 126 yX0_move cX0_move 7 (some .int) 4 := csV_of (List.mem_of_getElem? (i := 434) (by decide +kernel)) (List.mem_of_getElem? (i := 435) (by decide +kernel)) (List.mem_of_getElem? (i := 436) (by decide +kernel)) (List.mem_of_getElem? (i := 69) (by decide +kernel)) (List.mem_of_getElem? (i := 437) (by decide +kernel)) (by decide +kernel)
theorem cs_X1_25 : CsV RX1 25 yX3_takeFrom cX3_takeFrom 3 none 1 := csV_of (List.mem_of_getElem? (i := 666) (by decide +kernel)) (List.mem_of_getElem? (i := 324) (by decide +kernel)) (List.mem_of_getElem? (i := 325) (by decide +kernel)) (List.mem_of_getElem? (i := 67) (by decide +kernel)) (List.mem_of_getElem? (i := 326) (by decide +kernel)) (by decide +kernel)
theorem cs_X2_38 : CsV RX2 38 yX0_read cX0_read 5 none 2 := csV_of (List.mem_of_getElem? (i := 342) (by decide +kernel)) (List.mem_of_getElem? (i := 343) (by decide +kernel)) (List.mem_of_getElem? (i := 344) (by decide +kernel)) (List.mem_of_getElem? (i := 69) (by decide +kernel)) (List.mem_of_getElem? (i := 345) (by decide +kernel)) (by decide +kernel)
theorem cs_X2_42 : CsV RX2 42 yX3_settingAt cX3_settingAt 2 (some .int) 1 := csV_of (List.mem_of_getElem? (i := 394) (by decide +kernel)) (List.mem_of_getElem? (i := 351) (by decide +kernel)) (List.mem_of_getElem? (i := 352) (by decide +kernel)) (List.mem_of_getElem? (i := 67) (by decide +kernel)) (List.mem_of_getElem? (i := 353) (by decide +kernel)) (by decide +kernel)
theorem cs_X2_46 : CsV RX2 46 yX2_lookAhead cX2_lookAhead 6 none 1 := csV_of (List.mem_of_getElem? (i := 395) (by decide +kernel)) (List.mem_of_getElem? (i := 397) (by decide +kernel)) (List.mem_of_getElem? (i := 11) (by decide +kernel)) (List.mem_of_getElem? (i := 68) (by decide +kernel)) (List.mem_of_getElem? (i := 398) (by decide +kernel)) (by decide +kernel)
theorem cs_X2_50 : CsV RX2 50 yX2_chordAt cX2_chordAt 2 (some (.object "HandSpans$Chord")) 1 := csV_of (List.mem_of_getElem? (i := 399) (by decide +kernel)) (List.mem_of_getElem? (i := 401) (by decide +kernel)) (List.mem_of_getElem? (i := 12) (by decide +kernel)) (List.mem_of_getElem? (i := 68) (by decide +kernel)) (List.mem_of_getElem? (i := 402) (by decide +kernel)) (by decide +kernel)
theorem cs_X2_54 : CsV RX2 54 yX2_splitAt cX2_splitAt 2 (some .int) 1 := csV_of (List.mem_of_getElem? (i := 438) (by decide +kernel)) (List.mem_of_getElem? (i := 440) (by decide +kernel)) (List.mem_of_getElem? (i := 14) (by decide +kernel)) (List.mem_of_getElem? (i := 68) (by decide +kernel)) (List.mem_of_getElem? (i := 441) (by decide +kernel)) (by decide +kernel)
theorem cs_X2_57 : CsV RX2 57 yX2_bestSplit cX2_bestSplit 9 (some .int) 3 := csV_of (List.mem_of_getElem? (i := 407) (by decide +kernel)) (List.mem_of_getElem? (i := 409) (by decide +kernel)) (List.mem_of_getElem? (i := 13) (by decide +kernel)) (List.mem_of_getElem? (i := 68) (by decide +kernel)) (List.mem_of_getElem? (i := 410) (by decide +kernel)) (by decide +kernel)
theorem cs_X2_61 : CsV RX2 61 yX0_isPossible cX0_isPossible 2 (some .boolean) 1 := csV_of (List.mem_of_getElem? (i := 403) (by decide +kernel)) (List.mem_of_getElem? (i := 404) (by decide +kernel)) (List.mem_of_getElem? (i := 405) (by decide +kernel)) (List.mem_of_getElem? (i := 69) (by decide +kernel)) (List.mem_of_getElem? (i := 406) (by decide +kernel)) (by decide +kernel)
theorem cs_X2_65 : CsV RX2 65 yX0_costs cX0_costs 4 (some .int) 3 := csV_of (List.mem_of_getElem? (i := 412) (by decide +kernel)) (List.mem_of_getElem? (i := 413) (by decide +kernel)) (List.mem_of_getElem? (i := 414) (by decide +kernel)) (List.mem_of_getElem? (i := 69) (by decide +kernel)) (List.mem_of_getElem? (i := 415) (by decide +kernel)) (by decide +kernel)
theorem cs_X2_71 : CsV RX2 71 yX0_cutStaves cX0_cutStaves 6 (some .int) 3 := csV_of (List.mem_of_getElem? (i := 458) (by decide +kernel)) (List.mem_of_getElem? (i := 417) (by decide +kernel)) (List.mem_of_getElem? (i := 418) (by decide +kernel)) (List.mem_of_getElem? (i := 69) (by decide +kernel)) (List.mem_of_getElem? (i := 419) (by decide +kernel)) (by decide +kernel)
theorem cs_X2_74 : CsV RX2 74 yX0_move cX0_move 7 (some .int) 4 := csV_of (List.mem_of_getElem? (i := 465) (by decide +kernel)) (List.mem_of_getElem? (i := 435) (by decide +kernel)) (List.mem_of_getElem? (i := 436) (by decide +kernel)) (List.mem_of_getElem? (i := 69) (by decide +kernel)) (List.mem_of_getElem? (i := 437) (by decide +kernel)) (by decide +kernel)
theorem cs_X2_81 : CsV RX2 81 yX2_cutStaves cX2_cutStaves 2 (some .int) 1 := csV_of (List.mem_of_getElem? (i := 454) (by decide +kernel)) (List.mem_of_getElem? (i := 456) (by decide +kernel)) (List.mem_of_getElem? (i := 17) (by decide +kernel)) (List.mem_of_getElem? (i := 68) (by decide +kernel)) (List.mem_of_getElem? (i := 457) (by decide +kernel)) (by decide +kernel)
theorem cs_X2_86 : CsV RX2 86 yX0_stavesOf cX0_stavesOf 3 (some .int) 2 := csV_of (List.mem_of_getElem? (i := 775) (by decide +kernel)) (List.mem_of_getElem? (i := 391) (by decide +kernel)) (List.mem_of_getElem? (i := 392) (by decide +kernel)) (List.mem_of_getElem? (i := 69) (by decide +kernel)) (List.mem_of_getElem? (i := 393) (by decide +kernel)) (by decide +kernel)
theorem cs_X2_90 : CsV RX2 90 yX0_countOf cX0_countOf 3 (some .int) 2 := csV_of (List.mem_of_getElem? (i := 787) (by decide +kernel)) (List.mem_of_getElem? (i := 387) (by decide +kernel)) (List.mem_of_getElem? (i := 388) (by decide +kernel)) (List.mem_of_getElem? (i := 69) (by decide +kernel)) (List.mem_of_getElem? (i := 389) (by decide +kernel)) (by decide +kernel)
theorem cs_X2_99 : CsV RX2 99 yX0_isRolled cX0_isRolled 3 (some .boolean) 2 := csV_of (List.mem_of_getElem? (i := 788) (by decide +kernel)) (List.mem_of_getElem? (i := 431) (by decide +kernel)) (List.mem_of_getElem? (i := 432) (by decide +kernel)) (List.mem_of_getElem? (i := 69) (by decide +kernel)) (List.mem_of_getElem? (i := 433) (by decide +kernel)) (by decide +kernel)
theorem cs_X2_103 : CsV RX2 103 yX2_move cX2_move 3 (some .int) 2 := csV_of (List.mem_of_getElem? (i := 461) (by decide +kernel)) (List.mem_of_getElem? (i := 463) (by decide +kernel)) (List.mem_of_getElem? (i := 18) (by decide +kernel)) (List.mem_of_getElem? (i := 68) (by decide +kernel)) (List.mem_of_getElem? (i := 464) (by decide +kernel)) (by decide +kernel)
theorem cs_X2_108 : CsS RX2 108 yJ6_bitCount_0f7a4 cJ6_bitCount_0f7a4 1 (some .int) 1 := csS_of (List.mem_of_getElem? (i := 459) (by decide +kernel)) (List.mem_of_getElem? (i := 421) (by decide +kernel)) (List.mem_of_getElem? (i := 79) (by decide +kernel)) (List.mem_of_getElem? (i := 422) (by decide +kernel)) (by decide +kernel)
theorem cs_X2_111 : CsV RX2 111 yX2_costs cX2_costs 2 (some .int) 1 := csV_of (List.mem_of_getElem? (i := 450) (by decide +kernel)) (List.mem_of_getElem? (i := 452) (by decide +kernel)) (List.mem_of_getElem? (i := 16) (by decide +kernel)) (List.mem_of_getElem? (i := 68) (by decide +kernel)) (List.mem_of_getElem? (i := 453) (by decide +kernel)) (by decide +kernel)
theorem cs_X2_116 : CsV RX2 116 yX2_shareOfBeat cX2_shareOfBeat 4 (some .int) 2 := csV_of (List.mem_of_getElem? (i := 446) (by decide +kernel)) (List.mem_of_getElem? (i := 448) (by decide +kernel)) (List.mem_of_getElem? (i := 15) (by decide +kernel)) (List.mem_of_getElem? (i := 68) (by decide +kernel)) (List.mem_of_getElem? (i := 449) (by decide +kernel)) (by decide +kernel)
theorem cs_X2_119 : CsV RX2 119 yX0_countRolled cX0_countRolled 2 (some .int) 1 := csV_of (List.mem_of_getElem? (i := 460) (by decide +kernel)) (List.mem_of_getElem? (i := 427) (by decide +kernel)) (List.mem_of_getElem? (i := 428) (by decide +kernel)) (List.mem_of_getElem? (i := 69) (by decide +kernel)) (List.mem_of_getElem? (i := 429) (by decide +kernel)) (by decide +kernel)
theorem cs_X2_125 : CsV RX2 125 yX0_countLeftOut cX0_countLeftOut 4 (some .int) 1 := csV_of (List.mem_of_getElem? (i := 466) (by decide +kernel)) (List.mem_of_getElem? (i := 467) (by decide +kernel)) (List.mem_of_getElem? (i := 468) (by decide +kernel)) (List.mem_of_getElem? (i := 69) (by decide +kernel)) (List.mem_of_getElem? (i := 469) (by decide +kernel)) (by decide +kernel)
theorem cs_X3_35 : CsS RX3 35 yX3_isSetting cX3_isSetting 1 (some .boolean) 1 := csS_of (List.mem_of_getElem? (i := 331) (by decide +kernel)) (List.mem_of_getElem? (i := 332) (by decide +kernel)) (List.mem_of_getElem? (i := 67) (by decide +kernel)) (List.mem_of_getElem? (i := 333) (by decide +kernel)) (by decide +kernel)
theorem cs_X3_45 : CsV RX3 45 yX3_hasStaff cX3_hasStaff 2 (some .boolean) 1 := csV_of (List.mem_of_getElem? (i := 308) (by decide +kernel)) (List.mem_of_getElem? (i := 309) (by decide +kernel)) (List.mem_of_getElem? (i := 310) (by decide +kernel)) (List.mem_of_getElem? (i := 67) (by decide +kernel)) (List.mem_of_getElem? (i := 311) (by decide +kernel)) (by decide +kernel)
theorem cs_X3_48 : CsV RX3 48 yX3_hasBeat cX3_hasBeat 2 (some .boolean) 1 := csV_of (List.mem_of_getElem? (i := 312) (by decide +kernel)) (List.mem_of_getElem? (i := 313) (by decide +kernel)) (List.mem_of_getElem? (i := 314) (by decide +kernel)) (List.mem_of_getElem? (i := 67) (by decide +kernel)) (List.mem_of_getElem? (i := 315) (by decide +kernel)) (by decide +kernel)
theorem cs_X3_51 : CsV RX3 51 yX3_written cX3_written 3 (some .int) 2 := csV_of (List.mem_of_getElem? (i := 296) (by decide +kernel)) (List.mem_of_getElem? (i := 297) (by decide +kernel)) (List.mem_of_getElem? (i := 298) (by decide +kernel)) (List.mem_of_getElem? (i := 67) (by decide +kernel)) (List.mem_of_getElem? (i := 299) (by decide +kernel)) (by decide +kernel)
theorem cs_X3_55 : CsS RX3 55 yX3_isPitch cX3_isPitch 1 (some .boolean) 1 := csS_of (List.mem_of_getElem? (i := 604) (by decide +kernel)) (List.mem_of_getElem? (i := 317) (by decide +kernel)) (List.mem_of_getElem? (i := 67) (by decide +kernel)) (List.mem_of_getElem? (i := 318) (by decide +kernel)) (by decide +kernel)
theorem cs_X3_58 : CsV RX3 58 yX3_countStruckOf cX3_countStruckOf 4 (some .int) 1 := csV_of (List.mem_of_getElem? (i := 600) (by decide +kernel)) (List.mem_of_getElem? (i := 601) (by decide +kernel)) (List.mem_of_getElem? (i := 602) (by decide +kernel)) (List.mem_of_getElem? (i := 67) (by decide +kernel)) (List.mem_of_getElem? (i := 603) (by decide +kernel)) (by decide +kernel)
theorem cs_X3_62 : CsV RX3 62 yX3_hasCell cX3_hasCell 3 (some .boolean) 2 := csV_of (List.mem_of_getElem? (i := 304) (by decide +kernel)) (List.mem_of_getElem? (i := 305) (by decide +kernel)) (List.mem_of_getElem? (i := 306) (by decide +kernel)) (List.mem_of_getElem? (i := 67) (by decide +kernel)) (List.mem_of_getElem? (i := 307) (by decide +kernel)) (by decide +kernel)
theorem cs_X3_66 : CsV RX3 66 yX3_put cX3_put 4 none 3 := csV_of (List.mem_of_getElem? (i := 479) (by decide +kernel)) (List.mem_of_getElem? (i := 301) (by decide +kernel)) (List.mem_of_getElem? (i := 302) (by decide +kernel)) (List.mem_of_getElem? (i := 67) (by decide +kernel)) (List.mem_of_getElem? (i := 303) (by decide +kernel)) (by decide +kernel)
theorem cs_X3_70 : CsV RX3 70 yX3_silenceStaff cX3_silenceStaff 3 none 1 := csV_of (List.mem_of_getElem? (i := 719) (by decide +kernel)) (List.mem_of_getElem? (i := 476) (by decide +kernel)) (List.mem_of_getElem? (i := 477) (by decide +kernel)) (List.mem_of_getElem? (i := 67) (by decide +kernel)) (List.mem_of_getElem? (i := 478) (by decide +kernel)) (by decide +kernel)
theorem cs_X3_74 : CsV RX3 74 yX3_allowsHold cX3_allowsHold 3 (some .boolean) 2 := csV_of (List.mem_of_getElem? (i := 681) (by decide +kernel)) (List.mem_of_getElem? (i := 293) (by decide +kernel)) (List.mem_of_getElem? (i := 294) (by decide +kernel)) (List.mem_of_getElem? (i := 67) (by decide +kernel)) (List.mem_of_getElem? (i := 295) (by decide +kernel)) (by decide +kernel)
theorem cs_X4_19 : CsV RX4 19 yX4_isFull cX4_isFull 1 (some .boolean) 0 := csV_of (List.mem_of_getElem? (i := 575) (by decide +kernel)) (List.mem_of_getElem? (i := 553) (by decide +kernel)) (List.mem_of_getElem? (i := 554) (by decide +kernel)) (List.mem_of_getElem? (i := 66) (by decide +kernel)) (List.mem_of_getElem? (i := 555) (by decide +kernel)) (by decide +kernel)
theorem cs_X4_23 : CsV RX4 23 yX4_signAt cX4_signAt 2 (some .int) 1 := csV_of (List.mem_of_getElem? (i := 279) (by decide +kernel)) (List.mem_of_getElem? (i := 281) (by decide +kernel)) (List.mem_of_getElem? (i := 0) (by decide +kernel)) (List.mem_of_getElem? (i := 66) (by decide +kernel)) (List.mem_of_getElem? (i := 282) (by decide +kernel)) (by decide +kernel)
theorem cs_X4_27 : CsV RX4 27 yX4_digitAt cX4_digitAt 3 (some .int) 1 := csV_of (List.mem_of_getElem? (i := 283) (by decide +kernel)) (List.mem_of_getElem? (i := 285) (by decide +kernel)) (List.mem_of_getElem? (i := 1) (by decide +kernel)) (List.mem_of_getElem? (i := 66) (by decide +kernel)) (List.mem_of_getElem? (i := 286) (by decide +kernel)) (by decide +kernel)
theorem cs_X4_30 : CsV RX4 30 yX3_becomeRests cX3_becomeRests 4 none 2 := csV_of (List.mem_of_getElem? (i := 287) (by decide +kernel)) (List.mem_of_getElem? (i := 112) (by decide +kernel)) (List.mem_of_getElem? (i := 113) (by decide +kernel)) (List.mem_of_getElem? (i := 67) (by decide +kernel)) (List.mem_of_getElem? (i := 114) (by decide +kernel)) (by decide +kernel)
theorem cs_X4_39 : CsV RX4 39 yX4_readCell cX4_readCell 8 (some .boolean) 3 := csV_of (List.mem_of_getElem? (i := 288) (by decide +kernel)) (List.mem_of_getElem? (i := 290) (by decide +kernel)) (List.mem_of_getElem? (i := 2) (by decide +kernel)) (List.mem_of_getElem? (i := 66) (by decide +kernel)) (List.mem_of_getElem? (i := 291) (by decide +kernel)) (by decide +kernel)
theorem cs_X4_43 : CsV RX4 43 yX3_allowsHold cX3_allowsHold 3 (some .boolean) 2 := csV_of (List.mem_of_getElem? (i := 292) (by decide +kernel)) (List.mem_of_getElem? (i := 293) (by decide +kernel)) (List.mem_of_getElem? (i := 294) (by decide +kernel)) (List.mem_of_getElem? (i := 67) (by decide +kernel)) (List.mem_of_getElem? (i := 295) (by decide +kernel)) (by decide +kernel)
theorem cs_X4_47 : CsV RX4 47 yX3_put cX3_put 4 none 3 := csV_of (List.mem_of_getElem? (i := 300) (by decide +kernel)) (List.mem_of_getElem? (i := 301) (by decide +kernel)) (List.mem_of_getElem? (i := 302) (by decide +kernel)) (List.mem_of_getElem? (i := 67) (by decide +kernel)) (List.mem_of_getElem? (i := 303) (by decide +kernel)) (by decide +kernel)
theorem cs_X4_51 : CsS RX4 51 yX3_isPitch cX3_isPitch 1 (some .boolean) 1 := csS_of (List.mem_of_getElem? (i := 316) (by decide +kernel)) (List.mem_of_getElem? (i := 317) (by decide +kernel)) (List.mem_of_getElem? (i := 67) (by decide +kernel)) (List.mem_of_getElem? (i := 318) (by decide +kernel)) (by decide +kernel)
theorem cs_X5_51 : CsV RX5 51 yX4_isFull cX4_isFull 1 (some .boolean) 0 := csV_of (List.mem_of_getElem? (i := 552) (by decide +kernel)) (List.mem_of_getElem? (i := 553) (by decide +kernel)) (List.mem_of_getElem? (i := 554) (by decide +kernel)) (List.mem_of_getElem? (i := 66) (by decide +kernel)) (List.mem_of_getElem? (i := 555) (by decide +kernel)) (by decide +kernel)
theorem cs_X5_58 : CsV RX5 58 yX4_add cX4_add 2 (some .int) 1 := csV_of (List.mem_of_getElem? (i := 571) (by decide +kernel)) (List.mem_of_getElem? (i := 572) (by decide +kernel)) (List.mem_of_getElem? (i := 573) (by decide +kernel)) (List.mem_of_getElem? (i := 66) (by decide +kernel)) (List.mem_of_getElem? (i := 574) (by decide +kernel)) (by decide +kernel)
theorem cs_X5_62 : CsV RX5 62 yX4_empty cX4_empty 2 (some .int) 0 := csV_of (List.mem_of_getElem? (i := 267) (by decide +kernel)) (List.mem_of_getElem? (i := 268) (by decide +kernel)) (List.mem_of_getElem? (i := 269) (by decide +kernel)) (List.mem_of_getElem? (i := 66) (by decide +kernel)) (List.mem_of_getElem? (i := 270) (by decide +kernel)) (by decide +kernel)
theorem cs_X5_66 : CsV RX5 66 yX4_readInto cX4_readInto 8 (some .int) 1 := csV_of (List.mem_of_getElem? (i := 275) (by decide +kernel)) (List.mem_of_getElem? (i := 276) (by decide +kernel)) (List.mem_of_getElem? (i := 277) (by decide +kernel)) (List.mem_of_getElem? (i := 66) (by decide +kernel)) (List.mem_of_getElem? (i := 278) (by decide +kernel)) (by decide +kernel)
theorem cs_X5_70 : CsV RX5 70 yX3_resetSettings cX3_resetSettings 2 none 0 := csV_of (List.mem_of_getElem? (i := 583) (by decide +kernel)) (List.mem_of_getElem? (i := 116) (by decide +kernel)) (List.mem_of_getElem? (i := 117) (by decide +kernel)) (List.mem_of_getElem? (i := 67) (by decide +kernel)) (List.mem_of_getElem? (i := 118) (by decide +kernel)) (by decide +kernel)
theorem cs_X5_73 : CsV RX5 73 yX3_takeFrom cX3_takeFrom 3 none 1 := csV_of (List.mem_of_getElem? (i := 323) (by decide +kernel)) (List.mem_of_getElem? (i := 324) (by decide +kernel)) (List.mem_of_getElem? (i := 325) (by decide +kernel)) (List.mem_of_getElem? (i := 67) (by decide +kernel)) (List.mem_of_getElem? (i := 326) (by decide +kernel)) (by decide +kernel)
theorem cs_X5_77 : CsV RX5 77 yX1_forget cX1_forget 1 none 0 := csV_of (List.mem_of_getElem? (i := 584) (by decide +kernel)) (List.mem_of_getElem? (i := 585) (by decide +kernel)) (List.mem_of_getElem? (i := 586) (by decide +kernel)) (List.mem_of_getElem? (i := 70) (by decide +kernel)) (List.mem_of_getElem? (i := 587) (by decide +kernel)) (by decide +kernel)
theorem cs_X5_84 : CsV RX5 84 yX3_settingAt cX3_settingAt 2 (some .int) 1 := csV_of (List.mem_of_getElem? (i := 595) (by decide +kernel)) (List.mem_of_getElem? (i := 351) (by decide +kernel)) (List.mem_of_getElem? (i := 352) (by decide +kernel)) (List.mem_of_getElem? (i := 67) (by decide +kernel)) (List.mem_of_getElem? (i := 353) (by decide +kernel)) (by decide +kernel)
theorem cs_X5_91 : CsV RX5 91 yX3_countStruck cX3_countStruck 3 (some .int) 0 := csV_of (List.mem_of_getElem? (i := 596) (by decide +kernel)) (List.mem_of_getElem? (i := 597) (by decide +kernel)) (List.mem_of_getElem? (i := 598) (by decide +kernel)) (List.mem_of_getElem? (i := 67) (by decide +kernel)) (List.mem_of_getElem? (i := 599) (by decide +kernel)) (by decide +kernel)
theorem cs_X5_94 : CsV RX5 94 yX3_countHolds cX3_countHolds 4 (some .int) 0 := csV_of (List.mem_of_getElem? (i := 605) (by decide +kernel)) (List.mem_of_getElem? (i := 606) (by decide +kernel)) (List.mem_of_getElem? (i := 607) (by decide +kernel)) (List.mem_of_getElem? (i := 67) (by decide +kernel)) (List.mem_of_getElem? (i := 608) (by decide +kernel)) (by decide +kernel)
theorem cs_X5_97 : CsV RX5 97 yX5_requireCell cX5_requireCell 3 none 2 := csV_of (List.mem_of_getElem? (i := 617) (by decide +kernel)) (List.mem_of_getElem? (i := 619) (by decide +kernel)) (List.mem_of_getElem? (i := 20) (by decide +kernel)) (List.mem_of_getElem? (i := 65) (by decide +kernel)) (List.mem_of_getElem? (i := 620) (by decide +kernel)) (by decide +kernel)
theorem cs_X5_101 : CsV RX5 101 yX3_sounding cX3_sounding 5 (some .int) 2 := csV_of (List.mem_of_getElem? (i := 646) (by decide +kernel)) (List.mem_of_getElem? (i := 359) (by decide +kernel)) (List.mem_of_getElem? (i := 360) (by decide +kernel)) (List.mem_of_getElem? (i := 67) (by decide +kernel)) (List.mem_of_getElem? (i := 361) (by decide +kernel)) (by decide +kernel)
theorem cs_X5_105 : CsV RX5 105 yX3_written cX3_written 3 (some .int) 2 := csV_of (List.mem_of_getElem? (i := 647) (by decide +kernel)) (List.mem_of_getElem? (i := 297) (by decide +kernel)) (List.mem_of_getElem? (i := 298) (by decide +kernel)) (List.mem_of_getElem? (i := 67) (by decide +kernel)) (List.mem_of_getElem? (i := 299) (by decide +kernel)) (by decide +kernel)
theorem cs_X5_108 : CsS RX5 108 yX3_allowsSetting cX3_allowsSetting 2 (some .boolean) 2 := csS_of (List.mem_of_getElem? (i := 655) (by decide +kernel)) (List.mem_of_getElem? (i := 656) (by decide +kernel)) (List.mem_of_getElem? (i := 67) (by decide +kernel)) (List.mem_of_getElem? (i := 657) (by decide +kernel)) (by decide +kernel)
theorem cs_X5_112 : CsV RX5 112 yX1_remember cX1_remember 2 none 1 := csV_of (List.mem_of_getElem? (i := 662) (by decide +kernel)) (List.mem_of_getElem? (i := 663) (by decide +kernel)) (List.mem_of_getElem? (i := 664) (by decide +kernel)) (List.mem_of_getElem? (i := 70) (by decide +kernel)) (List.mem_of_getElem? (i := 665) (by decide +kernel)) (by decide +kernel)
theorem cs_X5_115 : CsV RX5 115 yX3_changeSetting cX3_changeSetting 3 none 2 := csV_of (List.mem_of_getElem? (i := 327) (by decide +kernel)) (List.mem_of_getElem? (i := 328) (by decide +kernel)) (List.mem_of_getElem? (i := 329) (by decide +kernel)) (List.mem_of_getElem? (i := 67) (by decide +kernel)) (List.mem_of_getElem? (i := 330) (by decide +kernel)) (by decide +kernel)
theorem cs_X5_118 : CsS RX5 118 yX3_isPitch cX3_isPitch 1 (some .boolean) 1 := csS_of (List.mem_of_getElem? (i := 674) (by decide +kernel)) (List.mem_of_getElem? (i := 317) (by decide +kernel)) (List.mem_of_getElem? (i := 67) (by decide +kernel)) (List.mem_of_getElem? (i := 318) (by decide +kernel)) (by decide +kernel)
theorem cs_X5_122 : CsV RX5 122 yX3_allowsHold cX3_allowsHold 3 (some .boolean) 2 := csV_of (List.mem_of_getElem? (i := 675) (by decide +kernel)) (List.mem_of_getElem? (i := 293) (by decide +kernel)) (List.mem_of_getElem? (i := 294) (by decide +kernel)) (List.mem_of_getElem? (i := 67) (by decide +kernel)) (List.mem_of_getElem? (i := 295) (by decide +kernel)) (by decide +kernel)
theorem cs_X5_125 : CsV RX5 125 yX3_put cX3_put 4 none 3 := csV_of (List.mem_of_getElem? (i := 676) (by decide +kernel)) (List.mem_of_getElem? (i := 301) (by decide +kernel)) (List.mem_of_getElem? (i := 302) (by decide +kernel)) (List.mem_of_getElem? (i := 67) (by decide +kernel)) (List.mem_of_getElem? (i := 303) (by decide +kernel)) (by decide +kernel)
theorem cs_X5_129 : CsV RX5 129 yX3_dropLooseHolds cX3_dropLooseHolds 3 none 0 := csV_of (List.mem_of_getElem? (i := 677) (by decide +kernel)) (List.mem_of_getElem? (i := 678) (by decide +kernel)) (List.mem_of_getElem? (i := 679) (by decide +kernel)) (List.mem_of_getElem? (i := 67) (by decide +kernel)) (List.mem_of_getElem? (i := 680) (by decide +kernel)) (by decide +kernel)
theorem cs_X5_132 : CsV RX5 132 yX5_requireStaff cX5_requireStaff 2 none 1 := csV_of (List.mem_of_getElem? (i := 621) (by decide +kernel)) (List.mem_of_getElem? (i := 623) (by decide +kernel)) (List.mem_of_getElem? (i := 21) (by decide +kernel)) (List.mem_of_getElem? (i := 65) (by decide +kernel)) (List.mem_of_getElem? (i := 624) (by decide +kernel)) (by decide +kernel)
theorem cs_X5_136 : CsV RX5 136 yX3_allowsMoving cX3_allowsMoving 5 (some .boolean) 2 := csV_of (List.mem_of_getElem? (i := 689) (by decide +kernel)) (List.mem_of_getElem? (i := 690) (by decide +kernel)) (List.mem_of_getElem? (i := 691) (by decide +kernel)) (List.mem_of_getElem? (i := 67) (by decide +kernel)) (List.mem_of_getElem? (i := 692) (by decide +kernel)) (by decide +kernel)
theorem cs_X5_139 : CsV RX5 139 yX3_moveStaff cX3_moveStaff 5 (some .int) 2 := csV_of (List.mem_of_getElem? (i := 693) (by decide +kernel)) (List.mem_of_getElem? (i := 694) (by decide +kernel)) (List.mem_of_getElem? (i := 695) (by decide +kernel)) (List.mem_of_getElem? (i := 67) (by decide +kernel)) (List.mem_of_getElem? (i := 696) (by decide +kernel)) (by decide +kernel)
theorem cs_X5_142 : CsV RX5 142 yX3_swapStaves cX3_swapStaves 7 (some .int) 2 := csV_of (List.mem_of_getElem? (i := 704) (by decide +kernel)) (List.mem_of_getElem? (i := 705) (by decide +kernel)) (List.mem_of_getElem? (i := 706) (by decide +kernel)) (List.mem_of_getElem? (i := 67) (by decide +kernel)) (List.mem_of_getElem? (i := 707) (by decide +kernel)) (by decide +kernel)
theorem cs_X5_145 : CsV RX5 145 yX3_addStaff cX3_addStaff 1 none 0 := csV_of (List.mem_of_getElem? (i := 715) (by decide +kernel)) (List.mem_of_getElem? (i := 716) (by decide +kernel)) (List.mem_of_getElem? (i := 717) (by decide +kernel)) (List.mem_of_getElem? (i := 67) (by decide +kernel)) (List.mem_of_getElem? (i := 718) (by decide +kernel)) (by decide +kernel)
theorem cs_X5_148 : CsV RX5 148 yX3_dropStaff cX3_dropStaff 1 none 0 := csV_of (List.mem_of_getElem? (i := 720) (by decide +kernel)) (List.mem_of_getElem? (i := 721) (by decide +kernel)) (List.mem_of_getElem? (i := 722) (by decide +kernel)) (List.mem_of_getElem? (i := 67) (by decide +kernel)) (List.mem_of_getElem? (i := 723) (by decide +kernel)) (by decide +kernel)
theorem cs_X5_154 : CsV RX5 154 yX3_openBeat cX3_openBeat 4 none 1 := csV_of (List.mem_of_getElem? (i := 731) (by decide +kernel)) (List.mem_of_getElem? (i := 732) (by decide +kernel)) (List.mem_of_getElem? (i := 733) (by decide +kernel)) (List.mem_of_getElem? (i := 67) (by decide +kernel)) (List.mem_of_getElem? (i := 734) (by decide +kernel)) (by decide +kernel)
theorem cs_X5_157 : CsV RX5 157 yX5_requireBeat cX5_requireBeat 2 none 1 := csV_of (List.mem_of_getElem? (i := 641) (by decide +kernel)) (List.mem_of_getElem? (i := 643) (by decide +kernel)) (List.mem_of_getElem? (i := 22) (by decide +kernel)) (List.mem_of_getElem? (i := 65) (by decide +kernel)) (List.mem_of_getElem? (i := 644) (by decide +kernel)) (by decide +kernel)
theorem cs_X5_160 : CsV RX5 160 yX3_closeBeat cX3_closeBeat 4 none 1 := csV_of (List.mem_of_getElem? (i := 742) (by decide +kernel)) (List.mem_of_getElem? (i := 743) (by decide +kernel)) (List.mem_of_getElem? (i := 744) (by decide +kernel)) (List.mem_of_getElem? (i := 67) (by decide +kernel)) (List.mem_of_getElem? (i := 745) (by decide +kernel)) (by decide +kernel)
theorem cs_X5_163 : CsV RX5 163 yX1_isEmpty cX1_isEmpty 1 (some .boolean) 0 := csV_of (List.mem_of_getElem? (i := 753) (by decide +kernel)) (List.mem_of_getElem? (i := 754) (by decide +kernel)) (List.mem_of_getElem? (i := 755) (by decide +kernel)) (List.mem_of_getElem? (i := 70) (by decide +kernel)) (List.mem_of_getElem? (i := 756) (by decide +kernel)) (by decide +kernel)
theorem cs_X5_166 : CsV RX5 166 yX1_takeBack cX1_takeBack 2 (some .int) 1 := csV_of (List.mem_of_getElem? (i := 757) (by decide +kernel)) (List.mem_of_getElem? (i := 758) (by decide +kernel)) (List.mem_of_getElem? (i := 759) (by decide +kernel)) (List.mem_of_getElem? (i := 70) (by decide +kernel)) (List.mem_of_getElem? (i := 760) (by decide +kernel)) (by decide +kernel)
theorem cs_X5_169 : CsS RX5 169 yX5_requireUpTo cX5_requireUpTo 2 none 2 := csS_of (List.mem_of_getElem? (i := 768) (by decide +kernel)) (List.mem_of_getElem? (i := 769) (by decide +kernel)) (List.mem_of_getElem? (i := 65) (by decide +kernel)) (List.mem_of_getElem? (i := 770) (by decide +kernel)) (by decide +kernel)
theorem cs_X5_172 : CsV RX5 172 yX2_make cX2_make 3 none 1 := csV_of (List.mem_of_getElem? (i := 338) (by decide +kernel)) (List.mem_of_getElem? (i := 339) (by decide +kernel)) (List.mem_of_getElem? (i := 340) (by decide +kernel)) (List.mem_of_getElem? (i := 68) (by decide +kernel)) (List.mem_of_getElem? (i := 341) (by decide +kernel)) (by decide +kernel)
theorem cs_X5_175 : CsV RX5 175 yX2_numberOfNote cX2_numberOfNote 8 (some .int) 3 := csV_of (List.mem_of_getElem? (i := 771) (by decide +kernel)) (List.mem_of_getElem? (i := 772) (by decide +kernel)) (List.mem_of_getElem? (i := 773) (by decide +kernel)) (List.mem_of_getElem? (i := 68) (by decide +kernel)) (List.mem_of_getElem? (i := 774) (by decide +kernel)) (by decide +kernel)
theorem cs_X5_179 : CsV RX5 179 yX2_numberOfHand cX2_numberOfHand 6 (some .int) 3 := csV_of (List.mem_of_getElem? (i := 783) (by decide +kernel)) (List.mem_of_getElem? (i := 784) (by decide +kernel)) (List.mem_of_getElem? (i := 785) (by decide +kernel)) (List.mem_of_getElem? (i := 68) (by decide +kernel)) (List.mem_of_getElem? (i := 786) (by decide +kernel)) (by decide +kernel)
theorem cs_X5_182 : CsV RX5 182 yX2_numberOfBeat cX2_numberOfBeat 4 (some .int) 2 := csV_of (List.mem_of_getElem? (i := 796) (by decide +kernel)) (List.mem_of_getElem? (i := 797) (by decide +kernel)) (List.mem_of_getElem? (i := 798) (by decide +kernel)) (List.mem_of_getElem? (i := 68) (by decide +kernel)) (List.mem_of_getElem? (i := 799) (by decide +kernel)) (by decide +kernel)
theorem cs_X5_185 : CsV RX5 185 yX2_numberOfWhole cX2_numberOfWhole 4 (some .int) 1 := csV_of (List.mem_of_getElem? (i := 442) (by decide +kernel)) (List.mem_of_getElem? (i := 443) (by decide +kernel)) (List.mem_of_getElem? (i := 444) (by decide +kernel)) (List.mem_of_getElem? (i := 68) (by decide +kernel)) (List.mem_of_getElem? (i := 445) (by decide +kernel)) (by decide +kernel)
theorem cs_X5_188 : CsV RX5 188 yX5_numberOfTrial cX5_numberOfTrial 2 (some .int) 1 := csV_of (List.mem_of_getElem? (i := 334) (by decide +kernel)) (List.mem_of_getElem? (i := 336) (by decide +kernel)) (List.mem_of_getElem? (i := 3) (by decide +kernel)) (List.mem_of_getElem? (i := 65) (by decide +kernel)) (List.mem_of_getElem? (i := 337) (by decide +kernel)) (by decide +kernel)
theorem cs_X5_194 : CsV RX5 194 yX3_silenceStaff cX3_silenceStaff 3 none 1 := csV_of (List.mem_of_getElem? (i := 475) (by decide +kernel)) (List.mem_of_getElem? (i := 476) (by decide +kernel)) (List.mem_of_getElem? (i := 477) (by decide +kernel)) (List.mem_of_getElem? (i := 67) (by decide +kernel)) (List.mem_of_getElem? (i := 478) (by decide +kernel)) (by decide +kernel)
theorem cs_X5_197 : CsS RX5 197 yX5_groupFromEnd cX5_groupFromEnd 6 (some .long) 2 := csS_of (List.mem_of_getElem? (i := 828) (by decide +kernel)) (List.mem_of_getElem? (i := 829) (by decide +kernel)) (List.mem_of_getElem? (i := 65) (by decide +kernel)) (List.mem_of_getElem? (i := 830) (by decide +kernel)) (by decide +kernel)
theorem cs_X5_203 : CsV RX5 203 yX5_succeeds cX5_succeeds 7 (some .boolean) 1 := csV_of (List.mem_of_getElem? (i := 832) (by decide +kernel)) (List.mem_of_getElem? (i := 834) (by decide +kernel)) (List.mem_of_getElem? (i := 23) (by decide +kernel)) (List.mem_of_getElem? (i := 65) (by decide +kernel)) (List.mem_of_getElem? (i := 835) (by decide +kernel)) (by decide +kernel)
theorem cs_X5_210 : CsV RX5 210 yX5_simulateRound cX5_simulateRound 5 none 1 := csV_of (List.mem_of_getElem? (i := 862) (by decide +kernel)) (List.mem_of_getElem? (i := 864) (by decide +kernel)) (List.mem_of_getElem? (i := 28) (by decide +kernel)) (List.mem_of_getElem? (i := 65) (by decide +kernel)) (List.mem_of_getElem? (i := 865) (by decide +kernel)) (by decide +kernel)
theorem cs_X5_213 : CsS RX5 213 yX5_requireSlot cX5_requireSlot 1 none 1 := csS_of (List.mem_of_getElem? (i := 873) (by decide +kernel)) (List.mem_of_getElem? (i := 874) (by decide +kernel)) (List.mem_of_getElem? (i := 65) (by decide +kernel)) (List.mem_of_getElem? (i := 875) (by decide +kernel)) (by decide +kernel)
theorem cs_X5_216 : CsV RX5 216 yX3_hasStaff cX3_hasStaff 2 (some .boolean) 1 := csV_of (List.mem_of_getElem? (i := 625) (by decide +kernel)) (List.mem_of_getElem? (i := 309) (by decide +kernel)) (List.mem_of_getElem? (i := 310) (by decide +kernel)) (List.mem_of_getElem? (i := 67) (by decide +kernel)) (List.mem_of_getElem? (i := 311) (by decide +kernel)) (by decide +kernel)
theorem cs_X5_219 : CsV RX5 219 yX3_hasBeat cX3_hasBeat 2 (some .boolean) 1 := csV_of (List.mem_of_getElem? (i := 645) (by decide +kernel)) (List.mem_of_getElem? (i := 313) (by decide +kernel)) (List.mem_of_getElem? (i := 314) (by decide +kernel)) (List.mem_of_getElem? (i := 67) (by decide +kernel)) (List.mem_of_getElem? (i := 315) (by decide +kernel)) (by decide +kernel)
theorem cs_X5_222 : CsV RX5 222 yX5_triedSetting cX5_triedSetting 3 (some .boolean) 2 := csV_of (List.mem_of_getElem? (i := 836) (by decide +kernel)) (List.mem_of_getElem? (i := 838) (by decide +kernel)) (List.mem_of_getElem? (i := 24) (by decide +kernel)) (List.mem_of_getElem? (i := 65) (by decide +kernel)) (List.mem_of_getElem? (i := 839) (by decide +kernel)) (by decide +kernel)
theorem cs_X5_225 : CsV RX5 225 yX5_triedCell cX5_triedCell 4 (some .boolean) 3 := csV_of (List.mem_of_getElem? (i := 840) (by decide +kernel)) (List.mem_of_getElem? (i := 842) (by decide +kernel)) (List.mem_of_getElem? (i := 25) (by decide +kernel)) (List.mem_of_getElem? (i := 65) (by decide +kernel)) (List.mem_of_getElem? (i := 843) (by decide +kernel)) (by decide +kernel)
theorem cs_X5_229 : CsV RX5 229 yX5_triedExchange cX5_triedExchange 3 (some .boolean) 2 := csV_of (List.mem_of_getElem? (i := 845) (by decide +kernel)) (List.mem_of_getElem? (i := 847) (by decide +kernel)) (List.mem_of_getElem? (i := 26) (by decide +kernel)) (List.mem_of_getElem? (i := 65) (by decide +kernel)) (List.mem_of_getElem? (i := 848) (by decide +kernel)) (by decide +kernel)
theorem cs_X5_232 : CsV RX5 232 yX5_triedRemoval cX5_triedRemoval 2 (some .boolean) 1 := csV_of (List.mem_of_getElem? (i := 849) (by decide +kernel)) (List.mem_of_getElem? (i := 851) (by decide +kernel)) (List.mem_of_getElem? (i := 27) (by decide +kernel)) (List.mem_of_getElem? (i := 65) (by decide +kernel)) (List.mem_of_getElem? (i := 852) (by decide +kernel)) (by decide +kernel)
theorem cs_X5_235 : CsV RX5 235 yX3_hasCell cX3_hasCell 3 (some .boolean) 2 := csV_of (List.mem_of_getElem? (i := 844) (by decide +kernel)) (List.mem_of_getElem? (i := 305) (by decide +kernel)) (List.mem_of_getElem? (i := 306) (by decide +kernel)) (List.mem_of_getElem? (i := 67) (by decide +kernel)) (List.mem_of_getElem? (i := 307) (by decide +kernel)) (by decide +kernel)
theorem cs_X6_56 : CsS RX6 56 yX6_begin cX6_begin 2 none 1 := csS_of (List.mem_of_getElem? (i := 889) (by decide +kernel)) (List.mem_of_getElem? (i := 890) (by decide +kernel)) (List.mem_of_getElem? (i := 71) (by decide +kernel)) (List.mem_of_getElem? (i := 891) (by decide +kernel)) (by decide +kernel)
theorem cs_X6_66 : CsS RX6 66 yX6_in cX6_in 6 (some .boolean) 3 := csS_of (List.mem_of_getElem? (i := 959) (by decide +kernel)) (List.mem_of_getElem? (i := 960) (by decide +kernel)) (List.mem_of_getElem? (i := 71) (by decide +kernel)) (List.mem_of_getElem? (i := 961) (by decide +kernel)) (by decide +kernel)
theorem cs_X6_70 : CsS RX6 70 yX6_at cX6_at 2 (some .int) 2 := csS_of (List.mem_of_getElem? (i := 994) (by decide +kernel)) (List.mem_of_getElem? (i := 995) (by decide +kernel)) (List.mem_of_getElem? (i := 71) (by decide +kernel)) (List.mem_of_getElem? (i := 996) (by decide +kernel)) (by decide +kernel)
theorem cs_X6_74 : CsV RX6 74 yX6_isHeld cX6_isHeld 4 (some .boolean) 3 := csV_of (List.mem_of_getElem? (i := 1030) (by decide +kernel)) (List.mem_of_getElem? (i := 1032) (by decide +kernel)) (List.mem_of_getElem? (i := 36) (by decide +kernel)) (List.mem_of_getElem? (i := 71) (by decide +kernel)) (List.mem_of_getElem? (i := 1033) (by decide +kernel)) (by decide +kernel)
theorem cs_X6_78 : CsS RX6 78 yX6_rank cX6_rank 2 (some .int) 2 := csS_of (List.mem_of_getElem? (i := 1114) (by decide +kernel)) (List.mem_of_getElem? (i := 1115) (by decide +kernel)) (List.mem_of_getElem? (i := 71) (by decide +kernel)) (List.mem_of_getElem? (i := 1116) (by decide +kernel)) (by decide +kernel)
theorem cs_X6_82 : CsV RX6 82 yX6_stands cX6_stands 9 (some .boolean) 4 := csV_of (List.mem_of_getElem? (i := 1110) (by decide +kernel)) (List.mem_of_getElem? (i := 1112) (by decide +kernel)) (List.mem_of_getElem? (i := 40) (by decide +kernel)) (List.mem_of_getElem? (i := 71) (by decide +kernel)) (List.mem_of_getElem? (i := 1113) (by decide +kernel)) (by decide +kernel)
theorem cs_X6_86 : CsV RX6 86 yX6_pitchOf cX6_pitchOf 3 (some .int) 2 := csV_of (List.mem_of_getElem? (i := 1133) (by decide +kernel)) (List.mem_of_getElem? (i := 1135) (by decide +kernel)) (List.mem_of_getElem? (i := 45) (by decide +kernel)) (List.mem_of_getElem? (i := 71) (by decide +kernel)) (List.mem_of_getElem? (i := 1136) (by decide +kernel)) (by decide +kernel)
theorem cs_X6_89 : CsV RX6 89 yX6_width cX6_width 4 (some .int) 3 := csV_of (List.mem_of_getElem? (i := 1129) (by decide +kernel)) (List.mem_of_getElem? (i := 1131) (by decide +kernel)) (List.mem_of_getElem? (i := 44) (by decide +kernel)) (List.mem_of_getElem? (i := 71) (by decide +kernel)) (List.mem_of_getElem? (i := 1132) (by decide +kernel)) (by decide +kernel)
theorem cs_X6_93 : CsV RX6 93 yX6_canPlay cX6_canPlay 8 (some .boolean) 5 := csV_of (List.mem_of_getElem? (i := 1125) (by decide +kernel)) (List.mem_of_getElem? (i := 1127) (by decide +kernel)) (List.mem_of_getElem? (i := 43) (by decide +kernel)) (List.mem_of_getElem? (i := 71) (by decide +kernel)) (List.mem_of_getElem? (i := 1128) (by decide +kernel)) (by decide +kernel)
theorem cs_X6_97 : CsV RX6 97 yX6_placeOf cX6_placeOf 4 (some .int) 2 := csV_of (List.mem_of_getElem? (i := 1181) (by decide +kernel)) (List.mem_of_getElem? (i := 1183) (by decide +kernel)) (List.mem_of_getElem? (i := 57) (by decide +kernel)) (List.mem_of_getElem? (i := 71) (by decide +kernel)) (List.mem_of_getElem? (i := 1184) (by decide +kernel)) (by decide +kernel)
theorem cs_X6_100 : CsV RX6 100 yX6_handOf cX6_handOf 5 (some .int) 3 := csV_of (List.mem_of_getElem? (i := 1185) (by decide +kernel)) (List.mem_of_getElem? (i := 1187) (by decide +kernel)) (List.mem_of_getElem? (i := 58) (by decide +kernel)) (List.mem_of_getElem? (i := 71) (by decide +kernel)) (List.mem_of_getElem? (i := 1188) (by decide +kernel)) (by decide +kernel)
theorem cs_X6_103 : CsV RX6 103 yX6_to cX6_to 4 (some .int) 3 := csV_of (List.mem_of_getElem? (i := 1165) (by decide +kernel)) (List.mem_of_getElem? (i := 1167) (by decide +kernel)) (List.mem_of_getElem? (i := 53) (by decide +kernel)) (List.mem_of_getElem? (i := 71) (by decide +kernel)) (List.mem_of_getElem? (i := 1168) (by decide +kernel)) (by decide +kernel)
theorem cs_X6_106 : CsV RX6 106 yX6_from cX6_from 3 (some .int) 2 := csV_of (List.mem_of_getElem? (i := 1169) (by decide +kernel)) (List.mem_of_getElem? (i := 1171) (by decide +kernel)) (List.mem_of_getElem? (i := 54) (by decide +kernel)) (List.mem_of_getElem? (i := 71) (by decide +kernel)) (List.mem_of_getElem? (i := 1172) (by decide +kernel)) (by decide +kernel)
theorem cs_X6_109 : CsV RX6 109 yX6_position cX6_position 4 (some .int) 3 := csV_of (List.mem_of_getElem? (i := 1161) (by decide +kernel)) (List.mem_of_getElem? (i := 1163) (by decide +kernel)) (List.mem_of_getElem? (i := 52) (by decide +kernel)) (List.mem_of_getElem? (i := 71) (by decide +kernel)) (List.mem_of_getElem? (i := 1164) (by decide +kernel)) (by decide +kernel)
theorem cs_X6_112 : CsV RX6 112 yX6_move cX6_move 8 (some .int) 4 := csV_of (List.mem_of_getElem? (i := 1157) (by decide +kernel)) (List.mem_of_getElem? (i := 1159) (by decide +kernel)) (List.mem_of_getElem? (i := 51) (by decide +kernel)) (List.mem_of_getElem? (i := 71) (by decide +kernel)) (List.mem_of_getElem? (i := 1160) (by decide +kernel)) (by decide +kernel)
theorem cs_X6_116 : CsV RX6 116 yX6_isRolled cX6_isRolled 5 (some .boolean) 4 := csV_of (List.mem_of_getElem? (i := 1173) (by decide +kernel)) (List.mem_of_getElem? (i := 1175) (by decide +kernel)) (List.mem_of_getElem? (i := 55) (by decide +kernel)) (List.mem_of_getElem? (i := 71) (by decide +kernel)) (List.mem_of_getElem? (i := 1176) (by decide +kernel)) (by decide +kernel)
theorem cs_X6_120 : CsV RX6 120 yX6_isCut cX6_isCut 6 (some .boolean) 5 := csV_of (List.mem_of_getElem? (i := 1177) (by decide +kernel)) (List.mem_of_getElem? (i := 1179) (by decide +kernel)) (List.mem_of_getElem? (i := 56) (by decide +kernel)) (List.mem_of_getElem? (i := 71) (by decide +kernel)) (List.mem_of_getElem? (i := 1180) (by decide +kernel)) (by decide +kernel)
theorem cs_X6_123 : CsV RX6 123 yX6_can cX6_can 3 (some .boolean) 2 := csV_of (List.mem_of_getElem? (i := 1149) (by decide +kernel)) (List.mem_of_getElem? (i := 1151) (by decide +kernel)) (List.mem_of_getElem? (i := 49) (by decide +kernel)) (List.mem_of_getElem? (i := 71) (by decide +kernel)) (List.mem_of_getElem? (i := 1152) (by decide +kernel)) (by decide +kernel)
theorem cs_X6_127 : CsV RX6 127 yX6_costOf cX6_costOf 7 (some .int) 4 := csV_of (List.mem_of_getElem? (i := 1153) (by decide +kernel)) (List.mem_of_getElem? (i := 1155) (by decide +kernel)) (List.mem_of_getElem? (i := 50) (by decide +kernel)) (List.mem_of_getElem? (i := 71) (by decide +kernel)) (List.mem_of_getElem? (i := 1156) (by decide +kernel)) (by decide +kernel)
theorem cs_X6_131 : CsV RX6 131 yX6_cheapest cX6_cheapest 10 (some .int) 4 := csV_of (List.mem_of_getElem? (i := 1145) (by decide +kernel)) (List.mem_of_getElem? (i := 1147) (by decide +kernel)) (List.mem_of_getElem? (i := 48) (by decide +kernel)) (List.mem_of_getElem? (i := 71) (by decide +kernel)) (List.mem_of_getElem? (i := 1148) (by decide +kernel)) (by decide +kernel)
theorem cs_X6_135 : CsV RX6 135 yX6_laySounds cX6_laySounds 5 none 1 := csV_of (List.mem_of_getElem? (i := 1026) (by decide +kernel)) (List.mem_of_getElem? (i := 1028) (by decide +kernel)) (List.mem_of_getElem? (i := 35) (by decide +kernel)) (List.mem_of_getElem? (i := 71) (by decide +kernel)) (List.mem_of_getElem? (i := 1029) (by decide +kernel)) (by decide +kernel)
theorem cs_X6_138 : CsV RX6 138 yX6_layReasons cX6_layReasons 4 none 2 := csV_of (List.mem_of_getElem? (i := 1106) (by decide +kernel)) (List.mem_of_getElem? (i := 1108) (by decide +kernel)) (List.mem_of_getElem? (i := 39) (by decide +kernel)) (List.mem_of_getElem? (i := 71) (by decide +kernel)) (List.mem_of_getElem? (i := 1109) (by decide +kernel)) (by decide +kernel)
theorem cs_X6_142 : CsV RX6 142 yX6_layRow cX6_layRow 6 none 2 := csV_of (List.mem_of_getElem? (i := 1117) (by decide +kernel)) (List.mem_of_getElem? (i := 1119) (by decide +kernel)) (List.mem_of_getElem? (i := 41) (by decide +kernel)) (List.mem_of_getElem? (i := 71) (by decide +kernel)) (List.mem_of_getElem? (i := 1120) (by decide +kernel)) (by decide +kernel)
theorem cs_X6_145 : CsV RX6 145 yX6_layPossible cX6_layPossible 5 none 2 := csV_of (List.mem_of_getElem? (i := 1121) (by decide +kernel)) (List.mem_of_getElem? (i := 1123) (by decide +kernel)) (List.mem_of_getElem? (i := 42) (by decide +kernel)) (List.mem_of_getElem? (i := 71) (by decide +kernel)) (List.mem_of_getElem? (i := 1124) (by decide +kernel)) (by decide +kernel)
theorem cs_X6_148 : CsV RX6 148 yX6_dropInner cX6_dropInner 4 none 2 := csV_of (List.mem_of_getElem? (i := 1137) (by decide +kernel)) (List.mem_of_getElem? (i := 1139) (by decide +kernel)) (List.mem_of_getElem? (i := 46) (by decide +kernel)) (List.mem_of_getElem? (i := 71) (by decide +kernel)) (List.mem_of_getElem? (i := 1140) (by decide +kernel)) (by decide +kernel)
theorem cs_X6_151 : CsV RX6 151 yX6_layAhead cX6_layAhead 6 none 1 := csV_of (List.mem_of_getElem? (i := 1141) (by decide +kernel)) (List.mem_of_getElem? (i := 1143) (by decide +kernel)) (List.mem_of_getElem? (i := 47) (by decide +kernel)) (List.mem_of_getElem? (i := 71) (by decide +kernel)) (List.mem_of_getElem? (i := 1144) (by decide +kernel)) (by decide +kernel)
theorem cs_X6_154 : CsV RX6 154 yX6_before cX6_before 2 (some .int) 1 := csV_of (List.mem_of_getElem? (i := 1193) (by decide +kernel)) (List.mem_of_getElem? (i := 1195) (by decide +kernel)) (List.mem_of_getElem? (i := 60) (by decide +kernel)) (List.mem_of_getElem? (i := 71) (by decide +kernel)) (List.mem_of_getElem? (i := 1196) (by decide +kernel)) (by decide +kernel)
theorem cs_X6_158 : CsV RX6 158 yX6_lay cX6_lay 4 none 1 := csV_of (List.mem_of_getElem? (i := 1102) (by decide +kernel)) (List.mem_of_getElem? (i := 1104) (by decide +kernel)) (List.mem_of_getElem? (i := 38) (by decide +kernel)) (List.mem_of_getElem? (i := 71) (by decide +kernel)) (List.mem_of_getElem? (i := 1105) (by decide +kernel)) (by decide +kernel)
theorem cs_X6_161 : CsV RX6 161 yX6_isCutHere cX6_isCutHere 4 (some .boolean) 3 := csV_of (List.mem_of_getElem? (i := 1189) (by decide +kernel)) (List.mem_of_getElem? (i := 1191) (by decide +kernel)) (List.mem_of_getElem? (i := 59) (by decide +kernel)) (List.mem_of_getElem? (i := 71) (by decide +kernel)) (List.mem_of_getElem? (i := 1192) (by decide +kernel)) (by decide +kernel)
theorem cs_X6_169 : CsV RX6 169 yX6_refused cX6_refused 2 (some .boolean) 1 := csV_of (List.mem_of_getElem? (i := 962) (by decide +kernel)) (List.mem_of_getElem? (i := 964) (by decide +kernel)) (List.mem_of_getElem? (i := 29) (by decide +kernel)) (List.mem_of_getElem? (i := 71) (by decide +kernel)) (List.mem_of_getElem? (i := 965) (by decide +kernel)) (by decide +kernel)
theorem cs_X6_176 : CsV RX6 176 yX6_digit cX6_digit 5 (some .int) 2 := csV_of (List.mem_of_getElem? (i := 982) (by decide +kernel)) (List.mem_of_getElem? (i := 984) (by decide +kernel)) (List.mem_of_getElem? (i := 32) (by decide +kernel)) (List.mem_of_getElem? (i := 71) (by decide +kernel)) (List.mem_of_getElem? (i := 985) (by decide +kernel)) (by decide +kernel)
theorem cs_X6_179 : CsV RX6 179 yX6_eat cX6_eat 3 (some .boolean) 1 := csV_of (List.mem_of_getElem? (i := 978) (by decide +kernel)) (List.mem_of_getElem? (i := 980) (by decide +kernel)) (List.mem_of_getElem? (i := 31) (by decide +kernel)) (List.mem_of_getElem? (i := 71) (by decide +kernel)) (List.mem_of_getElem? (i := 981) (by decide +kernel)) (by decide +kernel)
theorem cs_X6_182 : CsV RX6 182 yX6_two cX6_two 5 (some .int) 2 := csV_of (List.mem_of_getElem? (i := 986) (by decide +kernel)) (List.mem_of_getElem? (i := 988) (by decide +kernel)) (List.mem_of_getElem? (i := 33) (by decide +kernel)) (List.mem_of_getElem? (i := 71) (by decide +kernel)) (List.mem_of_getElem? (i := 989) (by decide +kernel)) (by decide +kernel)
theorem cs_X6_185 : CsV RX6 185 yX6_readCell cX6_readCell 4 (some .boolean) 2 := csV_of (List.mem_of_getElem? (i := 990) (by decide +kernel)) (List.mem_of_getElem? (i := 992) (by decide +kernel)) (List.mem_of_getElem? (i := 34) (by decide +kernel)) (List.mem_of_getElem? (i := 71) (by decide +kernel)) (List.mem_of_getElem? (i := 993) (by decide +kernel)) (by decide +kernel)
theorem cs_X6_188 : CsV RX6 188 yX6_readAll cX6_readAll 3 (some .boolean) 0 := csV_of (List.mem_of_getElem? (i := 974) (by decide +kernel)) (List.mem_of_getElem? (i := 976) (by decide +kernel)) (List.mem_of_getElem? (i := 30) (by decide +kernel)) (List.mem_of_getElem? (i := 71) (by decide +kernel)) (List.mem_of_getElem? (i := 977) (by decide +kernel)) (by decide +kernel)
theorem cs_X6_192 : CsS RX6 192 yX6_copyPage cX6_copyPage 5 none 4 := csS_of (List.mem_of_getElem? (i := 1001) (by decide +kernel)) (List.mem_of_getElem? (i := 1002) (by decide +kernel)) (List.mem_of_getElem? (i := 71) (by decide +kernel)) (List.mem_of_getElem? (i := 1003) (by decide +kernel)) (by decide +kernel)
theorem cs_X6_203 : CsS RX6 203 yX6_cellsLike cX6_cellsLike 6 (some .int) 2 := csS_of (List.mem_of_getElem? (i := 1009) (by decide +kernel)) (List.mem_of_getElem? (i := 1010) (by decide +kernel)) (List.mem_of_getElem? (i := 71) (by decide +kernel)) (List.mem_of_getElem? (i := 1011) (by decide +kernel)) (by decide +kernel)
theorem cs_X6_207 : CsS RX6 207 yX6_isStaff cX6_isStaff 2 (some .boolean) 2 := csS_of (List.mem_of_getElem? (i := 1020) (by decide +kernel)) (List.mem_of_getElem? (i := 1021) (by decide +kernel)) (List.mem_of_getElem? (i := 71) (by decide +kernel)) (List.mem_of_getElem? (i := 1022) (by decide +kernel)) (by decide +kernel)
theorem cs_X6_211 : CsS RX6 211 yX6_isBeat cX6_isBeat 2 (some .boolean) 2 := csS_of (List.mem_of_getElem? (i := 1023) (by decide +kernel)) (List.mem_of_getElem? (i := 1024) (by decide +kernel)) (List.mem_of_getElem? (i := 71) (by decide +kernel)) (List.mem_of_getElem? (i := 1025) (by decide +kernel)) (by decide +kernel)
theorem cs_X6_214 : CsS RX6 214 yX6_isCell cX6_isCell 3 (some .boolean) 3 := csS_of (List.mem_of_getElem? (i := 1017) (by decide +kernel)) (List.mem_of_getElem? (i := 1018) (by decide +kernel)) (List.mem_of_getElem? (i := 71) (by decide +kernel)) (List.mem_of_getElem? (i := 1019) (by decide +kernel)) (by decide +kernel)
theorem cs_X6_217 : CsS RX6 217 yX6_isSetting cX6_isSetting 4 (some .boolean) 2 := csS_of (List.mem_of_getElem? (i := 1038) (by decide +kernel)) (List.mem_of_getElem? (i := 1039) (by decide +kernel)) (List.mem_of_getElem? (i := 71) (by decide +kernel)) (List.mem_of_getElem? (i := 1040) (by decide +kernel)) (by decide +kernel)
theorem cs_X6_220 : CsV RX6 220 yX6_remember cX6_remember 2 none 0 := csV_of (List.mem_of_getElem? (i := 1042) (by decide +kernel)) (List.mem_of_getElem? (i := 1044) (by decide +kernel)) (List.mem_of_getElem? (i := 37) (by decide +kernel)) (List.mem_of_getElem? (i := 71) (by decide +kernel)) (List.mem_of_getElem? (i := 1045) (by decide +kernel)) (by decide +kernel)
theorem cs_X6_223 : CsS RX6 223 yX6_mend cX6_mend 4 none 1 := csS_of (List.mem_of_getElem? (i := 1057) (by decide +kernel)) (List.mem_of_getElem? (i := 1058) (by decide +kernel)) (List.mem_of_getElem? (i := 71) (by decide +kernel)) (List.mem_of_getElem? (i := 1059) (by decide +kernel)) (by decide +kernel)
theorem cs_X6_228 : CsS RX6 228 yX6_canWrite cX6_canWrite 4 (some .boolean) 4 := csS_of (List.mem_of_getElem? (i := 1051) (by decide +kernel)) (List.mem_of_getElem? (i := 1052) (by decide +kernel)) (List.mem_of_getElem? (i := 71) (by decide +kernel)) (List.mem_of_getElem? (i := 1053) (by decide +kernel)) (by decide +kernel)
theorem cs_X6_231 : CsS RX6 231 yX6_put cX6_put 4 none 4 := csS_of (List.mem_of_getElem? (i := 1054) (by decide +kernel)) (List.mem_of_getElem? (i := 1055) (by decide +kernel)) (List.mem_of_getElem? (i := 71) (by decide +kernel)) (List.mem_of_getElem? (i := 1056) (by decide +kernel)) (by decide +kernel)
theorem cs_X6_237 : CsS RX6 237 yX6_canShift cX6_canShift 6 (some .boolean) 3 := csS_of (List.mem_of_getElem? (i := 1065) (by decide +kernel)) (List.mem_of_getElem? (i := 1066) (by decide +kernel)) (List.mem_of_getElem? (i := 71) (by decide +kernel)) (List.mem_of_getElem? (i := 1067) (by decide +kernel)) (by decide +kernel)
theorem cs_X6_240 : CsS RX6 240 yX6_shift cX6_shift 6 (some .int) 3 := csS_of (List.mem_of_getElem? (i := 1068) (by decide +kernel)) (List.mem_of_getElem? (i := 1069) (by decide +kernel)) (List.mem_of_getElem? (i := 71) (by decide +kernel)) (List.mem_of_getElem? (i := 1070) (by decide +kernel)) (by decide +kernel)
theorem cs_X6_244 : CsS RX6 244 yX6_swap cX6_swap 7 (some .int) 3 := csS_of (List.mem_of_getElem? (i := 1075) (by decide +kernel)) (List.mem_of_getElem? (i := 1076) (by decide +kernel)) (List.mem_of_getElem? (i := 71) (by decide +kernel)) (List.mem_of_getElem? (i := 1077) (by decide +kernel)) (by decide +kernel)
theorem cs_X6_247 : CsS RX6 247 yX6_dropBeat cX6_dropBeat 4 none 2 := csS_of (List.mem_of_getElem? (i := 1090) (by decide +kernel)) (List.mem_of_getElem? (i := 1091) (by decide +kernel)) (List.mem_of_getElem? (i := 71) (by decide +kernel)) (List.mem_of_getElem? (i := 1092) (by decide +kernel)) (by decide +kernel)
theorem cs_X6_256 : CsV RX6 256 yX6_wholeOf cX6_wholeOf 8 (some .int) 2 := csV_of (List.mem_of_getElem? (i := 1211) (by decide +kernel)) (List.mem_of_getElem? (i := 1213) (by decide +kernel)) (List.mem_of_getElem? (i := 61) (by decide +kernel)) (List.mem_of_getElem? (i := 71) (by decide +kernel)) (List.mem_of_getElem? (i := 1214) (by decide +kernel)) (by decide +kernel)
theorem cs_X6_259 : CsV RX6 259 yX6_writes cX6_writes 4 (some .boolean) 3 := csV_of (List.mem_of_getElem? (i := 1242) (by decide +kernel)) (List.mem_of_getElem? (i := 1244) (by decide +kernel)) (List.mem_of_getElem? (i := 63) (by decide +kernel)) (List.mem_of_getElem? (i := 71) (by decide +kernel)) (List.mem_of_getElem? (i := 1245) (by decide +kernel)) (by decide +kernel)
theorem cs_X6_269 : CsV RX6 269 yX6_does cX6_does 5 (some .boolean) 4 := csV_of (List.mem_of_getElem? (i := 1238) (by decide +kernel)) (List.mem_of_getElem? (i := 1240) (by decide +kernel)) (List.mem_of_getElem? (i := 62) (by decide +kernel)) (List.mem_of_getElem? (i := 71) (by decide +kernel)) (List.mem_of_getElem? (i := 1241) (by decide +kernel)) (by decide +kernel)
theorem ma_X0_82 : MaK RX0 82 := ⟨by decide +kernel, by decide +kernel, by decide +kernel, by decide +kernel⟩
end
section
theorem dX0_init_0 : decode cX0_init 0 = .ok (.aload_n 0, 1) := by decide +kernel
theorem dX0_init_1 : decode cX0_init 1 = .ok (.invokespecial 3, 3) := by decide +kernel
theorem dX0_init_4 : decode cX0_init 4 = .ok (.aload_n 0, 1) := by decide +kernel
theorem dX0_init_5 : decode cX0_init 5 = .ok (.iconst 2, 1) := by decide +kernel
theorem dX0_init_6 : decode cX0_init 6 = .ok (.newarray .int, 2) := by decide +kernel
theorem dX0_init_8 : decode cX0_init 8 = .ok (.putfield 9, 3) := by decide +kernel
theorem dX0_init_11 : decode cX0_init 11 = .ok (.aload_n 0, 1) := by decide +kernel
theorem dX0_init_12 : decode cX0_init 12 = .ok (.iconst 4, 1) := by decide +kernel
theorem dX0_init_13 : decode cX0_init 13 = .ok (.newarray .int, 2) := by decide +kernel
theorem dX0_init_15 : decode cX0_init 15 = .ok (.putfield 15, 3) := by decide +kernel
theorem dX0_init_18 : decode cX0_init 18 = .ok (.aload_n 0, 1) := by decide +kernel
theorem dX0_init_19 : decode cX0_init 19 = .ok (.iconst 4, 1) := by decide +kernel
theorem dX0_init_20 : decode cX0_init 20 = .ok (.newarray .int, 2) := by decide +kernel
theorem dX0_init_22 : decode cX0_init 22 = .ok (.putfield 18, 3) := by decide +kernel
theorem dX0_init_25 : decode cX0_init 25 = .ok (.aload_n 0, 1) := by decide +kernel
theorem dX0_init_26 : decode cX0_init 26 = .ok (.iconst 4, 1) := by decide +kernel
theorem dX0_init_27 : decode cX0_init 27 = .ok (.newarray .int, 2) := by decide +kernel
theorem dX0_init_29 : decode cX0_init 29 = .ok (.putfield 21, 3) := by decide +kernel
theorem dX0_init_32 : decode cX0_init 32 = .ok (.aload_n 0, 1) := by decide +kernel
theorem dX0_init_33 : decode cX0_init 33 = .ok (.iconst 5, 1) := by decide +kernel
theorem dX0_init_34 : decode cX0_init 34 = .ok (.newarray .int, 2) := by decide +kernel
theorem dX0_init_36 : decode cX0_init 36 = .ok (.putfield 24, 3) := by decide +kernel
theorem dX0_init_39 : decode cX0_init 39 = .ok (.aload_n 0, 1) := by decide +kernel
theorem dX0_init_40 : decode cX0_init 40 = .ok (.iconst 2, 1) := by decide +kernel
theorem dX0_init_41 : decode cX0_init 41 = .ok (.iconst 5, 1) := by decide +kernel
theorem dX0_init_42 : decode cX0_init 42 = .ok (.multianewarray 27 2, 4) := by decide +kernel
theorem dX0_init_46 : decode cX0_init 46 = .ok (.putfield 29, 3) := by decide +kernel
theorem dX0_init_49 : decode cX0_init 49 = .ok (.aload_n 0, 1) := by decide +kernel
theorem dX0_init_50 : decode cX0_init 50 = .ok (.iconst 2, 1) := by decide +kernel
theorem dX0_init_51 : decode cX0_init 51 = .ok (.iconst 5, 1) := by decide +kernel
theorem dX0_init_52 : decode cX0_init 52 = .ok (.multianewarray 27 2, 4) := by decide +kernel
theorem dX0_init_56 : decode cX0_init 56 = .ok (.putfield 32, 3) := by decide +kernel
theorem dX0_init_59 : decode cX0_init 59 = .ok (.iconst 0, 1) := by decide +kernel
theorem dX0_init_60 : decode cX0_init 60 = .ok (.istore_n 1, 1) := by decide +kernel
theorem dX0_init_61 : decode cX0_init 61 = .ok (.iload_n 1, 1) := by decide +kernel
theorem dX0_init_62 : decode cX0_init 62 = .ok (.iconst 2, 1) := by decide +kernel
theorem dX0_init_63 : decode cX0_init 63 = .ok (.if_icmp .ge 32, 3) := by decide +kernel
theorem dX0_init_66 : decode cX0_init 66 = .ok (.iconst 0, 1) := by decide +kernel
theorem dX0_init_67 : decode cX0_init 67 = .ok (.istore_n 2, 1) := by decide +kernel
theorem dX0_init_68 : decode cX0_init 68 = .ok (.iload_n 2, 1) := by decide +kernel
theorem dX0_init_69 : decode cX0_init 69 = .ok (.iconst 5, 1) := by decide +kernel
theorem dX0_init_70 : decode cX0_init 70 = .ok (.if_icmp .ge 19, 3) := by decide +kernel
theorem dX0_init_73 : decode cX0_init 73 = .ok (.aload_n 0, 1) := by decide +kernel
theorem dX0_init_74 : decode cX0_init 74 = .ok (.getfield 29, 3) := by decide +kernel
theorem dX0_init_77 : decode cX0_init 77 = .ok (.iload_n 1, 1) := by decide +kernel
theorem dX0_init_78 : decode cX0_init 78 = .ok (.aaload, 1) := by decide +kernel
theorem dX0_init_79 : decode cX0_init 79 = .ok (.iload_n 2, 1) := by decide +kernel
theorem dX0_init_80 : decode cX0_init 80 = .ok (.bipush (-9), 2) := by decide +kernel
theorem dX0_init_82 : decode cX0_init 82 = .ok (.iastore, 1) := by decide +kernel
theorem dX0_init_83 : decode cX0_init 83 = .ok (.iinc 2 1, 3) := by decide +kernel
theorem dX0_init_86 : decode cX0_init 86 = .ok (.goto (-18), 3) := by decide +kernel
theorem dX0_init_89 : decode cX0_init 89 = .ok (.iinc 1 1, 3) := by decide +kernel
theorem dX0_init_92 : decode cX0_init 92 = .ok (.goto (-31), 3) := by decide +kernel
theorem dX0_init_95 : decode cX0_init 95 = .ok (.return_, 1) := by decide +kernel
theorem dX0_read_0 : decode cX0_read 0 = .ok (.aload_n 0, 1) := by decide +kernel
theorem dX0_read_1 : decode cX0_read 1 = .ok (.aload_n 1, 1) := by decide +kernel
theorem dX0_read_2 : decode cX0_read 2 = .ok (.invokevirtual 35, 3) := by decide +kernel
theorem dX0_read_5 : decode cX0_read 5 = .ok (.aload_n 0, 1) := by decide +kernel
theorem dX0_read_6 : decode cX0_read 6 = .ok (.aload_n 1, 1) := by decide +kernel
theorem dX0_read_7 : decode cX0_read 7 = .ok (.iload_n 2, 1) := by decide +kernel
theorem dX0_read_8 : decode cX0_read 8 = .ok (.invokevirtual 39, 3) := by decide +kernel
theorem dX0_read_11 : decode cX0_read 11 = .ok (.aload_n 1, 1) := by decide +kernel
theorem dX0_read_12 : decode cX0_read 12 = .ok (.getfield 43, 3) := by decide +kernel
theorem dX0_read_15 : decode cX0_read 15 = .ok (.iconst 1, 1) := by decide +kernel
theorem dX0_read_16 : decode cX0_read 16 = .ok (.isub, 1) := by decide +kernel
theorem dX0_read_17 : decode cX0_read 17 = .ok (.istore_n 3, 1) := by decide +kernel
theorem dX0_read_18 : decode cX0_read 18 = .ok (.iconst 1, 1) := by decide +kernel
theorem dX0_read_19 : decode cX0_read 19 = .ok (.istore 4, 2) := by decide +kernel
theorem dX0_read_21 : decode cX0_read 21 = .ok (.iload 4, 2) := by decide +kernel
theorem dX0_read_23 : decode cX0_read 23 = .ok (.iload_n 3, 1) := by decide +kernel
theorem dX0_read_24 : decode cX0_read 24 = .ok (.if_icmp .ge 33, 3) := by decide +kernel
theorem dX0_read_27 : decode cX0_read 27 = .ok (.aload_n 0, 1) := by decide +kernel
theorem dX0_read_28 : decode cX0_read 28 = .ok (.getfield 18, 3) := by decide +kernel
theorem dX0_read_31 : decode cX0_read 31 = .ok (.iload 4, 2) := by decide +kernel
theorem dX0_read_33 : decode cX0_read 33 = .ok (.iaload, 1) := by decide +kernel
theorem dX0_read_34 : decode cX0_read 34 = .ok (.ifCond .ne 17, 3) := by decide +kernel
theorem dX0_read_37 : decode cX0_read 37 = .ok (.aload_n 0, 1) := by decide +kernel
theorem dX0_read_38 : decode cX0_read 38 = .ok (.getfield 18, 3) := by decide +kernel
theorem dX0_read_41 : decode cX0_read 41 = .ok (.iload 4, 2) := by decide +kernel
theorem dX0_read_43 : decode cX0_read 43 = .ok (.aload_n 0, 1) := by decide +kernel
theorem dX0_read_44 : decode cX0_read 44 = .ok (.iload 4, 2) := by decide +kernel
theorem dX0_read_46 : decode cX0_read 46 = .ok (.iload_n 3, 1) := by decide +kernel
theorem dX0_read_47 : decode cX0_read 47 = .ok (.invokevirtual 49, 3) := by decide +kernel
theorem dX0_read_50 : decode cX0_read 50 = .ok (.iastore, 1) := by decide +kernel
theorem dX0_read_51 : decode cX0_read 51 = .ok (.iinc 4 1, 3) := by decide +kernel
theorem dX0_read_54 : decode cX0_read 54 = .ok (.goto (-33), 3) := by decide +kernel
theorem dX0_read_57 : decode cX0_read 57 = .ok (.aload_n 0, 1) := by decide +kernel
theorem dX0_read_58 : decode cX0_read 58 = .ok (.invokevirtual 53, 3) := by decide +kernel
theorem dX0_read_61 : decode cX0_read 61 = .ok (.iload_n 3, 1) := by decide +kernel
theorem dX0_read_62 : decode cX0_read 62 = .ok (.iconst 1, 1) := by decide +kernel
theorem dX0_read_63 : decode cX0_read 63 = .ok (.isub, 1) := by decide +kernel
theorem dX0_read_64 : decode cX0_read 64 = .ok (.istore 4, 2) := by decide +kernel
theorem dX0_read_66 : decode cX0_read 66 = .ok (.iload 4, 2) := by decide +kernel
theorem dX0_read_68 : decode cX0_read 68 = .ok (.iconst 1, 1) := by decide +kernel
theorem dX0_read_69 : decode cX0_read 69 = .ok (.if_icmp .lt 38, 3) := by decide +kernel
theorem dX0_read_72 : decode cX0_read 72 = .ok (.aload_n 0, 1) := by decide +kernel
theorem dX0_read_73 : decode cX0_read 73 = .ok (.getfield 56, 3) := by decide +kernel
theorem dX0_read_76 : decode cX0_read 76 = .ok (.ifCond .ne 31, 3) := by decide +kernel
theorem dX0_read_79 : decode cX0_read 79 = .ok (.aload_n 0, 1) := by decide +kernel
theorem dX0_read_80 : decode cX0_read 80 = .ok (.getfield 18, 3) := by decide +kernel
theorem dX0_read_83 : decode cX0_read 83 = .ok (.iload 4, 2) := by decide +kernel
theorem dX0_read_85 : decode cX0_read 85 = .ok (.iaload, 1) := by decide +kernel
theorem dX0_read_86 : decode cX0_read 86 = .ok (.ifCond .ne 15, 3) := by decide +kernel
theorem dX0_read_89 : decode cX0_read 89 = .ok (.aload_n 0, 1) := by decide +kernel
theorem dX0_read_90 : decode cX0_read 90 = .ok (.getfield 18, 3) := by decide +kernel
theorem dX0_read_93 : decode cX0_read 93 = .ok (.iload 4, 2) := by decide +kernel
theorem dX0_read_95 : decode cX0_read 95 = .ok (.iconst 3, 1) := by decide +kernel
theorem dX0_read_96 : decode cX0_read 96 = .ok (.iastore, 1) := by decide +kernel
theorem dX0_read_97 : decode cX0_read 97 = .ok (.aload_n 0, 1) := by decide +kernel
theorem dX0_read_98 : decode cX0_read 98 = .ok (.invokevirtual 53, 3) := by decide +kernel
theorem dX0_read_101 : decode cX0_read 101 = .ok (.iinc 4 (-1), 3) := by decide +kernel
theorem dX0_read_104 : decode cX0_read 104 = .ok (.goto (-38), 3) := by decide +kernel
theorem dX0_read_107 : decode cX0_read 107 = .ok (.return_, 1) := by decide +kernel
theorem dX0_readSettings_0 : decode cX0_readSettings 0 = .ok (.iconst 0, 1) := by decide +kernel
theorem dX0_readSettings_1 : decode cX0_readSettings 1 = .ok (.istore_n 2, 1) := by decide +kernel
theorem dX0_readSettings_2 : decode cX0_readSettings 2 = .ok (.iload_n 2, 1) := by decide +kernel
theorem dX0_readSettings_3 : decode cX0_readSettings 3 = .ok (.iconst 2, 1) := by decide +kernel
theorem dX0_readSettings_4 : decode cX0_readSettings 4 = .ok (.if_icmp .ge 20, 3) := by decide +kernel
theorem dX0_readSettings_7 : decode cX0_readSettings 7 = .ok (.aload_n 0, 1) := by decide +kernel
theorem dX0_readSettings_8 : decode cX0_readSettings 8 = .ok (.getfield 9, 3) := by decide +kernel
theorem dX0_readSettings_11 : decode cX0_readSettings 11 = .ok (.iload_n 2, 1) := by decide +kernel
theorem dX0_readSettings_12 : decode cX0_readSettings 12 = .ok (.aload_n 1, 1) := by decide +kernel
theorem dX0_readSettings_13 : decode cX0_readSettings 13 = .ok (.iload_n 2, 1) := by decide +kernel
theorem dX0_readSettings_14 : decode cX0_readSettings 14 = .ok (.invokevirtual 59, 3) := by decide +kernel
theorem dX0_readSettings_17 : decode cX0_readSettings 17 = .ok (.iastore, 1) := by decide +kernel
theorem dX0_readSettings_18 : decode cX0_readSettings 18 = .ok (.iinc 2 1, 3) := by decide +kernel
theorem dX0_readSettings_21 : decode cX0_readSettings 21 = .ok (.goto (-19), 3) := by decide +kernel
theorem dX0_readSettings_24 : decode cX0_readSettings 24 = .ok (.aload_n 0, 1) := by decide +kernel
theorem dX0_readSettings_25 : decode cX0_readSettings 25 = .ok (.aload_n 1, 1) := by decide +kernel
theorem dX0_readSettings_26 : decode cX0_readSettings 26 = .ok (.iconst 2, 1) := by decide +kernel
theorem dX0_readSettings_27 : decode cX0_readSettings 27 = .ok (.invokevirtual 59, 3) := by decide +kernel
theorem dX0_readSettings_30 : decode cX0_readSettings 30 = .ok (.putfield 63, 3) := by decide +kernel
theorem dX0_readSettings_33 : decode cX0_readSettings 33 = .ok (.aload_n 0, 1) := by decide +kernel
theorem dX0_readSettings_34 : decode cX0_readSettings 34 = .ok (.aload_n 1, 1) := by decide +kernel
theorem dX0_readSettings_35 : decode cX0_readSettings 35 = .ok (.iconst 3, 1) := by decide +kernel
theorem dX0_readSettings_36 : decode cX0_readSettings 36 = .ok (.invokevirtual 59, 3) := by decide +kernel
theorem dX0_readSettings_39 : decode cX0_readSettings 39 = .ok (.putfield 66, 3) := by decide +kernel
theorem dX0_readSettings_42 : decode cX0_readSettings 42 = .ok (.aload_n 0, 1) := by decide +kernel
theorem dX0_readSettings_43 : decode cX0_readSettings 43 = .ok (.aload_n 1, 1) := by decide +kernel
theorem dX0_readSettings_44 : decode cX0_readSettings 44 = .ok (.iconst 4, 1) := by decide +kernel
theorem dX0_readSettings_45 : decode cX0_readSettings 45 = .ok (.invokevirtual 59, 3) := by decide +kernel
theorem dX0_readSettings_48 : decode cX0_readSettings 48 = .ok (.iconst 1, 1) := by decide +kernel
theorem dX0_readSettings_49 : decode cX0_readSettings 49 = .ok (.if_icmp .ne 7, 3) := by decide +kernel
theorem dX0_readSettings_52 : decode cX0_readSettings 52 = .ok (.iconst 1, 1) := by decide +kernel
theorem dX0_readSettings_53 : decode cX0_readSettings 53 = .ok (.goto 4, 3) := by decide +kernel
theorem dX0_readSettings_56 : decode cX0_readSettings 56 = .ok (.iconst 0, 1) := by decide +kernel
theorem dX0_readSettings_57 : decode cX0_readSettings 57 = .ok (.putfield 69, 3) := by decide +kernel
theorem dX0_readSettings_60 : decode cX0_readSettings 60 = .ok (.return_, 1) := by decide +kernel
theorem dX0_readNotes_0 : decode cX0_readNotes 0 = .ok (.aload_n 0, 1) := by decide +kernel
theorem dX0_readNotes_1 : decode cX0_readNotes 1 = .ok (.iconst 0, 1) := by decide +kernel
theorem dX0_readNotes_2 : decode cX0_readNotes 2 = .ok (.putfield 73, 3) := by decide +kernel
theorem dX0_readNotes_5 : decode cX0_readNotes 5 = .ok (.iconst 0, 1) := by decide +kernel
theorem dX0_readNotes_6 : decode cX0_readNotes 6 = .ok (.istore_n 3, 1) := by decide +kernel
theorem dX0_readNotes_7 : decode cX0_readNotes 7 = .ok (.iload_n 3, 1) := by decide +kernel
theorem dX0_readNotes_8 : decode cX0_readNotes 8 = .ok (.iconst 4, 1) := by decide +kernel
theorem dX0_readNotes_9 : decode cX0_readNotes 9 = .ok (.if_icmp .ge 67, 3) := by decide +kernel
theorem dX0_readNotes_12 : decode cX0_readNotes 12 = .ok (.aload_n 0, 1) := by decide +kernel
theorem dX0_readNotes_13 : decode cX0_readNotes 13 = .ok (.getfield 15, 3) := by decide +kernel
theorem dX0_readNotes_16 : decode cX0_readNotes 16 = .ok (.iload_n 3, 1) := by decide +kernel
theorem dX0_readNotes_17 : decode cX0_readNotes 17 = .ok (.aload_n 1, 1) := by decide +kernel
theorem dX0_readNotes_18 : decode cX0_readNotes 18 = .ok (.iload_n 3, 1) := by decide +kernel
theorem dX0_readNotes_19 : decode cX0_readNotes 19 = .ok (.iload_n 2, 1) := by decide +kernel
theorem dX0_readNotes_20 : decode cX0_readNotes 20 = .ok (.invokevirtual 76, 3) := by decide +kernel
theorem dX0_readNotes_23 : decode cX0_readNotes 23 = .ok (.iastore, 1) := by decide +kernel
theorem dX0_readNotes_24 : decode cX0_readNotes 24 = .ok (.aload_n 0, 1) := by decide +kernel
theorem dX0_readNotes_25 : decode cX0_readNotes 25 = .ok (.getfield 18, 3) := by decide +kernel
theorem dX0_readNotes_28 : decode cX0_readNotes 28 = .ok (.iload_n 3, 1) := by decide +kernel
theorem dX0_readNotes_29 : decode cX0_readNotes 29 = .ok (.aload_n 0, 1) := by decide +kernel
theorem dX0_readNotes_30 : decode cX0_readNotes 30 = .ok (.getfield 15, 3) := by decide +kernel
theorem dX0_readNotes_33 : decode cX0_readNotes 33 = .ok (.iload_n 3, 1) := by decide +kernel
theorem dX0_readNotes_34 : decode cX0_readNotes 34 = .ok (.iaload, 1) := by decide +kernel
theorem dX0_readNotes_35 : decode cX0_readNotes 35 = .ok (.bipush (-9), 2) := by decide +kernel
theorem dX0_readNotes_37 : decode cX0_readNotes 37 = .ok (.if_icmp .ne 8, 3) := by decide +kernel
theorem dX0_readNotes_40 : decode cX0_readNotes 40 = .ok (.bipush (-9), 2) := by decide +kernel
theorem dX0_readNotes_42 : decode cX0_readNotes 42 = .ok (.goto 4, 3) := by decide +kernel
theorem dX0_readNotes_45 : decode cX0_readNotes 45 = .ok (.iconst 0, 1) := by decide +kernel
theorem dX0_readNotes_46 : decode cX0_readNotes 46 = .ok (.iastore, 1) := by decide +kernel
theorem dX0_readNotes_47 : decode cX0_readNotes 47 = .ok (.aload_n 1, 1) := by decide +kernel
theorem dX0_readNotes_48 : decode cX0_readNotes 48 = .ok (.iload_n 3, 1) := by decide +kernel
theorem dX0_readNotes_49 : decode cX0_readNotes 49 = .ok (.iload_n 2, 1) := by decide +kernel
theorem dX0_readNotes_50 : decode cX0_readNotes 50 = .ok (.invokevirtual 79, 3) := by decide +kernel
theorem dX0_readNotes_53 : decode cX0_readNotes 53 = .ok (.bipush 99, 2) := by decide +kernel
theorem dX0_readNotes_55 : decode cX0_readNotes 55 = .ok (.if_icmp .ne 15, 3) := by decide +kernel
theorem dX0_readNotes_58 : decode cX0_readNotes 58 = .ok (.aload_n 0, 1) := by decide +kernel
theorem dX0_readNotes_59 : decode cX0_readNotes 59 = .ok (.dup, 1) := by decide +kernel
theorem dX0_readNotes_60 : decode cX0_readNotes 60 = .ok (.getfield 73, 3) := by decide +kernel
theorem dX0_readNotes_63 : decode cX0_readNotes 63 = .ok (.iconst 1, 1) := by decide +kernel
theorem dX0_readNotes_64 : decode cX0_readNotes 64 = .ok (.iload_n 3, 1) := by decide +kernel
theorem dX0_readNotes_65 : decode cX0_readNotes 65 = .ok (.ishl, 1) := by decide +kernel
theorem dX0_readNotes_66 : decode cX0_readNotes 66 = .ok (.ior, 1) := by decide +kernel
theorem dX0_readNotes_67 : decode cX0_readNotes 67 = .ok (.putfield 73, 3) := by decide +kernel
theorem dX0_readNotes_70 : decode cX0_readNotes 70 = .ok (.iinc 3 1, 3) := by decide +kernel
theorem dX0_readNotes_73 : decode cX0_readNotes 73 = .ok (.goto (-66), 3) := by decide +kernel
theorem dX0_readNotes_76 : decode cX0_readNotes 76 = .ok (.return_, 1) := by decide +kernel
theorem dX0_reasonFor_0 : decode cX0_reasonFor 0 = .ok (.iconst 0, 1) := by decide +kernel
theorem dX0_reasonFor_1 : decode cX0_reasonFor 1 = .ok (.istore_n 3, 1) := by decide +kernel
theorem dX0_reasonFor_2 : decode cX0_reasonFor 2 = .ok (.iconst 0, 1) := by decide +kernel
theorem dX0_reasonFor_3 : decode cX0_reasonFor 3 = .ok (.istore 4, 2) := by decide +kernel
theorem dX0_reasonFor_5 : decode cX0_reasonFor 5 = .ok (.iload 4, 2) := by decide +kernel
theorem dX0_reasonFor_7 : decode cX0_reasonFor 7 = .ok (.iconst 4, 1) := by decide +kernel
theorem dX0_reasonFor_8 : decode cX0_reasonFor 8 = .ok (.if_icmp .ge 74, 3) := by decide +kernel
theorem dX0_reasonFor_11 : decode cX0_reasonFor 11 = .ok (.iload 4, 2) := by decide +kernel
theorem dX0_reasonFor_13 : decode cX0_reasonFor 13 = .ok (.iload_n 1, 1) := by decide +kernel
theorem dX0_reasonFor_14 : decode cX0_reasonFor 14 = .ok (.if_icmp .lt 9, 3) := by decide +kernel
theorem dX0_reasonFor_17 : decode cX0_reasonFor 17 = .ok (.iload 4, 2) := by decide +kernel
theorem dX0_reasonFor_19 : decode cX0_reasonFor 19 = .ok (.iload_n 2, 1) := by decide +kernel
theorem dX0_reasonFor_20 : decode cX0_reasonFor 20 = .ok (.if_icmp .ne 56, 3) := by decide +kernel
theorem dX0_reasonFor_23 : decode cX0_reasonFor 23 = .ok (.aload_n 0, 1) := by decide +kernel
theorem dX0_reasonFor_24 : decode cX0_reasonFor 24 = .ok (.getfield 18, 3) := by decide +kernel
theorem dX0_reasonFor_27 : decode cX0_reasonFor 27 = .ok (.iload 4, 2) := by decide +kernel
theorem dX0_reasonFor_29 : decode cX0_reasonFor 29 = .ok (.iaload, 1) := by decide +kernel
theorem dX0_reasonFor_30 : decode cX0_reasonFor 30 = .ok (.ifCond .ne 46, 3) := by decide +kernel
theorem dX0_reasonFor_33 : decode cX0_reasonFor 33 = .ok (.aload_n 0, 1) := by decide +kernel
theorem dX0_reasonFor_34 : decode cX0_reasonFor 34 = .ok (.getfield 15, 3) := by decide +kernel
theorem dX0_reasonFor_37 : decode cX0_reasonFor 37 = .ok (.iload_n 1, 1) := by decide +kernel
theorem dX0_reasonFor_38 : decode cX0_reasonFor 38 = .ok (.iaload, 1) := by decide +kernel
theorem dX0_reasonFor_39 : decode cX0_reasonFor 39 = .ok (.aload_n 0, 1) := by decide +kernel
theorem dX0_reasonFor_40 : decode cX0_reasonFor 40 = .ok (.getfield 15, 3) := by decide +kernel
theorem dX0_reasonFor_43 : decode cX0_reasonFor 43 = .ok (.iload 4, 2) := by decide +kernel
theorem dX0_reasonFor_45 : decode cX0_reasonFor 45 = .ok (.iaload, 1) := by decide +kernel
theorem dX0_reasonFor_46 : decode cX0_reasonFor 46 = .ok (.isub, 1) := by decide +kernel
theorem dX0_reasonFor_47 : decode cX0_reasonFor 47 = .ok (.invokestatic 82, 3) := by decide +kernel
theorem dX0_reasonFor_50 : decode cX0_reasonFor 50 = .ok (.istore 5, 2) := by decide +kernel
theorem dX0_reasonFor_52 : decode cX0_reasonFor 52 = .ok (.iload 5, 2) := by decide +kernel
theorem dX0_reasonFor_54 : decode cX0_reasonFor 54 = .ok (.ifCond .ne 5, 3) := by decide +kernel
theorem dX0_reasonFor_57 : decode cX0_reasonFor 57 = .ok (.iconst 1, 1) := by decide +kernel
theorem dX0_reasonFor_58 : decode cX0_reasonFor 58 = .ok (.ireturn, 1) := by decide +kernel
theorem dX0_reasonFor_59 : decode cX0_reasonFor 59 = .ok (.aload_n 0, 1) := by decide +kernel
theorem dX0_reasonFor_60 : decode cX0_reasonFor 60 = .ok (.getfield 69, 3) := by decide +kernel
theorem dX0_reasonFor_63 : decode cX0_reasonFor 63 = .ok (.ifCond .eq 13, 3) := by decide +kernel
theorem dX0_reasonFor_66 : decode cX0_reasonFor 66 = .ok (.iload 5, 2) := by decide +kernel
theorem dX0_reasonFor_68 : decode cX0_reasonFor 68 = .ok (.bipush 12, 2) := by decide +kernel
theorem dX0_reasonFor_70 : decode cX0_reasonFor 70 = .ok (.irem, 1) := by decide +kernel
theorem dX0_reasonFor_71 : decode cX0_reasonFor 71 = .ok (.ifCond .ne 5, 3) := by decide +kernel
theorem dX0_reasonFor_74 : decode cX0_reasonFor 74 = .ok (.iconst 2, 1) := by decide +kernel
theorem dX0_reasonFor_75 : decode cX0_reasonFor 75 = .ok (.istore_n 3, 1) := by decide +kernel
theorem dX0_reasonFor_76 : decode cX0_reasonFor 76 = .ok (.iinc 4 1, 3) := by decide +kernel
theorem dX0_reasonFor_79 : decode cX0_reasonFor 79 = .ok (.goto (-74), 3) := by decide +kernel
theorem dX0_reasonFor_82 : decode cX0_reasonFor 82 = .ok (.iload_n 3, 1) := by decide +kernel
theorem dX0_reasonFor_83 : decode cX0_reasonFor 83 = .ok (.ireturn, 1) := by decide +kernel
theorem dX0_share_0 : decode cX0_share 0 = .ok (.aload_n 0, 1) := by decide +kernel
theorem dX0_share_1 : decode cX0_share 1 = .ok (.iconst 0, 1) := by decide +kernel
theorem dX0_share_2 : decode cX0_share 2 = .ok (.putfield 87, 3) := by decide +kernel
theorem dX0_share_5 : decode cX0_share 5 = .ok (.iconst 3, 1) := by decide +kernel
theorem dX0_share_6 : decode cX0_share 6 = .ok (.istore_n 1, 1) := by decide +kernel
theorem dX0_share_7 : decode cX0_share 7 = .ok (.iload_n 1, 1) := by decide +kernel
theorem dX0_share_8 : decode cX0_share 8 = .ok (.ifCond .lt 23, 3) := by decide +kernel
theorem dX0_share_11 : decode cX0_share 11 = .ok (.aload_n 0, 1) := by decide +kernel
theorem dX0_share_12 : decode cX0_share 12 = .ok (.getfield 18, 3) := by decide +kernel
theorem dX0_share_15 : decode cX0_share 15 = .ok (.iload_n 1, 1) := by decide +kernel
theorem dX0_share_16 : decode cX0_share 16 = .ok (.iaload, 1) := by decide +kernel
theorem dX0_share_17 : decode cX0_share 17 = .ok (.ifCond .ne 8, 3) := by decide +kernel
theorem dX0_share_20 : decode cX0_share 20 = .ok (.aload_n 0, 1) := by decide +kernel
theorem dX0_share_21 : decode cX0_share 21 = .ok (.iload_n 1, 1) := by decide +kernel
theorem dX0_share_22 : decode cX0_share 22 = .ok (.invokevirtual 90, 3) := by decide +kernel
theorem dX0_share_25 : decode cX0_share 25 = .ok (.iinc 1 (-1), 3) := by decide +kernel
theorem dX0_share_28 : decode cX0_share 28 = .ok (.goto (-21), 3) := by decide +kernel
theorem dX0_share_31 : decode cX0_share 31 = .ok (.iconst 0, 1) := by decide +kernel
theorem dX0_share_32 : decode cX0_share 32 = .ok (.istore_n 1, 1) := by decide +kernel
theorem dX0_share_33 : decode cX0_share 33 = .ok (.iload_n 1, 1) := by decide +kernel
theorem dX0_share_34 : decode cX0_share 34 = .ok (.aload_n 0, 1) := by decide +kernel
theorem dX0_share_35 : decode cX0_share 35 = .ok (.getfield 87, 3) := by decide +kernel
theorem dX0_share_38 : decode cX0_share 38 = .ok (.if_icmp .ge 32, 3) := by decide +kernel
theorem dX0_share_41 : decode cX0_share 41 = .ok (.aload_n 0, 1) := by decide +kernel
theorem dX0_share_42 : decode cX0_share 42 = .ok (.getfield 24, 3) := by decide +kernel
theorem dX0_share_45 : decode cX0_share 45 = .ok (.iload_n 1, 1) := by decide +kernel
theorem dX0_share_46 : decode cX0_share 46 = .ok (.iconst 1, 1) := by decide +kernel
theorem dX0_share_47 : decode cX0_share 47 = .ok (.iadd, 1) := by decide +kernel
theorem dX0_share_48 : decode cX0_share 48 = .ok (.aload_n 0, 1) := by decide +kernel
theorem dX0_share_49 : decode cX0_share 49 = .ok (.getfield 24, 3) := by decide +kernel
theorem dX0_share_52 : decode cX0_share 52 = .ok (.iload_n 1, 1) := by decide +kernel
theorem dX0_share_53 : decode cX0_share 53 = .ok (.iaload, 1) := by decide +kernel
theorem dX0_share_54 : decode cX0_share 54 = .ok (.iconst 1, 1) := by decide +kernel
theorem dX0_share_55 : decode cX0_share 55 = .ok (.aload_n 0, 1) := by decide +kernel
theorem dX0_share_56 : decode cX0_share 56 = .ok (.getfield 21, 3) := by decide +kernel
theorem dX0_share_59 : decode cX0_share 59 = .ok (.iload_n 1, 1) := by decide +kernel
theorem dX0_share_60 : decode cX0_share 60 = .ok (.iaload, 1) := by decide +kernel
theorem dX0_share_61 : decode cX0_share 61 = .ok (.ishl, 1) := by decide +kernel
theorem dX0_share_62 : decode cX0_share 62 = .ok (.ior, 1) := by decide +kernel
theorem dX0_share_63 : decode cX0_share 63 = .ok (.iastore, 1) := by decide +kernel
theorem dX0_share_64 : decode cX0_share 64 = .ok (.iinc 1 1, 3) := by decide +kernel
theorem dX0_share_67 : decode cX0_share 67 = .ok (.goto (-34), 3) := by decide +kernel
theorem dX0_share_70 : decode cX0_share 70 = .ok (.aload_n 0, 1) := by decide +kernel
theorem dX0_share_71 : decode cX0_share 71 = .ok (.aload_n 0, 1) := by decide +kernel
theorem dX0_share_72 : decode cX0_share 72 = .ok (.getfield 73, 3) := by decide +kernel
theorem dX0_share_75 : decode cX0_share 75 = .ok (.aload_n 0, 1) := by decide +kernel
theorem dX0_share_76 : decode cX0_share 76 = .ok (.getfield 24, 3) := by decide +kernel
theorem dX0_share_79 : decode cX0_share 79 = .ok (.aload_n 0, 1) := by decide +kernel
theorem dX0_share_80 : decode cX0_share 80 = .ok (.getfield 87, 3) := by decide +kernel
theorem dX0_share_83 : decode cX0_share 83 = .ok (.iaload, 1) := by decide +kernel
theorem dX0_share_84 : decode cX0_share 84 = .ok (.iand, 1) := by decide +kernel
theorem dX0_share_85 : decode cX0_share 85 = .ok (.putfield 94, 3) := by decide +kernel
theorem dX0_share_88 : decode cX0_share 88 = .ok (.aload_n 0, 1) := by decide +kernel
theorem dX0_share_89 : decode cX0_share 89 = .ok (.iconst 0, 1) := by decide +kernel
theorem dX0_share_90 : decode cX0_share 90 = .ok (.putfield 56, 3) := by decide +kernel
theorem dX0_share_93 : decode cX0_share 93 = .ok (.iconst 0, 1) := by decide +kernel
theorem dX0_share_94 : decode cX0_share 94 = .ok (.istore_n 1, 1) := by decide +kernel
theorem dX0_share_95 : decode cX0_share 95 = .ok (.iload_n 1, 1) := by decide +kernel
theorem dX0_share_96 : decode cX0_share 96 = .ok (.aload_n 0, 1) := by decide +kernel
theorem dX0_share_97 : decode cX0_share 97 = .ok (.getfield 87, 3) := by decide +kernel
theorem dX0_share_100 : decode cX0_share 100 = .ok (.if_icmp .gt 58, 3) := by decide +kernel
theorem dX0_share_103 : decode cX0_share 103 = .ok (.aload_n 0, 1) := by decide +kernel
theorem dX0_share_104 : decode cX0_share 104 = .ok (.iconst 0, 1) := by decide +kernel
theorem dX0_share_105 : decode cX0_share 105 = .ok (.iload_n 1, 1) := by decide +kernel
theorem dX0_share_106 : decode cX0_share 106 = .ok (.iconst 0, 1) := by decide +kernel
theorem dX0_share_107 : decode cX0_share 107 = .ok (.iload_n 1, 1) := by decide +kernel
theorem dX0_share_108 : decode cX0_share 108 = .ok (.invokevirtual 97, 3) := by decide +kernel
theorem dX0_share_111 : decode cX0_share 111 = .ok (.aload_n 0, 1) := by decide +kernel
theorem dX0_share_112 : decode cX0_share 112 = .ok (.iconst 1, 1) := by decide +kernel
theorem dX0_share_113 : decode cX0_share 113 = .ok (.iload_n 1, 1) := by decide +kernel
theorem dX0_share_114 : decode cX0_share 114 = .ok (.iload_n 1, 1) := by decide +kernel
theorem dX0_share_115 : decode cX0_share 115 = .ok (.aload_n 0, 1) := by decide +kernel
theorem dX0_share_116 : decode cX0_share 116 = .ok (.getfield 87, 3) := by decide +kernel
theorem dX0_share_119 : decode cX0_share 119 = .ok (.invokevirtual 97, 3) := by decide +kernel
theorem dX0_share_122 : decode cX0_share 122 = .ok (.aload_n 0, 1) := by decide +kernel
theorem dX0_share_123 : decode cX0_share 123 = .ok (.iconst 0, 1) := by decide +kernel
theorem dX0_share_124 : decode cX0_share 124 = .ok (.iload_n 1, 1) := by decide +kernel
theorem dX0_share_125 : decode cX0_share 125 = .ok (.invokevirtual 101, 3) := by decide +kernel
theorem dX0_share_128 : decode cX0_share 128 = .ok (.ifCond .eq 24, 3) := by decide +kernel
theorem dX0_share_131 : decode cX0_share 131 = .ok (.aload_n 0, 1) := by decide +kernel
theorem dX0_share_132 : decode cX0_share 132 = .ok (.iconst 1, 1) := by decide +kernel
theorem dX0_share_133 : decode cX0_share 133 = .ok (.iload_n 1, 1) := by decide +kernel
theorem dX0_share_134 : decode cX0_share 134 = .ok (.invokevirtual 101, 3) := by decide +kernel
theorem dX0_share_137 : decode cX0_share 137 = .ok (.ifCond .eq 15, 3) := by decide +kernel
theorem dX0_share_140 : decode cX0_share 140 = .ok (.aload_n 0, 1) := by decide +kernel
theorem dX0_share_141 : decode cX0_share 141 = .ok (.dup, 1) := by decide +kernel
theorem dX0_share_142 : decode cX0_share 142 = .ok (.getfield 56, 3) := by decide +kernel
theorem dX0_share_145 : decode cX0_share 145 = .ok (.iconst 1, 1) := by decide +kernel
theorem dX0_share_146 : decode cX0_share 146 = .ok (.iload_n 1, 1) := by decide +kernel
theorem dX0_share_147 : decode cX0_share 147 = .ok (.ishl, 1) := by decide +kernel
theorem dX0_share_148 : decode cX0_share 148 = .ok (.ior, 1) := by decide +kernel
theorem dX0_share_149 : decode cX0_share 149 = .ok (.putfield 56, 3) := by decide +kernel
theorem dX0_share_152 : decode cX0_share 152 = .ok (.iinc 1 1, 3) := by decide +kernel
theorem dX0_share_155 : decode cX0_share 155 = .ok (.goto (-60), 3) := by decide +kernel
theorem dX0_share_158 : decode cX0_share 158 = .ok (.return_, 1) := by decide +kernel
theorem dX0_insert_0 : decode cX0_insert 0 = .ok (.aload_n 0, 1) := by decide +kernel
theorem dX0_insert_1 : decode cX0_insert 1 = .ok (.getfield 87, 3) := by decide +kernel
theorem dX0_insert_4 : decode cX0_insert 4 = .ok (.istore_n 2, 1) := by decide +kernel
theorem dX0_insert_5 : decode cX0_insert 5 = .ok (.iload_n 2, 1) := by decide +kernel
theorem dX0_insert_6 : decode cX0_insert 6 = .ok (.ifCond .le 45, 3) := by decide +kernel
theorem dX0_insert_9 : decode cX0_insert 9 = .ok (.aload_n 0, 1) := by decide +kernel
theorem dX0_insert_10 : decode cX0_insert 10 = .ok (.getfield 15, 3) := by decide +kernel
theorem dX0_insert_13 : decode cX0_insert 13 = .ok (.aload_n 0, 1) := by decide +kernel
theorem dX0_insert_14 : decode cX0_insert 14 = .ok (.getfield 21, 3) := by decide +kernel
theorem dX0_insert_17 : decode cX0_insert 17 = .ok (.iload_n 2, 1) := by decide +kernel
theorem dX0_insert_18 : decode cX0_insert 18 = .ok (.iconst 1, 1) := by decide +kernel
theorem dX0_insert_19 : decode cX0_insert 19 = .ok (.isub, 1) := by decide +kernel
theorem dX0_insert_20 : decode cX0_insert 20 = .ok (.iaload, 1) := by decide +kernel
theorem dX0_insert_21 : decode cX0_insert 21 = .ok (.iaload, 1) := by decide +kernel
theorem dX0_insert_22 : decode cX0_insert 22 = .ok (.aload_n 0, 1) := by decide +kernel
theorem dX0_insert_23 : decode cX0_insert 23 = .ok (.getfield 15, 3) := by decide +kernel
theorem dX0_insert_26 : decode cX0_insert 26 = .ok (.iload_n 1, 1) := by decide +kernel
theorem dX0_insert_27 : decode cX0_insert 27 = .ok (.iaload, 1) := by decide +kernel
theorem dX0_insert_28 : decode cX0_insert 28 = .ok (.if_icmp .le 23, 3) := by decide +kernel
theorem dX0_insert_31 : decode cX0_insert 31 = .ok (.aload_n 0, 1) := by decide +kernel
theorem dX0_insert_32 : decode cX0_insert 32 = .ok (.getfield 21, 3) := by decide +kernel
theorem dX0_insert_35 : decode cX0_insert 35 = .ok (.iload_n 2, 1) := by decide +kernel
theorem dX0_insert_36 : decode cX0_insert 36 = .ok (.aload_n 0, 1) := by decide +kernel
theorem dX0_insert_37 : decode cX0_insert 37 = .ok (.getfield 21, 3) := by decide +kernel
theorem dX0_insert_40 : decode cX0_insert 40 = .ok (.iload_n 2, 1) := by decide +kernel
theorem dX0_insert_41 : decode cX0_insert 41 = .ok (.iconst 1, 1) := by decide +kernel
theorem dX0_insert_42 : decode cX0_insert 42 = .ok (.isub, 1) := by decide +kernel
theorem dX0_insert_43 : decode cX0_insert 43 = .ok (.iaload, 1) := by decide +kernel
theorem dX0_insert_44 : decode cX0_insert 44 = .ok (.iastore, 1) := by decide +kernel
theorem dX0_insert_45 : decode cX0_insert 45 = .ok (.iinc 2 (-1), 3) := by decide +kernel
theorem dX0_insert_48 : decode cX0_insert 48 = .ok (.goto (-43), 3) := by decide +kernel
theorem dX0_insert_51 : decode cX0_insert 51 = .ok (.aload_n 0, 1) := by decide +kernel
theorem dX0_insert_52 : decode cX0_insert 52 = .ok (.getfield 21, 3) := by decide +kernel
theorem dX0_insert_55 : decode cX0_insert 55 = .ok (.iload_n 2, 1) := by decide +kernel
theorem dX0_insert_56 : decode cX0_insert 56 = .ok (.iload_n 1, 1) := by decide +kernel
theorem dX0_insert_57 : decode cX0_insert 57 = .ok (.iastore, 1) := by decide +kernel
theorem dX0_insert_58 : decode cX0_insert 58 = .ok (.aload_n 0, 1) := by decide +kernel
theorem dX0_insert_59 : decode cX0_insert 59 = .ok (.dup, 1) := by decide +kernel
theorem dX0_insert_60 : decode cX0_insert 60 = .ok (.getfield 87, 3) := by decide +kernel
theorem dX0_insert_63 : decode cX0_insert 63 = .ok (.iconst 1, 1) := by decide +kernel
theorem dX0_insert_64 : decode cX0_insert 64 = .ok (.iadd, 1) := by decide +kernel
theorem dX0_insert_65 : decode cX0_insert 65 = .ok (.putfield 87, 3) := by decide +kernel
theorem dX0_insert_68 : decode cX0_insert 68 = .ok (.return_, 1) := by decide +kernel
theorem dX0_measure_0 : decode cX0_measure 0 = .ok (.iload_n 3, 1) := by decide +kernel
theorem dX0_measure_1 : decode cX0_measure 1 = .ok (.iload 4, 2) := by decide +kernel
theorem dX0_measure_3 : decode cX0_measure 3 = .ok (.if_icmp .ge 59, 3) := by decide +kernel
theorem dX0_measure_6 : decode cX0_measure 6 = .ok (.aload_n 0, 1) := by decide +kernel
theorem dX0_measure_7 : decode cX0_measure 7 = .ok (.getfield 29, 3) := by decide +kernel
theorem dX0_measure_10 : decode cX0_measure 10 = .ok (.iload_n 1, 1) := by decide +kernel
theorem dX0_measure_11 : decode cX0_measure 11 = .ok (.aaload, 1) := by decide +kernel
theorem dX0_measure_12 : decode cX0_measure 12 = .ok (.iload_n 2, 1) := by decide +kernel
theorem dX0_measure_13 : decode cX0_measure 13 = .ok (.aload_n 0, 1) := by decide +kernel
theorem dX0_measure_14 : decode cX0_measure 14 = .ok (.getfield 15, 3) := by decide +kernel
theorem dX0_measure_17 : decode cX0_measure 17 = .ok (.aload_n 0, 1) := by decide +kernel
theorem dX0_measure_18 : decode cX0_measure 18 = .ok (.getfield 21, 3) := by decide +kernel
theorem dX0_measure_21 : decode cX0_measure 21 = .ok (.iload_n 3, 1) := by decide +kernel
theorem dX0_measure_22 : decode cX0_measure 22 = .ok (.iaload, 1) := by decide +kernel
theorem dX0_measure_23 : decode cX0_measure 23 = .ok (.iaload, 1) := by decide +kernel
theorem dX0_measure_24 : decode cX0_measure 24 = .ok (.iastore, 1) := by decide +kernel
theorem dX0_measure_25 : decode cX0_measure 25 = .ok (.aload_n 0, 1) := by decide +kernel
theorem dX0_measure_26 : decode cX0_measure 26 = .ok (.getfield 32, 3) := by decide +kernel
theorem dX0_measure_29 : decode cX0_measure 29 = .ok (.iload_n 1, 1) := by decide +kernel
theorem dX0_measure_30 : decode cX0_measure 30 = .ok (.aaload, 1) := by decide +kernel
theorem dX0_measure_31 : decode cX0_measure 31 = .ok (.iload_n 2, 1) := by decide +kernel
theorem dX0_measure_32 : decode cX0_measure 32 = .ok (.aload_n 0, 1) := by decide +kernel
theorem dX0_measure_33 : decode cX0_measure 33 = .ok (.getfield 15, 3) := by decide +kernel
theorem dX0_measure_36 : decode cX0_measure 36 = .ok (.aload_n 0, 1) := by decide +kernel
theorem dX0_measure_37 : decode cX0_measure 37 = .ok (.getfield 21, 3) := by decide +kernel
theorem dX0_measure_40 : decode cX0_measure 40 = .ok (.iload 4, 2) := by decide +kernel
theorem dX0_measure_42 : decode cX0_measure 42 = .ok (.iconst 1, 1) := by decide +kernel
theorem dX0_measure_43 : decode cX0_measure 43 = .ok (.isub, 1) := by decide +kernel
theorem dX0_measure_44 : decode cX0_measure 44 = .ok (.iaload, 1) := by decide +kernel
theorem dX0_measure_45 : decode cX0_measure 45 = .ok (.iaload, 1) := by decide +kernel
theorem dX0_measure_46 : decode cX0_measure 46 = .ok (.aload_n 0, 1) := by decide +kernel
theorem dX0_measure_47 : decode cX0_measure 47 = .ok (.getfield 15, 3) := by decide +kernel
theorem dX0_measure_50 : decode cX0_measure 50 = .ok (.aload_n 0, 1) := by decide +kernel
theorem dX0_measure_51 : decode cX0_measure 51 = .ok (.getfield 21, 3) := by decide +kernel
theorem dX0_measure_54 : decode cX0_measure 54 = .ok (.iload_n 3, 1) := by decide +kernel
theorem dX0_measure_55 : decode cX0_measure 55 = .ok (.iaload, 1) := by decide +kernel
theorem dX0_measure_56 : decode cX0_measure 56 = .ok (.iaload, 1) := by decide +kernel
theorem dX0_measure_57 : decode cX0_measure 57 = .ok (.isub, 1) := by decide +kernel
theorem dX0_measure_58 : decode cX0_measure 58 = .ok (.iastore, 1) := by decide +kernel
theorem dX0_measure_59 : decode cX0_measure 59 = .ok (.goto 22, 3) := by decide +kernel
theorem dX0_measure_62 : decode cX0_measure 62 = .ok (.aload_n 0, 1) := by decide +kernel
theorem dX0_measure_63 : decode cX0_measure 63 = .ok (.getfield 29, 3) := by decide +kernel
theorem dX0_measure_66 : decode cX0_measure 66 = .ok (.iload_n 1, 1) := by decide +kernel
theorem dX0_measure_67 : decode cX0_measure 67 = .ok (.aaload, 1) := by decide +kernel
theorem dX0_measure_68 : decode cX0_measure 68 = .ok (.iload_n 2, 1) := by decide +kernel
theorem dX0_measure_69 : decode cX0_measure 69 = .ok (.bipush (-9), 2) := by decide +kernel
theorem dX0_measure_71 : decode cX0_measure 71 = .ok (.iastore, 1) := by decide +kernel
theorem dX0_measure_72 : decode cX0_measure 72 = .ok (.aload_n 0, 1) := by decide +kernel
theorem dX0_measure_73 : decode cX0_measure 73 = .ok (.getfield 32, 3) := by decide +kernel
theorem dX0_measure_76 : decode cX0_measure 76 = .ok (.iload_n 1, 1) := by decide +kernel
theorem dX0_measure_77 : decode cX0_measure 77 = .ok (.aaload, 1) := by decide +kernel
theorem dX0_measure_78 : decode cX0_measure 78 = .ok (.iload_n 2, 1) := by decide +kernel
theorem dX0_measure_79 : decode cX0_measure 79 = .ok (.iconst 0, 1) := by decide +kernel
theorem dX0_measure_80 : decode cX0_measure 80 = .ok (.iastore, 1) := by decide +kernel
theorem dX0_measure_81 : decode cX0_measure 81 = .ok (.return_, 1) := by decide +kernel
theorem dX0_canPlay_0 : decode cX0_canPlay 0 = .ok (.aload_n 0, 1) := by decide +kernel
theorem dX0_canPlay_1 : decode cX0_canPlay 1 = .ok (.iload_n 1, 1) := by decide +kernel
theorem dX0_canPlay_2 : decode cX0_canPlay 2 = .ok (.iload_n 2, 1) := by decide +kernel
theorem dX0_canPlay_3 : decode cX0_canPlay 3 = .ok (.invokevirtual 105, 3) := by decide +kernel
theorem dX0_canPlay_6 : decode cX0_canPlay 6 = .ok (.aload_n 0, 1) := by decide +kernel
theorem dX0_canPlay_7 : decode cX0_canPlay 7 = .ok (.getfield 63, 3) := by decide +kernel
theorem dX0_canPlay_10 : decode cX0_canPlay 10 = .ok (.if_icmp .le 5, 3) := by decide +kernel
theorem dX0_canPlay_13 : decode cX0_canPlay 13 = .ok (.iconst 0, 1) := by decide +kernel
theorem dX0_canPlay_14 : decode cX0_canPlay 14 = .ok (.ireturn, 1) := by decide +kernel
theorem dX0_canPlay_15 : decode cX0_canPlay 15 = .ok (.aload_n 0, 1) := by decide +kernel
theorem dX0_canPlay_16 : decode cX0_canPlay 16 = .ok (.iload_n 1, 1) := by decide +kernel
theorem dX0_canPlay_17 : decode cX0_canPlay 17 = .ok (.iload_n 2, 1) := by decide +kernel
theorem dX0_canPlay_18 : decode cX0_canPlay 18 = .ok (.invokevirtual 108, 3) := by decide +kernel
theorem dX0_canPlay_21 : decode cX0_canPlay 21 = .ok (.aload_n 0, 1) := by decide +kernel
theorem dX0_canPlay_22 : decode cX0_canPlay 22 = .ok (.getfield 73, 3) := by decide +kernel
theorem dX0_canPlay_25 : decode cX0_canPlay 25 = .ok (.iand, 1) := by decide +kernel
theorem dX0_canPlay_26 : decode cX0_canPlay 26 = .ok (.ifCond .ne 17, 3) := by decide +kernel
theorem dX0_canPlay_29 : decode cX0_canPlay 29 = .ok (.aload_n 0, 1) := by decide +kernel
theorem dX0_canPlay_30 : decode cX0_canPlay 30 = .ok (.getfield 9, 3) := by decide +kernel
theorem dX0_canPlay_33 : decode cX0_canPlay 33 = .ok (.iload_n 1, 1) := by decide +kernel
theorem dX0_canPlay_34 : decode cX0_canPlay 34 = .ok (.iaload, 1) := by decide +kernel
theorem dX0_canPlay_35 : decode cX0_canPlay 35 = .ok (.aload_n 0, 1) := by decide +kernel
theorem dX0_canPlay_36 : decode cX0_canPlay 36 = .ok (.getfield 66, 3) := by decide +kernel
theorem dX0_canPlay_39 : decode cX0_canPlay 39 = .ok (.iadd, 1) := by decide +kernel
theorem dX0_canPlay_40 : decode cX0_canPlay 40 = .ok (.goto 9, 3) := by decide +kernel
theorem dX0_canPlay_43 : decode cX0_canPlay 43 = .ok (.aload_n 0, 1) := by decide +kernel
theorem dX0_canPlay_44 : decode cX0_canPlay 44 = .ok (.getfield 9, 3) := by decide +kernel
theorem dX0_canPlay_47 : decode cX0_canPlay 47 = .ok (.iload_n 1, 1) := by decide +kernel
theorem dX0_canPlay_48 : decode cX0_canPlay 48 = .ok (.iaload, 1) := by decide +kernel
theorem dX0_canPlay_49 : decode cX0_canPlay 49 = .ok (.istore_n 3, 1) := by decide +kernel
theorem dX0_canPlay_50 : decode cX0_canPlay 50 = .ok (.aload_n 0, 1) := by decide +kernel
theorem dX0_canPlay_51 : decode cX0_canPlay 51 = .ok (.getfield 32, 3) := by decide +kernel
theorem dX0_canPlay_54 : decode cX0_canPlay 54 = .ok (.iload_n 1, 1) := by decide +kernel
theorem dX0_canPlay_55 : decode cX0_canPlay 55 = .ok (.aaload, 1) := by decide +kernel
theorem dX0_canPlay_56 : decode cX0_canPlay 56 = .ok (.iload_n 2, 1) := by decide +kernel
theorem dX0_canPlay_57 : decode cX0_canPlay 57 = .ok (.iaload, 1) := by decide +kernel
theorem dX0_canPlay_58 : decode cX0_canPlay 58 = .ok (.iload_n 3, 1) := by decide +kernel
theorem dX0_canPlay_59 : decode cX0_canPlay 59 = .ok (.if_icmp .gt 7, 3) := by decide +kernel
theorem dX0_canPlay_62 : decode cX0_canPlay 62 = .ok (.iconst 1, 1) := by decide +kernel
theorem dX0_canPlay_63 : decode cX0_canPlay 63 = .ok (.goto 4, 3) := by decide +kernel
theorem dX0_canPlay_66 : decode cX0_canPlay 66 = .ok (.iconst 0, 1) := by decide +kernel
theorem dX0_canPlay_67 : decode cX0_canPlay 67 = .ok (.ireturn, 1) := by decide +kernel
theorem dX0_isPossible_0 : decode cX0_isPossible 0 = .ok (.aload_n 0, 1) := by decide +kernel
theorem dX0_isPossible_1 : decode cX0_isPossible 1 = .ok (.getfield 56, 3) := by decide +kernel
theorem dX0_isPossible_4 : decode cX0_isPossible 4 = .ok (.iload_n 1, 1) := by decide +kernel
theorem dX0_isPossible_5 : decode cX0_isPossible 5 = .ok (.ishr, 1) := by decide +kernel
theorem dX0_isPossible_6 : decode cX0_isPossible 6 = .ok (.iconst 1, 1) := by decide +kernel
theorem dX0_isPossible_7 : decode cX0_isPossible 7 = .ok (.iand, 1) := by decide +kernel
theorem dX0_isPossible_8 : decode cX0_isPossible 8 = .ok (.iconst 1, 1) := by decide +kernel
theorem dX0_isPossible_9 : decode cX0_isPossible 9 = .ok (.if_icmp .ne 7, 3) := by decide +kernel
theorem dX0_isPossible_12 : decode cX0_isPossible 12 = .ok (.iconst 1, 1) := by decide +kernel
theorem dX0_isPossible_13 : decode cX0_isPossible 13 = .ok (.goto 4, 3) := by decide +kernel
theorem dX0_isPossible_16 : decode cX0_isPossible 16 = .ok (.iconst 0, 1) := by decide +kernel
theorem dX0_isPossible_17 : decode cX0_isPossible 17 = .ok (.ireturn, 1) := by decide +kernel
theorem dX0_stavesOf_0 : decode cX0_stavesOf 0 = .ok (.iload_n 1, 1) := by decide +kernel
theorem dX0_stavesOf_1 : decode cX0_stavesOf 1 = .ok (.ifCond .ne 12, 3) := by decide +kernel
theorem dX0_stavesOf_4 : decode cX0_stavesOf 4 = .ok (.aload_n 0, 1) := by decide +kernel
theorem dX0_stavesOf_5 : decode cX0_stavesOf 5 = .ok (.getfield 24, 3) := by decide +kernel
theorem dX0_stavesOf_8 : decode cX0_stavesOf 8 = .ok (.iload_n 2, 1) := by decide +kernel
theorem dX0_stavesOf_9 : decode cX0_stavesOf 9 = .ok (.iaload, 1) := by decide +kernel
theorem dX0_stavesOf_10 : decode cX0_stavesOf 10 = .ok (.goto 21, 3) := by decide +kernel
theorem dX0_stavesOf_13 : decode cX0_stavesOf 13 = .ok (.aload_n 0, 1) := by decide +kernel
theorem dX0_stavesOf_14 : decode cX0_stavesOf 14 = .ok (.getfield 24, 3) := by decide +kernel
theorem dX0_stavesOf_17 : decode cX0_stavesOf 17 = .ok (.aload_n 0, 1) := by decide +kernel
theorem dX0_stavesOf_18 : decode cX0_stavesOf 18 = .ok (.getfield 87, 3) := by decide +kernel
theorem dX0_stavesOf_21 : decode cX0_stavesOf 21 = .ok (.iaload, 1) := by decide +kernel
theorem dX0_stavesOf_22 : decode cX0_stavesOf 22 = .ok (.aload_n 0, 1) := by decide +kernel
theorem dX0_stavesOf_23 : decode cX0_stavesOf 23 = .ok (.getfield 24, 3) := by decide +kernel
theorem dX0_stavesOf_26 : decode cX0_stavesOf 26 = .ok (.iload_n 2, 1) := by decide +kernel
theorem dX0_stavesOf_27 : decode cX0_stavesOf 27 = .ok (.iaload, 1) := by decide +kernel
theorem dX0_stavesOf_28 : decode cX0_stavesOf 28 = .ok (.iconst (-1), 1) := by decide +kernel
theorem dX0_stavesOf_29 : decode cX0_stavesOf 29 = .ok (.ixor, 1) := by decide +kernel
theorem dX0_stavesOf_30 : decode cX0_stavesOf 30 = .ok (.iand, 1) := by decide +kernel
theorem dX0_stavesOf_31 : decode cX0_stavesOf 31 = .ok (.ireturn, 1) := by decide +kernel
theorem dX0_countOf_0 : decode cX0_countOf 0 = .ok (.iload_n 1, 1) := by decide +kernel
theorem dX0_countOf_1 : decode cX0_countOf 1 = .ok (.ifCond .ne 7, 3) := by decide +kernel
theorem dX0_countOf_4 : decode cX0_countOf 4 = .ok (.iload_n 2, 1) := by decide +kernel
theorem dX0_countOf_5 : decode cX0_countOf 5 = .ok (.goto 9, 3) := by decide +kernel
theorem dX0_countOf_8 : decode cX0_countOf 8 = .ok (.aload_n 0, 1) := by decide +kernel
theorem dX0_countOf_9 : decode cX0_countOf 9 = .ok (.getfield 87, 3) := by decide +kernel
theorem dX0_countOf_12 : decode cX0_countOf 12 = .ok (.iload_n 2, 1) := by decide +kernel
theorem dX0_countOf_13 : decode cX0_countOf 13 = .ok (.isub, 1) := by decide +kernel
theorem dX0_countOf_14 : decode cX0_countOf 14 = .ok (.ireturn, 1) := by decide +kernel
theorem dX0_isRolled_0 : decode cX0_isRolled 0 = .ok (.aload_n 0, 1) := by decide +kernel
theorem dX0_isRolled_1 : decode cX0_isRolled 1 = .ok (.getfield 32, 3) := by decide +kernel
theorem dX0_isRolled_4 : decode cX0_isRolled 4 = .ok (.iload_n 1, 1) := by decide +kernel
theorem dX0_isRolled_5 : decode cX0_isRolled 5 = .ok (.aaload, 1) := by decide +kernel
theorem dX0_isRolled_6 : decode cX0_isRolled 6 = .ok (.iload_n 2, 1) := by decide +kernel
theorem dX0_isRolled_7 : decode cX0_isRolled 7 = .ok (.iaload, 1) := by decide +kernel
theorem dX0_isRolled_8 : decode cX0_isRolled 8 = .ok (.aload_n 0, 1) := by decide +kernel
theorem dX0_isRolled_9 : decode cX0_isRolled 9 = .ok (.getfield 9, 3) := by decide +kernel
theorem dX0_isRolled_12 : decode cX0_isRolled 12 = .ok (.iload_n 1, 1) := by decide +kernel
theorem dX0_isRolled_13 : decode cX0_isRolled 13 = .ok (.iaload, 1) := by decide +kernel
theorem dX0_isRolled_14 : decode cX0_isRolled 14 = .ok (.if_icmp .le 7, 3) := by decide +kernel
theorem dX0_isRolled_17 : decode cX0_isRolled 17 = .ok (.iconst 1, 1) := by decide +kernel
theorem dX0_isRolled_18 : decode cX0_isRolled 18 = .ok (.goto 4, 3) := by decide +kernel
theorem dX0_isRolled_21 : decode cX0_isRolled 21 = .ok (.iconst 0, 1) := by decide +kernel
theorem dX0_isRolled_22 : decode cX0_isRolled 22 = .ok (.ireturn, 1) := by decide +kernel
theorem dX0_countRolled_0 : decode cX0_countRolled 0 = .ok (.aload_n 0, 1) := by decide +kernel
theorem dX0_countRolled_1 : decode cX0_countRolled 1 = .ok (.iconst 0, 1) := by decide +kernel
theorem dX0_countRolled_2 : decode cX0_countRolled 2 = .ok (.iload_n 1, 1) := by decide +kernel
theorem dX0_countRolled_3 : decode cX0_countRolled 3 = .ok (.invokevirtual 111, 3) := by decide +kernel
theorem dX0_countRolled_6 : decode cX0_countRolled 6 = .ok (.ifCond .eq 7, 3) := by decide +kernel
theorem dX0_countRolled_9 : decode cX0_countRolled 9 = .ok (.iconst 1, 1) := by decide +kernel
theorem dX0_countRolled_10 : decode cX0_countRolled 10 = .ok (.goto 4, 3) := by decide +kernel
theorem dX0_countRolled_13 : decode cX0_countRolled 13 = .ok (.iconst 0, 1) := by decide +kernel
theorem dX0_countRolled_14 : decode cX0_countRolled 14 = .ok (.aload_n 0, 1) := by decide +kernel
theorem dX0_countRolled_15 : decode cX0_countRolled 15 = .ok (.iconst 1, 1) := by decide +kernel
theorem dX0_countRolled_16 : decode cX0_countRolled 16 = .ok (.iload_n 1, 1) := by decide +kernel
theorem dX0_countRolled_17 : decode cX0_countRolled 17 = .ok (.invokevirtual 111, 3) := by decide +kernel
theorem dX0_countRolled_20 : decode cX0_countRolled 20 = .ok (.ifCond .eq 7, 3) := by decide +kernel
theorem dX0_countRolled_23 : decode cX0_countRolled 23 = .ok (.iconst 1, 1) := by decide +kernel
theorem dX0_countRolled_24 : decode cX0_countRolled 24 = .ok (.goto 4, 3) := by decide +kernel
theorem dX0_countRolled_27 : decode cX0_countRolled 27 = .ok (.iconst 0, 1) := by decide +kernel
theorem dX0_countRolled_28 : decode cX0_countRolled 28 = .ok (.iadd, 1) := by decide +kernel
theorem dX0_countRolled_29 : decode cX0_countRolled 29 = .ok (.ireturn, 1) := by decide +kernel
theorem dX0_move_0 : decode cX0_move 0 = .ok (.aload_n 3, 1) := by decide +kernel
theorem dX0_move_1 : decode cX0_move 1 = .ok (.getfield 29, 3) := by decide +kernel
theorem dX0_move_4 : decode cX0_move 4 = .ok (.iload_n 1, 1) := by decide +kernel
theorem dX0_move_5 : decode cX0_move 5 = .ok (.aaload, 1) := by decide +kernel
theorem dX0_move_6 : decode cX0_move 6 = .ok (.iload 4, 2) := by decide +kernel
theorem dX0_move_8 : decode cX0_move 8 = .ok (.iaload, 1) := by decide +kernel
theorem dX0_move_9 : decode cX0_move 9 = .ok (.istore 5, 2) := by decide +kernel
theorem dX0_move_11 : decode cX0_move 11 = .ok (.aload_n 0, 1) := by decide +kernel
theorem dX0_move_12 : decode cX0_move 12 = .ok (.getfield 29, 3) := by decide +kernel
theorem dX0_move_15 : decode cX0_move 15 = .ok (.iload_n 1, 1) := by decide +kernel
theorem dX0_move_16 : decode cX0_move 16 = .ok (.aaload, 1) := by decide +kernel
theorem dX0_move_17 : decode cX0_move 17 = .ok (.iload_n 2, 1) := by decide +kernel
theorem dX0_move_18 : decode cX0_move 18 = .ok (.iaload, 1) := by decide +kernel
theorem dX0_move_19 : decode cX0_move 19 = .ok (.istore 6, 2) := by decide +kernel
theorem dX0_move_21 : decode cX0_move 21 = .ok (.iload 5, 2) := by decide +kernel
theorem dX0_move_23 : decode cX0_move 23 = .ok (.bipush (-9), 2) := by decide +kernel
theorem dX0_move_25 : decode cX0_move 25 = .ok (.if_icmp .eq 10, 3) := by decide +kernel
theorem dX0_move_28 : decode cX0_move 28 = .ok (.iload 6, 2) := by decide +kernel
theorem dX0_move_30 : decode cX0_move 30 = .ok (.bipush (-9), 2) := by decide +kernel
theorem dX0_move_32 : decode cX0_move 32 = .ok (.if_icmp .ne 5, 3) := by decide +kernel
theorem dX0_move_35 : decode cX0_move 35 = .ok (.iconst 0, 1) := by decide +kernel
theorem dX0_move_36 : decode cX0_move 36 = .ok (.ireturn, 1) := by decide +kernel
theorem dX0_move_37 : decode cX0_move 37 = .ok (.iload 6, 2) := by decide +kernel
theorem dX0_move_39 : decode cX0_move 39 = .ok (.iload 5, 2) := by decide +kernel
theorem dX0_move_41 : decode cX0_move 41 = .ok (.if_icmp .le 11, 3) := by decide +kernel
theorem dX0_move_44 : decode cX0_move 44 = .ok (.iload 6, 2) := by decide +kernel
theorem dX0_move_46 : decode cX0_move 46 = .ok (.iload 5, 2) := by decide +kernel
theorem dX0_move_48 : decode cX0_move 48 = .ok (.isub, 1) := by decide +kernel
theorem dX0_move_49 : decode cX0_move 49 = .ok (.goto 8, 3) := by decide +kernel
theorem dX0_move_52 : decode cX0_move 52 = .ok (.iload 5, 2) := by decide +kernel
theorem dX0_move_54 : decode cX0_move 54 = .ok (.iload 6, 2) := by decide +kernel
theorem dX0_move_56 : decode cX0_move 56 = .ok (.isub, 1) := by decide +kernel
theorem dX0_move_57 : decode cX0_move 57 = .ok (.ireturn, 1) := by decide +kernel
theorem dX0_cutStaves_0 : decode cX0_cutStaves 0 = .ok (.aload_n 2, 1) := by decide +kernel
theorem dX0_cutStaves_1 : decode cX0_cutStaves 1 = .ok (.getfield 24, 3) := by decide +kernel
theorem dX0_cutStaves_4 : decode cX0_cutStaves 4 = .ok (.aload_n 2, 1) := by decide +kernel
theorem dX0_cutStaves_5 : decode cX0_cutStaves 5 = .ok (.getfield 87, 3) := by decide +kernel
theorem dX0_cutStaves_8 : decode cX0_cutStaves 8 = .ok (.iaload, 1) := by decide +kernel
theorem dX0_cutStaves_9 : decode cX0_cutStaves 9 = .ok (.istore 4, 2) := by decide +kernel
theorem dX0_cutStaves_11 : decode cX0_cutStaves 11 = .ok (.aload_n 0, 1) := by decide +kernel
theorem dX0_cutStaves_12 : decode cX0_cutStaves 12 = .ok (.getfield 24, 3) := by decide +kernel
theorem dX0_cutStaves_15 : decode cX0_cutStaves 15 = .ok (.iload_n 1, 1) := by decide +kernel
theorem dX0_cutStaves_16 : decode cX0_cutStaves 16 = .ok (.iaload, 1) := by decide +kernel
theorem dX0_cutStaves_17 : decode cX0_cutStaves 17 = .ok (.aload_n 2, 1) := by decide +kernel
theorem dX0_cutStaves_18 : decode cX0_cutStaves 18 = .ok (.getfield 24, 3) := by decide +kernel
theorem dX0_cutStaves_21 : decode cX0_cutStaves 21 = .ok (.iload_n 3, 1) := by decide +kernel
theorem dX0_cutStaves_22 : decode cX0_cutStaves 22 = .ok (.iaload, 1) := by decide +kernel
theorem dX0_cutStaves_23 : decode cX0_cutStaves 23 = .ok (.ixor, 1) := by decide +kernel
theorem dX0_cutStaves_24 : decode cX0_cutStaves 24 = .ok (.istore 5, 2) := by decide +kernel
theorem dX0_cutStaves_26 : decode cX0_cutStaves 26 = .ok (.aload_n 0, 1) := by decide +kernel
theorem dX0_cutStaves_27 : decode cX0_cutStaves 27 = .ok (.getfield 94, 3) := by decide +kernel
theorem dX0_cutStaves_30 : decode cX0_cutStaves 30 = .ok (.iload 4, 2) := by decide +kernel
theorem dX0_cutStaves_32 : decode cX0_cutStaves 32 = .ok (.iconst (-1), 1) := by decide +kernel
theorem dX0_cutStaves_33 : decode cX0_cutStaves 33 = .ok (.ixor, 1) := by decide +kernel
theorem dX0_cutStaves_34 : decode cX0_cutStaves 34 = .ok (.iload 5, 2) := by decide +kernel
theorem dX0_cutStaves_36 : decode cX0_cutStaves 36 = .ok (.ior, 1) := by decide +kernel
theorem dX0_cutStaves_37 : decode cX0_cutStaves 37 = .ok (.iand, 1) := by decide +kernel
theorem dX0_cutStaves_38 : decode cX0_cutStaves 38 = .ok (.ireturn, 1) := by decide +kernel
theorem dX0_costs_0 : decode cX0_costs 0 = .ok (.bipush 10, 2) := by decide +kernel
theorem dX0_costs_2 : decode cX0_costs 2 = .ok (.aload_n 0, 1) := by decide +kernel
theorem dX0_costs_3 : decode cX0_costs 3 = .ok (.iload_n 1, 1) := by decide +kernel
theorem dX0_costs_4 : decode cX0_costs 4 = .ok (.aload_n 2, 1) := by decide +kernel
theorem dX0_costs_5 : decode cX0_costs 5 = .ok (.iload_n 3, 1) := by decide +kernel
theorem dX0_costs_6 : decode cX0_costs 6 = .ok (.invokevirtual 114, 3) := by decide +kernel
theorem dX0_costs_9 : decode cX0_costs 9 = .ok (.invokestatic 118, 3) := by decide +kernel
theorem dX0_costs_12 : decode cX0_costs 12 = .ok (.imul, 1) := by decide +kernel
theorem dX0_costs_13 : decode cX0_costs 13 = .ok (.iconst 5, 1) := by decide +kernel
theorem dX0_costs_14 : decode cX0_costs 14 = .ok (.aload_n 0, 1) := by decide +kernel
theorem dX0_costs_15 : decode cX0_costs 15 = .ok (.iload_n 1, 1) := by decide +kernel
theorem dX0_costs_16 : decode cX0_costs 16 = .ok (.invokevirtual 123, 3) := by decide +kernel
theorem dX0_costs_19 : decode cX0_costs 19 = .ok (.imul, 1) := by decide +kernel
theorem dX0_costs_20 : decode cX0_costs 20 = .ok (.iadd, 1) := by decide +kernel
theorem dX0_costs_21 : decode cX0_costs 21 = .ok (.aload_n 0, 1) := by decide +kernel
theorem dX0_costs_22 : decode cX0_costs 22 = .ok (.iconst 0, 1) := by decide +kernel
theorem dX0_costs_23 : decode cX0_costs 23 = .ok (.iload_n 1, 1) := by decide +kernel
theorem dX0_costs_24 : decode cX0_costs 24 = .ok (.aload_n 2, 1) := by decide +kernel
theorem dX0_costs_25 : decode cX0_costs 25 = .ok (.iload_n 3, 1) := by decide +kernel
theorem dX0_costs_26 : decode cX0_costs 26 = .ok (.invokevirtual 126, 3) := by decide +kernel
theorem dX0_costs_29 : decode cX0_costs 29 = .ok (.iadd, 1) := by decide +kernel
theorem dX0_costs_30 : decode cX0_costs 30 = .ok (.aload_n 0, 1) := by decide +kernel
theorem dX0_costs_31 : decode cX0_costs 31 = .ok (.iconst 1, 1) := by decide +kernel
theorem dX0_costs_32 : decode cX0_costs 32 = .ok (.iload_n 1, 1) := by decide +kernel
theorem dX0_costs_33 : decode cX0_costs 33 = .ok (.aload_n 2, 1) := by decide +kernel
theorem dX0_costs_34 : decode cX0_costs 34 = .ok (.iload_n 3, 1) := by decide +kernel
theorem dX0_costs_35 : decode cX0_costs 35 = .ok (.invokevirtual 126, 3) := by decide +kernel
theorem dX0_costs_38 : decode cX0_costs 38 = .ok (.iadd, 1) := by decide +kernel
theorem dX0_costs_39 : decode cX0_costs 39 = .ok (.ireturn, 1) := by decide +kernel
theorem dX0_countLeftOut_0 : decode cX0_countLeftOut 0 = .ok (.iconst 0, 1) := by decide +kernel
theorem dX0_countLeftOut_1 : decode cX0_countLeftOut 1 = .ok (.istore_n 2, 1) := by decide +kernel
theorem dX0_countLeftOut_2 : decode cX0_countLeftOut 2 = .ok (.iconst 0, 1) := by decide +kernel
theorem dX0_countLeftOut_3 : decode cX0_countLeftOut 3 = .ok (.istore_n 3, 1) := by decide +kernel
theorem dX0_countLeftOut_4 : decode cX0_countLeftOut 4 = .ok (.iload_n 3, 1) := by decide +kernel
theorem dX0_countLeftOut_5 : decode cX0_countLeftOut 5 = .ok (.iconst 4, 1) := by decide +kernel
theorem dX0_countLeftOut_6 : decode cX0_countLeftOut 6 = .ok (.if_icmp .ge 22, 3) := by decide +kernel
theorem dX0_countLeftOut_9 : decode cX0_countLeftOut 9 = .ok (.aload_n 0, 1) := by decide +kernel
theorem dX0_countLeftOut_10 : decode cX0_countLeftOut 10 = .ok (.getfield 18, 3) := by decide +kernel
theorem dX0_countLeftOut_13 : decode cX0_countLeftOut 13 = .ok (.iload_n 3, 1) := by decide +kernel
theorem dX0_countLeftOut_14 : decode cX0_countLeftOut 14 = .ok (.iaload, 1) := by decide +kernel
theorem dX0_countLeftOut_15 : decode cX0_countLeftOut 15 = .ok (.iload_n 1, 1) := by decide +kernel
theorem dX0_countLeftOut_16 : decode cX0_countLeftOut 16 = .ok (.if_icmp .ne 6, 3) := by decide +kernel
theorem dX0_countLeftOut_19 : decode cX0_countLeftOut 19 = .ok (.iinc 2 1, 3) := by decide +kernel
theorem dX0_countLeftOut_22 : decode cX0_countLeftOut 22 = .ok (.iinc 3 1, 3) := by decide +kernel
theorem dX0_countLeftOut_25 : decode cX0_countLeftOut 25 = .ok (.goto (-21), 3) := by decide +kernel
theorem dX0_countLeftOut_28 : decode cX0_countLeftOut 28 = .ok (.iload_n 2, 1) := by decide +kernel
theorem dX0_countLeftOut_29 : decode cX0_countLeftOut 29 = .ok (.ireturn, 1) := by decide +kernel
theorem dX1_init_0 : decode cX1_init 0 = .ok (.aload_n 0, 1) := by decide +kernel
theorem dX1_init_1 : decode cX1_init 1 = .ok (.invokespecial 3, 3) := by decide +kernel
theorem dX1_init_4 : decode cX1_init 4 = .ok (.aload_n 0, 1) := by decide +kernel
theorem dX1_init_5 : decode cX1_init 5 = .ok (.bipush 14, 2) := by decide +kernel
theorem dX1_init_7 : decode cX1_init 7 = .ok (.anewarray 9, 3) := by decide +kernel
theorem dX1_init_10 : decode cX1_init 10 = .ok (.putfield 11, 3) := by decide +kernel
theorem dX1_init_13 : decode cX1_init 13 = .ok (.iconst 0, 1) := by decide +kernel
theorem dX1_init_14 : decode cX1_init 14 = .ok (.istore_n 1, 1) := by decide +kernel
theorem dX1_init_15 : decode cX1_init 15 = .ok (.iload_n 1, 1) := by decide +kernel
theorem dX1_init_16 : decode cX1_init 16 = .ok (.bipush 14, 2) := by decide +kernel
theorem dX1_init_18 : decode cX1_init 18 = .ok (.if_icmp .ge 22, 3) := by decide +kernel
theorem dX1_init_21 : decode cX1_init 21 = .ok (.aload_n 0, 1) := by decide +kernel
theorem dX1_init_22 : decode cX1_init 22 = .ok (.getfield 11, 3) := by decide +kernel
theorem dX1_init_25 : decode cX1_init 25 = .ok (.iload_n 1, 1) := by decide +kernel
theorem dX1_init_26 : decode cX1_init 26 = .ok (.new 9, 3) := by decide +kernel
theorem dX1_init_29 : decode cX1_init 29 = .ok (.dup, 1) := by decide +kernel
theorem dX1_init_30 : decode cX1_init 30 = .ok (.invokespecial 17, 3) := by decide +kernel
theorem dX1_init_33 : decode cX1_init 33 = .ok (.aastore, 1) := by decide +kernel
theorem dX1_init_34 : decode cX1_init 34 = .ok (.iinc 1 1, 3) := by decide +kernel
theorem dX1_init_37 : decode cX1_init 37 = .ok (.goto (-22), 3) := by decide +kernel
theorem dX1_init_40 : decode cX1_init 40 = .ok (.return_, 1) := by decide +kernel
theorem dX1_isEmpty_0 : decode cX1_isEmpty 0 = .ok (.aload_n 0, 1) := by decide +kernel
theorem dX1_isEmpty_1 : decode cX1_isEmpty 1 = .ok (.getfield 18, 3) := by decide +kernel
theorem dX1_isEmpty_4 : decode cX1_isEmpty 4 = .ok (.ifCond .ne 7, 3) := by decide +kernel
theorem dX1_isEmpty_7 : decode cX1_isEmpty 7 = .ok (.iconst 1, 1) := by decide +kernel
theorem dX1_isEmpty_8 : decode cX1_isEmpty 8 = .ok (.goto 4, 3) := by decide +kernel
theorem dX1_isEmpty_11 : decode cX1_isEmpty 11 = .ok (.iconst 0, 1) := by decide +kernel
theorem dX1_isEmpty_12 : decode cX1_isEmpty 12 = .ok (.ireturn, 1) := by decide +kernel
theorem dX1_forget_0 : decode cX1_forget 0 = .ok (.aload_n 0, 1) := by decide +kernel
theorem dX1_forget_1 : decode cX1_forget 1 = .ok (.iconst 0, 1) := by decide +kernel
theorem dX1_forget_2 : decode cX1_forget 2 = .ok (.putfield 18, 3) := by decide +kernel
theorem dX1_forget_5 : decode cX1_forget 5 = .ok (.return_, 1) := by decide +kernel
theorem dX1_remember_0 : decode cX1_remember 0 = .ok (.aload_n 0, 1) := by decide +kernel
theorem dX1_remember_1 : decode cX1_remember 1 = .ok (.getfield 11, 3) := by decide +kernel
theorem dX1_remember_4 : decode cX1_remember 4 = .ok (.aload_n 0, 1) := by decide +kernel
theorem dX1_remember_5 : decode cX1_remember 5 = .ok (.getfield 22, 3) := by decide +kernel
theorem dX1_remember_8 : decode cX1_remember 8 = .ok (.aaload, 1) := by decide +kernel
theorem dX1_remember_9 : decode cX1_remember 9 = .ok (.aload_n 1, 1) := by decide +kernel
theorem dX1_remember_10 : decode cX1_remember 10 = .ok (.invokevirtual 25, 3) := by decide +kernel
theorem dX1_remember_13 : decode cX1_remember 13 = .ok (.aload_n 0, 1) := by decide +kernel
theorem dX1_remember_14 : decode cX1_remember 14 = .ok (.aload_n 0, 1) := by decide +kernel
theorem dX1_remember_15 : decode cX1_remember 15 = .ok (.getfield 22, 3) := by decide +kernel
theorem dX1_remember_18 : decode cX1_remember 18 = .ok (.iconst 1, 1) := by decide +kernel
theorem dX1_remember_19 : decode cX1_remember 19 = .ok (.iadd, 1) := by decide +kernel
theorem dX1_remember_20 : decode cX1_remember 20 = .ok (.bipush 14, 2) := by decide +kernel
theorem dX1_remember_22 : decode cX1_remember 22 = .ok (.irem, 1) := by decide +kernel
theorem dX1_remember_23 : decode cX1_remember 23 = .ok (.putfield 22, 3) := by decide +kernel
theorem dX1_remember_26 : decode cX1_remember 26 = .ok (.aload_n 0, 1) := by decide +kernel
theorem dX1_remember_27 : decode cX1_remember 27 = .ok (.getfield 18, 3) := by decide +kernel
theorem dX1_remember_30 : decode cX1_remember 30 = .ok (.bipush 14, 2) := by decide +kernel
theorem dX1_remember_32 : decode cX1_remember 32 = .ok (.if_icmp .ge 13, 3) := by decide +kernel
theorem dX1_remember_35 : decode cX1_remember 35 = .ok (.aload_n 0, 1) := by decide +kernel
theorem dX1_remember_36 : decode cX1_remember 36 = .ok (.dup, 1) := by decide +kernel
theorem dX1_remember_37 : decode cX1_remember 37 = .ok (.getfield 18, 3) := by decide +kernel
theorem dX1_remember_40 : decode cX1_remember 40 = .ok (.iconst 1, 1) := by decide +kernel
theorem dX1_remember_41 : decode cX1_remember 41 = .ok (.iadd, 1) := by decide +kernel
theorem dX1_remember_42 : decode cX1_remember 42 = .ok (.putfield 18, 3) := by decide +kernel
theorem dX1_remember_45 : decode cX1_remember 45 = .ok (.return_, 1) := by decide +kernel
theorem dX1_takeBack_0 : decode cX1_takeBack 0 = .ok (.aload_n 0, 1) := by decide +kernel
theorem dX1_takeBack_1 : decode cX1_takeBack 1 = .ok (.getfield 18, 3) := by decide +kernel
theorem dX1_takeBack_4 : decode cX1_takeBack 4 = .ok (.ifCond .le 42, 3) := by decide +kernel
theorem dX1_takeBack_7 : decode cX1_takeBack 7 = .ok (.aload_n 0, 1) := by decide +kernel
theorem dX1_takeBack_8 : decode cX1_takeBack 8 = .ok (.aload_n 0, 1) := by decide +kernel
theorem dX1_takeBack_9 : decode cX1_takeBack 9 = .ok (.getfield 22, 3) := by decide +kernel
theorem dX1_takeBack_12 : decode cX1_takeBack 12 = .ok (.bipush 14, 2) := by decide +kernel
theorem dX1_takeBack_14 : decode cX1_takeBack 14 = .ok (.iadd, 1) := by decide +kernel
theorem dX1_takeBack_15 : decode cX1_takeBack 15 = .ok (.iconst 1, 1) := by decide +kernel
theorem dX1_takeBack_16 : decode cX1_takeBack 16 = .ok (.isub, 1) := by decide +kernel
theorem dX1_takeBack_17 : decode cX1_takeBack 17 = .ok (.bipush 14, 2) := by decide +kernel
theorem dX1_takeBack_19 : decode cX1_takeBack 19 = .ok (.irem, 1) := by decide +kernel
theorem dX1_takeBack_20 : decode cX1_takeBack 20 = .ok (.putfield 22, 3) := by decide +kernel
theorem dX1_takeBack_23 : decode cX1_takeBack 23 = .ok (.aload_n 1, 1) := by decide +kernel
theorem dX1_takeBack_24 : decode cX1_takeBack 24 = .ok (.aload_n 0, 1) := by decide +kernel
theorem dX1_takeBack_25 : decode cX1_takeBack 25 = .ok (.getfield 11, 3) := by decide +kernel
theorem dX1_takeBack_28 : decode cX1_takeBack 28 = .ok (.aload_n 0, 1) := by decide +kernel
theorem dX1_takeBack_29 : decode cX1_takeBack 29 = .ok (.getfield 22, 3) := by decide +kernel
theorem dX1_takeBack_32 : decode cX1_takeBack 32 = .ok (.aaload, 1) := by decide +kernel
theorem dX1_takeBack_33 : decode cX1_takeBack 33 = .ok (.invokevirtual 25, 3) := by decide +kernel
theorem dX1_takeBack_36 : decode cX1_takeBack 36 = .ok (.aload_n 0, 1) := by decide +kernel
theorem dX1_takeBack_37 : decode cX1_takeBack 37 = .ok (.dup, 1) := by decide +kernel
theorem dX1_takeBack_38 : decode cX1_takeBack 38 = .ok (.getfield 18, 3) := by decide +kernel
theorem dX1_takeBack_41 : decode cX1_takeBack 41 = .ok (.iconst 1, 1) := by decide +kernel
theorem dX1_takeBack_42 : decode cX1_takeBack 42 = .ok (.isub, 1) := by decide +kernel
theorem dX1_takeBack_43 : decode cX1_takeBack 43 = .ok (.putfield 18, 3) := by decide +kernel
theorem dX1_takeBack_46 : decode cX1_takeBack 46 = .ok (.aload_n 0, 1) := by decide +kernel
theorem dX1_takeBack_47 : decode cX1_takeBack 47 = .ok (.getfield 18, 3) := by decide +kernel
theorem dX1_takeBack_50 : decode cX1_takeBack 50 = .ok (.ireturn, 1) := by decide +kernel
theorem dX2_init_0 : decode cX2_init 0 = .ok (.aload_n 0, 1) := by decide +kernel
theorem dX2_init_1 : decode cX2_init 1 = .ok (.invokespecial 3, 3) := by decide +kernel
theorem dX2_init_4 : decode cX2_init 4 = .ok (.aload_n 0, 1) := by decide +kernel
theorem dX2_init_5 : decode cX2_init 5 = .ok (.bipush 16, 2) := by decide +kernel
theorem dX2_init_7 : decode cX2_init 7 = .ok (.anewarray 9, 3) := by decide +kernel
theorem dX2_init_10 : decode cX2_init 10 = .ok (.putfield 11, 3) := by decide +kernel
theorem dX2_init_13 : decode cX2_init 13 = .ok (.aload_n 0, 1) := by decide +kernel
theorem dX2_init_14 : decode cX2_init 14 = .ok (.new 9, 3) := by decide +kernel
theorem dX2_init_17 : decode cX2_init 17 = .ok (.dup, 1) := by decide +kernel
theorem dX2_init_18 : decode cX2_init 18 = .ok (.invokespecial 17, 3) := by decide +kernel
theorem dX2_init_21 : decode cX2_init 21 = .ok (.putfield 18, 3) := by decide +kernel
theorem dX2_init_24 : decode cX2_init 24 = .ok (.aload_n 0, 1) := by decide +kernel
theorem dX2_init_25 : decode cX2_init 25 = .ok (.bipush 16, 2) := by decide +kernel
theorem dX2_init_27 : decode cX2_init 27 = .ok (.newarray .int, 2) := by decide +kernel
theorem dX2_init_29 : decode cX2_init 29 = .ok (.putfield 22, 3) := by decide +kernel
theorem dX2_init_32 : decode cX2_init 32 = .ok (.aload_n 0, 1) := by decide +kernel
theorem dX2_init_33 : decode cX2_init 33 = .ok (.bipush 16, 2) := by decide +kernel
theorem dX2_init_35 : decode cX2_init 35 = .ok (.iconst 5, 1) := by decide +kernel
theorem dX2_init_36 : decode cX2_init 36 = .ok (.multianewarray 26 2, 4) := by decide +kernel
theorem dX2_init_40 : decode cX2_init 40 = .ok (.putfield 28, 3) := by decide +kernel
theorem dX2_init_43 : decode cX2_init 43 = .ok (.iconst 0, 1) := by decide +kernel
theorem dX2_init_44 : decode cX2_init 44 = .ok (.istore_n 1, 1) := by decide +kernel
theorem dX2_init_45 : decode cX2_init 45 = .ok (.iload_n 1, 1) := by decide +kernel
theorem dX2_init_46 : decode cX2_init 46 = .ok (.bipush 16, 2) := by decide +kernel
theorem dX2_init_48 : decode cX2_init 48 = .ok (.if_icmp .ge 22, 3) := by decide +kernel
theorem dX2_init_51 : decode cX2_init 51 = .ok (.aload_n 0, 1) := by decide +kernel
theorem dX2_init_52 : decode cX2_init 52 = .ok (.getfield 11, 3) := by decide +kernel
theorem dX2_init_55 : decode cX2_init 55 = .ok (.iload_n 1, 1) := by decide +kernel
theorem dX2_init_56 : decode cX2_init 56 = .ok (.new 9, 3) := by decide +kernel
theorem dX2_init_59 : decode cX2_init 59 = .ok (.dup, 1) := by decide +kernel
theorem dX2_init_60 : decode cX2_init 60 = .ok (.invokespecial 17, 3) := by decide +kernel
theorem dX2_init_63 : decode cX2_init 63 = .ok (.aastore, 1) := by decide +kernel
theorem dX2_init_64 : decode cX2_init 64 = .ok (.iinc 1 1, 3) := by decide +kernel
theorem dX2_init_67 : decode cX2_init 67 = .ok (.goto (-22), 3) := by decide +kernel
theorem dX2_init_70 : decode cX2_init 70 = .ok (.return_, 1) := by decide +kernel
theorem dX2_make_0 : decode cX2_make 0 = .ok (.aload_n 0, 1) := by decide +kernel
theorem dX2_make_1 : decode cX2_make 1 = .ok (.aload_n 1, 1) := by decide +kernel
theorem dX2_make_2 : decode cX2_make 2 = .ok (.getfield 31, 3) := by decide +kernel
theorem dX2_make_5 : decode cX2_make 5 = .ok (.putfield 37, 3) := by decide +kernel
theorem dX2_make_8 : decode cX2_make 8 = .ok (.iconst 0, 1) := by decide +kernel
theorem dX2_make_9 : decode cX2_make 9 = .ok (.istore_n 2, 1) := by decide +kernel
theorem dX2_make_10 : decode cX2_make 10 = .ok (.iload_n 2, 1) := by decide +kernel
theorem dX2_make_11 : decode cX2_make 11 = .ok (.aload_n 0, 1) := by decide +kernel
theorem dX2_make_12 : decode cX2_make 12 = .ok (.getfield 37, 3) := by decide +kernel
theorem dX2_make_15 : decode cX2_make 15 = .ok (.if_icmp .ge 20, 3) := by decide +kernel
theorem dX2_make_18 : decode cX2_make 18 = .ok (.aload_n 0, 1) := by decide +kernel
theorem dX2_make_19 : decode cX2_make 19 = .ok (.getfield 11, 3) := by decide +kernel
theorem dX2_make_22 : decode cX2_make 22 = .ok (.iload_n 2, 1) := by decide +kernel
theorem dX2_make_23 : decode cX2_make 23 = .ok (.aaload, 1) := by decide +kernel
theorem dX2_make_24 : decode cX2_make 24 = .ok (.aload_n 1, 1) := by decide +kernel
theorem dX2_make_25 : decode cX2_make 25 = .ok (.iload_n 2, 1) := by decide +kernel
theorem dX2_make_26 : decode cX2_make 26 = .ok (.invokevirtual 38, 3) := by decide +kernel
theorem dX2_make_29 : decode cX2_make 29 = .ok (.iinc 2 1, 3) := by decide +kernel
theorem dX2_make_32 : decode cX2_make 32 = .ok (.goto (-22), 3) := by decide +kernel
theorem dX2_make_35 : decode cX2_make 35 = .ok (.aload_n 0, 1) := by decide +kernel
theorem dX2_make_36 : decode cX2_make 36 = .ok (.aload_n 1, 1) := by decide +kernel
theorem dX2_make_37 : decode cX2_make 37 = .ok (.iconst 5, 1) := by decide +kernel
theorem dX2_make_38 : decode cX2_make 38 = .ok (.invokevirtual 42, 3) := by decide +kernel
theorem dX2_make_41 : decode cX2_make 41 = .ok (.iconst 1, 1) := by decide +kernel
theorem dX2_make_42 : decode cX2_make 42 = .ok (.if_icmp .ne 7, 3) := by decide +kernel
theorem dX2_make_45 : decode cX2_make 45 = .ok (.iconst 1, 1) := by decide +kernel
theorem dX2_make_46 : decode cX2_make 46 = .ok (.goto 4, 3) := by decide +kernel
theorem dX2_make_49 : decode cX2_make 49 = .ok (.iconst 0, 1) := by decide +kernel
theorem dX2_make_50 : decode cX2_make 50 = .ok (.invokevirtual 46, 3) := by decide +kernel
theorem dX2_make_53 : decode cX2_make 53 = .ok (.iconst 0, 1) := by decide +kernel
theorem dX2_make_54 : decode cX2_make 54 = .ok (.istore_n 2, 1) := by decide +kernel
theorem dX2_make_55 : decode cX2_make 55 = .ok (.iload_n 2, 1) := by decide +kernel
theorem dX2_make_56 : decode cX2_make 56 = .ok (.aload_n 0, 1) := by decide +kernel
theorem dX2_make_57 : decode cX2_make 57 = .ok (.getfield 37, 3) := by decide +kernel
theorem dX2_make_60 : decode cX2_make 60 = .ok (.if_icmp .ge 34, 3) := by decide +kernel
theorem dX2_make_63 : decode cX2_make 63 = .ok (.aload_n 0, 1) := by decide +kernel
theorem dX2_make_64 : decode cX2_make 64 = .ok (.getfield 22, 3) := by decide +kernel
theorem dX2_make_67 : decode cX2_make 67 = .ok (.iload_n 2, 1) := by decide +kernel
theorem dX2_make_68 : decode cX2_make 68 = .ok (.aload_n 0, 1) := by decide +kernel
theorem dX2_make_69 : decode cX2_make 69 = .ok (.iload_n 2, 1) := by decide +kernel
theorem dX2_make_70 : decode cX2_make 70 = .ok (.aload_n 0, 1) := by decide +kernel
theorem dX2_make_71 : decode cX2_make 71 = .ok (.iload_n 2, 1) := by decide +kernel
theorem dX2_make_72 : decode cX2_make 72 = .ok (.iconst 1, 1) := by decide +kernel
theorem dX2_make_73 : decode cX2_make 73 = .ok (.isub, 1) := by decide +kernel
theorem dX2_make_74 : decode cX2_make 74 = .ok (.invokevirtual 50, 3) := by decide +kernel
theorem dX2_make_77 : decode cX2_make 77 = .ok (.aload_n 0, 1) := by decide +kernel
theorem dX2_make_78 : decode cX2_make 78 = .ok (.iload_n 2, 1) := by decide +kernel
theorem dX2_make_79 : decode cX2_make 79 = .ok (.iconst 1, 1) := by decide +kernel
theorem dX2_make_80 : decode cX2_make 80 = .ok (.isub, 1) := by decide +kernel
theorem dX2_make_81 : decode cX2_make 81 = .ok (.invokevirtual 54, 3) := by decide +kernel
theorem dX2_make_84 : decode cX2_make 84 = .ok (.invokevirtual 57, 3) := by decide +kernel
theorem dX2_make_87 : decode cX2_make 87 = .ok (.iastore, 1) := by decide +kernel
theorem dX2_make_88 : decode cX2_make 88 = .ok (.iinc 2 1, 3) := by decide +kernel
theorem dX2_make_91 : decode cX2_make 91 = .ok (.goto (-36), 3) := by decide +kernel
theorem dX2_make_94 : decode cX2_make 94 = .ok (.return_, 1) := by decide +kernel
theorem dX2_lookAhead_0 : decode cX2_lookAhead 0 = .ok (.aload_n 0, 1) := by decide +kernel
theorem dX2_lookAhead_1 : decode cX2_lookAhead 1 = .ok (.getfield 37, 3) := by decide +kernel
theorem dX2_lookAhead_4 : decode cX2_lookAhead 4 = .ok (.iconst 1, 1) := by decide +kernel
theorem dX2_lookAhead_5 : decode cX2_lookAhead 5 = .ok (.isub, 1) := by decide +kernel
theorem dX2_lookAhead_6 : decode cX2_lookAhead 6 = .ok (.istore_n 2, 1) := by decide +kernel
theorem dX2_lookAhead_7 : decode cX2_lookAhead 7 = .ok (.iload_n 2, 1) := by decide +kernel
theorem dX2_lookAhead_8 : decode cX2_lookAhead 8 = .ok (.ifCond .lt 111, 3) := by decide +kernel
theorem dX2_lookAhead_11 : decode cX2_lookAhead 11 = .ok (.aload_n 0, 1) := by decide +kernel
theorem dX2_lookAhead_12 : decode cX2_lookAhead 12 = .ok (.iload_n 2, 1) := by decide +kernel
theorem dX2_lookAhead_13 : decode cX2_lookAhead 13 = .ok (.invokevirtual 50, 3) := by decide +kernel
theorem dX2_lookAhead_16 : decode cX2_lookAhead 16 = .ok (.astore_n 3, 1) := by decide +kernel
theorem dX2_lookAhead_17 : decode cX2_lookAhead 17 = .ok (.iconst 0, 1) := by decide +kernel
theorem dX2_lookAhead_18 : decode cX2_lookAhead 18 = .ok (.istore 4, 2) := by decide +kernel
theorem dX2_lookAhead_20 : decode cX2_lookAhead 20 = .ok (.iload 4, 2) := by decide +kernel
theorem dX2_lookAhead_22 : decode cX2_lookAhead 22 = .ok (.iconst 5, 1) := by decide +kernel
theorem dX2_lookAhead_23 : decode cX2_lookAhead 23 = .ok (.if_icmp .ge 90, 3) := by decide +kernel
theorem dX2_lookAhead_26 : decode cX2_lookAhead 26 = .ok (.aload_n 0, 1) := by decide +kernel
theorem dX2_lookAhead_27 : decode cX2_lookAhead 27 = .ok (.getfield 28, 3) := by decide +kernel
theorem dX2_lookAhead_30 : decode cX2_lookAhead 30 = .ok (.iload_n 2, 1) := by decide +kernel
theorem dX2_lookAhead_31 : decode cX2_lookAhead 31 = .ok (.aaload, 1) := by decide +kernel
theorem dX2_lookAhead_32 : decode cX2_lookAhead 32 = .ok (.iload 4, 2) := by decide +kernel
theorem dX2_lookAhead_34 : decode cX2_lookAhead 34 = .ok (.iconst 0, 1) := by decide +kernel
theorem dX2_lookAhead_35 : decode cX2_lookAhead 35 = .ok (.iastore, 1) := by decide +kernel
theorem dX2_lookAhead_36 : decode cX2_lookAhead 36 = .ok (.iload_n 1, 1) := by decide +kernel
theorem dX2_lookAhead_37 : decode cX2_lookAhead 37 = .ok (.ifCond .eq 70, 3) := by decide +kernel
theorem dX2_lookAhead_40 : decode cX2_lookAhead 40 = .ok (.iload_n 2, 1) := by decide +kernel
theorem dX2_lookAhead_41 : decode cX2_lookAhead 41 = .ok (.aload_n 0, 1) := by decide +kernel
theorem dX2_lookAhead_42 : decode cX2_lookAhead 42 = .ok (.getfield 37, 3) := by decide +kernel
theorem dX2_lookAhead_45 : decode cX2_lookAhead 45 = .ok (.iconst 1, 1) := by decide +kernel
theorem dX2_lookAhead_46 : decode cX2_lookAhead 46 = .ok (.isub, 1) := by decide +kernel
theorem dX2_lookAhead_47 : decode cX2_lookAhead 47 = .ok (.if_icmp .ge 60, 3) := by decide +kernel
theorem dX2_lookAhead_50 : decode cX2_lookAhead 50 = .ok (.aload_n 3, 1) := by decide +kernel
theorem dX2_lookAhead_51 : decode cX2_lookAhead 51 = .ok (.iload 4, 2) := by decide +kernel
theorem dX2_lookAhead_53 : decode cX2_lookAhead 53 = .ok (.invokevirtual 61, 3) := by decide +kernel
theorem dX2_lookAhead_56 : decode cX2_lookAhead 56 = .ok (.ifCond .eq 51, 3) := by decide +kernel
theorem dX2_lookAhead_59 : decode cX2_lookAhead 59 = .ok (.aload_n 0, 1) := by decide +kernel
theorem dX2_lookAhead_60 : decode cX2_lookAhead 60 = .ok (.iload_n 2, 1) := by decide +kernel
theorem dX2_lookAhead_61 : decode cX2_lookAhead 61 = .ok (.iconst 1, 1) := by decide +kernel
theorem dX2_lookAhead_62 : decode cX2_lookAhead 62 = .ok (.iadd, 1) := by decide +kernel
theorem dX2_lookAhead_63 : decode cX2_lookAhead 63 = .ok (.aload_n 3, 1) := by decide +kernel
theorem dX2_lookAhead_64 : decode cX2_lookAhead 64 = .ok (.iload 4, 2) := by decide +kernel
theorem dX2_lookAhead_66 : decode cX2_lookAhead 66 = .ok (.invokevirtual 57, 3) := by decide +kernel
theorem dX2_lookAhead_69 : decode cX2_lookAhead 69 = .ok (.istore 5, 2) := by decide +kernel
theorem dX2_lookAhead_71 : decode cX2_lookAhead 71 = .ok (.aload_n 0, 1) := by decide +kernel
theorem dX2_lookAhead_72 : decode cX2_lookAhead 72 = .ok (.getfield 28, 3) := by decide +kernel
theorem dX2_lookAhead_75 : decode cX2_lookAhead 75 = .ok (.iload_n 2, 1) := by decide +kernel
theorem dX2_lookAhead_76 : decode cX2_lookAhead 76 = .ok (.aaload, 1) := by decide +kernel
theorem dX2_lookAhead_77 : decode cX2_lookAhead 77 = .ok (.iload 4, 2) := by decide +kernel
theorem dX2_lookAhead_79 : decode cX2_lookAhead 79 = .ok (.aload_n 0, 1) := by decide +kernel
theorem dX2_lookAhead_80 : decode cX2_lookAhead 80 = .ok (.iload_n 2, 1) := by decide +kernel
theorem dX2_lookAhead_81 : decode cX2_lookAhead 81 = .ok (.iconst 1, 1) := by decide +kernel
theorem dX2_lookAhead_82 : decode cX2_lookAhead 82 = .ok (.iadd, 1) := by decide +kernel
theorem dX2_lookAhead_83 : decode cX2_lookAhead 83 = .ok (.invokevirtual 50, 3) := by decide +kernel
theorem dX2_lookAhead_86 : decode cX2_lookAhead 86 = .ok (.iload 5, 2) := by decide +kernel
theorem dX2_lookAhead_88 : decode cX2_lookAhead 88 = .ok (.aload_n 3, 1) := by decide +kernel
theorem dX2_lookAhead_89 : decode cX2_lookAhead 89 = .ok (.iload 4, 2) := by decide +kernel
theorem dX2_lookAhead_91 : decode cX2_lookAhead 91 = .ok (.invokevirtual 65, 3) := by decide +kernel
theorem dX2_lookAhead_94 : decode cX2_lookAhead 94 = .ok (.aload_n 0, 1) := by decide +kernel
theorem dX2_lookAhead_95 : decode cX2_lookAhead 95 = .ok (.getfield 28, 3) := by decide +kernel
theorem dX2_lookAhead_98 : decode cX2_lookAhead 98 = .ok (.iload_n 2, 1) := by decide +kernel
theorem dX2_lookAhead_99 : decode cX2_lookAhead 99 = .ok (.iconst 1, 1) := by decide +kernel
theorem dX2_lookAhead_100 : decode cX2_lookAhead 100 = .ok (.iadd, 1) := by decide +kernel
theorem dX2_lookAhead_101 : decode cX2_lookAhead 101 = .ok (.aaload, 1) := by decide +kernel
theorem dX2_lookAhead_102 : decode cX2_lookAhead 102 = .ok (.iload 5, 2) := by decide +kernel
theorem dX2_lookAhead_104 : decode cX2_lookAhead 104 = .ok (.iaload, 1) := by decide +kernel
theorem dX2_lookAhead_105 : decode cX2_lookAhead 105 = .ok (.iadd, 1) := by decide +kernel
theorem dX2_lookAhead_106 : decode cX2_lookAhead 106 = .ok (.iastore, 1) := by decide +kernel
theorem dX2_lookAhead_107 : decode cX2_lookAhead 107 = .ok (.iinc 4 1, 3) := by decide +kernel
theorem dX2_lookAhead_110 : decode cX2_lookAhead 110 = .ok (.goto (-90), 3) := by decide +kernel
theorem dX2_lookAhead_113 : decode cX2_lookAhead 113 = .ok (.iinc 2 (-1), 3) := by decide +kernel
theorem dX2_lookAhead_116 : decode cX2_lookAhead 116 = .ok (.goto (-109), 3) := by decide +kernel
theorem dX2_lookAhead_119 : decode cX2_lookAhead 119 = .ok (.return_, 1) := by decide +kernel
theorem dX2_bestSplit_0 : decode cX2_bestSplit 0 = .ok (.aload_n 0, 1) := by decide +kernel
theorem dX2_bestSplit_1 : decode cX2_bestSplit 1 = .ok (.iload_n 1, 1) := by decide +kernel
theorem dX2_bestSplit_2 : decode cX2_bestSplit 2 = .ok (.invokevirtual 50, 3) := by decide +kernel
theorem dX2_bestSplit_5 : decode cX2_bestSplit 5 = .ok (.astore 4, 2) := by decide +kernel
theorem dX2_bestSplit_7 : decode cX2_bestSplit 7 = .ok (.iconst 0, 1) := by decide +kernel
theorem dX2_bestSplit_8 : decode cX2_bestSplit 8 = .ok (.istore 5, 2) := by decide +kernel
theorem dX2_bestSplit_10 : decode cX2_bestSplit 10 = .ok (.ldc 70, 2) := by decide +kernel
theorem dX2_bestSplit_12 : decode cX2_bestSplit 12 = .ok (.istore 6, 2) := by decide +kernel
theorem dX2_bestSplit_14 : decode cX2_bestSplit 14 = .ok (.iconst 0, 1) := by decide +kernel
theorem dX2_bestSplit_15 : decode cX2_bestSplit 15 = .ok (.istore 7, 2) := by decide +kernel
theorem dX2_bestSplit_17 : decode cX2_bestSplit 17 = .ok (.iload 7, 2) := by decide +kernel
theorem dX2_bestSplit_19 : decode cX2_bestSplit 19 = .ok (.iconst 5, 1) := by decide +kernel
theorem dX2_bestSplit_20 : decode cX2_bestSplit 20 = .ok (.if_icmp .ge 55, 3) := by decide +kernel
theorem dX2_bestSplit_23 : decode cX2_bestSplit 23 = .ok (.aload 4, 2) := by decide +kernel
theorem dX2_bestSplit_25 : decode cX2_bestSplit 25 = .ok (.iload 7, 2) := by decide +kernel
theorem dX2_bestSplit_27 : decode cX2_bestSplit 27 = .ok (.invokevirtual 61, 3) := by decide +kernel
theorem dX2_bestSplit_30 : decode cX2_bestSplit 30 = .ok (.ifCond .eq 39, 3) := by decide +kernel
theorem dX2_bestSplit_33 : decode cX2_bestSplit 33 = .ok (.aload 4, 2) := by decide +kernel
theorem dX2_bestSplit_35 : decode cX2_bestSplit 35 = .ok (.iload 7, 2) := by decide +kernel
theorem dX2_bestSplit_37 : decode cX2_bestSplit 37 = .ok (.aload_n 2, 1) := by decide +kernel
theorem dX2_bestSplit_38 : decode cX2_bestSplit 38 = .ok (.iload_n 3, 1) := by decide +kernel
theorem dX2_bestSplit_39 : decode cX2_bestSplit 39 = .ok (.invokevirtual 65, 3) := by decide +kernel
theorem dX2_bestSplit_42 : decode cX2_bestSplit 42 = .ok (.aload_n 0, 1) := by decide +kernel
theorem dX2_bestSplit_43 : decode cX2_bestSplit 43 = .ok (.getfield 28, 3) := by decide +kernel
theorem dX2_bestSplit_46 : decode cX2_bestSplit 46 = .ok (.iload_n 1, 1) := by decide +kernel
theorem dX2_bestSplit_47 : decode cX2_bestSplit 47 = .ok (.aaload, 1) := by decide +kernel
theorem dX2_bestSplit_48 : decode cX2_bestSplit 48 = .ok (.iload 7, 2) := by decide +kernel
theorem dX2_bestSplit_50 : decode cX2_bestSplit 50 = .ok (.iaload, 1) := by decide +kernel
theorem dX2_bestSplit_51 : decode cX2_bestSplit 51 = .ok (.iadd, 1) := by decide +kernel
theorem dX2_bestSplit_52 : decode cX2_bestSplit 52 = .ok (.istore 8, 2) := by decide +kernel
theorem dX2_bestSplit_54 : decode cX2_bestSplit 54 = .ok (.iload 8, 2) := by decide +kernel
theorem dX2_bestSplit_56 : decode cX2_bestSplit 56 = .ok (.iload 6, 2) := by decide +kernel
theorem dX2_bestSplit_58 : decode cX2_bestSplit 58 = .ok (.if_icmp .ge 11, 3) := by decide +kernel
theorem dX2_bestSplit_61 : decode cX2_bestSplit 61 = .ok (.iload 8, 2) := by decide +kernel
theorem dX2_bestSplit_63 : decode cX2_bestSplit 63 = .ok (.istore 6, 2) := by decide +kernel
theorem dX2_bestSplit_65 : decode cX2_bestSplit 65 = .ok (.iload 7, 2) := by decide +kernel
theorem dX2_bestSplit_67 : decode cX2_bestSplit 67 = .ok (.istore 5, 2) := by decide +kernel
theorem dX2_bestSplit_69 : decode cX2_bestSplit 69 = .ok (.iinc 7 1, 3) := by decide +kernel
theorem dX2_bestSplit_72 : decode cX2_bestSplit 72 = .ok (.goto (-55), 3) := by decide +kernel
theorem dX2_bestSplit_75 : decode cX2_bestSplit 75 = .ok (.iload 5, 2) := by decide +kernel
theorem dX2_bestSplit_77 : decode cX2_bestSplit 77 = .ok (.ireturn, 1) := by decide +kernel
theorem dX2_chordAt_0 : decode cX2_chordAt 0 = .ok (.iload_n 1, 1) := by decide +kernel
theorem dX2_chordAt_1 : decode cX2_chordAt 1 = .ok (.ifCond .lt 20, 3) := by decide +kernel
theorem dX2_chordAt_4 : decode cX2_chordAt 4 = .ok (.iload_n 1, 1) := by decide +kernel
theorem dX2_chordAt_5 : decode cX2_chordAt 5 = .ok (.aload_n 0, 1) := by decide +kernel
theorem dX2_chordAt_6 : decode cX2_chordAt 6 = .ok (.getfield 37, 3) := by decide +kernel
theorem dX2_chordAt_9 : decode cX2_chordAt 9 = .ok (.if_icmp .ge 12, 3) := by decide +kernel
theorem dX2_chordAt_12 : decode cX2_chordAt 12 = .ok (.aload_n 0, 1) := by decide +kernel
theorem dX2_chordAt_13 : decode cX2_chordAt 13 = .ok (.getfield 11, 3) := by decide +kernel
theorem dX2_chordAt_16 : decode cX2_chordAt 16 = .ok (.iload_n 1, 1) := by decide +kernel
theorem dX2_chordAt_17 : decode cX2_chordAt 17 = .ok (.aaload, 1) := by decide +kernel
theorem dX2_chordAt_18 : decode cX2_chordAt 18 = .ok (.goto 7, 3) := by decide +kernel
theorem dX2_chordAt_21 : decode cX2_chordAt 21 = .ok (.aload_n 0, 1) := by decide +kernel
theorem dX2_chordAt_22 : decode cX2_chordAt 22 = .ok (.getfield 18, 3) := by decide +kernel
theorem dX2_chordAt_25 : decode cX2_chordAt 25 = .ok (.areturn, 1) := by decide +kernel
theorem dX2_splitAt_0 : decode cX2_splitAt 0 = .ok (.iload_n 1, 1) := by decide +kernel
theorem dX2_splitAt_1 : decode cX2_splitAt 1 = .ok (.ifCond .lt 20, 3) := by decide +kernel
theorem dX2_splitAt_4 : decode cX2_splitAt 4 = .ok (.iload_n 1, 1) := by decide +kernel
theorem dX2_splitAt_5 : decode cX2_splitAt 5 = .ok (.aload_n 0, 1) := by decide +kernel
theorem dX2_splitAt_6 : decode cX2_splitAt 6 = .ok (.getfield 37, 3) := by decide +kernel
theorem dX2_splitAt_9 : decode cX2_splitAt 9 = .ok (.if_icmp .ge 12, 3) := by decide +kernel
theorem dX2_splitAt_12 : decode cX2_splitAt 12 = .ok (.aload_n 0, 1) := by decide +kernel
theorem dX2_splitAt_13 : decode cX2_splitAt 13 = .ok (.getfield 22, 3) := by decide +kernel
theorem dX2_splitAt_16 : decode cX2_splitAt 16 = .ok (.iload_n 1, 1) := by decide +kernel
theorem dX2_splitAt_17 : decode cX2_splitAt 17 = .ok (.iaload, 1) := by decide +kernel
theorem dX2_splitAt_18 : decode cX2_splitAt 18 = .ok (.goto 4, 3) := by decide +kernel
theorem dX2_splitAt_21 : decode cX2_splitAt 21 = .ok (.iconst 0, 1) := by decide +kernel
theorem dX2_splitAt_22 : decode cX2_splitAt 22 = .ok (.ireturn, 1) := by decide +kernel
theorem dX2_cutStaves_0 : decode cX2_cutStaves 0 = .ok (.aload_n 0, 1) := by decide +kernel
theorem dX2_cutStaves_1 : decode cX2_cutStaves 1 = .ok (.iload_n 1, 1) := by decide +kernel
theorem dX2_cutStaves_2 : decode cX2_cutStaves 2 = .ok (.invokevirtual 50, 3) := by decide +kernel
theorem dX2_cutStaves_5 : decode cX2_cutStaves 5 = .ok (.aload_n 0, 1) := by decide +kernel
theorem dX2_cutStaves_6 : decode cX2_cutStaves 6 = .ok (.iload_n 1, 1) := by decide +kernel
theorem dX2_cutStaves_7 : decode cX2_cutStaves 7 = .ok (.invokevirtual 54, 3) := by decide +kernel
theorem dX2_cutStaves_10 : decode cX2_cutStaves 10 = .ok (.aload_n 0, 1) := by decide +kernel
theorem dX2_cutStaves_11 : decode cX2_cutStaves 11 = .ok (.iload_n 1, 1) := by decide +kernel
theorem dX2_cutStaves_12 : decode cX2_cutStaves 12 = .ok (.iconst 1, 1) := by decide +kernel
theorem dX2_cutStaves_13 : decode cX2_cutStaves 13 = .ok (.isub, 1) := by decide +kernel
theorem dX2_cutStaves_14 : decode cX2_cutStaves 14 = .ok (.invokevirtual 50, 3) := by decide +kernel
theorem dX2_cutStaves_17 : decode cX2_cutStaves 17 = .ok (.aload_n 0, 1) := by decide +kernel
theorem dX2_cutStaves_18 : decode cX2_cutStaves 18 = .ok (.iload_n 1, 1) := by decide +kernel
theorem dX2_cutStaves_19 : decode cX2_cutStaves 19 = .ok (.iconst 1, 1) := by decide +kernel
theorem dX2_cutStaves_20 : decode cX2_cutStaves 20 = .ok (.isub, 1) := by decide +kernel
theorem dX2_cutStaves_21 : decode cX2_cutStaves 21 = .ok (.invokevirtual 54, 3) := by decide +kernel
theorem dX2_cutStaves_24 : decode cX2_cutStaves 24 = .ok (.invokevirtual 71, 3) := by decide +kernel
theorem dX2_cutStaves_27 : decode cX2_cutStaves 27 = .ok (.ireturn, 1) := by decide +kernel
theorem dX2_move_0 : decode cX2_move 0 = .ok (.aload_n 0, 1) := by decide +kernel
theorem dX2_move_1 : decode cX2_move 1 = .ok (.iload_n 2, 1) := by decide +kernel
theorem dX2_move_2 : decode cX2_move 2 = .ok (.invokevirtual 50, 3) := by decide +kernel
theorem dX2_move_5 : decode cX2_move 5 = .ok (.iload_n 1, 1) := by decide +kernel
theorem dX2_move_6 : decode cX2_move 6 = .ok (.aload_n 0, 1) := by decide +kernel
theorem dX2_move_7 : decode cX2_move 7 = .ok (.iload_n 2, 1) := by decide +kernel
theorem dX2_move_8 : decode cX2_move 8 = .ok (.invokevirtual 54, 3) := by decide +kernel
theorem dX2_move_11 : decode cX2_move 11 = .ok (.aload_n 0, 1) := by decide +kernel
theorem dX2_move_12 : decode cX2_move 12 = .ok (.iload_n 2, 1) := by decide +kernel
theorem dX2_move_13 : decode cX2_move 13 = .ok (.iconst 1, 1) := by decide +kernel
theorem dX2_move_14 : decode cX2_move 14 = .ok (.isub, 1) := by decide +kernel
theorem dX2_move_15 : decode cX2_move 15 = .ok (.invokevirtual 50, 3) := by decide +kernel
theorem dX2_move_18 : decode cX2_move 18 = .ok (.aload_n 0, 1) := by decide +kernel
theorem dX2_move_19 : decode cX2_move 19 = .ok (.iload_n 2, 1) := by decide +kernel
theorem dX2_move_20 : decode cX2_move 20 = .ok (.iconst 1, 1) := by decide +kernel
theorem dX2_move_21 : decode cX2_move 21 = .ok (.isub, 1) := by decide +kernel
theorem dX2_move_22 : decode cX2_move 22 = .ok (.invokevirtual 54, 3) := by decide +kernel
theorem dX2_move_25 : decode cX2_move 25 = .ok (.invokevirtual 74, 3) := by decide +kernel
theorem dX2_move_28 : decode cX2_move 28 = .ok (.ireturn, 1) := by decide +kernel
theorem dX2_costs_0 : decode cX2_costs 0 = .ok (.aload_n 0, 1) := by decide +kernel
theorem dX2_costs_1 : decode cX2_costs 1 = .ok (.iload_n 1, 1) := by decide +kernel
theorem dX2_costs_2 : decode cX2_costs 2 = .ok (.invokevirtual 50, 3) := by decide +kernel
theorem dX2_costs_5 : decode cX2_costs 5 = .ok (.aload_n 0, 1) := by decide +kernel
theorem dX2_costs_6 : decode cX2_costs 6 = .ok (.iload_n 1, 1) := by decide +kernel
theorem dX2_costs_7 : decode cX2_costs 7 = .ok (.invokevirtual 54, 3) := by decide +kernel
theorem dX2_costs_10 : decode cX2_costs 10 = .ok (.aload_n 0, 1) := by decide +kernel
theorem dX2_costs_11 : decode cX2_costs 11 = .ok (.iload_n 1, 1) := by decide +kernel
theorem dX2_costs_12 : decode cX2_costs 12 = .ok (.iconst 1, 1) := by decide +kernel
theorem dX2_costs_13 : decode cX2_costs 13 = .ok (.isub, 1) := by decide +kernel
theorem dX2_costs_14 : decode cX2_costs 14 = .ok (.invokevirtual 50, 3) := by decide +kernel
theorem dX2_costs_17 : decode cX2_costs 17 = .ok (.aload_n 0, 1) := by decide +kernel
theorem dX2_costs_18 : decode cX2_costs 18 = .ok (.iload_n 1, 1) := by decide +kernel
theorem dX2_costs_19 : decode cX2_costs 19 = .ok (.iconst 1, 1) := by decide +kernel
theorem dX2_costs_20 : decode cX2_costs 20 = .ok (.isub, 1) := by decide +kernel
theorem dX2_costs_21 : decode cX2_costs 21 = .ok (.invokevirtual 54, 3) := by decide +kernel
theorem dX2_costs_24 : decode cX2_costs 24 = .ok (.invokevirtual 65, 3) := by decide +kernel
theorem dX2_costs_27 : decode cX2_costs 27 = .ok (.ireturn, 1) := by decide +kernel
theorem dX2_numberOfNote_0 : decode cX2_numberOfNote 0 = .ok (.aload_n 0, 1) := by decide +kernel
theorem dX2_numberOfNote_1 : decode cX2_numberOfNote 1 = .ok (.iload_n 2, 1) := by decide +kernel
theorem dX2_numberOfNote_2 : decode cX2_numberOfNote 2 = .ok (.invokevirtual 50, 3) := by decide +kernel
theorem dX2_numberOfNote_5 : decode cX2_numberOfNote 5 = .ok (.astore 4, 2) := by decide +kernel
theorem dX2_numberOfNote_7 : decode cX2_numberOfNote 7 = .ok (.aload 4, 2) := by decide +kernel
theorem dX2_numberOfNote_9 : decode cX2_numberOfNote 9 = .ok (.getfield 78, 3) := by decide +kernel
theorem dX2_numberOfNote_12 : decode cX2_numberOfNote 12 = .ok (.iload_n 1, 1) := by decide +kernel
theorem dX2_numberOfNote_13 : decode cX2_numberOfNote 13 = .ok (.iaload, 1) := by decide +kernel
theorem dX2_numberOfNote_14 : decode cX2_numberOfNote 14 = .ok (.istore 5, 2) := by decide +kernel
theorem dX2_numberOfNote_16 : decode cX2_numberOfNote 16 = .ok (.iload 5, 2) := by decide +kernel
theorem dX2_numberOfNote_18 : decode cX2_numberOfNote 18 = .ok (.bipush (-9), 2) := by decide +kernel
theorem dX2_numberOfNote_20 : decode cX2_numberOfNote 20 = .ok (.if_icmp .eq 8, 3) := by decide +kernel
theorem dX2_numberOfNote_23 : decode cX2_numberOfNote 23 = .ok (.iload_n 3, 1) := by decide +kernel
theorem dX2_numberOfNote_24 : decode cX2_numberOfNote 24 = .ok (.iconst 1, 1) := by decide +kernel
theorem dX2_numberOfNote_25 : decode cX2_numberOfNote 25 = .ok (.if_icmp .ne 6, 3) := by decide +kernel
theorem dX2_numberOfNote_28 : decode cX2_numberOfNote 28 = .ok (.iload 5, 2) := by decide +kernel
theorem dX2_numberOfNote_30 : decode cX2_numberOfNote 30 = .ok (.ireturn, 1) := by decide +kernel
theorem dX2_numberOfNote_31 : decode cX2_numberOfNote 31 = .ok (.aload_n 0, 1) := by decide +kernel
theorem dX2_numberOfNote_32 : decode cX2_numberOfNote 32 = .ok (.iload_n 2, 1) := by decide +kernel
theorem dX2_numberOfNote_33 : decode cX2_numberOfNote 33 = .ok (.invokevirtual 81, 3) := by decide +kernel
theorem dX2_numberOfNote_36 : decode cX2_numberOfNote 36 = .ok (.iload_n 1, 1) := by decide +kernel
theorem dX2_numberOfNote_37 : decode cX2_numberOfNote 37 = .ok (.ishr, 1) := by decide +kernel
theorem dX2_numberOfNote_38 : decode cX2_numberOfNote 38 = .ok (.iconst 1, 1) := by decide +kernel
theorem dX2_numberOfNote_39 : decode cX2_numberOfNote 39 = .ok (.iand, 1) := by decide +kernel
theorem dX2_numberOfNote_40 : decode cX2_numberOfNote 40 = .ok (.iconst 1, 1) := by decide +kernel
theorem dX2_numberOfNote_41 : decode cX2_numberOfNote 41 = .ok (.if_icmp .ne 7, 3) := by decide +kernel
theorem dX2_numberOfNote_44 : decode cX2_numberOfNote 44 = .ok (.iconst 1, 1) := by decide +kernel
theorem dX2_numberOfNote_45 : decode cX2_numberOfNote 45 = .ok (.goto 4, 3) := by decide +kernel
theorem dX2_numberOfNote_48 : decode cX2_numberOfNote 48 = .ok (.iconst 0, 1) := by decide +kernel
theorem dX2_numberOfNote_49 : decode cX2_numberOfNote 49 = .ok (.istore 6, 2) := by decide +kernel
theorem dX2_numberOfNote_51 : decode cX2_numberOfNote 51 = .ok (.iload_n 3, 1) := by decide +kernel
theorem dX2_numberOfNote_52 : decode cX2_numberOfNote 52 = .ok (.iconst 3, 1) := by decide +kernel
theorem dX2_numberOfNote_53 : decode cX2_numberOfNote 53 = .ok (.if_icmp .ne 14, 3) := by decide +kernel
theorem dX2_numberOfNote_56 : decode cX2_numberOfNote 56 = .ok (.iload 6, 2) := by decide +kernel
theorem dX2_numberOfNote_58 : decode cX2_numberOfNote 58 = .ok (.ifCond .eq 7, 3) := by decide +kernel
theorem dX2_numberOfNote_61 : decode cX2_numberOfNote 61 = .ok (.iconst 1, 1) := by decide +kernel
theorem dX2_numberOfNote_62 : decode cX2_numberOfNote 62 = .ok (.goto 4, 3) := by decide +kernel
theorem dX2_numberOfNote_65 : decode cX2_numberOfNote 65 = .ok (.iconst 0, 1) := by decide +kernel
theorem dX2_numberOfNote_66 : decode cX2_numberOfNote 66 = .ok (.ireturn, 1) := by decide +kernel
theorem dX2_numberOfNote_67 : decode cX2_numberOfNote 67 = .ok (.iload 5, 2) := by decide +kernel
theorem dX2_numberOfNote_69 : decode cX2_numberOfNote 69 = .ok (.ifCond .eq 6, 3) := by decide +kernel
theorem dX2_numberOfNote_72 : decode cX2_numberOfNote 72 = .ok (.bipush (-9), 2) := by decide +kernel
theorem dX2_numberOfNote_74 : decode cX2_numberOfNote 74 = .ok (.ireturn, 1) := by decide +kernel
theorem dX2_numberOfNote_75 : decode cX2_numberOfNote 75 = .ok (.iload_n 3, 1) := by decide +kernel
theorem dX2_numberOfNote_76 : decode cX2_numberOfNote 76 = .ok (.iconst 2, 1) := by decide +kernel
theorem dX2_numberOfNote_77 : decode cX2_numberOfNote 77 = .ok (.if_icmp .ne 39, 3) := by decide +kernel
theorem dX2_numberOfNote_80 : decode cX2_numberOfNote 80 = .ok (.aload 4, 2) := by decide +kernel
theorem dX2_numberOfNote_82 : decode cX2_numberOfNote 82 = .ok (.getfield 83, 3) := by decide +kernel
theorem dX2_numberOfNote_85 : decode cX2_numberOfNote 85 = .ok (.iload_n 1, 1) := by decide +kernel
theorem dX2_numberOfNote_86 : decode cX2_numberOfNote 86 = .ok (.ishr, 1) := by decide +kernel
theorem dX2_numberOfNote_87 : decode cX2_numberOfNote 87 = .ok (.iconst 1, 1) := by decide +kernel
theorem dX2_numberOfNote_88 : decode cX2_numberOfNote 88 = .ok (.iand, 1) := by decide +kernel
theorem dX2_numberOfNote_89 : decode cX2_numberOfNote 89 = .ok (.iconst 1, 1) := by decide +kernel
theorem dX2_numberOfNote_90 : decode cX2_numberOfNote 90 = .ok (.if_icmp .ne 7, 3) := by decide +kernel
theorem dX2_numberOfNote_93 : decode cX2_numberOfNote 93 = .ok (.iconst 1, 1) := by decide +kernel
theorem dX2_numberOfNote_94 : decode cX2_numberOfNote 94 = .ok (.goto 4, 3) := by decide +kernel
theorem dX2_numberOfNote_97 : decode cX2_numberOfNote 97 = .ok (.iconst 0, 1) := by decide +kernel
theorem dX2_numberOfNote_98 : decode cX2_numberOfNote 98 = .ok (.istore 7, 2) := by decide +kernel
theorem dX2_numberOfNote_100 : decode cX2_numberOfNote 100 = .ok (.iload 7, 2) := by decide +kernel
theorem dX2_numberOfNote_102 : decode cX2_numberOfNote 102 = .ok (.ifCond .eq 12, 3) := by decide +kernel
theorem dX2_numberOfNote_105 : decode cX2_numberOfNote 105 = .ok (.iload 6, 2) := by decide +kernel
theorem dX2_numberOfNote_107 : decode cX2_numberOfNote 107 = .ok (.ifCond .ne 7, 3) := by decide +kernel
theorem dX2_numberOfNote_110 : decode cX2_numberOfNote 110 = .ok (.iconst 0, 1) := by decide +kernel
theorem dX2_numberOfNote_111 : decode cX2_numberOfNote 111 = .ok (.goto 4, 3) := by decide +kernel
theorem dX2_numberOfNote_114 : decode cX2_numberOfNote 114 = .ok (.iconst 1, 1) := by decide +kernel
theorem dX2_numberOfNote_115 : decode cX2_numberOfNote 115 = .ok (.ireturn, 1) := by decide +kernel
theorem dX2_numberOfNote_116 : decode cX2_numberOfNote 116 = .ok (.aload 4, 2) := by decide +kernel
theorem dX2_numberOfNote_118 : decode cX2_numberOfNote 118 = .ok (.iconst 0, 1) := by decide +kernel
theorem dX2_numberOfNote_119 : decode cX2_numberOfNote 119 = .ok (.aload_n 0, 1) := by decide +kernel
theorem dX2_numberOfNote_120 : decode cX2_numberOfNote 120 = .ok (.iload_n 2, 1) := by decide +kernel
theorem dX2_numberOfNote_121 : decode cX2_numberOfNote 121 = .ok (.invokevirtual 54, 3) := by decide +kernel
theorem dX2_numberOfNote_124 : decode cX2_numberOfNote 124 = .ok (.invokevirtual 86, 3) := by decide +kernel
theorem dX2_numberOfNote_127 : decode cX2_numberOfNote 127 = .ok (.iload_n 1, 1) := by decide +kernel
theorem dX2_numberOfNote_128 : decode cX2_numberOfNote 128 = .ok (.ishr, 1) := by decide +kernel
theorem dX2_numberOfNote_129 : decode cX2_numberOfNote 129 = .ok (.iconst 1, 1) := by decide +kernel
theorem dX2_numberOfNote_130 : decode cX2_numberOfNote 130 = .ok (.iand, 1) := by decide +kernel
theorem dX2_numberOfNote_131 : decode cX2_numberOfNote 131 = .ok (.iconst 1, 1) := by decide +kernel
theorem dX2_numberOfNote_132 : decode cX2_numberOfNote 132 = .ok (.if_icmp .ne 7, 3) := by decide +kernel
theorem dX2_numberOfNote_135 : decode cX2_numberOfNote 135 = .ok (.iconst 0, 1) := by decide +kernel
theorem dX2_numberOfNote_136 : decode cX2_numberOfNote 136 = .ok (.goto 4, 3) := by decide +kernel
theorem dX2_numberOfNote_139 : decode cX2_numberOfNote 139 = .ok (.iconst 1, 1) := by decide +kernel
theorem dX2_numberOfNote_140 : decode cX2_numberOfNote 140 = .ok (.ireturn, 1) := by decide +kernel
theorem dX2_numberOfHand_0 : decode cX2_numberOfHand 0 = .ok (.aload_n 0, 1) := by decide +kernel
theorem dX2_numberOfHand_1 : decode cX2_numberOfHand 1 = .ok (.iload_n 2, 1) := by decide +kernel
theorem dX2_numberOfHand_2 : decode cX2_numberOfHand 2 = .ok (.invokevirtual 50, 3) := by decide +kernel
theorem dX2_numberOfHand_5 : decode cX2_numberOfHand 5 = .ok (.astore 4, 2) := by decide +kernel
theorem dX2_numberOfHand_7 : decode cX2_numberOfHand 7 = .ok (.aload_n 0, 1) := by decide +kernel
theorem dX2_numberOfHand_8 : decode cX2_numberOfHand 8 = .ok (.iload_n 2, 1) := by decide +kernel
theorem dX2_numberOfHand_9 : decode cX2_numberOfHand 9 = .ok (.invokevirtual 54, 3) := by decide +kernel
theorem dX2_numberOfHand_12 : decode cX2_numberOfHand 12 = .ok (.istore 5, 2) := by decide +kernel
theorem dX2_numberOfHand_14 : decode cX2_numberOfHand 14 = .ok (.iload_n 3, 1) := by decide +kernel
theorem dX2_numberOfHand_15 : decode cX2_numberOfHand 15 = .ok (.tableswitch 77 0 3 #[29, 38, 49, 60], 29) := by decide +kernel
theorem dX2_numberOfHand_44 : decode cX2_numberOfHand 44 = .ok (.aload 4, 2) := by decide +kernel
theorem dX2_numberOfHand_46 : decode cX2_numberOfHand 46 = .ok (.iload_n 1, 1) := by decide +kernel
theorem dX2_numberOfHand_47 : decode cX2_numberOfHand 47 = .ok (.iload 5, 2) := by decide +kernel
theorem dX2_numberOfHand_49 : decode cX2_numberOfHand 49 = .ok (.invokevirtual 90, 3) := by decide +kernel
theorem dX2_numberOfHand_52 : decode cX2_numberOfHand 52 = .ok (.ireturn, 1) := by decide +kernel
theorem dX2_numberOfHand_53 : decode cX2_numberOfHand 53 = .ok (.aload 4, 2) := by decide +kernel
theorem dX2_numberOfHand_55 : decode cX2_numberOfHand 55 = .ok (.getfield 93, 3) := by decide +kernel
theorem dX2_numberOfHand_58 : decode cX2_numberOfHand 58 = .ok (.iload_n 1, 1) := by decide +kernel
theorem dX2_numberOfHand_59 : decode cX2_numberOfHand 59 = .ok (.aaload, 1) := by decide +kernel
theorem dX2_numberOfHand_60 : decode cX2_numberOfHand 60 = .ok (.iload 5, 2) := by decide +kernel
theorem dX2_numberOfHand_62 : decode cX2_numberOfHand 62 = .ok (.iaload, 1) := by decide +kernel
theorem dX2_numberOfHand_63 : decode cX2_numberOfHand 63 = .ok (.ireturn, 1) := by decide +kernel
theorem dX2_numberOfHand_64 : decode cX2_numberOfHand 64 = .ok (.aload 4, 2) := by decide +kernel
theorem dX2_numberOfHand_66 : decode cX2_numberOfHand 66 = .ok (.getfield 96, 3) := by decide +kernel
theorem dX2_numberOfHand_69 : decode cX2_numberOfHand 69 = .ok (.iload_n 1, 1) := by decide +kernel
theorem dX2_numberOfHand_70 : decode cX2_numberOfHand 70 = .ok (.aaload, 1) := by decide +kernel
theorem dX2_numberOfHand_71 : decode cX2_numberOfHand 71 = .ok (.iload 5, 2) := by decide +kernel
theorem dX2_numberOfHand_73 : decode cX2_numberOfHand 73 = .ok (.iaload, 1) := by decide +kernel
theorem dX2_numberOfHand_74 : decode cX2_numberOfHand 74 = .ok (.ireturn, 1) := by decide +kernel
theorem dX2_numberOfHand_75 : decode cX2_numberOfHand 75 = .ok (.aload 4, 2) := by decide +kernel
theorem dX2_numberOfHand_77 : decode cX2_numberOfHand 77 = .ok (.iload_n 1, 1) := by decide +kernel
theorem dX2_numberOfHand_78 : decode cX2_numberOfHand 78 = .ok (.iload 5, 2) := by decide +kernel
theorem dX2_numberOfHand_80 : decode cX2_numberOfHand 80 = .ok (.invokevirtual 99, 3) := by decide +kernel
theorem dX2_numberOfHand_83 : decode cX2_numberOfHand 83 = .ok (.ifCond .eq 7, 3) := by decide +kernel
theorem dX2_numberOfHand_86 : decode cX2_numberOfHand 86 = .ok (.iconst 1, 1) := by decide +kernel
theorem dX2_numberOfHand_87 : decode cX2_numberOfHand 87 = .ok (.goto 4, 3) := by decide +kernel
theorem dX2_numberOfHand_90 : decode cX2_numberOfHand 90 = .ok (.iconst 0, 1) := by decide +kernel
theorem dX2_numberOfHand_91 : decode cX2_numberOfHand 91 = .ok (.ireturn, 1) := by decide +kernel
theorem dX2_numberOfHand_92 : decode cX2_numberOfHand 92 = .ok (.aload_n 0, 1) := by decide +kernel
theorem dX2_numberOfHand_93 : decode cX2_numberOfHand 93 = .ok (.iload_n 1, 1) := by decide +kernel
theorem dX2_numberOfHand_94 : decode cX2_numberOfHand 94 = .ok (.iload_n 2, 1) := by decide +kernel
theorem dX2_numberOfHand_95 : decode cX2_numberOfHand 95 = .ok (.invokevirtual 103, 3) := by decide +kernel
theorem dX2_numberOfHand_98 : decode cX2_numberOfHand 98 = .ok (.ireturn, 1) := by decide +kernel
theorem dX2_numberOfBeat_0 : decode cX2_numberOfBeat 0 = .ok (.aload_n 0, 1) := by decide +kernel
theorem dX2_numberOfBeat_1 : decode cX2_numberOfBeat 1 = .ok (.iload_n 1, 1) := by decide +kernel
theorem dX2_numberOfBeat_2 : decode cX2_numberOfBeat 2 = .ok (.invokevirtual 50, 3) := by decide +kernel
theorem dX2_numberOfBeat_5 : decode cX2_numberOfBeat 5 = .ok (.astore_n 3, 1) := by decide +kernel
theorem dX2_numberOfBeat_6 : decode cX2_numberOfBeat 6 = .ok (.iload_n 2, 1) := by decide +kernel
theorem dX2_numberOfBeat_7 : decode cX2_numberOfBeat 7 = .ok (.tableswitch 54 0 3 #[29, 35, 43, 49], 29) := by decide +kernel
theorem dX2_numberOfBeat_36 : decode cX2_numberOfBeat 36 = .ok (.aload_n 0, 1) := by decide +kernel
theorem dX2_numberOfBeat_37 : decode cX2_numberOfBeat 37 = .ok (.iload_n 1, 1) := by decide +kernel
theorem dX2_numberOfBeat_38 : decode cX2_numberOfBeat 38 = .ok (.invokevirtual 54, 3) := by decide +kernel
theorem dX2_numberOfBeat_41 : decode cX2_numberOfBeat 41 = .ok (.ireturn, 1) := by decide +kernel
theorem dX2_numberOfBeat_42 : decode cX2_numberOfBeat 42 = .ok (.aload_n 3, 1) := by decide +kernel
theorem dX2_numberOfBeat_43 : decode cX2_numberOfBeat 43 = .ok (.getfield 105, 3) := by decide +kernel
theorem dX2_numberOfBeat_46 : decode cX2_numberOfBeat 46 = .ok (.invokestatic 108, 3) := by decide +kernel
theorem dX2_numberOfBeat_49 : decode cX2_numberOfBeat 49 = .ok (.ireturn, 1) := by decide +kernel
theorem dX2_numberOfBeat_50 : decode cX2_numberOfBeat 50 = .ok (.aload_n 0, 1) := by decide +kernel
theorem dX2_numberOfBeat_51 : decode cX2_numberOfBeat 51 = .ok (.iload_n 1, 1) := by decide +kernel
theorem dX2_numberOfBeat_52 : decode cX2_numberOfBeat 52 = .ok (.invokevirtual 111, 3) := by decide +kernel
theorem dX2_numberOfBeat_55 : decode cX2_numberOfBeat 55 = .ok (.ireturn, 1) := by decide +kernel
theorem dX2_numberOfBeat_56 : decode cX2_numberOfBeat 56 = .ok (.aload_n 3, 1) := by decide +kernel
theorem dX2_numberOfBeat_57 : decode cX2_numberOfBeat 57 = .ok (.getfield 113, 3) := by decide +kernel
theorem dX2_numberOfBeat_60 : decode cX2_numberOfBeat 60 = .ok (.ireturn, 1) := by decide +kernel
theorem dX2_numberOfBeat_61 : decode cX2_numberOfBeat 61 = .ok (.aload_n 3, 1) := by decide +kernel
theorem dX2_numberOfBeat_62 : decode cX2_numberOfBeat 62 = .ok (.getfield 105, 3) := by decide +kernel
theorem dX2_numberOfBeat_65 : decode cX2_numberOfBeat 65 = .ok (.ireturn, 1) := by decide +kernel
theorem dX2_numberOfWhole_0 : decode cX2_numberOfWhole 0 = .ok (.iconst 0, 1) := by decide +kernel
theorem dX2_numberOfWhole_1 : decode cX2_numberOfWhole 1 = .ok (.istore_n 2, 1) := by decide +kernel
theorem dX2_numberOfWhole_2 : decode cX2_numberOfWhole 2 = .ok (.iconst 0, 1) := by decide +kernel
theorem dX2_numberOfWhole_3 : decode cX2_numberOfWhole 3 = .ok (.istore_n 3, 1) := by decide +kernel
theorem dX2_numberOfWhole_4 : decode cX2_numberOfWhole 4 = .ok (.iload_n 3, 1) := by decide +kernel
theorem dX2_numberOfWhole_5 : decode cX2_numberOfWhole 5 = .ok (.aload_n 0, 1) := by decide +kernel
theorem dX2_numberOfWhole_6 : decode cX2_numberOfWhole 6 = .ok (.getfield 37, 3) := by decide +kernel
theorem dX2_numberOfWhole_9 : decode cX2_numberOfWhole 9 = .ok (.if_icmp .ge 18, 3) := by decide +kernel
theorem dX2_numberOfWhole_12 : decode cX2_numberOfWhole 12 = .ok (.iload_n 2, 1) := by decide +kernel
theorem dX2_numberOfWhole_13 : decode cX2_numberOfWhole 13 = .ok (.aload_n 0, 1) := by decide +kernel
theorem dX2_numberOfWhole_14 : decode cX2_numberOfWhole 14 = .ok (.iload_n 3, 1) := by decide +kernel
theorem dX2_numberOfWhole_15 : decode cX2_numberOfWhole 15 = .ok (.iload_n 1, 1) := by decide +kernel
theorem dX2_numberOfWhole_16 : decode cX2_numberOfWhole 16 = .ok (.invokevirtual 116, 3) := by decide +kernel
theorem dX2_numberOfWhole_19 : decode cX2_numberOfWhole 19 = .ok (.iadd, 1) := by decide +kernel
theorem dX2_numberOfWhole_20 : decode cX2_numberOfWhole 20 = .ok (.istore_n 2, 1) := by decide +kernel
theorem dX2_numberOfWhole_21 : decode cX2_numberOfWhole 21 = .ok (.iinc 3 1, 3) := by decide +kernel
theorem dX2_numberOfWhole_24 : decode cX2_numberOfWhole 24 = .ok (.goto (-20), 3) := by decide +kernel
theorem dX2_numberOfWhole_27 : decode cX2_numberOfWhole 27 = .ok (.iload_n 2, 1) := by decide +kernel
theorem dX2_numberOfWhole_28 : decode cX2_numberOfWhole 28 = .ok (.ireturn, 1) := by decide +kernel
theorem dX2_shareOfBeat_0 : decode cX2_shareOfBeat 0 = .ok (.aload_n 0, 1) := by decide +kernel
theorem dX2_shareOfBeat_1 : decode cX2_shareOfBeat 1 = .ok (.iload_n 1, 1) := by decide +kernel
theorem dX2_shareOfBeat_2 : decode cX2_shareOfBeat 2 = .ok (.invokevirtual 50, 3) := by decide +kernel
theorem dX2_shareOfBeat_5 : decode cX2_shareOfBeat 5 = .ok (.astore_n 3, 1) := by decide +kernel
theorem dX2_shareOfBeat_6 : decode cX2_shareOfBeat 6 = .ok (.iload_n 2, 1) := by decide +kernel
theorem dX2_shareOfBeat_7 : decode cX2_shareOfBeat 7 = .ok (.tableswitch 105 0 7 #[45, 105, 105, 105, 51, 60, 70, 84], 45) := by decide +kernel
theorem dX2_shareOfBeat_52 : decode cX2_shareOfBeat 52 = .ok (.aload_n 0, 1) := by decide +kernel
theorem dX2_shareOfBeat_53 : decode cX2_shareOfBeat 53 = .ok (.iload_n 1, 1) := by decide +kernel
theorem dX2_shareOfBeat_54 : decode cX2_shareOfBeat 54 = .ok (.invokevirtual 111, 3) := by decide +kernel
theorem dX2_shareOfBeat_57 : decode cX2_shareOfBeat 57 = .ok (.ireturn, 1) := by decide +kernel
theorem dX2_shareOfBeat_58 : decode cX2_shareOfBeat 58 = .ok (.aload_n 0, 1) := by decide +kernel
theorem dX2_shareOfBeat_59 : decode cX2_shareOfBeat 59 = .ok (.iload_n 1, 1) := by decide +kernel
theorem dX2_shareOfBeat_60 : decode cX2_shareOfBeat 60 = .ok (.invokevirtual 81, 3) := by decide +kernel
theorem dX2_shareOfBeat_63 : decode cX2_shareOfBeat 63 = .ok (.invokestatic 108, 3) := by decide +kernel
theorem dX2_shareOfBeat_66 : decode cX2_shareOfBeat 66 = .ok (.ireturn, 1) := by decide +kernel
theorem dX2_shareOfBeat_67 : decode cX2_shareOfBeat 67 = .ok (.aload_n 3, 1) := by decide +kernel
theorem dX2_shareOfBeat_68 : decode cX2_shareOfBeat 68 = .ok (.aload_n 0, 1) := by decide +kernel
theorem dX2_shareOfBeat_69 : decode cX2_shareOfBeat 69 = .ok (.iload_n 1, 1) := by decide +kernel
theorem dX2_shareOfBeat_70 : decode cX2_shareOfBeat 70 = .ok (.invokevirtual 54, 3) := by decide +kernel
theorem dX2_shareOfBeat_73 : decode cX2_shareOfBeat 73 = .ok (.invokevirtual 119, 3) := by decide +kernel
theorem dX2_shareOfBeat_76 : decode cX2_shareOfBeat 76 = .ok (.ireturn, 1) := by decide +kernel
theorem dX2_shareOfBeat_77 : decode cX2_shareOfBeat 77 = .ok (.aload_n 0, 1) := by decide +kernel
theorem dX2_shareOfBeat_78 : decode cX2_shareOfBeat 78 = .ok (.iconst 0, 1) := by decide +kernel
theorem dX2_shareOfBeat_79 : decode cX2_shareOfBeat 79 = .ok (.iload_n 1, 1) := by decide +kernel
theorem dX2_shareOfBeat_80 : decode cX2_shareOfBeat 80 = .ok (.invokevirtual 103, 3) := by decide +kernel
theorem dX2_shareOfBeat_83 : decode cX2_shareOfBeat 83 = .ok (.aload_n 0, 1) := by decide +kernel
theorem dX2_shareOfBeat_84 : decode cX2_shareOfBeat 84 = .ok (.iconst 1, 1) := by decide +kernel
theorem dX2_shareOfBeat_85 : decode cX2_shareOfBeat 85 = .ok (.iload_n 1, 1) := by decide +kernel
theorem dX2_shareOfBeat_86 : decode cX2_shareOfBeat 86 = .ok (.invokevirtual 103, 3) := by decide +kernel
theorem dX2_shareOfBeat_89 : decode cX2_shareOfBeat 89 = .ok (.iadd, 1) := by decide +kernel
theorem dX2_shareOfBeat_90 : decode cX2_shareOfBeat 90 = .ok (.ireturn, 1) := by decide +kernel
theorem dX2_shareOfBeat_91 : decode cX2_shareOfBeat 91 = .ok (.aload_n 3, 1) := by decide +kernel
theorem dX2_shareOfBeat_92 : decode cX2_shareOfBeat 92 = .ok (.getfield 113, 3) := by decide +kernel
theorem dX2_shareOfBeat_95 : decode cX2_shareOfBeat 95 = .ok (.aload_n 3, 1) := by decide +kernel
theorem dX2_shareOfBeat_96 : decode cX2_shareOfBeat 96 = .ok (.getfield 122, 3) := by decide +kernel
theorem dX2_shareOfBeat_99 : decode cX2_shareOfBeat 99 = .ok (.aload_n 0, 1) := by decide +kernel
theorem dX2_shareOfBeat_100 : decode cX2_shareOfBeat 100 = .ok (.iload_n 1, 1) := by decide +kernel
theorem dX2_shareOfBeat_101 : decode cX2_shareOfBeat 101 = .ok (.invokevirtual 81, 3) := by decide +kernel
theorem dX2_shareOfBeat_104 : decode cX2_shareOfBeat 104 = .ok (.iconst (-1), 1) := by decide +kernel
theorem dX2_shareOfBeat_105 : decode cX2_shareOfBeat 105 = .ok (.ixor, 1) := by decide +kernel
theorem dX2_shareOfBeat_106 : decode cX2_shareOfBeat 106 = .ok (.iand, 1) := by decide +kernel
theorem dX2_shareOfBeat_107 : decode cX2_shareOfBeat 107 = .ok (.invokestatic 108, 3) := by decide +kernel
theorem dX2_shareOfBeat_110 : decode cX2_shareOfBeat 110 = .ok (.isub, 1) := by decide +kernel
theorem dX2_shareOfBeat_111 : decode cX2_shareOfBeat 111 = .ok (.ireturn, 1) := by decide +kernel
theorem dX2_shareOfBeat_112 : decode cX2_shareOfBeat 112 = .ok (.aload_n 3, 1) := by decide +kernel
theorem dX2_shareOfBeat_113 : decode cX2_shareOfBeat 113 = .ok (.iload_n 2, 1) := by decide +kernel
theorem dX2_shareOfBeat_114 : decode cX2_shareOfBeat 114 = .ok (.invokevirtual 125, 3) := by decide +kernel
theorem dX2_shareOfBeat_117 : decode cX2_shareOfBeat 117 = .ok (.ireturn, 1) := by decide +kernel
theorem dX3_init_0 : decode cX3_init 0 = .ok (.aload_n 0, 1) := by decide +kernel
theorem dX3_init_1 : decode cX3_init 1 = .ok (.invokespecial 3, 3) := by decide +kernel
theorem dX3_init_4 : decode cX3_init 4 = .ok (.aload_n 0, 1) := by decide +kernel
theorem dX3_init_5 : decode cX3_init 5 = .ok (.bipush 6, 2) := by decide +kernel
theorem dX3_init_7 : decode cX3_init 7 = .ok (.newarray .int, 2) := by decide +kernel
theorem dX3_init_9 : decode cX3_init 9 = .ok (.putfield 9, 3) := by decide +kernel
theorem dX3_init_12 : decode cX3_init 12 = .ok (.aload_n 0, 1) := by decide +kernel
theorem dX3_init_13 : decode cX3_init 13 = .ok (.bipush 64, 2) := by decide +kernel
theorem dX3_init_15 : decode cX3_init 15 = .ok (.newarray .int, 2) := by decide +kernel
theorem dX3_init_17 : decode cX3_init 17 = .ok (.putfield 15, 3) := by decide +kernel
theorem dX3_init_20 : decode cX3_init 20 = .ok (.aload_n 0, 1) := by decide +kernel
theorem dX3_init_21 : decode cX3_init 21 = .ok (.iconst 1, 1) := by decide +kernel
theorem dX3_init_22 : decode cX3_init 22 = .ok (.iconst 1, 1) := by decide +kernel
theorem dX3_init_23 : decode cX3_init 23 = .ok (.invokevirtual 18, 3) := by decide +kernel
theorem dX3_init_26 : decode cX3_init 26 = .ok (.aload_n 0, 1) := by decide +kernel
theorem dX3_init_27 : decode cX3_init 27 = .ok (.invokevirtual 22, 3) := by decide +kernel
theorem dX3_init_30 : decode cX3_init 30 = .ok (.return_, 1) := by decide +kernel
theorem dX3_becomeRests_0 : decode cX3_becomeRests 0 = .ok (.aload_n 0, 1) := by decide +kernel
theorem dX3_becomeRests_1 : decode cX3_becomeRests 1 = .ok (.iload_n 1, 1) := by decide +kernel
theorem dX3_becomeRests_2 : decode cX3_becomeRests 2 = .ok (.putfield 25, 3) := by decide +kernel
theorem dX3_becomeRests_5 : decode cX3_becomeRests 5 = .ok (.aload_n 0, 1) := by decide +kernel
theorem dX3_becomeRests_6 : decode cX3_becomeRests 6 = .ok (.iload_n 2, 1) := by decide +kernel
theorem dX3_becomeRests_7 : decode cX3_becomeRests 7 = .ok (.putfield 29, 3) := by decide +kernel
theorem dX3_becomeRests_10 : decode cX3_becomeRests 10 = .ok (.iconst 0, 1) := by decide +kernel
theorem dX3_becomeRests_11 : decode cX3_becomeRests 11 = .ok (.istore_n 3, 1) := by decide +kernel
theorem dX3_becomeRests_12 : decode cX3_becomeRests 12 = .ok (.iload_n 3, 1) := by decide +kernel
theorem dX3_becomeRests_13 : decode cX3_becomeRests 13 = .ok (.aload_n 0, 1) := by decide +kernel
theorem dX3_becomeRests_14 : decode cX3_becomeRests 14 = .ok (.getfield 15, 3) := by decide +kernel
theorem dX3_becomeRests_17 : decode cX3_becomeRests 17 = .ok (.arraylength, 1) := by decide +kernel
theorem dX3_becomeRests_18 : decode cX3_becomeRests 18 = .ok (.if_icmp .ge 17, 3) := by decide +kernel
theorem dX3_becomeRests_21 : decode cX3_becomeRests 21 = .ok (.aload_n 0, 1) := by decide +kernel
theorem dX3_becomeRests_22 : decode cX3_becomeRests 22 = .ok (.getfield 15, 3) := by decide +kernel
theorem dX3_becomeRests_25 : decode cX3_becomeRests 25 = .ok (.iload_n 3, 1) := by decide +kernel
theorem dX3_becomeRests_26 : decode cX3_becomeRests 26 = .ok (.bipush (-9), 2) := by decide +kernel
theorem dX3_becomeRests_28 : decode cX3_becomeRests 28 = .ok (.iastore, 1) := by decide +kernel
theorem dX3_becomeRests_29 : decode cX3_becomeRests 29 = .ok (.iinc 3 1, 3) := by decide +kernel
theorem dX3_becomeRests_32 : decode cX3_becomeRests 32 = .ok (.goto (-20), 3) := by decide +kernel
theorem dX3_becomeRests_35 : decode cX3_becomeRests 35 = .ok (.return_, 1) := by decide +kernel
theorem dX3_resetSettings_0 : decode cX3_resetSettings 0 = .ok (.iconst 0, 1) := by decide +kernel
theorem dX3_resetSettings_1 : decode cX3_resetSettings 1 = .ok (.istore_n 1, 1) := by decide +kernel
theorem dX3_resetSettings_2 : decode cX3_resetSettings 2 = .ok (.iload_n 1, 1) := by decide +kernel
theorem dX3_resetSettings_3 : decode cX3_resetSettings 3 = .ok (.bipush 6, 2) := by decide +kernel
theorem dX3_resetSettings_5 : decode cX3_resetSettings 5 = .ok (.if_icmp .ge 20, 3) := by decide +kernel
theorem dX3_resetSettings_8 : decode cX3_resetSettings 8 = .ok (.aload_n 0, 1) := by decide +kernel
theorem dX3_resetSettings_9 : decode cX3_resetSettings 9 = .ok (.getfield 9, 3) := by decide +kernel
theorem dX3_resetSettings_12 : decode cX3_resetSettings 12 = .ok (.iload_n 1, 1) := by decide +kernel
theorem dX3_resetSettings_13 : decode cX3_resetSettings 13 = .ok (.getstatic 32, 3) := by decide +kernel
theorem dX3_resetSettings_16 : decode cX3_resetSettings 16 = .ok (.iload_n 1, 1) := by decide +kernel
theorem dX3_resetSettings_17 : decode cX3_resetSettings 17 = .ok (.iaload, 1) := by decide +kernel
theorem dX3_resetSettings_18 : decode cX3_resetSettings 18 = .ok (.iastore, 1) := by decide +kernel
theorem dX3_resetSettings_19 : decode cX3_resetSettings 19 = .ok (.iinc 1 1, 3) := by decide +kernel
theorem dX3_resetSettings_22 : decode cX3_resetSettings 22 = .ok (.goto (-20), 3) := by decide +kernel
theorem dX3_resetSettings_25 : decode cX3_resetSettings 25 = .ok (.return_, 1) := by decide +kernel
theorem dX3_takeFrom_0 : decode cX3_takeFrom 0 = .ok (.aload_n 0, 1) := by decide +kernel
theorem dX3_takeFrom_1 : decode cX3_takeFrom 1 = .ok (.aload_n 1, 1) := by decide +kernel
theorem dX3_takeFrom_2 : decode cX3_takeFrom 2 = .ok (.getfield 25, 3) := by decide +kernel
theorem dX3_takeFrom_5 : decode cX3_takeFrom 5 = .ok (.putfield 25, 3) := by decide +kernel
theorem dX3_takeFrom_8 : decode cX3_takeFrom 8 = .ok (.aload_n 0, 1) := by decide +kernel
theorem dX3_takeFrom_9 : decode cX3_takeFrom 9 = .ok (.aload_n 1, 1) := by decide +kernel
theorem dX3_takeFrom_10 : decode cX3_takeFrom 10 = .ok (.getfield 29, 3) := by decide +kernel
theorem dX3_takeFrom_13 : decode cX3_takeFrom 13 = .ok (.putfield 29, 3) := by decide +kernel
theorem dX3_takeFrom_16 : decode cX3_takeFrom 16 = .ok (.iconst 0, 1) := by decide +kernel
theorem dX3_takeFrom_17 : decode cX3_takeFrom 17 = .ok (.istore_n 2, 1) := by decide +kernel
theorem dX3_takeFrom_18 : decode cX3_takeFrom 18 = .ok (.iload_n 2, 1) := by decide +kernel
theorem dX3_takeFrom_19 : decode cX3_takeFrom 19 = .ok (.bipush 6, 2) := by decide +kernel
theorem dX3_takeFrom_21 : decode cX3_takeFrom 21 = .ok (.if_icmp .ge 21, 3) := by decide +kernel
theorem dX3_takeFrom_24 : decode cX3_takeFrom 24 = .ok (.aload_n 0, 1) := by decide +kernel
theorem dX3_takeFrom_25 : decode cX3_takeFrom 25 = .ok (.getfield 9, 3) := by decide +kernel
theorem dX3_takeFrom_28 : decode cX3_takeFrom 28 = .ok (.iload_n 2, 1) := by decide +kernel
theorem dX3_takeFrom_29 : decode cX3_takeFrom 29 = .ok (.aload_n 1, 1) := by decide +kernel
theorem dX3_takeFrom_30 : decode cX3_takeFrom 30 = .ok (.getfield 9, 3) := by decide +kernel
theorem dX3_takeFrom_33 : decode cX3_takeFrom 33 = .ok (.iload_n 2, 1) := by decide +kernel
theorem dX3_takeFrom_34 : decode cX3_takeFrom 34 = .ok (.iaload, 1) := by decide +kernel
theorem dX3_takeFrom_35 : decode cX3_takeFrom 35 = .ok (.iastore, 1) := by decide +kernel
theorem dX3_takeFrom_36 : decode cX3_takeFrom 36 = .ok (.iinc 2 1, 3) := by decide +kernel
theorem dX3_takeFrom_39 : decode cX3_takeFrom 39 = .ok (.goto (-21), 3) := by decide +kernel
theorem dX3_takeFrom_42 : decode cX3_takeFrom 42 = .ok (.iconst 0, 1) := by decide +kernel
theorem dX3_takeFrom_43 : decode cX3_takeFrom 43 = .ok (.istore_n 2, 1) := by decide +kernel
theorem dX3_takeFrom_44 : decode cX3_takeFrom 44 = .ok (.iload_n 2, 1) := by decide +kernel
theorem dX3_takeFrom_45 : decode cX3_takeFrom 45 = .ok (.aload_n 0, 1) := by decide +kernel
theorem dX3_takeFrom_46 : decode cX3_takeFrom 46 = .ok (.getfield 15, 3) := by decide +kernel
theorem dX3_takeFrom_49 : decode cX3_takeFrom 49 = .ok (.arraylength, 1) := by decide +kernel
theorem dX3_takeFrom_50 : decode cX3_takeFrom 50 = .ok (.if_icmp .ge 21, 3) := by decide +kernel
theorem dX3_takeFrom_53 : decode cX3_takeFrom 53 = .ok (.aload_n 0, 1) := by decide +kernel
theorem dX3_takeFrom_54 : decode cX3_takeFrom 54 = .ok (.getfield 15, 3) := by decide +kernel
theorem dX3_takeFrom_57 : decode cX3_takeFrom 57 = .ok (.iload_n 2, 1) := by decide +kernel
theorem dX3_takeFrom_58 : decode cX3_takeFrom 58 = .ok (.aload_n 1, 1) := by decide +kernel
theorem dX3_takeFrom_59 : decode cX3_takeFrom 59 = .ok (.getfield 15, 3) := by decide +kernel
theorem dX3_takeFrom_62 : decode cX3_takeFrom 62 = .ok (.iload_n 2, 1) := by decide +kernel
theorem dX3_takeFrom_63 : decode cX3_takeFrom 63 = .ok (.iaload, 1) := by decide +kernel
theorem dX3_takeFrom_64 : decode cX3_takeFrom 64 = .ok (.iastore, 1) := by decide +kernel
theorem dX3_takeFrom_65 : decode cX3_takeFrom 65 = .ok (.iinc 2 1, 3) := by decide +kernel
theorem dX3_takeFrom_68 : decode cX3_takeFrom 68 = .ok (.goto (-24), 3) := by decide +kernel
theorem dX3_takeFrom_71 : decode cX3_takeFrom 71 = .ok (.return_, 1) := by decide +kernel
theorem dX3_isPitch_0 : decode cX3_isPitch 0 = .ok (.iload_n 0, 1) := by decide +kernel
theorem dX3_isPitch_1 : decode cX3_isPitch 1 = .ok (.ifCond .lt 13, 3) := by decide +kernel
theorem dX3_isPitch_4 : decode cX3_isPitch 4 = .ok (.iload_n 0, 1) := by decide +kernel
theorem dX3_isPitch_5 : decode cX3_isPitch 5 = .ok (.bipush 60, 2) := by decide +kernel
theorem dX3_isPitch_7 : decode cX3_isPitch 7 = .ok (.if_icmp .gt 7, 3) := by decide +kernel
theorem dX3_isPitch_10 : decode cX3_isPitch 10 = .ok (.iconst 1, 1) := by decide +kernel
theorem dX3_isPitch_11 : decode cX3_isPitch 11 = .ok (.goto 4, 3) := by decide +kernel
theorem dX3_isPitch_14 : decode cX3_isPitch 14 = .ok (.iconst 0, 1) := by decide +kernel
theorem dX3_isPitch_15 : decode cX3_isPitch 15 = .ok (.ireturn, 1) := by decide +kernel
theorem dX3_isSetting_0 : decode cX3_isSetting 0 = .ok (.iload_n 0, 1) := by decide +kernel
theorem dX3_isSetting_1 : decode cX3_isSetting 1 = .ok (.ifCond .lt 13, 3) := by decide +kernel
theorem dX3_isSetting_4 : decode cX3_isSetting 4 = .ok (.iload_n 0, 1) := by decide +kernel
theorem dX3_isSetting_5 : decode cX3_isSetting 5 = .ok (.bipush 6, 2) := by decide +kernel
theorem dX3_isSetting_7 : decode cX3_isSetting 7 = .ok (.if_icmp .ge 7, 3) := by decide +kernel
theorem dX3_isSetting_10 : decode cX3_isSetting 10 = .ok (.iconst 1, 1) := by decide +kernel
theorem dX3_isSetting_11 : decode cX3_isSetting 11 = .ok (.goto 4, 3) := by decide +kernel
theorem dX3_isSetting_14 : decode cX3_isSetting 14 = .ok (.iconst 0, 1) := by decide +kernel
theorem dX3_isSetting_15 : decode cX3_isSetting 15 = .ok (.ireturn, 1) := by decide +kernel
theorem dX3_allowsSetting_0 : decode cX3_allowsSetting 0 = .ok (.iload_n 0, 1) := by decide +kernel
theorem dX3_allowsSetting_1 : decode cX3_allowsSetting 1 = .ok (.invokestatic 35, 3) := by decide +kernel
theorem dX3_allowsSetting_4 : decode cX3_allowsSetting 4 = .ok (.ifCond .eq 25, 3) := by decide +kernel
theorem dX3_allowsSetting_7 : decode cX3_allowsSetting 7 = .ok (.iload_n 1, 1) := by decide +kernel
theorem dX3_allowsSetting_8 : decode cX3_allowsSetting 8 = .ok (.getstatic 39, 3) := by decide +kernel
theorem dX3_allowsSetting_11 : decode cX3_allowsSetting 11 = .ok (.iload_n 0, 1) := by decide +kernel
theorem dX3_allowsSetting_12 : decode cX3_allowsSetting 12 = .ok (.iaload, 1) := by decide +kernel
theorem dX3_allowsSetting_13 : decode cX3_allowsSetting 13 = .ok (.if_icmp .lt 16, 3) := by decide +kernel
theorem dX3_allowsSetting_16 : decode cX3_allowsSetting 16 = .ok (.iload_n 1, 1) := by decide +kernel
theorem dX3_allowsSetting_17 : decode cX3_allowsSetting 17 = .ok (.getstatic 42, 3) := by decide +kernel
theorem dX3_allowsSetting_20 : decode cX3_allowsSetting 20 = .ok (.iload_n 0, 1) := by decide +kernel
theorem dX3_allowsSetting_21 : decode cX3_allowsSetting 21 = .ok (.iaload, 1) := by decide +kernel
theorem dX3_allowsSetting_22 : decode cX3_allowsSetting 22 = .ok (.if_icmp .gt 7, 3) := by decide +kernel
theorem dX3_allowsSetting_25 : decode cX3_allowsSetting 25 = .ok (.iconst 1, 1) := by decide +kernel
theorem dX3_allowsSetting_26 : decode cX3_allowsSetting 26 = .ok (.goto 4, 3) := by decide +kernel
theorem dX3_allowsSetting_29 : decode cX3_allowsSetting 29 = .ok (.iconst 0, 1) := by decide +kernel
theorem dX3_allowsSetting_30 : decode cX3_allowsSetting 30 = .ok (.ireturn, 1) := by decide +kernel
theorem dX3_hasStaff_0 : decode cX3_hasStaff 0 = .ok (.iload_n 1, 1) := by decide +kernel
theorem dX3_hasStaff_1 : decode cX3_hasStaff 1 = .ok (.ifCond .lt 15, 3) := by decide +kernel
theorem dX3_hasStaff_4 : decode cX3_hasStaff 4 = .ok (.iload_n 1, 1) := by decide +kernel
theorem dX3_hasStaff_5 : decode cX3_hasStaff 5 = .ok (.aload_n 0, 1) := by decide +kernel
theorem dX3_hasStaff_6 : decode cX3_hasStaff 6 = .ok (.getfield 25, 3) := by decide +kernel
theorem dX3_hasStaff_9 : decode cX3_hasStaff 9 = .ok (.if_icmp .ge 7, 3) := by decide +kernel
theorem dX3_hasStaff_12 : decode cX3_hasStaff 12 = .ok (.iconst 1, 1) := by decide +kernel
theorem dX3_hasStaff_13 : decode cX3_hasStaff 13 = .ok (.goto 4, 3) := by decide +kernel
theorem dX3_hasStaff_16 : decode cX3_hasStaff 16 = .ok (.iconst 0, 1) := by decide +kernel
theorem dX3_hasStaff_17 : decode cX3_hasStaff 17 = .ok (.ireturn, 1) := by decide +kernel
theorem dX3_hasBeat_0 : decode cX3_hasBeat 0 = .ok (.iload_n 1, 1) := by decide +kernel
theorem dX3_hasBeat_1 : decode cX3_hasBeat 1 = .ok (.ifCond .lt 15, 3) := by decide +kernel
theorem dX3_hasBeat_4 : decode cX3_hasBeat 4 = .ok (.iload_n 1, 1) := by decide +kernel
theorem dX3_hasBeat_5 : decode cX3_hasBeat 5 = .ok (.aload_n 0, 1) := by decide +kernel
theorem dX3_hasBeat_6 : decode cX3_hasBeat 6 = .ok (.getfield 29, 3) := by decide +kernel
theorem dX3_hasBeat_9 : decode cX3_hasBeat 9 = .ok (.if_icmp .ge 7, 3) := by decide +kernel
theorem dX3_hasBeat_12 : decode cX3_hasBeat 12 = .ok (.iconst 1, 1) := by decide +kernel
theorem dX3_hasBeat_13 : decode cX3_hasBeat 13 = .ok (.goto 4, 3) := by decide +kernel
theorem dX3_hasBeat_16 : decode cX3_hasBeat 16 = .ok (.iconst 0, 1) := by decide +kernel
theorem dX3_hasBeat_17 : decode cX3_hasBeat 17 = .ok (.ireturn, 1) := by decide +kernel
theorem dX3_hasCell_0 : decode cX3_hasCell 0 = .ok (.aload_n 0, 1) := by decide +kernel
theorem dX3_hasCell_1 : decode cX3_hasCell 1 = .ok (.iload_n 1, 1) := by decide +kernel
theorem dX3_hasCell_2 : decode cX3_hasCell 2 = .ok (.invokevirtual 45, 3) := by decide +kernel
theorem dX3_hasCell_5 : decode cX3_hasCell 5 = .ok (.ifCond .eq 15, 3) := by decide +kernel
theorem dX3_hasCell_8 : decode cX3_hasCell 8 = .ok (.aload_n 0, 1) := by decide +kernel
theorem dX3_hasCell_9 : decode cX3_hasCell 9 = .ok (.iload_n 2, 1) := by decide +kernel
theorem dX3_hasCell_10 : decode cX3_hasCell 10 = .ok (.invokevirtual 48, 3) := by decide +kernel
theorem dX3_hasCell_13 : decode cX3_hasCell 13 = .ok (.ifCond .eq 7, 3) := by decide +kernel
theorem dX3_hasCell_16 : decode cX3_hasCell 16 = .ok (.iconst 1, 1) := by decide +kernel
theorem dX3_hasCell_17 : decode cX3_hasCell 17 = .ok (.goto 4, 3) := by decide +kernel
theorem dX3_hasCell_20 : decode cX3_hasCell 20 = .ok (.iconst 0, 1) := by decide +kernel
theorem dX3_hasCell_21 : decode cX3_hasCell 21 = .ok (.ireturn, 1) := by decide +kernel
theorem dX3_allowsHold_0 : decode cX3_allowsHold 0 = .ok (.aload_n 0, 1) := by decide +kernel
theorem dX3_allowsHold_1 : decode cX3_allowsHold 1 = .ok (.iload_n 1, 1) := by decide +kernel
theorem dX3_allowsHold_2 : decode cX3_allowsHold 2 = .ok (.iload_n 2, 1) := by decide +kernel
theorem dX3_allowsHold_3 : decode cX3_allowsHold 3 = .ok (.iconst 1, 1) := by decide +kernel
theorem dX3_allowsHold_4 : decode cX3_allowsHold 4 = .ok (.isub, 1) := by decide +kernel
theorem dX3_allowsHold_5 : decode cX3_allowsHold 5 = .ok (.invokevirtual 51, 3) := by decide +kernel
theorem dX3_allowsHold_8 : decode cX3_allowsHold 8 = .ok (.bipush (-9), 2) := by decide +kernel
theorem dX3_allowsHold_10 : decode cX3_allowsHold 10 = .ok (.if_icmp .eq 7, 3) := by decide +kernel
theorem dX3_allowsHold_13 : decode cX3_allowsHold 13 = .ok (.iconst 1, 1) := by decide +kernel
theorem dX3_allowsHold_14 : decode cX3_allowsHold 14 = .ok (.goto 4, 3) := by decide +kernel
theorem dX3_allowsHold_17 : decode cX3_allowsHold 17 = .ok (.iconst 0, 1) := by decide +kernel
theorem dX3_allowsHold_18 : decode cX3_allowsHold 18 = .ok (.ireturn, 1) := by decide +kernel
theorem dX3_allowsMoving_0 : decode cX3_allowsMoving 0 = .ok (.iconst 0, 1) := by decide +kernel
theorem dX3_allowsMoving_1 : decode cX3_allowsMoving 1 = .ok (.istore_n 3, 1) := by decide +kernel
theorem dX3_allowsMoving_2 : decode cX3_allowsMoving 2 = .ok (.iload_n 3, 1) := by decide +kernel
theorem dX3_allowsMoving_3 : decode cX3_allowsMoving 3 = .ok (.aload_n 0, 1) := by decide +kernel
theorem dX3_allowsMoving_4 : decode cX3_allowsMoving 4 = .ok (.getfield 29, 3) := by decide +kernel
theorem dX3_allowsMoving_7 : decode cX3_allowsMoving 7 = .ok (.if_icmp .ge 37, 3) := by decide +kernel
theorem dX3_allowsMoving_10 : decode cX3_allowsMoving 10 = .ok (.aload_n 0, 1) := by decide +kernel
theorem dX3_allowsMoving_11 : decode cX3_allowsMoving 11 = .ok (.iload_n 1, 1) := by decide +kernel
theorem dX3_allowsMoving_12 : decode cX3_allowsMoving 12 = .ok (.iload_n 3, 1) := by decide +kernel
theorem dX3_allowsMoving_13 : decode cX3_allowsMoving 13 = .ok (.invokevirtual 51, 3) := by decide +kernel
theorem dX3_allowsMoving_16 : decode cX3_allowsMoving 16 = .ok (.istore 4, 2) := by decide +kernel
theorem dX3_allowsMoving_18 : decode cX3_allowsMoving 18 = .ok (.iload 4, 2) := by decide +kernel
theorem dX3_allowsMoving_20 : decode cX3_allowsMoving 20 = .ok (.invokestatic 55, 3) := by decide +kernel
theorem dX3_allowsMoving_23 : decode cX3_allowsMoving 23 = .ok (.ifCond .eq 15, 3) := by decide +kernel
theorem dX3_allowsMoving_26 : decode cX3_allowsMoving 26 = .ok (.iload 4, 2) := by decide +kernel
theorem dX3_allowsMoving_28 : decode cX3_allowsMoving 28 = .ok (.iload_n 2, 1) := by decide +kernel
theorem dX3_allowsMoving_29 : decode cX3_allowsMoving 29 = .ok (.iadd, 1) := by decide +kernel
theorem dX3_allowsMoving_30 : decode cX3_allowsMoving 30 = .ok (.invokestatic 55, 3) := by decide +kernel
theorem dX3_allowsMoving_33 : decode cX3_allowsMoving 33 = .ok (.ifCond .ne 5, 3) := by decide +kernel
theorem dX3_allowsMoving_36 : decode cX3_allowsMoving 36 = .ok (.iconst 0, 1) := by decide +kernel
theorem dX3_allowsMoving_37 : decode cX3_allowsMoving 37 = .ok (.ireturn, 1) := by decide +kernel
theorem dX3_allowsMoving_38 : decode cX3_allowsMoving 38 = .ok (.iinc 3 1, 3) := by decide +kernel
theorem dX3_allowsMoving_41 : decode cX3_allowsMoving 41 = .ok (.goto (-39), 3) := by decide +kernel
theorem dX3_allowsMoving_44 : decode cX3_allowsMoving 44 = .ok (.iconst 1, 1) := by decide +kernel
theorem dX3_allowsMoving_45 : decode cX3_allowsMoving 45 = .ok (.ireturn, 1) := by decide +kernel
theorem dX3_settingAt_0 : decode cX3_settingAt 0 = .ok (.iload_n 1, 1) := by decide +kernel
theorem dX3_settingAt_1 : decode cX3_settingAt 1 = .ok (.invokestatic 35, 3) := by decide +kernel
theorem dX3_settingAt_4 : decode cX3_settingAt 4 = .ok (.ifCond .eq 12, 3) := by decide +kernel
theorem dX3_settingAt_7 : decode cX3_settingAt 7 = .ok (.aload_n 0, 1) := by decide +kernel
theorem dX3_settingAt_8 : decode cX3_settingAt 8 = .ok (.getfield 9, 3) := by decide +kernel
theorem dX3_settingAt_11 : decode cX3_settingAt 11 = .ok (.iload_n 1, 1) := by decide +kernel
theorem dX3_settingAt_12 : decode cX3_settingAt 12 = .ok (.iaload, 1) := by decide +kernel
theorem dX3_settingAt_13 : decode cX3_settingAt 13 = .ok (.goto 4, 3) := by decide +kernel
theorem dX3_settingAt_16 : decode cX3_settingAt 16 = .ok (.iconst 0, 1) := by decide +kernel
theorem dX3_settingAt_17 : decode cX3_settingAt 17 = .ok (.ireturn, 1) := by decide +kernel
theorem dX3_written_0 : decode cX3_written 0 = .ok (.iload_n 1, 1) := by decide +kernel
theorem dX3_written_1 : decode cX3_written 1 = .ok (.ifCond .lt 37, 3) := by decide +kernel
theorem dX3_written_4 : decode cX3_written 4 = .ok (.iload_n 1, 1) := by decide +kernel
theorem dX3_written_5 : decode cX3_written 5 = .ok (.aload_n 0, 1) := by decide +kernel
theorem dX3_written_6 : decode cX3_written 6 = .ok (.getfield 25, 3) := by decide +kernel
theorem dX3_written_9 : decode cX3_written 9 = .ok (.if_icmp .ge 29, 3) := by decide +kernel
theorem dX3_written_12 : decode cX3_written 12 = .ok (.iload_n 2, 1) := by decide +kernel
theorem dX3_written_13 : decode cX3_written 13 = .ok (.ifCond .lt 25, 3) := by decide +kernel
theorem dX3_written_16 : decode cX3_written 16 = .ok (.iload_n 2, 1) := by decide +kernel
theorem dX3_written_17 : decode cX3_written 17 = .ok (.aload_n 0, 1) := by decide +kernel
theorem dX3_written_18 : decode cX3_written 18 = .ok (.getfield 29, 3) := by decide +kernel
theorem dX3_written_21 : decode cX3_written 21 = .ok (.if_icmp .ge 17, 3) := by decide +kernel
theorem dX3_written_24 : decode cX3_written 24 = .ok (.aload_n 0, 1) := by decide +kernel
theorem dX3_written_25 : decode cX3_written 25 = .ok (.getfield 15, 3) := by decide +kernel
theorem dX3_written_28 : decode cX3_written 28 = .ok (.iload_n 1, 1) := by decide +kernel
theorem dX3_written_29 : decode cX3_written 29 = .ok (.bipush 16, 2) := by decide +kernel
theorem dX3_written_31 : decode cX3_written 31 = .ok (.imul, 1) := by decide +kernel
theorem dX3_written_32 : decode cX3_written 32 = .ok (.iload_n 2, 1) := by decide +kernel
theorem dX3_written_33 : decode cX3_written 33 = .ok (.iadd, 1) := by decide +kernel
theorem dX3_written_34 : decode cX3_written 34 = .ok (.iaload, 1) := by decide +kernel
theorem dX3_written_35 : decode cX3_written 35 = .ok (.goto 5, 3) := by decide +kernel
theorem dX3_written_38 : decode cX3_written 38 = .ok (.bipush (-9), 2) := by decide +kernel
theorem dX3_written_40 : decode cX3_written 40 = .ok (.ireturn, 1) := by decide +kernel
theorem dX3_sounding_0 : decode cX3_sounding 0 = .ok (.iload_n 2, 1) := by decide +kernel
theorem dX3_sounding_1 : decode cX3_sounding 1 = .ok (.istore_n 3, 1) := by decide +kernel
theorem dX3_sounding_2 : decode cX3_sounding 2 = .ok (.iload_n 3, 1) := by decide +kernel
theorem dX3_sounding_3 : decode cX3_sounding 3 = .ok (.ifCond .lt 27, 3) := by decide +kernel
theorem dX3_sounding_6 : decode cX3_sounding 6 = .ok (.aload_n 0, 1) := by decide +kernel
theorem dX3_sounding_7 : decode cX3_sounding 7 = .ok (.iload_n 1, 1) := by decide +kernel
theorem dX3_sounding_8 : decode cX3_sounding 8 = .ok (.iload_n 3, 1) := by decide +kernel
theorem dX3_sounding_9 : decode cX3_sounding 9 = .ok (.invokevirtual 51, 3) := by decide +kernel
theorem dX3_sounding_12 : decode cX3_sounding 12 = .ok (.istore 4, 2) := by decide +kernel
theorem dX3_sounding_14 : decode cX3_sounding 14 = .ok (.iload 4, 2) := by decide +kernel
theorem dX3_sounding_16 : decode cX3_sounding 16 = .ok (.bipush 99, 2) := by decide +kernel
theorem dX3_sounding_18 : decode cX3_sounding 18 = .ok (.if_icmp .eq 6, 3) := by decide +kernel
theorem dX3_sounding_21 : decode cX3_sounding 21 = .ok (.iload 4, 2) := by decide +kernel
theorem dX3_sounding_23 : decode cX3_sounding 23 = .ok (.ireturn, 1) := by decide +kernel
theorem dX3_sounding_24 : decode cX3_sounding 24 = .ok (.iinc 3 (-1), 3) := by decide +kernel
theorem dX3_sounding_27 : decode cX3_sounding 27 = .ok (.goto (-25), 3) := by decide +kernel
theorem dX3_sounding_30 : decode cX3_sounding 30 = .ok (.bipush (-9), 2) := by decide +kernel
theorem dX3_sounding_32 : decode cX3_sounding 32 = .ok (.ireturn, 1) := by decide +kernel
theorem dX3_countStruck_0 : decode cX3_countStruck 0 = .ok (.iconst 0, 1) := by decide +kernel
theorem dX3_countStruck_1 : decode cX3_countStruck 1 = .ok (.istore_n 1, 1) := by decide +kernel
theorem dX3_countStruck_2 : decode cX3_countStruck 2 = .ok (.iconst 0, 1) := by decide +kernel
theorem dX3_countStruck_3 : decode cX3_countStruck 3 = .ok (.istore_n 2, 1) := by decide +kernel
theorem dX3_countStruck_4 : decode cX3_countStruck 4 = .ok (.iload_n 2, 1) := by decide +kernel
theorem dX3_countStruck_5 : decode cX3_countStruck 5 = .ok (.aload_n 0, 1) := by decide +kernel
theorem dX3_countStruck_6 : decode cX3_countStruck 6 = .ok (.getfield 25, 3) := by decide +kernel
theorem dX3_countStruck_9 : decode cX3_countStruck 9 = .ok (.if_icmp .ge 17, 3) := by decide +kernel
theorem dX3_countStruck_12 : decode cX3_countStruck 12 = .ok (.iload_n 1, 1) := by decide +kernel
theorem dX3_countStruck_13 : decode cX3_countStruck 13 = .ok (.aload_n 0, 1) := by decide +kernel
theorem dX3_countStruck_14 : decode cX3_countStruck 14 = .ok (.iload_n 2, 1) := by decide +kernel
theorem dX3_countStruck_15 : decode cX3_countStruck 15 = .ok (.invokevirtual 58, 3) := by decide +kernel
theorem dX3_countStruck_18 : decode cX3_countStruck 18 = .ok (.iadd, 1) := by decide +kernel
theorem dX3_countStruck_19 : decode cX3_countStruck 19 = .ok (.istore_n 1, 1) := by decide +kernel
theorem dX3_countStruck_20 : decode cX3_countStruck 20 = .ok (.iinc 2 1, 3) := by decide +kernel
theorem dX3_countStruck_23 : decode cX3_countStruck 23 = .ok (.goto (-19), 3) := by decide +kernel
theorem dX3_countStruck_26 : decode cX3_countStruck 26 = .ok (.iload_n 1, 1) := by decide +kernel
theorem dX3_countStruck_27 : decode cX3_countStruck 27 = .ok (.ireturn, 1) := by decide +kernel
theorem dX3_countStruckOf_0 : decode cX3_countStruckOf 0 = .ok (.iconst 0, 1) := by decide +kernel
theorem dX3_countStruckOf_1 : decode cX3_countStruckOf 1 = .ok (.istore_n 2, 1) := by decide +kernel
theorem dX3_countStruckOf_2 : decode cX3_countStruckOf 2 = .ok (.iconst 0, 1) := by decide +kernel
theorem dX3_countStruckOf_3 : decode cX3_countStruckOf 3 = .ok (.istore_n 3, 1) := by decide +kernel
theorem dX3_countStruckOf_4 : decode cX3_countStruckOf 4 = .ok (.iload_n 3, 1) := by decide +kernel
theorem dX3_countStruckOf_5 : decode cX3_countStruckOf 5 = .ok (.aload_n 0, 1) := by decide +kernel
theorem dX3_countStruckOf_6 : decode cX3_countStruckOf 6 = .ok (.getfield 29, 3) := by decide +kernel
theorem dX3_countStruckOf_9 : decode cX3_countStruckOf 9 = .ok (.if_icmp .ge 24, 3) := by decide +kernel
theorem dX3_countStruckOf_12 : decode cX3_countStruckOf 12 = .ok (.aload_n 0, 1) := by decide +kernel
theorem dX3_countStruckOf_13 : decode cX3_countStruckOf 13 = .ok (.iload_n 1, 1) := by decide +kernel
theorem dX3_countStruckOf_14 : decode cX3_countStruckOf 14 = .ok (.iload_n 3, 1) := by decide +kernel
theorem dX3_countStruckOf_15 : decode cX3_countStruckOf 15 = .ok (.invokevirtual 51, 3) := by decide +kernel
theorem dX3_countStruckOf_18 : decode cX3_countStruckOf 18 = .ok (.invokestatic 55, 3) := by decide +kernel
theorem dX3_countStruckOf_21 : decode cX3_countStruckOf 21 = .ok (.ifCond .eq 6, 3) := by decide +kernel
theorem dX3_countStruckOf_24 : decode cX3_countStruckOf 24 = .ok (.iinc 2 1, 3) := by decide +kernel
theorem dX3_countStruckOf_27 : decode cX3_countStruckOf 27 = .ok (.iinc 3 1, 3) := by decide +kernel
theorem dX3_countStruckOf_30 : decode cX3_countStruckOf 30 = .ok (.goto (-26), 3) := by decide +kernel
theorem dX3_countStruckOf_33 : decode cX3_countStruckOf 33 = .ok (.iload_n 2, 1) := by decide +kernel
theorem dX3_countStruckOf_34 : decode cX3_countStruckOf 34 = .ok (.ireturn, 1) := by decide +kernel
theorem dX3_countHolds_0 : decode cX3_countHolds 0 = .ok (.iconst 0, 1) := by decide +kernel
theorem dX3_countHolds_1 : decode cX3_countHolds 1 = .ok (.istore_n 1, 1) := by decide +kernel
theorem dX3_countHolds_2 : decode cX3_countHolds 2 = .ok (.iconst 0, 1) := by decide +kernel
theorem dX3_countHolds_3 : decode cX3_countHolds 3 = .ok (.istore_n 2, 1) := by decide +kernel
theorem dX3_countHolds_4 : decode cX3_countHolds 4 = .ok (.iload_n 2, 1) := by decide +kernel
theorem dX3_countHolds_5 : decode cX3_countHolds 5 = .ok (.aload_n 0, 1) := by decide +kernel
theorem dX3_countHolds_6 : decode cX3_countHolds 6 = .ok (.getfield 25, 3) := by decide +kernel
theorem dX3_countHolds_9 : decode cX3_countHolds 9 = .ok (.if_icmp .ge 39, 3) := by decide +kernel
theorem dX3_countHolds_12 : decode cX3_countHolds 12 = .ok (.iconst 0, 1) := by decide +kernel
theorem dX3_countHolds_13 : decode cX3_countHolds 13 = .ok (.istore_n 3, 1) := by decide +kernel
theorem dX3_countHolds_14 : decode cX3_countHolds 14 = .ok (.iload_n 3, 1) := by decide +kernel
theorem dX3_countHolds_15 : decode cX3_countHolds 15 = .ok (.aload_n 0, 1) := by decide +kernel
theorem dX3_countHolds_16 : decode cX3_countHolds 16 = .ok (.getfield 29, 3) := by decide +kernel
theorem dX3_countHolds_19 : decode cX3_countHolds 19 = .ok (.if_icmp .ge 23, 3) := by decide +kernel
theorem dX3_countHolds_22 : decode cX3_countHolds 22 = .ok (.aload_n 0, 1) := by decide +kernel
theorem dX3_countHolds_23 : decode cX3_countHolds 23 = .ok (.iload_n 2, 1) := by decide +kernel
theorem dX3_countHolds_24 : decode cX3_countHolds 24 = .ok (.iload_n 3, 1) := by decide +kernel
theorem dX3_countHolds_25 : decode cX3_countHolds 25 = .ok (.invokevirtual 51, 3) := by decide +kernel
theorem dX3_countHolds_28 : decode cX3_countHolds 28 = .ok (.bipush 99, 2) := by decide +kernel
theorem dX3_countHolds_30 : decode cX3_countHolds 30 = .ok (.if_icmp .ne 6, 3) := by decide +kernel
theorem dX3_countHolds_33 : decode cX3_countHolds 33 = .ok (.iinc 1 1, 3) := by decide +kernel
theorem dX3_countHolds_36 : decode cX3_countHolds 36 = .ok (.iinc 3 1, 3) := by decide +kernel
theorem dX3_countHolds_39 : decode cX3_countHolds 39 = .ok (.goto (-25), 3) := by decide +kernel
theorem dX3_countHolds_42 : decode cX3_countHolds 42 = .ok (.iinc 2 1, 3) := by decide +kernel
theorem dX3_countHolds_45 : decode cX3_countHolds 45 = .ok (.goto (-41), 3) := by decide +kernel
theorem dX3_countHolds_48 : decode cX3_countHolds 48 = .ok (.iload_n 1, 1) := by decide +kernel
theorem dX3_countHolds_49 : decode cX3_countHolds 49 = .ok (.ireturn, 1) := by decide +kernel
theorem dX3_changeSetting_0 : decode cX3_changeSetting 0 = .ok (.iload_n 1, 1) := by decide +kernel
theorem dX3_changeSetting_1 : decode cX3_changeSetting 1 = .ok (.invokestatic 35, 3) := by decide +kernel
theorem dX3_changeSetting_4 : decode cX3_changeSetting 4 = .ok (.ifCond .eq 10, 3) := by decide +kernel
theorem dX3_changeSetting_7 : decode cX3_changeSetting 7 = .ok (.aload_n 0, 1) := by decide +kernel
theorem dX3_changeSetting_8 : decode cX3_changeSetting 8 = .ok (.getfield 9, 3) := by decide +kernel
theorem dX3_changeSetting_11 : decode cX3_changeSetting 11 = .ok (.iload_n 1, 1) := by decide +kernel
theorem dX3_changeSetting_12 : decode cX3_changeSetting 12 = .ok (.iload_n 2, 1) := by decide +kernel
theorem dX3_changeSetting_13 : decode cX3_changeSetting 13 = .ok (.iastore, 1) := by decide +kernel
theorem dX3_changeSetting_14 : decode cX3_changeSetting 14 = .ok (.return_, 1) := by decide +kernel
theorem dX3_put_0 : decode cX3_put 0 = .ok (.aload_n 0, 1) := by decide +kernel
theorem dX3_put_1 : decode cX3_put 1 = .ok (.iload_n 1, 1) := by decide +kernel
theorem dX3_put_2 : decode cX3_put 2 = .ok (.iload_n 2, 1) := by decide +kernel
theorem dX3_put_3 : decode cX3_put 3 = .ok (.invokevirtual 62, 3) := by decide +kernel
theorem dX3_put_6 : decode cX3_put 6 = .ok (.ifCond .eq 15, 3) := by decide +kernel
theorem dX3_put_9 : decode cX3_put 9 = .ok (.aload_n 0, 1) := by decide +kernel
theorem dX3_put_10 : decode cX3_put 10 = .ok (.getfield 15, 3) := by decide +kernel
theorem dX3_put_13 : decode cX3_put 13 = .ok (.iload_n 1, 1) := by decide +kernel
theorem dX3_put_14 : decode cX3_put 14 = .ok (.bipush 16, 2) := by decide +kernel
theorem dX3_put_16 : decode cX3_put 16 = .ok (.imul, 1) := by decide +kernel
theorem dX3_put_17 : decode cX3_put 17 = .ok (.iload_n 2, 1) := by decide +kernel
theorem dX3_put_18 : decode cX3_put 18 = .ok (.iadd, 1) := by decide +kernel
theorem dX3_put_19 : decode cX3_put 19 = .ok (.iload_n 3, 1) := by decide +kernel
theorem dX3_put_20 : decode cX3_put 20 = .ok (.iastore, 1) := by decide +kernel
theorem dX3_put_21 : decode cX3_put 21 = .ok (.return_, 1) := by decide +kernel
theorem dX3_silenceStaff_0 : decode cX3_silenceStaff 0 = .ok (.iconst 0, 1) := by decide +kernel
theorem dX3_silenceStaff_1 : decode cX3_silenceStaff 1 = .ok (.istore_n 2, 1) := by decide +kernel
theorem dX3_silenceStaff_2 : decode cX3_silenceStaff 2 = .ok (.iload_n 2, 1) := by decide +kernel
theorem dX3_silenceStaff_3 : decode cX3_silenceStaff 3 = .ok (.aload_n 0, 1) := by decide +kernel
theorem dX3_silenceStaff_4 : decode cX3_silenceStaff 4 = .ok (.getfield 29, 3) := by decide +kernel
theorem dX3_silenceStaff_7 : decode cX3_silenceStaff 7 = .ok (.if_icmp .ge 17, 3) := by decide +kernel
theorem dX3_silenceStaff_10 : decode cX3_silenceStaff 10 = .ok (.aload_n 0, 1) := by decide +kernel
theorem dX3_silenceStaff_11 : decode cX3_silenceStaff 11 = .ok (.iload_n 1, 1) := by decide +kernel
theorem dX3_silenceStaff_12 : decode cX3_silenceStaff 12 = .ok (.iload_n 2, 1) := by decide +kernel
theorem dX3_silenceStaff_13 : decode cX3_silenceStaff 13 = .ok (.bipush (-9), 2) := by decide +kernel
theorem dX3_silenceStaff_15 : decode cX3_silenceStaff 15 = .ok (.invokevirtual 66, 3) := by decide +kernel
theorem dX3_silenceStaff_18 : decode cX3_silenceStaff 18 = .ok (.iinc 2 1, 3) := by decide +kernel
theorem dX3_silenceStaff_21 : decode cX3_silenceStaff 21 = .ok (.goto (-19), 3) := by decide +kernel
theorem dX3_silenceStaff_24 : decode cX3_silenceStaff 24 = .ok (.return_, 1) := by decide +kernel
theorem dX3_moveStaff_0 : decode cX3_moveStaff 0 = .ok (.iconst 0, 1) := by decide +kernel
theorem dX3_moveStaff_1 : decode cX3_moveStaff 1 = .ok (.istore_n 3, 1) := by decide +kernel
theorem dX3_moveStaff_2 : decode cX3_moveStaff 2 = .ok (.iload_n 3, 1) := by decide +kernel
theorem dX3_moveStaff_3 : decode cX3_moveStaff 3 = .ok (.aload_n 0, 1) := by decide +kernel
theorem dX3_moveStaff_4 : decode cX3_moveStaff 4 = .ok (.getfield 29, 3) := by decide +kernel
theorem dX3_moveStaff_7 : decode cX3_moveStaff 7 = .ok (.if_icmp .ge 35, 3) := by decide +kernel
theorem dX3_moveStaff_10 : decode cX3_moveStaff 10 = .ok (.aload_n 0, 1) := by decide +kernel
theorem dX3_moveStaff_11 : decode cX3_moveStaff 11 = .ok (.iload_n 1, 1) := by decide +kernel
theorem dX3_moveStaff_12 : decode cX3_moveStaff 12 = .ok (.iload_n 3, 1) := by decide +kernel
theorem dX3_moveStaff_13 : decode cX3_moveStaff 13 = .ok (.invokevirtual 51, 3) := by decide +kernel
theorem dX3_moveStaff_16 : decode cX3_moveStaff 16 = .ok (.istore 4, 2) := by decide +kernel
theorem dX3_moveStaff_18 : decode cX3_moveStaff 18 = .ok (.iload 4, 2) := by decide +kernel
theorem dX3_moveStaff_20 : decode cX3_moveStaff 20 = .ok (.invokestatic 55, 3) := by decide +kernel
theorem dX3_moveStaff_23 : decode cX3_moveStaff 23 = .ok (.ifCond .eq 13, 3) := by decide +kernel
theorem dX3_moveStaff_26 : decode cX3_moveStaff 26 = .ok (.aload_n 0, 1) := by decide +kernel
theorem dX3_moveStaff_27 : decode cX3_moveStaff 27 = .ok (.iload_n 1, 1) := by decide +kernel
theorem dX3_moveStaff_28 : decode cX3_moveStaff 28 = .ok (.iload_n 3, 1) := by decide +kernel
theorem dX3_moveStaff_29 : decode cX3_moveStaff 29 = .ok (.iload 4, 2) := by decide +kernel
theorem dX3_moveStaff_31 : decode cX3_moveStaff 31 = .ok (.iload_n 2, 1) := by decide +kernel
theorem dX3_moveStaff_32 : decode cX3_moveStaff 32 = .ok (.iadd, 1) := by decide +kernel
theorem dX3_moveStaff_33 : decode cX3_moveStaff 33 = .ok (.invokevirtual 66, 3) := by decide +kernel
theorem dX3_moveStaff_36 : decode cX3_moveStaff 36 = .ok (.iinc 3 1, 3) := by decide +kernel
theorem dX3_moveStaff_39 : decode cX3_moveStaff 39 = .ok (.goto (-37), 3) := by decide +kernel
theorem dX3_moveStaff_42 : decode cX3_moveStaff 42 = .ok (.aload_n 0, 1) := by decide +kernel
theorem dX3_moveStaff_43 : decode cX3_moveStaff 43 = .ok (.iload_n 1, 1) := by decide +kernel
theorem dX3_moveStaff_44 : decode cX3_moveStaff 44 = .ok (.invokevirtual 58, 3) := by decide +kernel
theorem dX3_moveStaff_47 : decode cX3_moveStaff 47 = .ok (.ireturn, 1) := by decide +kernel
theorem dX3_swapStaves_0 : decode cX3_swapStaves 0 = .ok (.iconst 0, 1) := by decide +kernel
theorem dX3_swapStaves_1 : decode cX3_swapStaves 1 = .ok (.istore_n 3, 1) := by decide +kernel
theorem dX3_swapStaves_2 : decode cX3_swapStaves 2 = .ok (.iconst 0, 1) := by decide +kernel
theorem dX3_swapStaves_3 : decode cX3_swapStaves 3 = .ok (.istore 4, 2) := by decide +kernel
theorem dX3_swapStaves_5 : decode cX3_swapStaves 5 = .ok (.iload 4, 2) := by decide +kernel
theorem dX3_swapStaves_7 : decode cX3_swapStaves 7 = .ok (.aload_n 0, 1) := by decide +kernel
theorem dX3_swapStaves_8 : decode cX3_swapStaves 8 = .ok (.getfield 29, 3) := by decide +kernel
theorem dX3_swapStaves_11 : decode cX3_swapStaves 11 = .ok (.if_icmp .ge 55, 3) := by decide +kernel
theorem dX3_swapStaves_14 : decode cX3_swapStaves 14 = .ok (.aload_n 0, 1) := by decide +kernel
theorem dX3_swapStaves_15 : decode cX3_swapStaves 15 = .ok (.iload_n 1, 1) := by decide +kernel
theorem dX3_swapStaves_16 : decode cX3_swapStaves 16 = .ok (.iload 4, 2) := by decide +kernel
theorem dX3_swapStaves_18 : decode cX3_swapStaves 18 = .ok (.invokevirtual 51, 3) := by decide +kernel
theorem dX3_swapStaves_21 : decode cX3_swapStaves 21 = .ok (.istore 5, 2) := by decide +kernel
theorem dX3_swapStaves_23 : decode cX3_swapStaves 23 = .ok (.aload_n 0, 1) := by decide +kernel
theorem dX3_swapStaves_24 : decode cX3_swapStaves 24 = .ok (.iload_n 2, 1) := by decide +kernel
theorem dX3_swapStaves_25 : decode cX3_swapStaves 25 = .ok (.iload 4, 2) := by decide +kernel
theorem dX3_swapStaves_27 : decode cX3_swapStaves 27 = .ok (.invokevirtual 51, 3) := by decide +kernel
theorem dX3_swapStaves_30 : decode cX3_swapStaves 30 = .ok (.istore 6, 2) := by decide +kernel
theorem dX3_swapStaves_32 : decode cX3_swapStaves 32 = .ok (.iload 5, 2) := by decide +kernel
theorem dX3_swapStaves_34 : decode cX3_swapStaves 34 = .ok (.iload 6, 2) := by decide +kernel
theorem dX3_swapStaves_36 : decode cX3_swapStaves 36 = .ok (.if_icmp .eq 24, 3) := by decide +kernel
theorem dX3_swapStaves_39 : decode cX3_swapStaves 39 = .ok (.iinc 3 1, 3) := by decide +kernel
theorem dX3_swapStaves_42 : decode cX3_swapStaves 42 = .ok (.aload_n 0, 1) := by decide +kernel
theorem dX3_swapStaves_43 : decode cX3_swapStaves 43 = .ok (.iload_n 1, 1) := by decide +kernel
theorem dX3_swapStaves_44 : decode cX3_swapStaves 44 = .ok (.iload 4, 2) := by decide +kernel
theorem dX3_swapStaves_46 : decode cX3_swapStaves 46 = .ok (.iload 6, 2) := by decide +kernel
theorem dX3_swapStaves_48 : decode cX3_swapStaves 48 = .ok (.invokevirtual 66, 3) := by decide +kernel
theorem dX3_swapStaves_51 : decode cX3_swapStaves 51 = .ok (.aload_n 0, 1) := by decide +kernel
theorem dX3_swapStaves_52 : decode cX3_swapStaves 52 = .ok (.iload_n 2, 1) := by decide +kernel
theorem dX3_swapStaves_53 : decode cX3_swapStaves 53 = .ok (.iload 4, 2) := by decide +kernel
theorem dX3_swapStaves_55 : decode cX3_swapStaves 55 = .ok (.iload 5, 2) := by decide +kernel
theorem dX3_swapStaves_57 : decode cX3_swapStaves 57 = .ok (.invokevirtual 66, 3) := by decide +kernel
theorem dX3_swapStaves_60 : decode cX3_swapStaves 60 = .ok (.iinc 4 1, 3) := by decide +kernel
theorem dX3_swapStaves_63 : decode cX3_swapStaves 63 = .ok (.goto (-58), 3) := by decide +kernel
theorem dX3_swapStaves_66 : decode cX3_swapStaves 66 = .ok (.iload_n 3, 1) := by decide +kernel
theorem dX3_swapStaves_67 : decode cX3_swapStaves 67 = .ok (.ireturn, 1) := by decide +kernel
theorem dX3_addStaff_0 : decode cX3_addStaff 0 = .ok (.aload_n 0, 1) := by decide +kernel
theorem dX3_addStaff_1 : decode cX3_addStaff 1 = .ok (.getfield 25, 3) := by decide +kernel
theorem dX3_addStaff_4 : decode cX3_addStaff 4 = .ok (.iconst 4, 1) := by decide +kernel
theorem dX3_addStaff_5 : decode cX3_addStaff 5 = .ok (.if_icmp .ge 23, 3) := by decide +kernel
theorem dX3_addStaff_8 : decode cX3_addStaff 8 = .ok (.aload_n 0, 1) := by decide +kernel
theorem dX3_addStaff_9 : decode cX3_addStaff 9 = .ok (.dup, 1) := by decide +kernel
theorem dX3_addStaff_10 : decode cX3_addStaff 10 = .ok (.getfield 25, 3) := by decide +kernel
theorem dX3_addStaff_13 : decode cX3_addStaff 13 = .ok (.iconst 1, 1) := by decide +kernel
theorem dX3_addStaff_14 : decode cX3_addStaff 14 = .ok (.iadd, 1) := by decide +kernel
theorem dX3_addStaff_15 : decode cX3_addStaff 15 = .ok (.putfield 25, 3) := by decide +kernel
theorem dX3_addStaff_18 : decode cX3_addStaff 18 = .ok (.aload_n 0, 1) := by decide +kernel
theorem dX3_addStaff_19 : decode cX3_addStaff 19 = .ok (.aload_n 0, 1) := by decide +kernel
theorem dX3_addStaff_20 : decode cX3_addStaff 20 = .ok (.getfield 25, 3) := by decide +kernel
theorem dX3_addStaff_23 : decode cX3_addStaff 23 = .ok (.iconst 1, 1) := by decide +kernel
theorem dX3_addStaff_24 : decode cX3_addStaff 24 = .ok (.isub, 1) := by decide +kernel
theorem dX3_addStaff_25 : decode cX3_addStaff 25 = .ok (.invokevirtual 70, 3) := by decide +kernel
theorem dX3_addStaff_28 : decode cX3_addStaff 28 = .ok (.return_, 1) := by decide +kernel
theorem dX3_dropStaff_0 : decode cX3_dropStaff 0 = .ok (.aload_n 0, 1) := by decide +kernel
theorem dX3_dropStaff_1 : decode cX3_dropStaff 1 = .ok (.getfield 25, 3) := by decide +kernel
theorem dX3_dropStaff_4 : decode cX3_dropStaff 4 = .ok (.iconst 1, 1) := by decide +kernel
theorem dX3_dropStaff_5 : decode cX3_dropStaff 5 = .ok (.if_icmp .le 13, 3) := by decide +kernel
theorem dX3_dropStaff_8 : decode cX3_dropStaff 8 = .ok (.aload_n 0, 1) := by decide +kernel
theorem dX3_dropStaff_9 : decode cX3_dropStaff 9 = .ok (.dup, 1) := by decide +kernel
theorem dX3_dropStaff_10 : decode cX3_dropStaff 10 = .ok (.getfield 25, 3) := by decide +kernel
theorem dX3_dropStaff_13 : decode cX3_dropStaff 13 = .ok (.iconst 1, 1) := by decide +kernel
theorem dX3_dropStaff_14 : decode cX3_dropStaff 14 = .ok (.isub, 1) := by decide +kernel
theorem dX3_dropStaff_15 : decode cX3_dropStaff 15 = .ok (.putfield 25, 3) := by decide +kernel
theorem dX3_dropStaff_18 : decode cX3_dropStaff 18 = .ok (.return_, 1) := by decide +kernel
theorem dX3_openBeat_0 : decode cX3_openBeat 0 = .ok (.aload_n 0, 1) := by decide +kernel
theorem dX3_openBeat_1 : decode cX3_openBeat 1 = .ok (.getfield 29, 3) := by decide +kernel
theorem dX3_openBeat_4 : decode cX3_openBeat 4 = .ok (.bipush 16, 2) := by decide +kernel
theorem dX3_openBeat_6 : decode cX3_openBeat 6 = .ok (.if_icmp .lt 4, 3) := by decide +kernel
theorem dX3_openBeat_9 : decode cX3_openBeat 9 = .ok (.return_, 1) := by decide +kernel
theorem dX3_openBeat_10 : decode cX3_openBeat 10 = .ok (.aload_n 0, 1) := by decide +kernel
theorem dX3_openBeat_11 : decode cX3_openBeat 11 = .ok (.dup, 1) := by decide +kernel
theorem dX3_openBeat_12 : decode cX3_openBeat 12 = .ok (.getfield 29, 3) := by decide +kernel
theorem dX3_openBeat_15 : decode cX3_openBeat 15 = .ok (.iconst 1, 1) := by decide +kernel
theorem dX3_openBeat_16 : decode cX3_openBeat 16 = .ok (.iadd, 1) := by decide +kernel
theorem dX3_openBeat_17 : decode cX3_openBeat 17 = .ok (.putfield 29, 3) := by decide +kernel
theorem dX3_openBeat_20 : decode cX3_openBeat 20 = .ok (.iconst 0, 1) := by decide +kernel
theorem dX3_openBeat_21 : decode cX3_openBeat 21 = .ok (.istore_n 2, 1) := by decide +kernel
theorem dX3_openBeat_22 : decode cX3_openBeat 22 = .ok (.iload_n 2, 1) := by decide +kernel
theorem dX3_openBeat_23 : decode cX3_openBeat 23 = .ok (.aload_n 0, 1) := by decide +kernel
theorem dX3_openBeat_24 : decode cX3_openBeat 24 = .ok (.getfield 25, 3) := by decide +kernel
theorem dX3_openBeat_27 : decode cX3_openBeat 27 = .ok (.if_icmp .ge 49, 3) := by decide +kernel
theorem dX3_openBeat_30 : decode cX3_openBeat 30 = .ok (.aload_n 0, 1) := by decide +kernel
theorem dX3_openBeat_31 : decode cX3_openBeat 31 = .ok (.getfield 29, 3) := by decide +kernel
theorem dX3_openBeat_34 : decode cX3_openBeat 34 = .ok (.iconst 1, 1) := by decide +kernel
theorem dX3_openBeat_35 : decode cX3_openBeat 35 = .ok (.isub, 1) := by decide +kernel
theorem dX3_openBeat_36 : decode cX3_openBeat 36 = .ok (.istore_n 3, 1) := by decide +kernel
theorem dX3_openBeat_37 : decode cX3_openBeat 37 = .ok (.iload_n 3, 1) := by decide +kernel
theorem dX3_openBeat_38 : decode cX3_openBeat 38 = .ok (.iload_n 1, 1) := by decide +kernel
theorem dX3_openBeat_39 : decode cX3_openBeat 39 = .ok (.if_icmp .le 23, 3) := by decide +kernel
theorem dX3_openBeat_42 : decode cX3_openBeat 42 = .ok (.aload_n 0, 1) := by decide +kernel
theorem dX3_openBeat_43 : decode cX3_openBeat 43 = .ok (.iload_n 2, 1) := by decide +kernel
theorem dX3_openBeat_44 : decode cX3_openBeat 44 = .ok (.iload_n 3, 1) := by decide +kernel
theorem dX3_openBeat_45 : decode cX3_openBeat 45 = .ok (.aload_n 0, 1) := by decide +kernel
theorem dX3_openBeat_46 : decode cX3_openBeat 46 = .ok (.iload_n 2, 1) := by decide +kernel
theorem dX3_openBeat_47 : decode cX3_openBeat 47 = .ok (.iload_n 3, 1) := by decide +kernel
theorem dX3_openBeat_48 : decode cX3_openBeat 48 = .ok (.iconst 1, 1) := by decide +kernel
theorem dX3_openBeat_49 : decode cX3_openBeat 49 = .ok (.isub, 1) := by decide +kernel
theorem dX3_openBeat_50 : decode cX3_openBeat 50 = .ok (.invokevirtual 51, 3) := by decide +kernel
theorem dX3_openBeat_53 : decode cX3_openBeat 53 = .ok (.invokevirtual 66, 3) := by decide +kernel
theorem dX3_openBeat_56 : decode cX3_openBeat 56 = .ok (.iinc 3 (-1), 3) := by decide +kernel
theorem dX3_openBeat_59 : decode cX3_openBeat 59 = .ok (.goto (-22), 3) := by decide +kernel
theorem dX3_openBeat_62 : decode cX3_openBeat 62 = .ok (.aload_n 0, 1) := by decide +kernel
theorem dX3_openBeat_63 : decode cX3_openBeat 63 = .ok (.iload_n 2, 1) := by decide +kernel
theorem dX3_openBeat_64 : decode cX3_openBeat 64 = .ok (.iload_n 1, 1) := by decide +kernel
theorem dX3_openBeat_65 : decode cX3_openBeat 65 = .ok (.bipush (-9), 2) := by decide +kernel
theorem dX3_openBeat_67 : decode cX3_openBeat 67 = .ok (.invokevirtual 66, 3) := by decide +kernel
theorem dX3_openBeat_70 : decode cX3_openBeat 70 = .ok (.iinc 2 1, 3) := by decide +kernel
theorem dX3_openBeat_73 : decode cX3_openBeat 73 = .ok (.goto (-51), 3) := by decide +kernel
theorem dX3_openBeat_76 : decode cX3_openBeat 76 = .ok (.return_, 1) := by decide +kernel
theorem dX3_closeBeat_0 : decode cX3_closeBeat 0 = .ok (.aload_n 0, 1) := by decide +kernel
theorem dX3_closeBeat_1 : decode cX3_closeBeat 1 = .ok (.getfield 29, 3) := by decide +kernel
theorem dX3_closeBeat_4 : decode cX3_closeBeat 4 = .ok (.iconst 1, 1) := by decide +kernel
theorem dX3_closeBeat_5 : decode cX3_closeBeat 5 = .ok (.if_icmp .gt 4, 3) := by decide +kernel
theorem dX3_closeBeat_8 : decode cX3_closeBeat 8 = .ok (.return_, 1) := by decide +kernel
theorem dX3_closeBeat_9 : decode cX3_closeBeat 9 = .ok (.iconst 0, 1) := by decide +kernel
theorem dX3_closeBeat_10 : decode cX3_closeBeat 10 = .ok (.istore_n 2, 1) := by decide +kernel
theorem dX3_closeBeat_11 : decode cX3_closeBeat 11 = .ok (.iload_n 2, 1) := by decide +kernel
theorem dX3_closeBeat_12 : decode cX3_closeBeat 12 = .ok (.aload_n 0, 1) := by decide +kernel
theorem dX3_closeBeat_13 : decode cX3_closeBeat 13 = .ok (.getfield 25, 3) := by decide +kernel
theorem dX3_closeBeat_16 : decode cX3_closeBeat 16 = .ok (.if_icmp .ge 41, 3) := by decide +kernel
theorem dX3_closeBeat_19 : decode cX3_closeBeat 19 = .ok (.iload_n 1, 1) := by decide +kernel
theorem dX3_closeBeat_20 : decode cX3_closeBeat 20 = .ok (.istore_n 3, 1) := by decide +kernel
theorem dX3_closeBeat_21 : decode cX3_closeBeat 21 = .ok (.iload_n 3, 1) := by decide +kernel
theorem dX3_closeBeat_22 : decode cX3_closeBeat 22 = .ok (.aload_n 0, 1) := by decide +kernel
theorem dX3_closeBeat_23 : decode cX3_closeBeat 23 = .ok (.getfield 29, 3) := by decide +kernel
theorem dX3_closeBeat_26 : decode cX3_closeBeat 26 = .ok (.iconst 1, 1) := by decide +kernel
theorem dX3_closeBeat_27 : decode cX3_closeBeat 27 = .ok (.isub, 1) := by decide +kernel
theorem dX3_closeBeat_28 : decode cX3_closeBeat 28 = .ok (.if_icmp .ge 23, 3) := by decide +kernel
theorem dX3_closeBeat_31 : decode cX3_closeBeat 31 = .ok (.aload_n 0, 1) := by decide +kernel
theorem dX3_closeBeat_32 : decode cX3_closeBeat 32 = .ok (.iload_n 2, 1) := by decide +kernel
theorem dX3_closeBeat_33 : decode cX3_closeBeat 33 = .ok (.iload_n 3, 1) := by decide +kernel
theorem dX3_closeBeat_34 : decode cX3_closeBeat 34 = .ok (.aload_n 0, 1) := by decide +kernel
theorem dX3_closeBeat_35 : decode cX3_closeBeat 35 = .ok (.iload_n 2, 1) := by decide +kernel
theorem dX3_closeBeat_36 : decode cX3_closeBeat 36 = .ok (.iload_n 3, 1) := by decide +kernel
theorem dX3_closeBeat_37 : decode cX3_closeBeat 37 = .ok (.iconst 1, 1) := by decide +kernel
theorem dX3_closeBeat_38 : decode cX3_closeBeat 38 = .ok (.iadd, 1) := by decide +kernel
theorem dX3_closeBeat_39 : decode cX3_closeBeat 39 = .ok (.invokevirtual 51, 3) := by decide +kernel
theorem dX3_closeBeat_42 : decode cX3_closeBeat 42 = .ok (.invokevirtual 66, 3) := by decide +kernel
theorem dX3_closeBeat_45 : decode cX3_closeBeat 45 = .ok (.iinc 3 1, 3) := by decide +kernel
theorem dX3_closeBeat_48 : decode cX3_closeBeat 48 = .ok (.goto (-27), 3) := by decide +kernel
theorem dX3_closeBeat_51 : decode cX3_closeBeat 51 = .ok (.iinc 2 1, 3) := by decide +kernel
theorem dX3_closeBeat_54 : decode cX3_closeBeat 54 = .ok (.goto (-43), 3) := by decide +kernel
theorem dX3_closeBeat_57 : decode cX3_closeBeat 57 = .ok (.aload_n 0, 1) := by decide +kernel
theorem dX3_closeBeat_58 : decode cX3_closeBeat 58 = .ok (.dup, 1) := by decide +kernel
theorem dX3_closeBeat_59 : decode cX3_closeBeat 59 = .ok (.getfield 29, 3) := by decide +kernel
theorem dX3_closeBeat_62 : decode cX3_closeBeat 62 = .ok (.iconst 1, 1) := by decide +kernel
theorem dX3_closeBeat_63 : decode cX3_closeBeat 63 = .ok (.isub, 1) := by decide +kernel
theorem dX3_closeBeat_64 : decode cX3_closeBeat 64 = .ok (.putfield 29, 3) := by decide +kernel
theorem dX3_closeBeat_67 : decode cX3_closeBeat 67 = .ok (.return_, 1) := by decide +kernel
theorem dX3_dropLooseHolds_0 : decode cX3_dropLooseHolds 0 = .ok (.iconst 0, 1) := by decide +kernel
theorem dX3_dropLooseHolds_1 : decode cX3_dropLooseHolds 1 = .ok (.istore_n 1, 1) := by decide +kernel
theorem dX3_dropLooseHolds_2 : decode cX3_dropLooseHolds 2 = .ok (.iload_n 1, 1) := by decide +kernel
theorem dX3_dropLooseHolds_3 : decode cX3_dropLooseHolds 3 = .ok (.aload_n 0, 1) := by decide +kernel
theorem dX3_dropLooseHolds_4 : decode cX3_dropLooseHolds 4 = .ok (.getfield 25, 3) := by decide +kernel
theorem dX3_dropLooseHolds_7 : decode cX3_dropLooseHolds 7 = .ok (.if_icmp .ge 53, 3) := by decide +kernel
theorem dX3_dropLooseHolds_10 : decode cX3_dropLooseHolds 10 = .ok (.iconst 0, 1) := by decide +kernel
theorem dX3_dropLooseHolds_11 : decode cX3_dropLooseHolds 11 = .ok (.istore_n 2, 1) := by decide +kernel
theorem dX3_dropLooseHolds_12 : decode cX3_dropLooseHolds 12 = .ok (.iload_n 2, 1) := by decide +kernel
theorem dX3_dropLooseHolds_13 : decode cX3_dropLooseHolds 13 = .ok (.aload_n 0, 1) := by decide +kernel
theorem dX3_dropLooseHolds_14 : decode cX3_dropLooseHolds 14 = .ok (.getfield 29, 3) := by decide +kernel
theorem dX3_dropLooseHolds_17 : decode cX3_dropLooseHolds 17 = .ok (.if_icmp .ge 37, 3) := by decide +kernel
theorem dX3_dropLooseHolds_20 : decode cX3_dropLooseHolds 20 = .ok (.aload_n 0, 1) := by decide +kernel
theorem dX3_dropLooseHolds_21 : decode cX3_dropLooseHolds 21 = .ok (.iload_n 1, 1) := by decide +kernel
theorem dX3_dropLooseHolds_22 : decode cX3_dropLooseHolds 22 = .ok (.iload_n 2, 1) := by decide +kernel
theorem dX3_dropLooseHolds_23 : decode cX3_dropLooseHolds 23 = .ok (.invokevirtual 51, 3) := by decide +kernel
theorem dX3_dropLooseHolds_26 : decode cX3_dropLooseHolds 26 = .ok (.bipush 99, 2) := by decide +kernel
theorem dX3_dropLooseHolds_28 : decode cX3_dropLooseHolds 28 = .ok (.if_icmp .ne 20, 3) := by decide +kernel
theorem dX3_dropLooseHolds_31 : decode cX3_dropLooseHolds 31 = .ok (.aload_n 0, 1) := by decide +kernel
theorem dX3_dropLooseHolds_32 : decode cX3_dropLooseHolds 32 = .ok (.iload_n 1, 1) := by decide +kernel
theorem dX3_dropLooseHolds_33 : decode cX3_dropLooseHolds 33 = .ok (.iload_n 2, 1) := by decide +kernel
theorem dX3_dropLooseHolds_34 : decode cX3_dropLooseHolds 34 = .ok (.invokevirtual 74, 3) := by decide +kernel
theorem dX3_dropLooseHolds_37 : decode cX3_dropLooseHolds 37 = .ok (.ifCond .ne 11, 3) := by decide +kernel
theorem dX3_dropLooseHolds_40 : decode cX3_dropLooseHolds 40 = .ok (.aload_n 0, 1) := by decide +kernel
theorem dX3_dropLooseHolds_41 : decode cX3_dropLooseHolds 41 = .ok (.iload_n 1, 1) := by decide +kernel
theorem dX3_dropLooseHolds_42 : decode cX3_dropLooseHolds 42 = .ok (.iload_n 2, 1) := by decide +kernel
theorem dX3_dropLooseHolds_43 : decode cX3_dropLooseHolds 43 = .ok (.bipush (-9), 2) := by decide +kernel
theorem dX3_dropLooseHolds_45 : decode cX3_dropLooseHolds 45 = .ok (.invokevirtual 66, 3) := by decide +kernel
theorem dX3_dropLooseHolds_48 : decode cX3_dropLooseHolds 48 = .ok (.iinc 2 1, 3) := by decide +kernel
theorem dX3_dropLooseHolds_51 : decode cX3_dropLooseHolds 51 = .ok (.goto (-39), 3) := by decide +kernel
theorem dX3_dropLooseHolds_54 : decode cX3_dropLooseHolds 54 = .ok (.iinc 1 1, 3) := by decide +kernel
theorem dX3_dropLooseHolds_57 : decode cX3_dropLooseHolds 57 = .ok (.goto (-55), 3) := by decide +kernel
theorem dX3_dropLooseHolds_60 : decode cX3_dropLooseHolds 60 = .ok (.return_, 1) := by decide +kernel
theorem dX4_init_0 : decode cX4_init 0 = .ok (.aload_n 0, 1) := by decide +kernel
theorem dX4_init_1 : decode cX4_init 1 = .ok (.invokespecial 3, 3) := by decide +kernel
theorem dX4_init_4 : decode cX4_init 4 = .ok (.aload_n 0, 1) := by decide +kernel
theorem dX4_init_5 : decode cX4_init 5 = .ok (.sipush 140, 3) := by decide +kernel
theorem dX4_init_8 : decode cX4_init 8 = .ok (.newarray .char, 2) := by decide +kernel
theorem dX4_init_10 : decode cX4_init 10 = .ok (.putfield 9, 3) := by decide +kernel
theorem dX4_init_13 : decode cX4_init 13 = .ok (.return_, 1) := by decide +kernel
theorem dX4_isFull_0 : decode cX4_isFull 0 = .ok (.aload_n 0, 1) := by decide +kernel
theorem dX4_isFull_1 : decode cX4_isFull 1 = .ok (.getfield 15, 3) := by decide +kernel
theorem dX4_isFull_4 : decode cX4_isFull 4 = .ok (.sipush 140, 3) := by decide +kernel
theorem dX4_isFull_7 : decode cX4_isFull 7 = .ok (.if_icmp .lt 7, 3) := by decide +kernel
theorem dX4_isFull_10 : decode cX4_isFull 10 = .ok (.iconst 1, 1) := by decide +kernel
theorem dX4_isFull_11 : decode cX4_isFull 11 = .ok (.goto 4, 3) := by decide +kernel
theorem dX4_isFull_14 : decode cX4_isFull 14 = .ok (.iconst 0, 1) := by decide +kernel
theorem dX4_isFull_15 : decode cX4_isFull 15 = .ok (.ireturn, 1) := by decide +kernel
theorem dX4_add_0 : decode cX4_add 0 = .ok (.aload_n 0, 1) := by decide +kernel
theorem dX4_add_1 : decode cX4_add 1 = .ok (.invokevirtual 19, 3) := by decide +kernel
theorem dX4_add_4 : decode cX4_add 4 = .ok (.ifCond .ne 23, 3) := by decide +kernel
theorem dX4_add_7 : decode cX4_add 7 = .ok (.aload_n 0, 1) := by decide +kernel
theorem dX4_add_8 : decode cX4_add 8 = .ok (.getfield 9, 3) := by decide +kernel
theorem dX4_add_11 : decode cX4_add 11 = .ok (.aload_n 0, 1) := by decide +kernel
theorem dX4_add_12 : decode cX4_add 12 = .ok (.getfield 15, 3) := by decide +kernel
theorem dX4_add_15 : decode cX4_add 15 = .ok (.iload_n 1, 1) := by decide +kernel
theorem dX4_add_16 : decode cX4_add 16 = .ok (.castore, 1) := by decide +kernel
theorem dX4_add_17 : decode cX4_add 17 = .ok (.aload_n 0, 1) := by decide +kernel
theorem dX4_add_18 : decode cX4_add 18 = .ok (.dup, 1) := by decide +kernel
theorem dX4_add_19 : decode cX4_add 19 = .ok (.getfield 15, 3) := by decide +kernel
theorem dX4_add_22 : decode cX4_add 22 = .ok (.iconst 1, 1) := by decide +kernel
theorem dX4_add_23 : decode cX4_add 23 = .ok (.iadd, 1) := by decide +kernel
theorem dX4_add_24 : decode cX4_add 24 = .ok (.putfield 15, 3) := by decide +kernel
theorem dX4_add_27 : decode cX4_add 27 = .ok (.aload_n 0, 1) := by decide +kernel
theorem dX4_add_28 : decode cX4_add 28 = .ok (.getfield 15, 3) := by decide +kernel
theorem dX4_add_31 : decode cX4_add 31 = .ok (.ireturn, 1) := by decide +kernel
theorem dX4_empty_0 : decode cX4_empty 0 = .ok (.aload_n 0, 1) := by decide +kernel
theorem dX4_empty_1 : decode cX4_empty 1 = .ok (.getfield 15, 3) := by decide +kernel
theorem dX4_empty_4 : decode cX4_empty 4 = .ok (.istore_n 1, 1) := by decide +kernel
theorem dX4_empty_5 : decode cX4_empty 5 = .ok (.aload_n 0, 1) := by decide +kernel
theorem dX4_empty_6 : decode cX4_empty 6 = .ok (.iconst 0, 1) := by decide +kernel
theorem dX4_empty_7 : decode cX4_empty 7 = .ok (.putfield 15, 3) := by decide +kernel
theorem dX4_empty_10 : decode cX4_empty 10 = .ok (.iload_n 1, 1) := by decide +kernel
theorem dX4_empty_11 : decode cX4_empty 11 = .ok (.ireturn, 1) := by decide +kernel
theorem dX4_readInto_0 : decode cX4_readInto 0 = .ok (.aload_n 0, 1) := by decide +kernel
theorem dX4_readInto_1 : decode cX4_readInto 1 = .ok (.iconst 0, 1) := by decide +kernel
theorem dX4_readInto_2 : decode cX4_readInto 2 = .ok (.invokevirtual 23, 3) := by decide +kernel
theorem dX4_readInto_5 : decode cX4_readInto 5 = .ok (.bipush 77, 2) := by decide +kernel
theorem dX4_readInto_7 : decode cX4_readInto 7 = .ok (.if_icmp .eq 5, 3) := by decide +kernel
theorem dX4_readInto_10 : decode cX4_readInto 10 = .ok (.iconst 0, 1) := by decide +kernel
theorem dX4_readInto_11 : decode cX4_readInto 11 = .ok (.ireturn, 1) := by decide +kernel
theorem dX4_readInto_12 : decode cX4_readInto 12 = .ok (.aload_n 0, 1) := by decide +kernel
theorem dX4_readInto_13 : decode cX4_readInto 13 = .ok (.iconst 1, 1) := by decide +kernel
theorem dX4_readInto_14 : decode cX4_readInto 14 = .ok (.invokevirtual 27, 3) := by decide +kernel
theorem dX4_readInto_17 : decode cX4_readInto 17 = .ok (.istore_n 2, 1) := by decide +kernel
theorem dX4_readInto_18 : decode cX4_readInto 18 = .ok (.iload_n 2, 1) := by decide +kernel
theorem dX4_readInto_19 : decode cX4_readInto 19 = .ok (.iconst 1, 1) := by decide +kernel
theorem dX4_readInto_20 : decode cX4_readInto 20 = .ok (.if_icmp .lt 8, 3) := by decide +kernel
theorem dX4_readInto_23 : decode cX4_readInto 23 = .ok (.iload_n 2, 1) := by decide +kernel
theorem dX4_readInto_24 : decode cX4_readInto 24 = .ok (.iconst 4, 1) := by decide +kernel
theorem dX4_readInto_25 : decode cX4_readInto 25 = .ok (.if_icmp .le 5, 3) := by decide +kernel
theorem dX4_readInto_28 : decode cX4_readInto 28 = .ok (.iconst 1, 1) := by decide +kernel
theorem dX4_readInto_29 : decode cX4_readInto 29 = .ok (.ireturn, 1) := by decide +kernel
theorem dX4_readInto_30 : decode cX4_readInto 30 = .ok (.aload_n 0, 1) := by decide +kernel
theorem dX4_readInto_31 : decode cX4_readInto 31 = .ok (.iconst 2, 1) := by decide +kernel
theorem dX4_readInto_32 : decode cX4_readInto 32 = .ok (.invokevirtual 27, 3) := by decide +kernel
theorem dX4_readInto_35 : decode cX4_readInto 35 = .ok (.istore_n 3, 1) := by decide +kernel
theorem dX4_readInto_36 : decode cX4_readInto 36 = .ok (.iload_n 3, 1) := by decide +kernel
theorem dX4_readInto_37 : decode cX4_readInto 37 = .ok (.ifCond .lt 8, 3) := by decide +kernel
theorem dX4_readInto_40 : decode cX4_readInto 40 = .ok (.iload_n 3, 1) := by decide +kernel
theorem dX4_readInto_41 : decode cX4_readInto 41 = .ok (.iconst 1, 1) := by decide +kernel
theorem dX4_readInto_42 : decode cX4_readInto 42 = .ok (.if_icmp .le 5, 3) := by decide +kernel
theorem dX4_readInto_45 : decode cX4_readInto 45 = .ok (.iconst 2, 1) := by decide +kernel
theorem dX4_readInto_46 : decode cX4_readInto 46 = .ok (.ireturn, 1) := by decide +kernel
theorem dX4_readInto_47 : decode cX4_readInto 47 = .ok (.aload_n 0, 1) := by decide +kernel
theorem dX4_readInto_48 : decode cX4_readInto 48 = .ok (.iconst 3, 1) := by decide +kernel
theorem dX4_readInto_49 : decode cX4_readInto 49 = .ok (.invokevirtual 27, 3) := by decide +kernel
theorem dX4_readInto_52 : decode cX4_readInto 52 = .ok (.istore 4, 2) := by decide +kernel
theorem dX4_readInto_54 : decode cX4_readInto 54 = .ok (.bipush 10, 2) := by decide +kernel
theorem dX4_readInto_56 : decode cX4_readInto 56 = .ok (.iload_n 3, 1) := by decide +kernel
theorem dX4_readInto_57 : decode cX4_readInto 57 = .ok (.imul, 1) := by decide +kernel
theorem dX4_readInto_58 : decode cX4_readInto 58 = .ok (.iload 4, 2) := by decide +kernel
theorem dX4_readInto_60 : decode cX4_readInto 60 = .ok (.iadd, 1) := by decide +kernel
theorem dX4_readInto_61 : decode cX4_readInto 61 = .ok (.istore 5, 2) := by decide +kernel
theorem dX4_readInto_63 : decode cX4_readInto 63 = .ok (.iload 4, 2) := by decide +kernel
theorem dX4_readInto_65 : decode cX4_readInto 65 = .ok (.iconst (-1), 1) := by decide +kernel
theorem dX4_readInto_66 : decode cX4_readInto 66 = .ok (.if_icmp .eq 16, 3) := by decide +kernel
theorem dX4_readInto_69 : decode cX4_readInto 69 = .ok (.iload 5, 2) := by decide +kernel
theorem dX4_readInto_71 : decode cX4_readInto 71 = .ok (.iconst 1, 1) := by decide +kernel
theorem dX4_readInto_72 : decode cX4_readInto 72 = .ok (.if_icmp .lt 10, 3) := by decide +kernel
theorem dX4_readInto_75 : decode cX4_readInto 75 = .ok (.iload 5, 2) := by decide +kernel
theorem dX4_readInto_77 : decode cX4_readInto 77 = .ok (.bipush 16, 2) := by decide +kernel
theorem dX4_readInto_79 : decode cX4_readInto 79 = .ok (.if_icmp .le 5, 3) := by decide +kernel
theorem dX4_readInto_82 : decode cX4_readInto 82 = .ok (.iconst 3, 1) := by decide +kernel
theorem dX4_readInto_83 : decode cX4_readInto 83 = .ok (.ireturn, 1) := by decide +kernel
theorem dX4_readInto_84 : decode cX4_readInto 84 = .ok (.aload_n 1, 1) := by decide +kernel
theorem dX4_readInto_85 : decode cX4_readInto 85 = .ok (.iload_n 2, 1) := by decide +kernel
theorem dX4_readInto_86 : decode cX4_readInto 86 = .ok (.iload 5, 2) := by decide +kernel
theorem dX4_readInto_88 : decode cX4_readInto 88 = .ok (.invokevirtual 30, 3) := by decide +kernel
theorem dX4_readInto_91 : decode cX4_readInto 91 = .ok (.aload_n 0, 1) := by decide +kernel
theorem dX4_readInto_92 : decode cX4_readInto 92 = .ok (.iconst 4, 1) := by decide +kernel
theorem dX4_readInto_93 : decode cX4_readInto 93 = .ok (.putfield 36, 3) := by decide +kernel
theorem dX4_readInto_96 : decode cX4_readInto 96 = .ok (.iconst 0, 1) := by decide +kernel
theorem dX4_readInto_97 : decode cX4_readInto 97 = .ok (.istore 6, 2) := by decide +kernel
theorem dX4_readInto_99 : decode cX4_readInto 99 = .ok (.iload 6, 2) := by decide +kernel
theorem dX4_readInto_101 : decode cX4_readInto 101 = .ok (.iload_n 2, 1) := by decide +kernel
theorem dX4_readInto_102 : decode cX4_readInto 102 = .ok (.if_icmp .ge 42, 3) := by decide +kernel
theorem dX4_readInto_105 : decode cX4_readInto 105 = .ok (.iconst 0, 1) := by decide +kernel
theorem dX4_readInto_106 : decode cX4_readInto 106 = .ok (.istore 7, 2) := by decide +kernel
theorem dX4_readInto_108 : decode cX4_readInto 108 = .ok (.iload 7, 2) := by decide +kernel
theorem dX4_readInto_110 : decode cX4_readInto 110 = .ok (.iload 5, 2) := by decide +kernel
theorem dX4_readInto_112 : decode cX4_readInto 112 = .ok (.if_icmp .ge 26, 3) := by decide +kernel
theorem dX4_readInto_115 : decode cX4_readInto 115 = .ok (.aload_n 0, 1) := by decide +kernel
theorem dX4_readInto_116 : decode cX4_readInto 116 = .ok (.aload_n 1, 1) := by decide +kernel
theorem dX4_readInto_117 : decode cX4_readInto 117 = .ok (.iload 6, 2) := by decide +kernel
theorem dX4_readInto_119 : decode cX4_readInto 119 = .ok (.iload 7, 2) := by decide +kernel
theorem dX4_readInto_121 : decode cX4_readInto 121 = .ok (.invokevirtual 39, 3) := by decide +kernel
theorem dX4_readInto_124 : decode cX4_readInto 124 = .ok (.ifCond .ne 8, 3) := by decide +kernel
theorem dX4_readInto_127 : decode cX4_readInto 127 = .ok (.aload_n 0, 1) := by decide +kernel
theorem dX4_readInto_128 : decode cX4_readInto 128 = .ok (.getfield 36, 3) := by decide +kernel
theorem dX4_readInto_131 : decode cX4_readInto 131 = .ok (.ireturn, 1) := by decide +kernel
theorem dX4_readInto_132 : decode cX4_readInto 132 = .ok (.iinc 7 1, 3) := by decide +kernel
theorem dX4_readInto_135 : decode cX4_readInto 135 = .ok (.goto (-27), 3) := by decide +kernel
theorem dX4_readInto_138 : decode cX4_readInto 138 = .ok (.iinc 6 1, 3) := by decide +kernel
theorem dX4_readInto_141 : decode cX4_readInto 141 = .ok (.goto (-42), 3) := by decide +kernel
theorem dX4_readInto_144 : decode cX4_readInto 144 = .ok (.aload_n 0, 1) := by decide +kernel
theorem dX4_readInto_145 : decode cX4_readInto 145 = .ok (.getfield 36, 3) := by decide +kernel
theorem dX4_readInto_148 : decode cX4_readInto 148 = .ok (.aload_n 0, 1) := by decide +kernel
theorem dX4_readInto_149 : decode cX4_readInto 149 = .ok (.getfield 15, 3) := by decide +kernel
theorem dX4_readInto_152 : decode cX4_readInto 152 = .ok (.if_icmp .ne 8, 3) := by decide +kernel
theorem dX4_readInto_155 : decode cX4_readInto 155 = .ok (.bipush (-9), 2) := by decide +kernel
theorem dX4_readInto_157 : decode cX4_readInto 157 = .ok (.goto 7, 3) := by decide +kernel
theorem dX4_readInto_160 : decode cX4_readInto 160 = .ok (.aload_n 0, 1) := by decide +kernel
theorem dX4_readInto_161 : decode cX4_readInto 161 = .ok (.getfield 36, 3) := by decide +kernel
theorem dX4_readInto_164 : decode cX4_readInto 164 = .ok (.ireturn, 1) := by decide +kernel
theorem dX4_readCell_0 : decode cX4_readCell 0 = .ok (.aload_n 0, 1) := by decide +kernel
theorem dX4_readCell_1 : decode cX4_readCell 1 = .ok (.aload_n 0, 1) := by decide +kernel
theorem dX4_readCell_2 : decode cX4_readCell 2 = .ok (.getfield 36, 3) := by decide +kernel
theorem dX4_readCell_5 : decode cX4_readCell 5 = .ok (.invokevirtual 23, 3) := by decide +kernel
theorem dX4_readCell_8 : decode cX4_readCell 8 = .ok (.istore 4, 2) := by decide +kernel
theorem dX4_readCell_10 : decode cX4_readCell 10 = .ok (.iload 4, 2) := by decide +kernel
theorem dX4_readCell_12 : decode cX4_readCell 12 = .ok (.bipush 45, 2) := by decide +kernel
theorem dX4_readCell_14 : decode cX4_readCell 14 = .ok (.if_icmp .eq 19, 3) := by decide +kernel
theorem dX4_readCell_17 : decode cX4_readCell 17 = .ok (.iload 4, 2) := by decide +kernel
theorem dX4_readCell_19 : decode cX4_readCell 19 = .ok (.bipush 61, 2) := by decide +kernel
theorem dX4_readCell_21 : decode cX4_readCell 21 = .ok (.if_icmp .ne 44, 3) := by decide +kernel
theorem dX4_readCell_24 : decode cX4_readCell 24 = .ok (.aload_n 1, 1) := by decide +kernel
theorem dX4_readCell_25 : decode cX4_readCell 25 = .ok (.iload_n 2, 1) := by decide +kernel
theorem dX4_readCell_26 : decode cX4_readCell 26 = .ok (.iload_n 3, 1) := by decide +kernel
theorem dX4_readCell_27 : decode cX4_readCell 27 = .ok (.invokevirtual 43, 3) := by decide +kernel
theorem dX4_readCell_30 : decode cX4_readCell 30 = .ok (.ifCond .eq 35, 3) := by decide +kernel
theorem dX4_readCell_33 : decode cX4_readCell 33 = .ok (.aload_n 1, 1) := by decide +kernel
theorem dX4_readCell_34 : decode cX4_readCell 34 = .ok (.iload_n 2, 1) := by decide +kernel
theorem dX4_readCell_35 : decode cX4_readCell 35 = .ok (.iload_n 3, 1) := by decide +kernel
theorem dX4_readCell_36 : decode cX4_readCell 36 = .ok (.iload 4, 2) := by decide +kernel
theorem dX4_readCell_38 : decode cX4_readCell 38 = .ok (.bipush 45, 2) := by decide +kernel
theorem dX4_readCell_40 : decode cX4_readCell 40 = .ok (.if_icmp .ne 8, 3) := by decide +kernel
theorem dX4_readCell_43 : decode cX4_readCell 43 = .ok (.bipush (-9), 2) := by decide +kernel
theorem dX4_readCell_45 : decode cX4_readCell 45 = .ok (.goto 5, 3) := by decide +kernel
theorem dX4_readCell_48 : decode cX4_readCell 48 = .ok (.bipush 99, 2) := by decide +kernel
theorem dX4_readCell_50 : decode cX4_readCell 50 = .ok (.invokevirtual 47, 3) := by decide +kernel
theorem dX4_readCell_53 : decode cX4_readCell 53 = .ok (.aload_n 0, 1) := by decide +kernel
theorem dX4_readCell_54 : decode cX4_readCell 54 = .ok (.dup, 1) := by decide +kernel
theorem dX4_readCell_55 : decode cX4_readCell 55 = .ok (.getfield 36, 3) := by decide +kernel
theorem dX4_readCell_58 : decode cX4_readCell 58 = .ok (.iconst 1, 1) := by decide +kernel
theorem dX4_readCell_59 : decode cX4_readCell 59 = .ok (.iadd, 1) := by decide +kernel
theorem dX4_readCell_60 : decode cX4_readCell 60 = .ok (.putfield 36, 3) := by decide +kernel
theorem dX4_readCell_63 : decode cX4_readCell 63 = .ok (.iconst 1, 1) := by decide +kernel
theorem dX4_readCell_64 : decode cX4_readCell 64 = .ok (.ireturn, 1) := by decide +kernel
theorem dX4_readCell_65 : decode cX4_readCell 65 = .ok (.aload_n 0, 1) := by decide +kernel
theorem dX4_readCell_66 : decode cX4_readCell 66 = .ok (.aload_n 0, 1) := by decide +kernel
theorem dX4_readCell_67 : decode cX4_readCell 67 = .ok (.getfield 36, 3) := by decide +kernel
theorem dX4_readCell_70 : decode cX4_readCell 70 = .ok (.invokevirtual 27, 3) := by decide +kernel
theorem dX4_readCell_73 : decode cX4_readCell 73 = .ok (.istore 5, 2) := by decide +kernel
theorem dX4_readCell_75 : decode cX4_readCell 75 = .ok (.iload 5, 2) := by decide +kernel
theorem dX4_readCell_77 : decode cX4_readCell 77 = .ok (.ifCond .lt 10, 3) := by decide +kernel
theorem dX4_readCell_80 : decode cX4_readCell 80 = .ok (.iload 5, 2) := by decide +kernel
theorem dX4_readCell_82 : decode cX4_readCell 82 = .ok (.bipush 6, 2) := by decide +kernel
theorem dX4_readCell_84 : decode cX4_readCell 84 = .ok (.if_icmp .le 5, 3) := by decide +kernel
theorem dX4_readCell_87 : decode cX4_readCell 87 = .ok (.iconst 0, 1) := by decide +kernel
theorem dX4_readCell_88 : decode cX4_readCell 88 = .ok (.ireturn, 1) := by decide +kernel
theorem dX4_readCell_89 : decode cX4_readCell 89 = .ok (.aload_n 0, 1) := by decide +kernel
theorem dX4_readCell_90 : decode cX4_readCell 90 = .ok (.dup, 1) := by decide +kernel
theorem dX4_readCell_91 : decode cX4_readCell 91 = .ok (.getfield 36, 3) := by decide +kernel
theorem dX4_readCell_94 : decode cX4_readCell 94 = .ok (.iconst 1, 1) := by decide +kernel
theorem dX4_readCell_95 : decode cX4_readCell 95 = .ok (.iadd, 1) := by decide +kernel
theorem dX4_readCell_96 : decode cX4_readCell 96 = .ok (.putfield 36, 3) := by decide +kernel
theorem dX4_readCell_99 : decode cX4_readCell 99 = .ok (.aload_n 0, 1) := by decide +kernel
theorem dX4_readCell_100 : decode cX4_readCell 100 = .ok (.aload_n 0, 1) := by decide +kernel
theorem dX4_readCell_101 : decode cX4_readCell 101 = .ok (.getfield 36, 3) := by decide +kernel
theorem dX4_readCell_104 : decode cX4_readCell 104 = .ok (.invokevirtual 27, 3) := by decide +kernel
theorem dX4_readCell_107 : decode cX4_readCell 107 = .ok (.istore 6, 2) := by decide +kernel
theorem dX4_readCell_109 : decode cX4_readCell 109 = .ok (.bipush 10, 2) := by decide +kernel
theorem dX4_readCell_111 : decode cX4_readCell 111 = .ok (.iload 5, 2) := by decide +kernel
theorem dX4_readCell_113 : decode cX4_readCell 113 = .ok (.imul, 1) := by decide +kernel
theorem dX4_readCell_114 : decode cX4_readCell 114 = .ok (.iload 6, 2) := by decide +kernel
theorem dX4_readCell_116 : decode cX4_readCell 116 = .ok (.iadd, 1) := by decide +kernel
theorem dX4_readCell_117 : decode cX4_readCell 117 = .ok (.istore 7, 2) := by decide +kernel
theorem dX4_readCell_119 : decode cX4_readCell 119 = .ok (.iload 6, 2) := by decide +kernel
theorem dX4_readCell_121 : decode cX4_readCell 121 = .ok (.iconst (-1), 1) := by decide +kernel
theorem dX4_readCell_122 : decode cX4_readCell 122 = .ok (.if_icmp .eq 11, 3) := by decide +kernel
theorem dX4_readCell_125 : decode cX4_readCell 125 = .ok (.iload 7, 2) := by decide +kernel
theorem dX4_readCell_127 : decode cX4_readCell 127 = .ok (.invokestatic 51, 3) := by decide +kernel
theorem dX4_readCell_130 : decode cX4_readCell 130 = .ok (.ifCond .ne 5, 3) := by decide +kernel
theorem dX4_readCell_133 : decode cX4_readCell 133 = .ok (.iconst 0, 1) := by decide +kernel
theorem dX4_readCell_134 : decode cX4_readCell 134 = .ok (.ireturn, 1) := by decide +kernel
theorem dX4_readCell_135 : decode cX4_readCell 135 = .ok (.aload_n 0, 1) := by decide +kernel
theorem dX4_readCell_136 : decode cX4_readCell 136 = .ok (.dup, 1) := by decide +kernel
theorem dX4_readCell_137 : decode cX4_readCell 137 = .ok (.getfield 36, 3) := by decide +kernel
theorem dX4_readCell_140 : decode cX4_readCell 140 = .ok (.iconst 1, 1) := by decide +kernel
theorem dX4_readCell_141 : decode cX4_readCell 141 = .ok (.iadd, 1) := by decide +kernel
theorem dX4_readCell_142 : decode cX4_readCell 142 = .ok (.putfield 36, 3) := by decide +kernel
theorem dX4_readCell_145 : decode cX4_readCell 145 = .ok (.aload_n 1, 1) := by decide +kernel
theorem dX4_readCell_146 : decode cX4_readCell 146 = .ok (.iload_n 2, 1) := by decide +kernel
theorem dX4_readCell_147 : decode cX4_readCell 147 = .ok (.iload_n 3, 1) := by decide +kernel
theorem dX4_readCell_148 : decode cX4_readCell 148 = .ok (.iload 7, 2) := by decide +kernel
theorem dX4_readCell_150 : decode cX4_readCell 150 = .ok (.invokevirtual 47, 3) := by decide +kernel
theorem dX4_readCell_153 : decode cX4_readCell 153 = .ok (.iconst 1, 1) := by decide +kernel
theorem dX4_readCell_154 : decode cX4_readCell 154 = .ok (.ireturn, 1) := by decide +kernel
theorem dX4_signAt_0 : decode cX4_signAt 0 = .ok (.iload_n 1, 1) := by decide +kernel
theorem dX4_signAt_1 : decode cX4_signAt 1 = .ok (.ifCond .lt 20, 3) := by decide +kernel
theorem dX4_signAt_4 : decode cX4_signAt 4 = .ok (.iload_n 1, 1) := by decide +kernel
theorem dX4_signAt_5 : decode cX4_signAt 5 = .ok (.aload_n 0, 1) := by decide +kernel
theorem dX4_signAt_6 : decode cX4_signAt 6 = .ok (.getfield 15, 3) := by decide +kernel
theorem dX4_signAt_9 : decode cX4_signAt 9 = .ok (.if_icmp .ge 12, 3) := by decide +kernel
theorem dX4_signAt_12 : decode cX4_signAt 12 = .ok (.aload_n 0, 1) := by decide +kernel
theorem dX4_signAt_13 : decode cX4_signAt 13 = .ok (.getfield 9, 3) := by decide +kernel
theorem dX4_signAt_16 : decode cX4_signAt 16 = .ok (.iload_n 1, 1) := by decide +kernel
theorem dX4_signAt_17 : decode cX4_signAt 17 = .ok (.caload, 1) := by decide +kernel
theorem dX4_signAt_18 : decode cX4_signAt 18 = .ok (.goto 4, 3) := by decide +kernel
theorem dX4_signAt_21 : decode cX4_signAt 21 = .ok (.iconst (-1), 1) := by decide +kernel
theorem dX4_signAt_22 : decode cX4_signAt 22 = .ok (.ireturn, 1) := by decide +kernel
theorem dX4_digitAt_0 : decode cX4_digitAt 0 = .ok (.aload_n 0, 1) := by decide +kernel
theorem dX4_digitAt_1 : decode cX4_digitAt 1 = .ok (.iload_n 1, 1) := by decide +kernel
theorem dX4_digitAt_2 : decode cX4_digitAt 2 = .ok (.invokevirtual 23, 3) := by decide +kernel
theorem dX4_digitAt_5 : decode cX4_digitAt 5 = .ok (.istore_n 2, 1) := by decide +kernel
theorem dX4_digitAt_6 : decode cX4_digitAt 6 = .ok (.iload_n 2, 1) := by decide +kernel
theorem dX4_digitAt_7 : decode cX4_digitAt 7 = .ok (.bipush 48, 2) := by decide +kernel
theorem dX4_digitAt_9 : decode cX4_digitAt 9 = .ok (.if_icmp .lt 16, 3) := by decide +kernel
theorem dX4_digitAt_12 : decode cX4_digitAt 12 = .ok (.iload_n 2, 1) := by decide +kernel
theorem dX4_digitAt_13 : decode cX4_digitAt 13 = .ok (.bipush 57, 2) := by decide +kernel
theorem dX4_digitAt_15 : decode cX4_digitAt 15 = .ok (.if_icmp .gt 10, 3) := by decide +kernel
theorem dX4_digitAt_18 : decode cX4_digitAt 18 = .ok (.iload_n 2, 1) := by decide +kernel
theorem dX4_digitAt_19 : decode cX4_digitAt 19 = .ok (.bipush 48, 2) := by decide +kernel
theorem dX4_digitAt_21 : decode cX4_digitAt 21 = .ok (.isub, 1) := by decide +kernel
theorem dX4_digitAt_22 : decode cX4_digitAt 22 = .ok (.goto 4, 3) := by decide +kernel
theorem dX4_digitAt_25 : decode cX4_digitAt 25 = .ok (.iconst (-1), 1) := by decide +kernel
theorem dX4_digitAt_26 : decode cX4_digitAt 26 = .ok (.ireturn, 1) := by decide +kernel
theorem dJ6_bitCount_0f7a4_0 : decode cJ6_bitCount_0f7a4 0 = .ok (.iload_n 0, 1) := by decide +kernel
theorem dJ6_bitCount_0f7a4_1 : decode cJ6_bitCount_0f7a4 1 = .ok (.iload_n 0, 1) := by decide +kernel
theorem dJ6_bitCount_0f7a4_2 : decode cJ6_bitCount_0f7a4 2 = .ok (.iconst 1, 1) := by decide +kernel
theorem dJ6_bitCount_0f7a4_3 : decode cJ6_bitCount_0f7a4 3 = .ok (.iushr, 1) := by decide +kernel
theorem dJ6_bitCount_0f7a4_4 : decode cJ6_bitCount_0f7a4 4 = .ok (.ldc_w 265, 3) := by decide +kernel
theorem dJ6_bitCount_0f7a4_7 : decode cJ6_bitCount_0f7a4 7 = .ok (.iand, 1) := by decide +kernel
theorem dJ6_bitCount_0f7a4_8 : decode cJ6_bitCount_0f7a4 8 = .ok (.isub, 1) := by decide +kernel
theorem dJ6_bitCount_0f7a4_9 : decode cJ6_bitCount_0f7a4 9 = .ok (.istore_n 0, 1) := by decide +kernel
theorem dJ6_bitCount_0f7a4_10 : decode cJ6_bitCount_0f7a4 10 = .ok (.iload_n 0, 1) := by decide +kernel
theorem dJ6_bitCount_0f7a4_11 : decode cJ6_bitCount_0f7a4 11 = .ok (.ldc_w 266, 3) := by decide +kernel
theorem dJ6_bitCount_0f7a4_14 : decode cJ6_bitCount_0f7a4 14 = .ok (.iand, 1) := by decide +kernel
theorem dJ6_bitCount_0f7a4_15 : decode cJ6_bitCount_0f7a4 15 = .ok (.iload_n 0, 1) := by decide +kernel
theorem dJ6_bitCount_0f7a4_16 : decode cJ6_bitCount_0f7a4 16 = .ok (.iconst 2, 1) := by decide +kernel
theorem dJ6_bitCount_0f7a4_17 : decode cJ6_bitCount_0f7a4 17 = .ok (.iushr, 1) := by decide +kernel
theorem dJ6_bitCount_0f7a4_18 : decode cJ6_bitCount_0f7a4 18 = .ok (.ldc_w 266, 3) := by decide +kernel
theorem dJ6_bitCount_0f7a4_21 : decode cJ6_bitCount_0f7a4 21 = .ok (.iand, 1) := by decide +kernel
theorem dJ6_bitCount_0f7a4_22 : decode cJ6_bitCount_0f7a4 22 = .ok (.iadd, 1) := by decide +kernel
theorem dJ6_bitCount_0f7a4_23 : decode cJ6_bitCount_0f7a4 23 = .ok (.istore_n 0, 1) := by decide +kernel
theorem dJ6_bitCount_0f7a4_24 : decode cJ6_bitCount_0f7a4 24 = .ok (.iload_n 0, 1) := by decide +kernel
theorem dJ6_bitCount_0f7a4_25 : decode cJ6_bitCount_0f7a4 25 = .ok (.iload_n 0, 1) := by decide +kernel
theorem dJ6_bitCount_0f7a4_26 : decode cJ6_bitCount_0f7a4 26 = .ok (.iconst 4, 1) := by decide +kernel
theorem dJ6_bitCount_0f7a4_27 : decode cJ6_bitCount_0f7a4 27 = .ok (.iushr, 1) := by decide +kernel
theorem dJ6_bitCount_0f7a4_28 : decode cJ6_bitCount_0f7a4 28 = .ok (.iadd, 1) := by decide +kernel
theorem dJ6_bitCount_0f7a4_29 : decode cJ6_bitCount_0f7a4 29 = .ok (.ldc_w 267, 3) := by decide +kernel
theorem dJ6_bitCount_0f7a4_32 : decode cJ6_bitCount_0f7a4 32 = .ok (.iand, 1) := by decide +kernel
theorem dJ6_bitCount_0f7a4_33 : decode cJ6_bitCount_0f7a4 33 = .ok (.istore_n 0, 1) := by decide +kernel
theorem dJ6_bitCount_0f7a4_34 : decode cJ6_bitCount_0f7a4 34 = .ok (.iload_n 0, 1) := by decide +kernel
theorem dJ6_bitCount_0f7a4_35 : decode cJ6_bitCount_0f7a4 35 = .ok (.iload_n 0, 1) := by decide +kernel
theorem dJ6_bitCount_0f7a4_36 : decode cJ6_bitCount_0f7a4 36 = .ok (.bipush 8, 2) := by decide +kernel
theorem dJ6_bitCount_0f7a4_38 : decode cJ6_bitCount_0f7a4 38 = .ok (.iushr, 1) := by decide +kernel
theorem dJ6_bitCount_0f7a4_39 : decode cJ6_bitCount_0f7a4 39 = .ok (.iadd, 1) := by decide +kernel
theorem dJ6_bitCount_0f7a4_40 : decode cJ6_bitCount_0f7a4 40 = .ok (.istore_n 0, 1) := by decide +kernel
theorem dJ6_bitCount_0f7a4_41 : decode cJ6_bitCount_0f7a4 41 = .ok (.iload_n 0, 1) := by decide +kernel
theorem dJ6_bitCount_0f7a4_42 : decode cJ6_bitCount_0f7a4 42 = .ok (.iload_n 0, 1) := by decide +kernel
theorem dJ6_bitCount_0f7a4_43 : decode cJ6_bitCount_0f7a4 43 = .ok (.bipush 16, 2) := by decide +kernel
theorem dJ6_bitCount_0f7a4_45 : decode cJ6_bitCount_0f7a4 45 = .ok (.iushr, 1) := by decide +kernel
theorem dJ6_bitCount_0f7a4_46 : decode cJ6_bitCount_0f7a4 46 = .ok (.iadd, 1) := by decide +kernel
theorem dJ6_bitCount_0f7a4_47 : decode cJ6_bitCount_0f7a4 47 = .ok (.istore_n 0, 1) := by decide +kernel
theorem dJ6_bitCount_0f7a4_48 : decode cJ6_bitCount_0f7a4 48 = .ok (.iload_n 0, 1) := by decide +kernel
theorem dJ6_bitCount_0f7a4_49 : decode cJ6_bitCount_0f7a4 49 = .ok (.bipush 63, 2) := by decide +kernel
theorem dJ6_bitCount_0f7a4_51 : decode cJ6_bitCount_0f7a4 51 = .ok (.iand, 1) := by decide +kernel
theorem dJ6_bitCount_0f7a4_52 : decode cJ6_bitCount_0f7a4 52 = .ok (.ireturn, 1) := by decide +kernel
theorem dJ9_abs_0f7a4_0 : decode cJ9_abs_0f7a4 0 = .ok (.iload_n 0, 1) := by decide +kernel
theorem dJ9_abs_0f7a4_1 : decode cJ9_abs_0f7a4 1 = .ok (.ifCond .ge 8, 3) := by decide +kernel
theorem dJ9_abs_0f7a4_4 : decode cJ9_abs_0f7a4 4 = .ok (.iload_n 0, 1) := by decide +kernel
theorem dJ9_abs_0f7a4_5 : decode cJ9_abs_0f7a4 5 = .ok (.ineg, 1) := by decide +kernel
theorem dJ9_abs_0f7a4_6 : decode cJ9_abs_0f7a4 6 = .ok (.goto 4, 3) := by decide +kernel
theorem dJ9_abs_0f7a4_9 : decode cJ9_abs_0f7a4 9 = .ok (.iload_n 0, 1) := by decide +kernel
theorem dJ9_abs_0f7a4_10 : decode cJ9_abs_0f7a4 10 = .ok (.ireturn, 1) := by decide +kernel
end
section
set_option maxRecDepth 20000 in
theorem w_X3_written {X : XX} {G : GG} {Z : ZZ} (hC : Cx X G RX3 cX3_written (some .int) 0 0 0 3) (hz : ZOk G Z) (hZ : ZM Z) (q0 : Nat) (v1 : Int32) (v2 : Int32) (M : Mem) (hq0 : q0 < 18) {r : Int32} {M' : Mem} (hf : f_X3_written q0 v1 v2 M = some (r, M')) : V X G Z M 0 0 (QN X G (QcI G Z r M') 0 0) 0 [(0, .ref (Z.1 (iSt q0))), (1, .int v1), (2, .int v2)] [] := by
  unfold f_X3_written at hf
  refine r_iload_n hC dX3_written_0 1 rfl ?_
  refine r_if_lt 38 hC dX3_written_1 (by decide) (fun h => ?_) (fun h => ?_)
  · have hf := if_T hf h
    refine r_bipush (v := (-9)) hC dX3_written_38 rfl ?_
    exact r_iret hf hC (by decide) (by decide) dX3_written_40
  · have hf := if_F hf h
    refine r_iload_n hC dX3_written_4 1 rfl ?_
    refine r_aload_n hC dX3_written_5 0 rfl ?_
    refine gf_X3_25 hC (z_S hZ hq0) rfl dX3_written_6 ?_
    refine r_icmp_ge 38 hC dX3_written_9 (by decide) (fun h => ?_) (fun h => ?_)
    · have hf := if_T hf h
      refine r_bipush (v := (-9)) hC dX3_written_38 rfl ?_
      exact r_iret hf hC (by decide) (by decide) dX3_written_40
    · have hf := if_F hf h
      refine r_iload_n hC dX3_written_12 2 rfl ?_
      refine r_if_lt 38 hC dX3_written_13 (by decide) (fun h => ?_) (fun h => ?_)
      · have hf := if_T hf h
        refine r_bipush (v := (-9)) hC dX3_written_38 rfl ?_
        exact r_iret hf hC (by decide) (by decide) dX3_written_40
      · have hf := if_F hf h
        refine r_iload_n hC dX3_written_16 2 rfl ?_
        refine r_aload_n hC dX3_written_17 0 rfl ?_
        refine gf_X3_29 hC (z_S hZ hq0) rfl dX3_written_18 ?_
        refine r_icmp_ge 38 hC dX3_written_21 (by decide) (fun h => ?_) (fun h => ?_)
        · have hf := if_T hf h
          refine r_bipush (v := (-9)) hC dX3_written_38 rfl ?_
          exact r_iret hf hC (by decide) (by decide) dX3_written_40
        · have hf := if_F hf h
          refine r_aload_n hC dX3_written_24 0 rfl ?_
          refine gf_X3_15 hC (z_S hZ hq0) rfl dX3_written_25 ?_
          refine r_iload_n hC dX3_written_28 1 rfl ?_
          refine r_bipush (v := 16) hC dX3_written_29 rfl ?_
          refine r_imul hC dX3_written_31 ?_
          refine r_iload_n hC dX3_written_32 2 rfl ?_
          refine r_iadd hC dX3_written_33 ?_
          have hin := if_K hf
          have hf := if_V hf
          refine r_iald hC (z_S2 hZ hq0) (inb_vp hin) dX3_written_34 ?_
          refine r_goto 40 hC dX3_written_35 (by decide) ?_
          exact r_iret hf hC (by decide) (by decide) dX3_written_40
set_option maxRecDepth 20000 in
theorem c_X3_written {l : Launch} (hl : l.stackTraces = false) {G : GG} {Z : ZZ} (hz : ZOk G Z) (hZ : ZM Z) (q0 : Nat) (v1 : Int32) (v2 : Int32) (M : Mem) (hq0 : q0 < 18) (r : Int32) (M' : Mem) (hf : f_X3_written q0 v1 v2 M = some (r, M')) : CN (QcI G Z r M') l G Z yX3_written cX3_written 3 (some .int) 0 [.ref (Z.1 (iSt q0)), .int v1, .int v2] M :=
  CN.of [(0, .ref (Z.1 (iSt q0))), (1, .int v1), (2, .int v2)] hl (by decide +kernel) (Nat.le_of_ble_eq_true rfl) rfl (fun _ hC => w_X3_written hC hz hZ q0 v1 v2 M hq0 hf)
set_option maxRecDepth 20000 in
theorem w_X3_sounding_b2 {X : XX} {G : GG} {Z : ZZ} {r : Int32} {M' : Mem} (hC : Cx X G RX3 cX3_sounding (some .int) 1 0 0 5) (hz : ZOk G Z) (hZ : ZM Z) (q0 : Nat) (v1 : Int32) (hq0 : q0 < 18) (k2 : Int32 → Mem → Option (Int32 × Mem)) (hk2 : ∀ (u3 : Int32) (M : Mem), k2 u3 M = some (r, M') → V X G Z M 0 0 (QN X G (QcI G Z r M') 0 0) 2 [(0, .ref (Z.1 (iSt q0))), (1, .int v1), (3, .int u3)] []) (v3 : Int32) (M : Mem) (hf : f_X3_sounding_b2 q0 v1 k2 v3 M = some (r, M')) : V X G Z M 0 0 (QN X G (QcI G Z r M') 0 0) 2 [(0, .ref (Z.1 (iSt q0))), (1, .int v1), (3, .int v3)] [] := by
  unfold f_X3_sounding_b2 at hf
  refine r_iload_n hC dX3_sounding_2 2 rfl ?_
  refine r_if_lt 30 hC dX3_sounding_3 (by decide) (fun h => ?_) (fun h => ?_)
  · have hf := if_T hf h
    refine r_bipush (v := (-9)) hC dX3_sounding_30 rfl ?_
    exact r_iret hf hC (by decide) (by decide) dX3_sounding_32
  · have hf := if_F hf h
    refine r_aload_n hC dX3_sounding_6 0 rfl ?_
    refine r_iload_n hC dX3_sounding_7 1 rfl ?_
    refine r_iload_n hC dX3_sounding_8 2 rfl ?_
    refine r_callVI [] (fun r M1 h => c_X3_written (cx_st hC) hz hZ q0 v1 v3 _ hq0 r M1 h) hf cs_X3_51 hC (z_S hZ hq0) (q0 := (RX3, TX3, 4)) rfl rfl [.int v1, .int v3] rfl rfl rfl (by decide) (by decide) (Nat.le_of_ble_eq_true rfl) (by decide) (by decide) dX3_sounding_9 (fun x1 M2 hf => ?_)
    refine r_istore (L' := [(4, .int x1), (0, .ref (Z.1 (iSt q0))), (1, .int v1), (3, .int v3)]) hC dX3_sounding_12 (by decide) rfl ?_
    refine r_iload hC dX3_sounding_14 0 rfl ?_
    refine r_bipush (v := 99) hC dX3_sounding_16 rfl ?_
    refine r_icmp_eq 24 hC dX3_sounding_18 (by decide) (fun h => ?_) (fun h => ?_)
    · have hf := if_T hf h
      refine r_iinc (v := v3 + (-1)) (L' := [(3, .int (v3 + (-1))), (4, .int x1), (0, .ref (Z.1 (iSt q0))), (1, .int v1)]) hC dX3_sounding_24 3 rfl rfl (by decide) rfl ?_
      refine r_goto 2 hC dX3_sounding_27 (by decide) ?_
      refine r_L [2, 3, 0] rfl ?_
      exact hk2 _ _ hf
    · have hf := if_F hf h
      refine r_iload hC dX3_sounding_21 0 rfl ?_
      exact r_iret hf hC (by decide) (by decide) dX3_sounding_23
set_option maxRecDepth 20000 in
theorem w_X3_sounding {X : XX} {G : GG} {Z : ZZ} (hC : Cx X G RX3 cX3_sounding (some .int) 1 0 0 5) (hz : ZOk G Z) (hZ : ZM Z) (q0 : Nat) (v1 : Int32) (v2 : Int32) (M : Mem) (hq0 : q0 < 18) {r : Int32} {M' : Mem} (hf : f_X3_sounding q0 v1 v2 M = some (r, M')) : V X G Z M 0 0 (QN X G (QcI G Z r M') 0 0) 0 [(0, .ref (Z.1 (iSt q0))), (1, .int v1), (2, .int v2)] [] := by
  unfold f_X3_sounding at hf
  refine r_iload_n hC dX3_sounding_0 2 rfl ?_
  refine r_istore_n (L' := [(3, .int v2), (0, .ref (Z.1 (iSt q0))), (1, .int v1), (2, .int v2)]) hC dX3_sounding_1 (by decide) rfl ?_
  refine r_L [1, 2, 0] rfl ?_
  exact lq1_ind (P := fun (u3 : Int32) (M : Mem) => V X G Z M 0 0 (QN X G (QcI G Z r M') 0 0) 2 [(0, .ref (Z.1 (iSt q0))), (1, .int v1), (3, .int u3)] []) (fun kk hkk u3 M hf => w_X3_sounding_b2 hC hz hZ q0 v1 hq0 kk hkk u3 M hf) _ _ _ hf
set_option maxRecDepth 20000 in
theorem c_X3_sounding {l : Launch} (hl : l.stackTraces = false) {G : GG} {Z : ZZ} (hz : ZOk G Z) (hZ : ZM Z) (q0 : Nat) (v1 : Int32) (v2 : Int32) (M : Mem) (hq0 : q0 < 18) (r : Int32) (M' : Mem) (hf : f_X3_sounding q0 v1 v2 M = some (r, M')) : CN (QcI G Z r M') l G Z yX3_sounding cX3_sounding 5 (some .int) 1 [.ref (Z.1 (iSt q0)), .int v1, .int v2] M :=
  CN.of [(0, .ref (Z.1 (iSt q0))), (1, .int v1), (2, .int v2)] hl (by decide +kernel) (Nat.le_of_ble_eq_true rfl) rfl (fun _ hC => w_X3_sounding hC hz hZ q0 v1 v2 M hq0 hf)
set_option maxRecDepth 20000 in
theorem w_X3_isSetting {X : XX} {G : GG} {Z : ZZ} (hC : Cx X G RX3 cX3_isSetting (some .boolean) 0 0 0 1) (hz : ZOk G Z) (hZ : ZM Z) (v0 : Int32) (M : Mem)  {r : Int32} {M' : Mem} (hf : f_X3_isSetting v0 M = some (r, M')) : V X G Z M 0 0 (QN X G (QcI G Z r M') 0 0) 0 [(0, .int v0)] [] := by
  unfold f_X3_isSetting at hf
  refine r_iload_n hC dX3_isSetting_0 0 rfl ?_
  refine r_if_lt 14 hC dX3_isSetting_1 (by decide) (fun h => ?_) (fun h => ?_)
  · have hf := if_T hf h
    refine r_iconst (v := 0) hC dX3_isSetting_14 rfl ?_
    exact r_zret hf hC rfl rfl (by decide) (by decide) dX3_isSetting_15
  · have hf := if_F hf h
    refine r_iload_n hC dX3_isSetting_4 0 rfl ?_
    refine r_bipush (v := 6) hC dX3_isSetting_5 rfl ?_
    refine r_icmp_ge 14 hC dX3_isSetting_7 (by decide) (fun h => ?_) (fun h => ?_)
    · have hf := if_T hf h
      refine r_iconst (v := 0) hC dX3_isSetting_14 rfl ?_
      exact r_zret hf hC rfl rfl (by decide) (by decide) dX3_isSetting_15
    · have hf := if_F hf h
      refine r_iconst (v := 1) hC dX3_isSetting_10 rfl ?_
      refine r_goto 15 hC dX3_isSetting_11 (by decide) ?_
      exact r_zret hf hC rfl rfl (by decide) (by decide) dX3_isSetting_15
set_option maxRecDepth 20000 in
theorem c_X3_isSetting {l : Launch} (hl : l.stackTraces = false) {G : GG} {Z : ZZ} (hz : ZOk G Z) (hZ : ZM Z) (v0 : Int32) (M : Mem)  (r : Int32) (M' : Mem) (hf : f_X3_isSetting v0 M = some (r, M')) : CN (QcI G Z r M') l G Z yX3_isSetting cX3_isSetting 1 (some .boolean) 0 [.int v0] M :=
  CN.of [(0, .int v0)] hl (by decide +kernel) (Nat.le_of_ble_eq_true rfl) rfl (fun _ hC => w_X3_isSetting hC hz hZ v0 M  hf)
set_option maxRecDepth 20000 in
theorem w_X3_settingAt {X : XX} {G : GG} {Z : ZZ} (hC : Cx X G RX3 cX3_settingAt (some .int) 1 0 0 2) (hz : ZOk G Z) (hZ : ZM Z) (q0 : Nat) (v1 : Int32) (M : Mem) (hq0 : q0 < 18) {r : Int32} {M' : Mem} (hf : f_X3_settingAt q0 v1 M = some (r, M')) : V X G Z M 0 0 (QN X G (QcI G Z r M') 0 0) 0 [(0, .ref (Z.1 (iSt q0))), (1, .int v1)] [] := by
  unfold f_X3_settingAt at hf
  refine r_iload_n hC dX3_settingAt_0 1 rfl ?_
  refine r_callSI [] (fun r M1 h => c_X3_isSetting (cx_st hC) hz hZ v1 _  r M1 h) hf cs_X3_35 hC  rfl rfl (by decide) (by decide) (Nat.le_of_ble_eq_true rfl) (by decide) (by decide) dX3_settingAt_1 (fun x1 M2 hf => ?_)
  refine r_if_eq 16 hC dX3_settingAt_4 (by decide) (fun h => ?_) (fun h => ?_)
  · have hf := if_T hf h
    refine r_iconst (v := 0) hC dX3_settingAt_16 rfl ?_
    exact r_iret hf hC (by decide) (by decide) dX3_settingAt_17
  · have hf := if_F hf h
    refine r_aload_n hC dX3_settingAt_7 0 rfl ?_
    refine gf_X3_9 hC (z_S hZ hq0) rfl dX3_settingAt_8 ?_
    refine r_iload_n hC dX3_settingAt_11 1 rfl ?_
    have hin := if_K hf
    have hf := if_V hf
    refine r_iald hC (z_S1 hZ hq0) (inb_vp hin) dX3_settingAt_12 ?_
    refine r_goto 17 hC dX3_settingAt_13 (by decide) ?_
    exact r_iret hf hC (by decide) (by decide) dX3_settingAt_17
set_option maxRecDepth 20000 in
theorem c_X3_settingAt {l : Launch} (hl : l.stackTraces = false) {G : GG} {Z : ZZ} (hz : ZOk G Z) (hZ : ZM Z) (q0 : Nat) (v1 : Int32) (M : Mem) (hq0 : q0 < 18) (r : Int32) (M' : Mem) (hf : f_X3_settingAt q0 v1 M = some (r, M')) : CN (QcI G Z r M') l G Z yX3_settingAt cX3_settingAt 2 (some .int) 1 [.ref (Z.1 (iSt q0)), .int v1] M :=
  CN.of [(0, .ref (Z.1 (iSt q0))), (1, .int v1)] hl (by decide +kernel) (Nat.le_of_ble_eq_true rfl) rfl (fun _ hC => w_X3_settingAt hC hz hZ q0 v1 M hq0 hf)
set_option maxRecDepth 20000 in
theorem w_J6_bitCount_0f7a4 {X : XX} {G : GG} {Z : ZZ} (hC : Cx X G RJ6 cJ6_bitCount_0f7a4 (some .int) 0 0 0 1) (hz : ZOk G Z) (hZ : ZM Z) (v0 : Int32) (M : Mem)  {r : Int32} {M' : Mem} (hf : f_J6_bitCount_0f7a4 v0 M = some (r, M')) : V X G Z M 0 0 (QN X G (QcI G Z r M') 0 0) 0 [(0, .int v0)] [] := by
  unfold f_J6_bitCount_0f7a4 at hf
  refine r_iload_n hC dJ6_bitCount_0f7a4_0 0 rfl ?_
  refine r_iload_n hC dJ6_bitCount_0f7a4_1 0 rfl ?_
  refine r_iconst (v := 1) hC dJ6_bitCount_0f7a4_2 rfl ?_
  refine r_iushr hC dJ6_bitCount_0f7a4_3 ?_
  refine r_ldcw (v := 1431655765) hC dJ6_bitCount_0f7a4_4 kw_J6_265 ?_
  refine r_iand hC dJ6_bitCount_0f7a4_7 ?_
  refine r_isub hC dJ6_bitCount_0f7a4_8 ?_
  refine r_istore_n (L' := [(0, .int (v0 - (((Int32.toUInt32 v0 >>> (Int32.toUInt32 1 &&& Int32.toUInt32 31)).toInt32) &&& 1431655765)))]) hC dJ6_bitCount_0f7a4_9 (by decide) rfl ?_
  refine r_iload_n hC dJ6_bitCount_0f7a4_10 0 rfl ?_
  refine r_ldcw (v := 858993459) hC dJ6_bitCount_0f7a4_11 kw_J6_266 ?_
  refine r_iand hC dJ6_bitCount_0f7a4_14 ?_
  refine r_iload_n hC dJ6_bitCount_0f7a4_15 0 rfl ?_
  refine r_iconst (v := 2) hC dJ6_bitCount_0f7a4_16 rfl ?_
  refine r_iushr hC dJ6_bitCount_0f7a4_17 ?_
  refine r_ldcw (v := 858993459) hC dJ6_bitCount_0f7a4_18 kw_J6_266 ?_
  refine r_iand hC dJ6_bitCount_0f7a4_21 ?_
  refine r_iadd hC dJ6_bitCount_0f7a4_22 ?_
  refine r_istore_n (L' := [(0, .int (((v0 - (((Int32.toUInt32 v0 >>> (Int32.toUInt32 1 &&& Int32.toUInt32 31)).toInt32) &&& 1431655765)) &&& 858993459) + (((Int32.toUInt32 (v0 - (((Int32.toUInt32 v0 >>> (Int32.toUInt32 1 &&& Int32.toUInt32 31)).toInt32) &&& 1431655765)) >>> (Int32.toUInt32 2 &&& Int32.toUInt32 31)).toInt32) &&& 858993459)))]) hC dJ6_bitCount_0f7a4_23 (by decide) rfl ?_
  refine r_iload_n hC dJ6_bitCount_0f7a4_24 0 rfl ?_
  refine r_iload_n hC dJ6_bitCount_0f7a4_25 0 rfl ?_
  refine r_iconst (v := 4) hC dJ6_bitCount_0f7a4_26 rfl ?_
  refine r_iushr hC dJ6_bitCount_0f7a4_27 ?_
  refine r_iadd hC dJ6_bitCount_0f7a4_28 ?_
  refine r_ldcw (v := 252645135) hC dJ6_bitCount_0f7a4_29 kw_J6_267 ?_
  refine r_iand hC dJ6_bitCount_0f7a4_32 ?_
  refine r_istore_n (L' := [(0, .int (((((v0 - (((Int32.toUInt32 v0 >>> (Int32.toUInt32 1 &&& Int32.toUInt32 31)).toInt32) &&& 1431655765)) &&& 858993459) + (((Int32.toUInt32 (v0 - (((Int32.toUInt32 v0 >>> (Int32.toUInt32 1 &&& Int32.toUInt32 31)).toInt32) &&& 1431655765)) >>> (Int32.toUInt32 2 &&& Int32.toUInt32 31)).toInt32) &&& 858993459)) + ((Int32.toUInt32 (((v0 - (((Int32.toUInt32 v0 >>> (Int32.toUInt32 1 &&& Int32.toUInt32 31)).toInt32) &&& 1431655765)) &&& 858993459) + (((Int32.toUInt32 (v0 - (((Int32.toUInt32 v0 >>> (Int32.toUInt32 1 &&& Int32.toUInt32 31)).toInt32) &&& 1431655765)) >>> (Int32.toUInt32 2 &&& Int32.toUInt32 31)).toInt32) &&& 858993459)) >>> (Int32.toUInt32 4 &&& Int32.toUInt32 31)).toInt32)) &&& 252645135))]) hC dJ6_bitCount_0f7a4_33 (by decide) rfl ?_
  refine r_iload_n hC dJ6_bitCount_0f7a4_34 0 rfl ?_
  refine r_iload_n hC dJ6_bitCount_0f7a4_35 0 rfl ?_
  refine r_bipush (v := 8) hC dJ6_bitCount_0f7a4_36 rfl ?_
  refine r_iushr hC dJ6_bitCount_0f7a4_38 ?_
  refine r_iadd hC dJ6_bitCount_0f7a4_39 ?_
  refine r_istore_n (L' := [(0, .int ((((((v0 - (((Int32.toUInt32 v0 >>> (Int32.toUInt32 1 &&& Int32.toUInt32 31)).toInt32) &&& 1431655765)) &&& 858993459) + (((Int32.toUInt32 (v0 - (((Int32.toUInt32 v0 >>> (Int32.toUInt32 1 &&& Int32.toUInt32 31)).toInt32) &&& 1431655765)) >>> (Int32.toUInt32 2 &&& Int32.toUInt32 31)).toInt32) &&& 858993459)) + ((Int32.toUInt32 (((v0 - (((Int32.toUInt32 v0 >>> (Int32.toUInt32 1 &&& Int32.toUInt32 31)).toInt32) &&& 1431655765)) &&& 858993459) + (((Int32.toUInt32 (v0 - (((Int32.toUInt32 v0 >>> (Int32.toUInt32 1 &&& Int32.toUInt32 31)).toInt32) &&& 1431655765)) >>> (Int32.toUInt32 2 &&& Int32.toUInt32 31)).toInt32) &&& 858993459)) >>> (Int32.toUInt32 4 &&& Int32.toUInt32 31)).toInt32)) &&& 252645135) + ((Int32.toUInt32 (((((v0 - (((Int32.toUInt32 v0 >>> (Int32.toUInt32 1 &&& Int32.toUInt32 31)).toInt32) &&& 1431655765)) &&& 858993459) + (((Int32.toUInt32 (v0 - (((Int32.toUInt32 v0 >>> (Int32.toUInt32 1 &&& Int32.toUInt32 31)).toInt32) &&& 1431655765)) >>> (Int32.toUInt32 2 &&& Int32.toUInt32 31)).toInt32) &&& 858993459)) + ((Int32.toUInt32 (((v0 - (((Int32.toUInt32 v0 >>> (Int32.toUInt32 1 &&& Int32.toUInt32 31)).toInt32) &&& 1431655765)) &&& 858993459) + (((Int32.toUInt32 (v0 - (((Int32.toUInt32 v0 >>> (Int32.toUInt32 1 &&& Int32.toUInt32 31)).toInt32) &&& 1431655765)) >>> (Int32.toUInt32 2 &&& Int32.toUInt32 31)).toInt32) &&& 858993459)) >>> (Int32.toUInt32 4 &&& Int32.toUInt32 31)).toInt32)) &&& 252645135) >>> (Int32.toUInt32 8 &&& Int32.toUInt32 31)).toInt32)))]) hC dJ6_bitCount_0f7a4_40 (by decide) rfl ?_
  refine r_iload_n hC dJ6_bitCount_0f7a4_41 0 rfl ?_
  refine r_iload_n hC dJ6_bitCount_0f7a4_42 0 rfl ?_
  refine r_bipush (v := 16) hC dJ6_bitCount_0f7a4_43 rfl ?_
  refine r_iushr hC dJ6_bitCount_0f7a4_45 ?_
  refine r_iadd hC dJ6_bitCount_0f7a4_46 ?_
  refine r_istore_n (L' := [(0, .int (((((((v0 - (((Int32.toUInt32 v0 >>> (Int32.toUInt32 1 &&& Int32.toUInt32 31)).toInt32) &&& 1431655765)) &&& 858993459) + (((Int32.toUInt32 (v0 - (((Int32.toUInt32 v0 >>> (Int32.toUInt32 1 &&& Int32.toUInt32 31)).toInt32) &&& 1431655765)) >>> (Int32.toUInt32 2 &&& Int32.toUInt32 31)).toInt32) &&& 858993459)) + ((Int32.toUInt32 (((v0 - (((Int32.toUInt32 v0 >>> (Int32.toUInt32 1 &&& Int32.toUInt32 31)).toInt32) &&& 1431655765)) &&& 858993459) + (((Int32.toUInt32 (v0 - (((Int32.toUInt32 v0 >>> (Int32.toUInt32 1 &&& Int32.toUInt32 31)).toInt32) &&& 1431655765)) >>> (Int32.toUInt32 2 &&& Int32.toUInt32 31)).toInt32) &&& 858993459)) >>> (Int32.toUInt32 4 &&& Int32.toUInt32 31)).toInt32)) &&& 252645135) + ((Int32.toUInt32 (((((v0 - (((Int32.toUInt32 v0 >>> (Int32.toUInt32 1 &&& Int32.toUInt32 31)).toInt32) &&& 1431655765)) &&& 858993459) + (((Int32.toUInt32 (v0 - (((Int32.toUInt32 v0 >>> (Int32.toUInt32 1 &&& Int32.toUInt32 31)).toInt32) &&& 1431655765)) >>> (Int32.toUInt32 2 &&& Int32.toUInt32 31)).toInt32) &&& 858993459)) + ((Int32.toUInt32 (((v0 - (((Int32.toUInt32 v0 >>> (Int32.toUInt32 1 &&& Int32.toUInt32 31)).toInt32) &&& 1431655765)) &&& 858993459) + (((Int32.toUInt32 (v0 - (((Int32.toUInt32 v0 >>> (Int32.toUInt32 1 &&& Int32.toUInt32 31)).toInt32) &&& 1431655765)) >>> (Int32.toUInt32 2 &&& Int32.toUInt32 31)).toInt32) &&& 858993459)) >>> (Int32.toUInt32 4 &&& Int32.toUInt32 31)).toInt32)) &&& 252645135) >>> (Int32.toUInt32 8 &&& Int32.toUInt32 31)).toInt32)) + ((Int32.toUInt32 ((((((v0 - (((Int32.toUInt32 v0 >>> (Int32.toUInt32 1 &&& Int32.toUInt32 31)).toInt32) &&& 1431655765)) &&& 858993459) + (((Int32.toUInt32 (v0 - (((Int32.toUInt32 v0 >>> (Int32.toUInt32 1 &&& Int32.toUInt32 31)).toInt32) &&& 1431655765)) >>> (Int32.toUInt32 2 &&& Int32.toUInt32 31)).toInt32) &&& 858993459)) + ((Int32.toUInt32 (((v0 - (((Int32.toUInt32 v0 >>> (Int32.toUInt32 1 &&& Int32.toUInt32 31)).toInt32) &&& 1431655765)) &&& 858993459) + (((Int32.toUInt32 (v0 - (((Int32.toUInt32 v0 >>> (Int32.toUInt32 1 &&& Int32.toUInt32 31)).toInt32) &&& 1431655765)) >>> (Int32.toUInt32 2 &&& Int32.toUInt32 31)).toInt32) &&& 858993459)) >>> (Int32.toUInt32 4 &&& Int32.toUInt32 31)).toInt32)) &&& 252645135) + ((Int32.toUInt32 (((((v0 - (((Int32.toUInt32 v0 >>> (Int32.toUInt32 1 &&& Int32.toUInt32 31)).toInt32) &&& 1431655765)) &&& 858993459) + (((Int32.toUInt32 (v0 - (((Int32.toUInt32 v0 >>> (Int32.toUInt32 1 &&& Int32.toUInt32 31)).toInt32) &&& 1431655765)) >>> (Int32.toUInt32 2 &&& Int32.toUInt32 31)).toInt32) &&& 858993459)) + ((Int32.toUInt32 (((v0 - (((Int32.toUInt32 v0 >>> (Int32.toUInt32 1 &&& Int32.toUInt32 31)).toInt32) &&& 1431655765)) &&& 858993459) + (((Int32.toUInt32 (v0 - (((Int32.toUInt32 v0 >>> (Int32.toUInt32 1 &&& Int32.toUInt32 31)).toInt32) &&& 1431655765)) >>> (Int32.toUInt32 2 &&& Int32.toUInt32 31)).toInt32) &&& 858993459)) >>> (Int32.toUInt32 4 &&& Int32.toUInt32 31)).toInt32)) &&& 252645135) >>> (Int32.toUInt32 8 &&& Int32.toUInt32 31)).toInt32)) >>> (Int32.toUInt32 16 &&& Int32.toUInt32 31)).toInt32)))]) hC dJ6_bitCount_0f7a4_47 (by decide) rfl ?_
  refine r_iload_n hC dJ6_bitCount_0f7a4_48 0 rfl ?_
  refine r_bipush (v := 63) hC dJ6_bitCount_0f7a4_49 rfl ?_
  refine r_iand hC dJ6_bitCount_0f7a4_51 ?_
  exact r_iret hf hC (by decide) (by decide) dJ6_bitCount_0f7a4_52
set_option maxRecDepth 20000 in
theorem c_J6_bitCount_0f7a4 {l : Launch} (hl : l.stackTraces = false) {G : GG} {Z : ZZ} (hz : ZOk G Z) (hZ : ZM Z) (v0 : Int32) (M : Mem)  (r : Int32) (M' : Mem) (hf : f_J6_bitCount_0f7a4 v0 M = some (r, M')) : CN (QcI G Z r M') l G Z yJ6_bitCount_0f7a4 cJ6_bitCount_0f7a4 1 (some .int) 0 [.int v0] M :=
  CN.of [(0, .int v0)] hl (by decide +kernel) (Nat.le_of_ble_eq_true rfl) rfl (fun _ hC => w_J6_bitCount_0f7a4 hC hz hZ v0 M  hf)
set_option maxRecDepth 20000 in
theorem w_X1_isEmpty {X : XX} {G : GG} {Z : ZZ} (hC : Cx X G RX1 cX1_isEmpty (some .boolean) 0 0 0 1) (hz : ZOk G Z) (hZ : ZM Z)  (M : Mem)  {r : Int32} {M' : Mem} (hf : f_X1_isEmpty  M = some (r, M')) : V X G Z M 0 0 (QN X G (QcI G Z r M') 0 0) 0 [(0, .ref (Z.1 3))] [] := by
  unfold f_X1_isEmpty at hf
  refine r_aload_n hC dX1_isEmpty_0 0 rfl ?_
  refine gf_X1_18 hC (z_1 hZ 3 (by decide) rfl) rfl dX1_isEmpty_1 ?_
  refine r_if_ne 11 hC dX1_isEmpty_4 (by decide) (fun h => ?_) (fun h => ?_)
  · have hf := if_F hf h
    refine r_iconst (v := 0) hC dX1_isEmpty_11 rfl ?_
    exact r_zret hf hC rfl rfl (by decide) (by decide) dX1_isEmpty_12
  · have hf := if_T hf h
    refine r_iconst (v := 1) hC dX1_isEmpty_7 rfl ?_
    refine r_goto 12 hC dX1_isEmpty_8 (by decide) ?_
    exact r_zret hf hC rfl rfl (by decide) (by decide) dX1_isEmpty_12
set_option maxRecDepth 20000 in
theorem c_X1_isEmpty {l : Launch} (hl : l.stackTraces = false) {G : GG} {Z : ZZ} (hz : ZOk G Z) (hZ : ZM Z)  (M : Mem)  (r : Int32) (M' : Mem) (hf : f_X1_isEmpty  M = some (r, M')) : CN (QcI G Z r M') l G Z yX1_isEmpty cX1_isEmpty 1 (some .boolean) 0 [.ref (Z.1 3)] M :=
  CN.of [(0, .ref (Z.1 3))] hl (by decide +kernel) (Nat.le_of_ble_eq_true rfl) rfl (fun _ hC => w_X1_isEmpty hC hz hZ  M  hf)
set_option maxRecDepth 20000 in
theorem w_X1_forget {X : XX} {G : GG} {Z : ZZ} (hC : Cx X G RX1 cX1_forget none 0 0 0 1) (hz : ZOk G Z) (hZ : ZM Z)  (M : Mem)  {r : Unit} {M' : Mem} (hf : f_X1_forget  M = some (r, M')) : V X G Z M 0 0 (QN X G (QcV G Z r M') 0 0) 0 [(0, .ref (Z.1 3))] [] := by
  unfold f_X1_forget at hf
  refine r_aload_n hC dX1_forget_0 0 rfl ?_
  refine r_iconst (v := 0) hC dX1_forget_1 rfl ?_
  refine pf_X1_18 hC hz (z_1 hZ 3 (by decide) rfl) rfl dX1_forget_2 ?_
  exact r_vret hf hC (by decide) (by decide) dX1_forget_5
set_option maxRecDepth 20000 in
theorem c_X1_forget {l : Launch} (hl : l.stackTraces = false) {G : GG} {Z : ZZ} (hz : ZOk G Z) (hZ : ZM Z)  (M : Mem)  (r : Unit) (M' : Mem) (hf : f_X1_forget  M = some (r, M')) : CN (QcV G Z r M') l G Z yX1_forget cX1_forget 1 none 0 [.ref (Z.1 3)] M :=
  CN.of [(0, .ref (Z.1 3))] hl (by decide +kernel) (Nat.le_of_ble_eq_true rfl) rfl (fun _ hC => w_X1_forget hC hz hZ  M  hf)
set_option maxRecDepth 20000 in
theorem w_X3_takeFrom_b44 {X : XX} {G : GG} {Z : ZZ} {r : Unit} {M' : Mem} (hC : Cx X G RX3 cX3_takeFrom none 0 0 0 3) (hz : ZOk G Z) (hZ : ZM Z) (q0 : Nat) (q1 : Nat) (hq0 : q0 < 18) (hq1 : q1 < 18) (k44 : Int32 → Mem → Option (Unit × Mem)) (hk44 : ∀ (u2 : Int32) (M : Mem), k44 u2 M = some (r, M') → V X G Z M 0 0 (QN X G (QcV G Z r M') 0 0) 44 [(0, .ref (Z.1 (iSt q0))), (1, .ref (Z.1 (iSt q1))), (2, .int u2)] []) (v2 : Int32) (M : Mem) (hf : f_X3_takeFrom_b44 q0 q1 k44 v2 M = some (r, M')) : V X G Z M 0 0 (QN X G (QcV G Z r M') 0 0) 44 [(0, .ref (Z.1 (iSt q0))), (1, .ref (Z.1 (iSt q1))), (2, .int v2)] [] := by
  unfold f_X3_takeFrom_b44 at hf
  refine r_iload_n hC dX3_takeFrom_44 2 rfl ?_
  refine r_aload_n hC dX3_takeFrom_45 0 rfl ?_
  refine gf_X3_15 hC (z_S hZ hq0) rfl dX3_takeFrom_46 ?_
  refine r_alen (v := 64) hC (z_S2 hZ hq0) rfl dX3_takeFrom_49 ?_
  refine r_icmp_ge 71 hC dX3_takeFrom_50 (by decide) (fun h => ?_) (fun h => ?_)
  · have hf := if_T hf h
    exact r_vret hf hC (by decide) (by decide) dX3_takeFrom_71
  · have hf := if_F hf h
    refine r_aload_n hC dX3_takeFrom_53 0 rfl ?_
    refine gf_X3_15 hC (z_S hZ hq0) rfl dX3_takeFrom_54 ?_
    refine r_iload_n hC dX3_takeFrom_57 2 rfl ?_
    refine r_aload_n hC dX3_takeFrom_58 1 rfl ?_
    refine gf_X3_15 hC (z_S hZ hq1) rfl dX3_takeFrom_59 ?_
    refine r_iload_n hC dX3_takeFrom_62 2 rfl ?_
    have hin := if_K hf
    have hf := if_V hf
    refine r_iald hC (z_S2 hZ hq1) (inb_vp hin) dX3_takeFrom_63 ?_
    have hin := if_K hf
    have hf := if_V hf
    refine r_iast hC hz (z_S2 hZ hq0) (inb_vp hin) dX3_takeFrom_64 ?_
    refine r_iinc (v := v2 + 1) (L' := [(2, .int (v2 + 1)), (0, .ref (Z.1 (iSt q0))), (1, .ref (Z.1 (iSt q1)))]) hC dX3_takeFrom_65 2 rfl rfl (by decide) rfl ?_
    refine r_goto 44 hC dX3_takeFrom_68 (by decide) ?_
    refine r_L [1, 2, 0] rfl ?_
    exact hk44 _ _ hf
set_option maxRecDepth 20000 in
theorem w_X3_takeFrom_b42 {X : XX} {G : GG} {Z : ZZ} {r : Unit} {M' : Mem} (hC : Cx X G RX3 cX3_takeFrom none 0 0 0 3) (hz : ZOk G Z) (hZ : ZM Z) (q0 : Nat) (q1 : Nat) (hq0 : q0 < 18) (hq1 : q1 < 18) (M : Mem) (hf : f_X3_takeFrom_b42 q0 q1 M = some (r, M')) : V X G Z M 0 0 (QN X G (QcV G Z r M') 0 0) 42 [(0, .ref (Z.1 (iSt q0))), (1, .ref (Z.1 (iSt q1)))] [] := by
  unfold f_X3_takeFrom_b42 at hf
  refine r_iconst (v := 0) hC dX3_takeFrom_42 rfl ?_
  refine r_istore_n (L' := [(2, .int 0), (0, .ref (Z.1 (iSt q0))), (1, .ref (Z.1 (iSt q1)))]) hC dX3_takeFrom_43 (by decide) rfl ?_
  refine r_L [1, 2, 0] rfl ?_
  exact lq1_ind (P := fun (u2 : Int32) (M : Mem) => V X G Z M 0 0 (QN X G (QcV G Z r M') 0 0) 44 [(0, .ref (Z.1 (iSt q0))), (1, .ref (Z.1 (iSt q1))), (2, .int u2)] []) (fun kk hkk u2 M hf => w_X3_takeFrom_b44 hC hz hZ q0 q1 hq0 hq1 kk hkk u2 M hf) _ _ _ hf
set_option maxRecDepth 20000 in
theorem w_X3_takeFrom_b18 {X : XX} {G : GG} {Z : ZZ} {r : Unit} {M' : Mem} (hC : Cx X G RX3 cX3_takeFrom none 0 0 0 3) (hz : ZOk G Z) (hZ : ZM Z) (q0 : Nat) (q1 : Nat) (hq0 : q0 < 18) (hq1 : q1 < 18) (k18 : Int32 → Mem → Option (Unit × Mem)) (hk18 : ∀ (u2 : Int32) (M : Mem), k18 u2 M = some (r, M') → V X G Z M 0 0 (QN X G (QcV G Z r M') 0 0) 18 [(0, .ref (Z.1 (iSt q0))), (1, .ref (Z.1 (iSt q1))), (2, .int u2)] []) (v2 : Int32) (M : Mem) (hf : f_X3_takeFrom_b18 q0 q1 k18 v2 M = some (r, M')) : V X G Z M 0 0 (QN X G (QcV G Z r M') 0 0) 18 [(0, .ref (Z.1 (iSt q0))), (1, .ref (Z.1 (iSt q1))), (2, .int v2)] [] := by
  unfold f_X3_takeFrom_b18 at hf
  refine r_iload_n hC dX3_takeFrom_18 2 rfl ?_
  refine r_bipush (v := 6) hC dX3_takeFrom_19 rfl ?_
  refine r_icmp_ge 42 hC dX3_takeFrom_21 (by decide) (fun h => ?_) (fun h => ?_)
  · have hf := if_T hf h
    refine r_L [0, 1] rfl ?_
    exact w_X3_takeFrom_b42 hC hz hZ q0 q1 hq0 hq1 _ hf
  · have hf := if_F hf h
    refine r_aload_n hC dX3_takeFrom_24 0 rfl ?_
    refine gf_X3_9 hC (z_S hZ hq0) rfl dX3_takeFrom_25 ?_
    refine r_iload_n hC dX3_takeFrom_28 2 rfl ?_
    refine r_aload_n hC dX3_takeFrom_29 1 rfl ?_
    refine gf_X3_9 hC (z_S hZ hq1) rfl dX3_takeFrom_30 ?_
    refine r_iload_n hC dX3_takeFrom_33 2 rfl ?_
    have hin := if_K hf
    have hf := if_V hf
    refine r_iald hC (z_S1 hZ hq1) (inb_vp hin) dX3_takeFrom_34 ?_
    have hin := if_K hf
    have hf := if_V hf
    refine r_iast hC hz (z_S1 hZ hq0) (inb_vp hin) dX3_takeFrom_35 ?_
    refine r_iinc (v := v2 + 1) (L' := [(2, .int (v2 + 1)), (0, .ref (Z.1 (iSt q0))), (1, .ref (Z.1 (iSt q1)))]) hC dX3_takeFrom_36 2 rfl rfl (by decide) rfl ?_
    refine r_goto 18 hC dX3_takeFrom_39 (by decide) ?_
    refine r_L [1, 2, 0] rfl ?_
    exact hk18 _ _ hf
set_option maxRecDepth 20000 in
theorem w_X3_takeFrom {X : XX} {G : GG} {Z : ZZ} (hC : Cx X G RX3 cX3_takeFrom none 0 0 0 3) (hz : ZOk G Z) (hZ : ZM Z) (q0 : Nat) (q1 : Nat) (M : Mem) (hq0 : q0 < 18) (hq1 : q1 < 18) {r : Unit} {M' : Mem} (hf : f_X3_takeFrom q0 q1 M = some (r, M')) : V X G Z M 0 0 (QN X G (QcV G Z r M') 0 0) 0 [(0, .ref (Z.1 (iSt q0))), (1, .ref (Z.1 (iSt q1)))] [] := by
  unfold f_X3_takeFrom at hf
  refine r_aload_n hC dX3_takeFrom_0 0 rfl ?_
  refine r_aload_n hC dX3_takeFrom_1 1 rfl ?_
  refine gf_X3_25 hC (z_S hZ hq1) rfl dX3_takeFrom_2 ?_
  refine pf_X3_25 hC hz (z_S hZ hq0) rfl dX3_takeFrom_5 ?_
  refine r_aload_n hC dX3_takeFrom_8 0 rfl ?_
  refine r_aload_n hC dX3_takeFrom_9 1 rfl ?_
  refine gf_X3_29 hC (z_S hZ hq1) rfl dX3_takeFrom_10 ?_
  refine pf_X3_29 hC hz (z_S hZ hq0) rfl dX3_takeFrom_13 ?_
  refine r_iconst (v := 0) hC dX3_takeFrom_16 rfl ?_
  refine r_istore_n (L' := [(2, .int 0), (0, .ref (Z.1 (iSt q0))), (1, .ref (Z.1 (iSt q1)))]) hC dX3_takeFrom_17 (by decide) rfl ?_
  refine r_L [1, 2, 0] rfl ?_
  exact lq1_ind (P := fun (u2 : Int32) (M : Mem) => V X G Z M 0 0 (QN X G (QcV G Z r M') 0 0) 18 [(0, .ref (Z.1 (iSt q0))), (1, .ref (Z.1 (iSt q1))), (2, .int u2)] []) (fun kk hkk u2 M hf => w_X3_takeFrom_b18 hC hz hZ q0 q1 hq0 hq1 kk hkk u2 M hf) _ _ _ hf
set_option maxRecDepth 20000 in
theorem c_X3_takeFrom {l : Launch} (hl : l.stackTraces = false) {G : GG} {Z : ZZ} (hz : ZOk G Z) (hZ : ZM Z) (q0 : Nat) (q1 : Nat) (M : Mem) (hq0 : q0 < 18) (hq1 : q1 < 18) (r : Unit) (M' : Mem) (hf : f_X3_takeFrom q0 q1 M = some (r, M')) : CN (QcV G Z r M') l G Z yX3_takeFrom cX3_takeFrom 3 none 0 [.ref (Z.1 (iSt q0)), .ref (Z.1 (iSt q1))] M :=
  CN.of [(0, .ref (Z.1 (iSt q0))), (1, .ref (Z.1 (iSt q1)))] hl (by decide +kernel) (Nat.le_of_ble_eq_true rfl) rfl (fun _ hC => w_X3_takeFrom hC hz hZ q0 q1 M hq0 hq1 hf)
set_option maxRecDepth 20000 in
theorem w_X1_remember {X : XX} {G : GG} {Z : ZZ} (hC : Cx X G RX1 cX1_remember none 1 0 0 2) (hz : ZOk G Z) (hZ : ZM Z) (q1 : Nat) (M : Mem) (hq1 : q1 < 18) {r : Unit} {M' : Mem} (hf : f_X1_remember q1 M = some (r, M')) : V X G Z M 0 0 (QN X G (QcV G Z r M') 0 0) 0 [(0, .ref (Z.1 3)), (1, .ref (Z.1 (iSt q1)))] [] := by
  unfold f_X1_remember at hf
  refine r_aload_n hC dX1_remember_0 0 rfl ?_
  refine gf_X1_11 hC (z_1 hZ 3 (by decide) rfl) rfl dX1_remember_1 ?_
  refine r_aload_n hC dX1_remember_4 0 rfl ?_
  refine gf_X1_22 hC (z_1 hZ 3 (by decide) rfl) rfl dX1_remember_5 ?_
  have hin1 := if_K hf
  have hf := if_V hf
  refine r_aald hC (z_1 hZ 4 (by decide) rfl) rfl (inb_vp hin1) rfl dX1_remember_8 ?_
  refine r_aload_n hC dX1_remember_9 1 rfl ?_
  refine r_callVV [] (fun r M1 h => c_X3_takeFrom (cx_st hC) hz hZ (4 + Int32.toNatClampNeg (M 3 1)) q1 _ (st_ring hin1) hq1 r M1 h) hf cs_X1_25 hC (z_S hZ (st_ring hin1)) (q0 := (RX3, TX3, 4)) rfl rfl [.ref (Z.1 (iSt q1))] rfl rfl rfl (by decide) (by decide) (Nat.le_of_ble_eq_true rfl) (by decide) (by decide) dX1_remember_10 (fun x2 M3 hf => ?_)
  refine r_aload_n hC dX1_remember_13 0 rfl ?_
  refine r_aload_n hC dX1_remember_14 0 rfl ?_
  refine gf_X1_22 hC (z_1 hZ 3 (by decide) rfl) rfl dX1_remember_15 ?_
  refine r_iconst (v := 1) hC dX1_remember_18 rfl ?_
  refine r_iadd hC dX1_remember_19 ?_
  refine r_bipush (v := 14) hC dX1_remember_20 rfl ?_
  refine r_irem hC dX1_remember_22 (by decide) ?_
  refine pf_X1_22 hC hz (z_1 hZ 3 (by decide) rfl) rfl dX1_remember_23 ?_
  refine r_aload_n hC dX1_remember_26 0 rfl ?_
  refine gf_X1_18 hC (z_1 hZ 3 (by decide) rfl) rfl dX1_remember_27 ?_
  refine r_bipush (v := 14) hC dX1_remember_30 rfl ?_
  refine r_icmp_ge 45 hC dX1_remember_32 (by decide) (fun h => ?_) (fun h => ?_)
  · have hf := if_T hf h
    exact r_vret hf hC (by decide) (by decide) dX1_remember_45
  · have hf := if_F hf h
    refine r_aload_n hC dX1_remember_35 0 rfl ?_
    refine r_dup hC dX1_remember_36 rfl ?_
    refine gf_X1_18 hC (z_1 hZ 3 (by decide) rfl) rfl dX1_remember_37 ?_
    refine r_iconst (v := 1) hC dX1_remember_40 rfl ?_
    refine r_iadd hC dX1_remember_41 ?_
    refine pf_X1_18 hC hz (z_1 hZ 3 (by decide) rfl) rfl dX1_remember_42 ?_
    exact r_vret hf hC (by decide) (by decide) dX1_remember_45
set_option maxRecDepth 20000 in
theorem c_X1_remember {l : Launch} (hl : l.stackTraces = false) {G : GG} {Z : ZZ} (hz : ZOk G Z) (hZ : ZM Z) (q1 : Nat) (M : Mem) (hq1 : q1 < 18) (r : Unit) (M' : Mem) (hf : f_X1_remember q1 M = some (r, M')) : CN (QcV G Z r M') l G Z yX1_remember cX1_remember 2 none 1 [.ref (Z.1 3), .ref (Z.1 (iSt q1))] M :=
  CN.of [(0, .ref (Z.1 3)), (1, .ref (Z.1 (iSt q1)))] hl (by decide +kernel) (Nat.le_of_ble_eq_true rfl) rfl (fun _ hC => w_X1_remember hC hz hZ q1 M hq1 hf)
set_option maxRecDepth 20000 in
theorem w_X1_takeBack {X : XX} {G : GG} {Z : ZZ} (hC : Cx X G RX1 cX1_takeBack (some .int) 1 0 0 2) (hz : ZOk G Z) (hZ : ZM Z) (q1 : Nat) (M : Mem) (hq1 : q1 < 18) {r : Int32} {M' : Mem} (hf : f_X1_takeBack q1 M = some (r, M')) : V X G Z M 0 0 (QN X G (QcI G Z r M') 0 0) 0 [(0, .ref (Z.1 3)), (1, .ref (Z.1 (iSt q1)))] [] := by
  unfold f_X1_takeBack at hf
  refine r_aload_n hC dX1_takeBack_0 0 rfl ?_
  refine gf_X1_18 hC (z_1 hZ 3 (by decide) rfl) rfl dX1_takeBack_1 ?_
  refine r_if_le 46 hC dX1_takeBack_4 (by decide) (fun h => ?_) (fun h => ?_)
  · have hf := if_T hf h
    refine r_aload_n hC dX1_takeBack_46 0 rfl ?_
    refine gf_X1_18 hC (z_1 hZ 3 (by decide) rfl) rfl dX1_takeBack_47 ?_
    exact r_iret hf hC (by decide) (by decide) dX1_takeBack_50
  · have hf := if_F hf h
    refine r_aload_n hC dX1_takeBack_7 0 rfl ?_
    refine r_aload_n hC dX1_takeBack_8 0 rfl ?_
    refine gf_X1_22 hC (z_1 hZ 3 (by decide) rfl) rfl dX1_takeBack_9 ?_
    refine r_bipush (v := 14) hC dX1_takeBack_12 rfl ?_
    refine r_iadd hC dX1_takeBack_14 ?_
    refine r_iconst (v := 1) hC dX1_takeBack_15 rfl ?_
    refine r_isub hC dX1_takeBack_16 ?_
    refine r_bipush (v := 14) hC dX1_takeBack_17 rfl ?_
    refine r_irem hC dX1_takeBack_19 (by decide) ?_
    refine pf_X1_22 hC hz (z_1 hZ 3 (by decide) rfl) rfl dX1_takeBack_20 ?_
    refine r_aload_n hC dX1_takeBack_23 1 rfl ?_
    refine r_aload_n hC dX1_takeBack_24 0 rfl ?_
    refine gf_X1_11 hC (z_1 hZ 3 (by decide) rfl) rfl dX1_takeBack_25 ?_
    refine r_aload_n hC dX1_takeBack_28 0 rfl ?_
    refine gf_X1_22 hC (z_1 hZ 3 (by decide) rfl) rfl dX1_takeBack_29 ?_
    have hin1 := if_K hf
    have hf := if_V hf
    refine r_aald hC (z_1 hZ 4 (by decide) rfl) rfl (inb_vp hin1) rfl dX1_takeBack_32 ?_
    refine r_callVV [] (fun r M1 h => c_X3_takeFrom (cx_st hC) hz hZ q1 (4 + Int32.toNatClampNeg ((mw M 3 1 ((((M 3 1) + 14) - 1) - (((M 3 1) + 14) - 1) / 14 * 14)) 3 1)) _ hq1 (st_ring hin1) r M1 h) hf cs_X1_25 hC (z_S hZ hq1) (q0 := (RX3, TX3, 4)) rfl rfl [.ref (Z.1 (iSt (4 + Int32.toNatClampNeg ((mw M 3 1 ((((M 3 1) + 14) - 1) - (((M 3 1) + 14) - 1) / 14 * 14)) 3 1))))] rfl rfl rfl (by decide) (by decide) (Nat.le_of_ble_eq_true rfl) (by decide) (by decide) dX1_takeBack_33 (fun x2 M3 hf => ?_)
    refine r_aload_n hC dX1_takeBack_36 0 rfl ?_
    refine r_dup hC dX1_takeBack_37 rfl ?_
    refine gf_X1_18 hC (z_1 hZ 3 (by decide) rfl) rfl dX1_takeBack_38 ?_
    refine r_iconst (v := 1) hC dX1_takeBack_41 rfl ?_
    refine r_isub hC dX1_takeBack_42 ?_
    refine pf_X1_18 hC hz (z_1 hZ 3 (by decide) rfl) rfl dX1_takeBack_43 ?_
    refine r_aload_n hC dX1_takeBack_46 0 rfl ?_
    refine gf_X1_18 hC (z_1 hZ 3 (by decide) rfl) rfl dX1_takeBack_47 ?_
    exact r_iret hf hC (by decide) (by decide) dX1_takeBack_50
set_option maxRecDepth 20000 in
theorem c_X1_takeBack {l : Launch} (hl : l.stackTraces = false) {G : GG} {Z : ZZ} (hz : ZOk G Z) (hZ : ZM Z) (q1 : Nat) (M : Mem) (hq1 : q1 < 18) (r : Int32) (M' : Mem) (hf : f_X1_takeBack q1 M = some (r, M')) : CN (QcI G Z r M') l G Z yX1_takeBack cX1_takeBack 2 (some .int) 1 [.ref (Z.1 3), .ref (Z.1 (iSt q1))] M :=
  CN.of [(0, .ref (Z.1 3)), (1, .ref (Z.1 (iSt q1)))] hl (by decide +kernel) (Nat.le_of_ble_eq_true rfl) rfl (fun _ hC => w_X1_takeBack hC hz hZ q1 M hq1 hf)
set_option maxRecDepth 20000 in
theorem w_X3_becomeRests_b12 {X : XX} {G : GG} {Z : ZZ} {r : Unit} {M' : Mem} (hC : Cx X G RX3 cX3_becomeRests none 0 0 0 4) (hz : ZOk G Z) (hZ : ZM Z) (q0 : Nat) (hq0 : q0 < 18) (k12 : Int32 → Mem → Option (Unit × Mem)) (hk12 : ∀ (u3 : Int32) (M : Mem), k12 u3 M = some (r, M') → V X G Z M 0 0 (QN X G (QcV G Z r M') 0 0) 12 [(0, .ref (Z.1 (iSt q0))), (3, .int u3)] []) (v3 : Int32) (M : Mem) (hf : f_X3_becomeRests_b12 q0 k12 v3 M = some (r, M')) : V X G Z M 0 0 (QN X G (QcV G Z r M') 0 0) 12 [(0, .ref (Z.1 (iSt q0))), (3, .int v3)] [] := by
  unfold f_X3_becomeRests_b12 at hf
  refine r_iload_n hC dX3_becomeRests_12 1 rfl ?_
  refine r_aload_n hC dX3_becomeRests_13 0 rfl ?_
  refine gf_X3_15 hC (z_S hZ hq0) rfl dX3_becomeRests_14 ?_
  refine r_alen (v := 64) hC (z_S2 hZ hq0) rfl dX3_becomeRests_17 ?_
  refine r_icmp_ge 35 hC dX3_becomeRests_18 (by decide) (fun h => ?_) (fun h => ?_)
  · have hf := if_T hf h
    exact r_vret hf hC (by decide) (by decide) dX3_becomeRests_35
  · have hf := if_F hf h
    refine r_aload_n hC dX3_becomeRests_21 0 rfl ?_
    refine gf_X3_15 hC (z_S hZ hq0) rfl dX3_becomeRests_22 ?_
    refine r_iload_n hC dX3_becomeRests_25 1 rfl ?_
    refine r_bipush (v := (-9)) hC dX3_becomeRests_26 rfl ?_
    have hin := if_K hf
    have hf := if_V hf
    refine r_iast hC hz (z_S2 hZ hq0) (inb_vp hin) dX3_becomeRests_28 ?_
    refine r_iinc (v := v3 + 1) (L' := [(3, .int (v3 + 1)), (0, .ref (Z.1 (iSt q0)))]) hC dX3_becomeRests_29 1 rfl rfl (by decide) rfl ?_
    refine r_goto 12 hC dX3_becomeRests_32 (by decide) ?_
    refine r_L [1, 0] rfl ?_
    exact hk12 _ _ hf
set_option maxRecDepth 20000 in
theorem w_X3_becomeRests {X : XX} {G : GG} {Z : ZZ} (hC : Cx X G RX3 cX3_becomeRests none 0 0 0 4) (hz : ZOk G Z) (hZ : ZM Z) (q0 : Nat) (v1 : Int32) (v2 : Int32) (M : Mem) (hq0 : q0 < 18) {r : Unit} {M' : Mem} (hf : f_X3_becomeRests q0 v1 v2 M = some (r, M')) : V X G Z M 0 0 (QN X G (QcV G Z r M') 0 0) 0 [(0, .ref (Z.1 (iSt q0))), (1, .int v1), (2, .int v2)] [] := by
  unfold f_X3_becomeRests at hf
  refine r_aload_n hC dX3_becomeRests_0 0 rfl ?_
  refine r_iload_n hC dX3_becomeRests_1 1 rfl ?_
  refine pf_X3_25 hC hz (z_S hZ hq0) rfl dX3_becomeRests_2 ?_
  refine r_aload_n hC dX3_becomeRests_5 0 rfl ?_
  refine r_iload_n hC dX3_becomeRests_6 2 rfl ?_
  refine pf_X3_29 hC hz (z_S hZ hq0) rfl dX3_becomeRests_7 ?_
  refine r_iconst (v := 0) hC dX3_becomeRests_10 rfl ?_
  refine r_istore_n (L' := [(3, .int 0), (0, .ref (Z.1 (iSt q0))), (1, .int v1), (2, .int v2)]) hC dX3_becomeRests_11 (by decide) rfl ?_
  refine r_L [1, 0] rfl ?_
  exact lq1_ind (P := fun (u3 : Int32) (M : Mem) => V X G Z M 0 0 (QN X G (QcV G Z r M') 0 0) 12 [(0, .ref (Z.1 (iSt q0))), (3, .int u3)] []) (fun kk hkk u3 M hf => w_X3_becomeRests_b12 hC hz hZ q0 hq0 kk hkk u3 M hf) _ _ _ hf
set_option maxRecDepth 20000 in
theorem c_X3_becomeRests {l : Launch} (hl : l.stackTraces = false) {G : GG} {Z : ZZ} (hz : ZOk G Z) (hZ : ZM Z) (q0 : Nat) (v1 : Int32) (v2 : Int32) (M : Mem) (hq0 : q0 < 18) (r : Unit) (M' : Mem) (hf : f_X3_becomeRests q0 v1 v2 M = some (r, M')) : CN (QcV G Z r M') l G Z yX3_becomeRests cX3_becomeRests 4 none 0 [.ref (Z.1 (iSt q0)), .int v1, .int v2] M :=
  CN.of [(0, .ref (Z.1 (iSt q0))), (1, .int v1), (2, .int v2)] hl (by decide +kernel) (Nat.le_of_ble_eq_true rfl) rfl (fun _ hC => w_X3_becomeRests hC hz hZ q0 v1 v2 M hq0 hf)
set_option maxRecDepth 20000 in
theorem w_X3_resetSettings_b2 {X : XX} {G : GG} {Z : ZZ} {r : Unit} {M' : Mem} (hC : Cx X G RX3 cX3_resetSettings none 0 0 0 2) (hz : ZOk G Z) (hZ : ZM Z) (q0 : Nat) (hq0 : q0 < 18) (k2 : Int32 → Mem → Option (Unit × Mem)) (hk2 : ∀ (u1 : Int32) (M : Mem), k2 u1 M = some (r, M') → V X G Z M 0 0 (QN X G (QcV G Z r M') 0 0) 2 [(0, .ref (Z.1 (iSt q0))), (1, .int u1)] []) (v1 : Int32) (M : Mem) (hf : f_X3_resetSettings_b2 q0 k2 v1 M = some (r, M')) : V X G Z M 0 0 (QN X G (QcV G Z r M') 0 0) 2 [(0, .ref (Z.1 (iSt q0))), (1, .int v1)] [] := by
  unfold f_X3_resetSettings_b2 at hf
  refine r_iload_n hC dX3_resetSettings_2 1 rfl ?_
  refine r_bipush (v := 6) hC dX3_resetSettings_3 rfl ?_
  refine r_icmp_ge 25 hC dX3_resetSettings_5 (by decide) (fun h => ?_) (fun h => ?_)
  · have hf := if_T hf h
    exact r_vret hf hC (by decide) (by decide) dX3_resetSettings_25
  · have hf := if_F hf h
    refine r_aload_n hC dX3_resetSettings_8 0 rfl ?_
    refine gf_X3_9 hC (z_S hZ hq0) rfl dX3_resetSettings_9 ?_
    refine r_iload_n hC dX3_resetSettings_12 1 rfl ?_
    refine r_gets (j := 0) (nm := "SETTING_AT_FIRST") (f := fun _ => .null) (fun h => h.1.1) hC kw_X3_32 dX3_resetSettings_13 ?_
    refine r_iload_n hC dX3_resetSettings_16 1 rfl ?_
    have hin := if_K hf
    have hf := if_V hf
    refine r_tald (f := fun k => sa_first.getD k 0) (fun h => h.1.2) hC (inb_vp hin) rfl dX3_resetSettings_17 ?_
    have hin := if_K hf
    have hf := if_V hf
    refine r_iast hC hz (z_S1 hZ hq0) (inb_vp hin) dX3_resetSettings_18 ?_
    refine r_iinc (v := v1 + 1) (L' := [(1, .int (v1 + 1)), (0, .ref (Z.1 (iSt q0)))]) hC dX3_resetSettings_19 1 rfl rfl (by decide) rfl ?_
    refine r_goto 2 hC dX3_resetSettings_22 (by decide) ?_
    refine r_L [1, 0] rfl ?_
    exact hk2 _ _ hf
set_option maxRecDepth 20000 in
theorem w_X3_resetSettings {X : XX} {G : GG} {Z : ZZ} (hC : Cx X G RX3 cX3_resetSettings none 0 0 0 2) (hz : ZOk G Z) (hZ : ZM Z) (q0 : Nat) (M : Mem) (hq0 : q0 < 18) {r : Unit} {M' : Mem} (hf : f_X3_resetSettings q0 M = some (r, M')) : V X G Z M 0 0 (QN X G (QcV G Z r M') 0 0) 0 [(0, .ref (Z.1 (iSt q0)))] [] := by
  unfold f_X3_resetSettings at hf
  refine r_iconst (v := 0) hC dX3_resetSettings_0 rfl ?_
  refine r_istore_n (L' := [(1, .int 0), (0, .ref (Z.1 (iSt q0)))]) hC dX3_resetSettings_1 (by decide) rfl ?_
  refine r_L [1, 0] rfl ?_
  exact lq1_ind (P := fun (u1 : Int32) (M : Mem) => V X G Z M 0 0 (QN X G (QcV G Z r M') 0 0) 2 [(0, .ref (Z.1 (iSt q0))), (1, .int u1)] []) (fun kk hkk u1 M hf => w_X3_resetSettings_b2 hC hz hZ q0 hq0 kk hkk u1 M hf) _ _ _ hf
set_option maxRecDepth 20000 in
theorem c_X3_resetSettings {l : Launch} (hl : l.stackTraces = false) {G : GG} {Z : ZZ} (hz : ZOk G Z) (hZ : ZM Z) (q0 : Nat) (M : Mem) (hq0 : q0 < 18) (r : Unit) (M' : Mem) (hf : f_X3_resetSettings q0 M = some (r, M')) : CN (QcV G Z r M') l G Z yX3_resetSettings cX3_resetSettings 2 none 0 [.ref (Z.1 (iSt q0))] M :=
  CN.of [(0, .ref (Z.1 (iSt q0)))] hl (by decide +kernel) (Nat.le_of_ble_eq_true rfl) rfl (fun _ hC => w_X3_resetSettings hC hz hZ q0 M hq0 hf)
set_option maxRecDepth 20000 in
theorem w_X3_isPitch {X : XX} {G : GG} {Z : ZZ} (hC : Cx X G RX3 cX3_isPitch (some .boolean) 0 0 0 1) (hz : ZOk G Z) (hZ : ZM Z) (v0 : Int32) (M : Mem)  {r : Int32} {M' : Mem} (hf : f_X3_isPitch v0 M = some (r, M')) : V X G Z M 0 0 (QN X G (QcI G Z r M') 0 0) 0 [(0, .int v0)] [] := by
  unfold f_X3_isPitch at hf
  refine r_iload_n hC dX3_isPitch_0 0 rfl ?_
  refine r_if_lt 14 hC dX3_isPitch_1 (by decide) (fun h => ?_) (fun h => ?_)
  · have hf := if_T hf h
    refine r_iconst (v := 0) hC dX3_isPitch_14 rfl ?_
    exact r_zret hf hC rfl rfl (by decide) (by decide) dX3_isPitch_15
  · have hf := if_F hf h
    refine r_iload_n hC dX3_isPitch_4 0 rfl ?_
    refine r_bipush (v := 60) hC dX3_isPitch_5 rfl ?_
    refine r_icmp_gt 14 hC dX3_isPitch_7 (by decide) (fun h => ?_) (fun h => ?_)
    · have hf := if_T hf h
      refine r_iconst (v := 0) hC dX3_isPitch_14 rfl ?_
      exact r_zret hf hC rfl rfl (by decide) (by decide) dX3_isPitch_15
    · have hf := if_F hf h
      refine r_iconst (v := 1) hC dX3_isPitch_10 rfl ?_
      refine r_goto 15 hC dX3_isPitch_11 (by decide) ?_
      exact r_zret hf hC rfl rfl (by decide) (by decide) dX3_isPitch_15
set_option maxRecDepth 20000 in
theorem c_X3_isPitch {l : Launch} (hl : l.stackTraces = false) {G : GG} {Z : ZZ} (hz : ZOk G Z) (hZ : ZM Z) (v0 : Int32) (M : Mem)  (r : Int32) (M' : Mem) (hf : f_X3_isPitch v0 M = some (r, M')) : CN (QcI G Z r M') l G Z yX3_isPitch cX3_isPitch 1 (some .boolean) 0 [.int v0] M :=
  CN.of [(0, .int v0)] hl (by decide +kernel) (Nat.le_of_ble_eq_true rfl) rfl (fun _ hC => w_X3_isPitch hC hz hZ v0 M  hf)
set_option maxRecDepth 20000 in
theorem w_X3_allowsSetting {X : XX} {G : GG} {Z : ZZ} (hC : Cx X G RX3 cX3_allowsSetting (some .boolean) 1 0 0 2) (hz : ZOk G Z) (hZ : ZM Z) (v0 : Int32) (v1 : Int32) (M : Mem)  {r : Int32} {M' : Mem} (hf : f_X3_allowsSetting v0 v1 M = some (r, M')) : V X G Z M 0 0 (QN X G (QcI G Z r M') 0 0) 0 [(0, .int v0), (1, .int v1)] [] := by
  unfold f_X3_allowsSetting at hf
  refine r_iload_n hC dX3_allowsSetting_0 0 rfl ?_
  refine r_callSI [] (fun r M1 h => c_X3_isSetting (cx_st hC) hz hZ v0 _  r M1 h) hf cs_X3_35 hC  rfl rfl (by decide) (by decide) (Nat.le_of_ble_eq_true rfl) (by decide) (by decide) dX3_allowsSetting_1 (fun x1 M2 hf => ?_)
  refine r_if_eq 29 hC dX3_allowsSetting_4 (by decide) (fun h => ?_) (fun h => ?_)
  · have hf := if_T hf h
    refine r_iconst (v := 0) hC dX3_allowsSetting_29 rfl ?_
    exact r_zret hf hC rfl rfl (by decide) (by decide) dX3_allowsSetting_30
  · have hf := if_F hf h
    refine r_iload_n hC dX3_allowsSetting_7 1 rfl ?_
    refine r_gets (j := 1) (nm := "LEAST_SETTING") (f := fun _ => .null) (fun h => h.2.1.1) hC kw_X3_39 dX3_allowsSetting_8 ?_
    refine r_iload_n hC dX3_allowsSetting_11 0 rfl ?_
    have hin := if_K hf
    have hf := if_V hf
    refine r_tald (f := fun k => sa_least.getD k 0) (fun h => h.2.1.2) hC (inb_vp hin) rfl dX3_allowsSetting_12 ?_
    refine r_icmp_lt 29 hC dX3_allowsSetting_13 (by decide) (fun h => ?_) (fun h => ?_)
    · have hf := if_T hf h
      refine r_iconst (v := 0) hC dX3_allowsSetting_29 rfl ?_
      exact r_zret hf hC rfl rfl (by decide) (by decide) dX3_allowsSetting_30
    · have hf := if_F hf h
      refine r_iload_n hC dX3_allowsSetting_16 1 rfl ?_
      refine r_gets (j := 2) (nm := "MOST_SETTING") (f := fun _ => .null) (fun h => h.2.2.1.1) hC kw_X3_42 dX3_allowsSetting_17 ?_
      refine r_iload_n hC dX3_allowsSetting_20 0 rfl ?_
      have hin := if_K hf
      have hf := if_V hf
      refine r_tald (f := fun k => sa_most.getD k 0) (fun h => h.2.2.1.2) hC (inb_vp hin) rfl dX3_allowsSetting_21 ?_
      refine r_icmp_gt 29 hC dX3_allowsSetting_22 (by decide) (fun h => ?_) (fun h => ?_)
      · have hf := if_T hf h
        refine r_iconst (v := 0) hC dX3_allowsSetting_29 rfl ?_
        exact r_zret hf hC rfl rfl (by decide) (by decide) dX3_allowsSetting_30
      · have hf := if_F hf h
        refine r_iconst (v := 1) hC dX3_allowsSetting_25 rfl ?_
        refine r_goto 30 hC dX3_allowsSetting_26 (by decide) ?_
        exact r_zret hf hC rfl rfl (by decide) (by decide) dX3_allowsSetting_30
set_option maxRecDepth 20000 in
theorem c_X3_allowsSetting {l : Launch} (hl : l.stackTraces = false) {G : GG} {Z : ZZ} (hz : ZOk G Z) (hZ : ZM Z) (v0 : Int32) (v1 : Int32) (M : Mem)  (r : Int32) (M' : Mem) (hf : f_X3_allowsSetting v0 v1 M = some (r, M')) : CN (QcI G Z r M') l G Z yX3_allowsSetting cX3_allowsSetting 2 (some .boolean) 1 [.int v0, .int v1] M :=
  CN.of [(0, .int v0), (1, .int v1)] hl (by decide +kernel) (Nat.le_of_ble_eq_true rfl) rfl (fun _ hC => w_X3_allowsSetting hC hz hZ v0 v1 M  hf)
set_option maxRecDepth 20000 in
theorem w_X3_hasStaff {X : XX} {G : GG} {Z : ZZ} (hC : Cx X G RX3 cX3_hasStaff (some .boolean) 0 0 0 2) (hz : ZOk G Z) (hZ : ZM Z) (q0 : Nat) (v1 : Int32) (M : Mem) (hq0 : q0 < 18) {r : Int32} {M' : Mem} (hf : f_X3_hasStaff q0 v1 M = some (r, M')) : V X G Z M 0 0 (QN X G (QcI G Z r M') 0 0) 0 [(0, .ref (Z.1 (iSt q0))), (1, .int v1)] [] := by
  unfold f_X3_hasStaff at hf
  refine r_iload_n hC dX3_hasStaff_0 1 rfl ?_
  refine r_if_lt 16 hC dX3_hasStaff_1 (by decide) (fun h => ?_) (fun h => ?_)
  · have hf := if_T hf h
    refine r_iconst (v := 0) hC dX3_hasStaff_16 rfl ?_
    exact r_zret hf hC rfl rfl (by decide) (by decide) dX3_hasStaff_17
  · have hf := if_F hf h
    refine r_iload_n hC dX3_hasStaff_4 1 rfl ?_
    refine r_aload_n hC dX3_hasStaff_5 0 rfl ?_
    refine gf_X3_25 hC (z_S hZ hq0) rfl dX3_hasStaff_6 ?_
    refine r_icmp_ge 16 hC dX3_hasStaff_9 (by decide) (fun h => ?_) (fun h => ?_)
    · have hf := if_T hf h
      refine r_iconst (v := 0) hC dX3_hasStaff_16 rfl ?_
      exact r_zret hf hC rfl rfl (by decide) (by decide) dX3_hasStaff_17
    · have hf := if_F hf h
      refine r_iconst (v := 1) hC dX3_hasStaff_12 rfl ?_
      refine r_goto 17 hC dX3_hasStaff_13 (by decide) ?_
      exact r_zret hf hC rfl rfl (by decide) (by decide) dX3_hasStaff_17
set_option maxRecDepth 20000 in
theorem c_X3_hasStaff {l : Launch} (hl : l.stackTraces = false) {G : GG} {Z : ZZ} (hz : ZOk G Z) (hZ : ZM Z) (q0 : Nat) (v1 : Int32) (M : Mem) (hq0 : q0 < 18) (r : Int32) (M' : Mem) (hf : f_X3_hasStaff q0 v1 M = some (r, M')) : CN (QcI G Z r M') l G Z yX3_hasStaff cX3_hasStaff 2 (some .boolean) 0 [.ref (Z.1 (iSt q0)), .int v1] M :=
  CN.of [(0, .ref (Z.1 (iSt q0))), (1, .int v1)] hl (by decide +kernel) (Nat.le_of_ble_eq_true rfl) rfl (fun _ hC => w_X3_hasStaff hC hz hZ q0 v1 M hq0 hf)
set_option maxRecDepth 20000 in
theorem w_X3_hasBeat {X : XX} {G : GG} {Z : ZZ} (hC : Cx X G RX3 cX3_hasBeat (some .boolean) 0 0 0 2) (hz : ZOk G Z) (hZ : ZM Z) (q0 : Nat) (v1 : Int32) (M : Mem) (hq0 : q0 < 18) {r : Int32} {M' : Mem} (hf : f_X3_hasBeat q0 v1 M = some (r, M')) : V X G Z M 0 0 (QN X G (QcI G Z r M') 0 0) 0 [(0, .ref (Z.1 (iSt q0))), (1, .int v1)] [] := by
  unfold f_X3_hasBeat at hf
  refine r_iload_n hC dX3_hasBeat_0 1 rfl ?_
  refine r_if_lt 16 hC dX3_hasBeat_1 (by decide) (fun h => ?_) (fun h => ?_)
  · have hf := if_T hf h
    refine r_iconst (v := 0) hC dX3_hasBeat_16 rfl ?_
    exact r_zret hf hC rfl rfl (by decide) (by decide) dX3_hasBeat_17
  · have hf := if_F hf h
    refine r_iload_n hC dX3_hasBeat_4 1 rfl ?_
    refine r_aload_n hC dX3_hasBeat_5 0 rfl ?_
    refine gf_X3_29 hC (z_S hZ hq0) rfl dX3_hasBeat_6 ?_
    refine r_icmp_ge 16 hC dX3_hasBeat_9 (by decide) (fun h => ?_) (fun h => ?_)
    · have hf := if_T hf h
      refine r_iconst (v := 0) hC dX3_hasBeat_16 rfl ?_
      exact r_zret hf hC rfl rfl (by decide) (by decide) dX3_hasBeat_17
    · have hf := if_F hf h
      refine r_iconst (v := 1) hC dX3_hasBeat_12 rfl ?_
      refine r_goto 17 hC dX3_hasBeat_13 (by decide) ?_
      exact r_zret hf hC rfl rfl (by decide) (by decide) dX3_hasBeat_17
set_option maxRecDepth 20000 in
theorem c_X3_hasBeat {l : Launch} (hl : l.stackTraces = false) {G : GG} {Z : ZZ} (hz : ZOk G Z) (hZ : ZM Z) (q0 : Nat) (v1 : Int32) (M : Mem) (hq0 : q0 < 18) (r : Int32) (M' : Mem) (hf : f_X3_hasBeat q0 v1 M = some (r, M')) : CN (QcI G Z r M') l G Z yX3_hasBeat cX3_hasBeat 2 (some .boolean) 0 [.ref (Z.1 (iSt q0)), .int v1] M :=
  CN.of [(0, .ref (Z.1 (iSt q0))), (1, .int v1)] hl (by decide +kernel) (Nat.le_of_ble_eq_true rfl) rfl (fun _ hC => w_X3_hasBeat hC hz hZ q0 v1 M hq0 hf)
set_option maxRecDepth 20000 in
theorem w_X3_hasCell {X : XX} {G : GG} {Z : ZZ} (hC : Cx X G RX3 cX3_hasCell (some .boolean) 1 0 0 3) (hz : ZOk G Z) (hZ : ZM Z) (q0 : Nat) (v1 : Int32) (v2 : Int32) (M : Mem) (hq0 : q0 < 18) {r : Int32} {M' : Mem} (hf : f_X3_hasCell q0 v1 v2 M = some (r, M')) : V X G Z M 0 0 (QN X G (QcI G Z r M') 0 0) 0 [(0, .ref (Z.1 (iSt q0))), (1, .int v1), (2, .int v2)] [] := by
  unfold f_X3_hasCell at hf
  refine r_aload_n hC dX3_hasCell_0 0 rfl ?_
  refine r_iload_n hC dX3_hasCell_1 1 rfl ?_
  refine r_callVI [] (fun r M1 h => c_X3_hasStaff (cx_st hC) hz hZ q0 v1 _ hq0 r M1 h) hf cs_X3_45 hC (z_S hZ hq0) (q0 := (RX3, TX3, 4)) rfl rfl [.int v1] rfl rfl rfl (by decide) (by decide) (Nat.le_of_ble_eq_true rfl) (by decide) (by decide) dX3_hasCell_2 (fun x1 M2 hf => ?_)
  refine r_if_eq 20 hC dX3_hasCell_5 (by decide) (fun h => ?_) (fun h => ?_)
  · have hf := if_T hf h
    refine r_iconst (v := 0) hC dX3_hasCell_20 rfl ?_
    exact r_zret hf hC rfl rfl (by decide) (by decide) dX3_hasCell_21
  · have hf := if_F hf h
    refine r_aload_n hC dX3_hasCell_8 0 rfl ?_
    refine r_iload_n hC dX3_hasCell_9 2 rfl ?_
    refine r_callVI [] (fun r M1 h => c_X3_hasBeat (cx_st hC) hz hZ q0 v2 _ hq0 r M1 h) hf cs_X3_48 hC (z_S hZ hq0) (q0 := (RX3, TX3, 4)) rfl rfl [.int v2] rfl rfl rfl (by decide) (by decide) (Nat.le_of_ble_eq_true rfl) (by decide) (by decide) dX3_hasCell_10 (fun x3 M4 hf => ?_)
    refine r_if_eq 20 hC dX3_hasCell_13 (by decide) (fun h => ?_) (fun h => ?_)
    · have hf := if_T hf h
      refine r_iconst (v := 0) hC dX3_hasCell_20 rfl ?_
      exact r_zret hf hC rfl rfl (by decide) (by decide) dX3_hasCell_21
    · have hf := if_F hf h
      refine r_iconst (v := 1) hC dX3_hasCell_16 rfl ?_
      refine r_goto 21 hC dX3_hasCell_17 (by decide) ?_
      exact r_zret hf hC rfl rfl (by decide) (by decide) dX3_hasCell_21
set_option maxRecDepth 20000 in
theorem c_X3_hasCell {l : Launch} (hl : l.stackTraces = false) {G : GG} {Z : ZZ} (hz : ZOk G Z) (hZ : ZM Z) (q0 : Nat) (v1 : Int32) (v2 : Int32) (M : Mem) (hq0 : q0 < 18) (r : Int32) (M' : Mem) (hf : f_X3_hasCell q0 v1 v2 M = some (r, M')) : CN (QcI G Z r M') l G Z yX3_hasCell cX3_hasCell 3 (some .boolean) 1 [.ref (Z.1 (iSt q0)), .int v1, .int v2] M :=
  CN.of [(0, .ref (Z.1 (iSt q0))), (1, .int v1), (2, .int v2)] hl (by decide +kernel) (Nat.le_of_ble_eq_true rfl) rfl (fun _ hC => w_X3_hasCell hC hz hZ q0 v1 v2 M hq0 hf)
set_option maxRecDepth 20000 in
theorem w_X3_allowsHold {X : XX} {G : GG} {Z : ZZ} (hC : Cx X G RX3 cX3_allowsHold (some .boolean) 1 0 0 3) (hz : ZOk G Z) (hZ : ZM Z) (q0 : Nat) (v1 : Int32) (v2 : Int32) (M : Mem) (hq0 : q0 < 18) {r : Int32} {M' : Mem} (hf : f_X3_allowsHold q0 v1 v2 M = some (r, M')) : V X G Z M 0 0 (QN X G (QcI G Z r M') 0 0) 0 [(0, .ref (Z.1 (iSt q0))), (1, .int v1), (2, .int v2)] [] := by
  unfold f_X3_allowsHold at hf
  refine r_aload_n hC dX3_allowsHold_0 0 rfl ?_
  refine r_iload_n hC dX3_allowsHold_1 1 rfl ?_
  refine r_iload_n hC dX3_allowsHold_2 2 rfl ?_
  refine r_iconst (v := 1) hC dX3_allowsHold_3 rfl ?_
  refine r_isub hC dX3_allowsHold_4 ?_
  refine r_callVI [] (fun r M1 h => c_X3_written (cx_st hC) hz hZ q0 v1 (v2 - 1) _ hq0 r M1 h) hf cs_X3_51 hC (z_S hZ hq0) (q0 := (RX3, TX3, 4)) rfl rfl [.int v1, .int (v2 - 1)] rfl rfl rfl (by decide) (by decide) (Nat.le_of_ble_eq_true rfl) (by decide) (by decide) dX3_allowsHold_5 (fun x1 M2 hf => ?_)
  refine r_bipush (v := (-9)) hC dX3_allowsHold_8 rfl ?_
  refine r_icmp_eq 17 hC dX3_allowsHold_10 (by decide) (fun h => ?_) (fun h => ?_)
  · have hf := if_T hf h
    refine r_iconst (v := 0) hC dX3_allowsHold_17 rfl ?_
    exact r_zret hf hC rfl rfl (by decide) (by decide) dX3_allowsHold_18
  · have hf := if_F hf h
    refine r_iconst (v := 1) hC dX3_allowsHold_13 rfl ?_
    refine r_goto 18 hC dX3_allowsHold_14 (by decide) ?_
    exact r_zret hf hC rfl rfl (by decide) (by decide) dX3_allowsHold_18
set_option maxRecDepth 20000 in
theorem c_X3_allowsHold {l : Launch} (hl : l.stackTraces = false) {G : GG} {Z : ZZ} (hz : ZOk G Z) (hZ : ZM Z) (q0 : Nat) (v1 : Int32) (v2 : Int32) (M : Mem) (hq0 : q0 < 18) (r : Int32) (M' : Mem) (hf : f_X3_allowsHold q0 v1 v2 M = some (r, M')) : CN (QcI G Z r M') l G Z yX3_allowsHold cX3_allowsHold 3 (some .boolean) 1 [.ref (Z.1 (iSt q0)), .int v1, .int v2] M :=
  CN.of [(0, .ref (Z.1 (iSt q0))), (1, .int v1), (2, .int v2)] hl (by decide +kernel) (Nat.le_of_ble_eq_true rfl) rfl (fun _ hC => w_X3_allowsHold hC hz hZ q0 v1 v2 M hq0 hf)
set_option maxRecDepth 20000 in
theorem w_X3_allowsMoving_b2 {X : XX} {G : GG} {Z : ZZ} {r : Int32} {M' : Mem} (hC : Cx X G RX3 cX3_allowsMoving (some .boolean) 1 0 0 5) (hz : ZOk G Z) (hZ : ZM Z) (q0 : Nat) (v1 : Int32) (v2 : Int32) (hq0 : q0 < 18) (k2 : Int32 → Mem → Option (Int32 × Mem)) (hk2 : ∀ (u3 : Int32) (M : Mem), k2 u3 M = some (r, M') → V X G Z M 0 0 (QN X G (QcI G Z r M') 0 0) 2 [(0, .ref (Z.1 (iSt q0))), (1, .int v1), (2, .int v2), (3, .int u3)] []) (v3 : Int32) (M : Mem) (hf : f_X3_allowsMoving_b2 q0 v1 v2 k2 v3 M = some (r, M')) : V X G Z M 0 0 (QN X G (QcI G Z r M') 0 0) 2 [(0, .ref (Z.1 (iSt q0))), (1, .int v1), (2, .int v2), (3, .int v3)] [] := by
  unfold f_X3_allowsMoving_b2 at hf
  refine r_iload_n hC dX3_allowsMoving_2 3 rfl ?_
  refine r_aload_n hC dX3_allowsMoving_3 0 rfl ?_
  refine gf_X3_29 hC (z_S hZ hq0) rfl dX3_allowsMoving_4 ?_
  refine r_icmp_ge 44 hC dX3_allowsMoving_7 (by decide) (fun h => ?_) (fun h => ?_)
  · have hf := if_T hf h
    refine r_iconst (v := 1) hC dX3_allowsMoving_44 rfl ?_
    exact r_zret hf hC rfl rfl (by decide) (by decide) dX3_allowsMoving_45
  · have hf := if_F hf h
    refine r_aload_n hC dX3_allowsMoving_10 0 rfl ?_
    refine r_iload_n hC dX3_allowsMoving_11 1 rfl ?_
    refine r_iload_n hC dX3_allowsMoving_12 3 rfl ?_
    refine r_callVI [] (fun r M1 h => c_X3_written (cx_st hC) hz hZ q0 v1 v3 _ hq0 r M1 h) hf cs_X3_51 hC (z_S hZ hq0) (q0 := (RX3, TX3, 4)) rfl rfl [.int v1, .int v3] rfl rfl rfl (by decide) (by decide) (Nat.le_of_ble_eq_true rfl) (by decide) (by decide) dX3_allowsMoving_13 (fun x1 M2 hf => ?_)
    refine r_istore (L' := [(4, .int x1), (0, .ref (Z.1 (iSt q0))), (1, .int v1), (2, .int v2), (3, .int v3)]) hC dX3_allowsMoving_16 (by decide) rfl ?_
    refine r_iload hC dX3_allowsMoving_18 0 rfl ?_
    refine r_callSI [] (fun r M1 h => c_X3_isPitch (cx_st hC) hz hZ x1 _  r M1 h) hf cs_X3_55 hC  rfl rfl (by decide) (by decide) (Nat.le_of_ble_eq_true rfl) (by decide) (by decide) dX3_allowsMoving_20 (fun x3 M4 hf => ?_)
    refine r_if_eq 38 hC dX3_allowsMoving_23 (by decide) (fun h => ?_) (fun h => ?_)
    · have hf := if_T hf h
      refine r_iinc (v := v3 + 1) (L' := [(3, .int (v3 + 1)), (4, .int x1), (0, .ref (Z.1 (iSt q0))), (1, .int v1), (2, .int v2)]) hC dX3_allowsMoving_38 4 rfl rfl (by decide) rfl ?_
      refine r_goto 2 hC dX3_allowsMoving_41 (by decide) ?_
      refine r_L [2, 3, 4, 0] rfl ?_
      exact hk2 _ _ hf
    · have hf := if_F hf h
      refine r_iload hC dX3_allowsMoving_26 0 rfl ?_
      refine r_iload_n hC dX3_allowsMoving_28 3 rfl ?_
      refine r_iadd hC dX3_allowsMoving_29 ?_
      refine r_callSI [] (fun r M1 h => c_X3_isPitch (cx_st hC) hz hZ (x1 + v2) _  r M1 h) hf cs_X3_55 hC  rfl rfl (by decide) (by decide) (Nat.le_of_ble_eq_true rfl) (by decide) (by decide) dX3_allowsMoving_30 (fun x5 M6 hf => ?_)
      refine r_if_ne 38 hC dX3_allowsMoving_33 (by decide) (fun h => ?_) (fun h => ?_)
      · have hf := if_F hf h
        refine r_iinc (v := v3 + 1) (L' := [(3, .int (v3 + 1)), (4, .int x1), (0, .ref (Z.1 (iSt q0))), (1, .int v1), (2, .int v2)]) hC dX3_allowsMoving_38 4 rfl rfl (by decide) rfl ?_
        refine r_goto 2 hC dX3_allowsMoving_41 (by decide) ?_
        refine r_L [2, 3, 4, 0] rfl ?_
        exact hk2 _ _ hf
      · have hf := if_T hf h
        refine r_iconst (v := 0) hC dX3_allowsMoving_36 rfl ?_
        exact r_zret hf hC rfl rfl (by decide) (by decide) dX3_allowsMoving_37
set_option maxRecDepth 20000 in
theorem w_X3_allowsMoving {X : XX} {G : GG} {Z : ZZ} (hC : Cx X G RX3 cX3_allowsMoving (some .boolean) 1 0 0 5) (hz : ZOk G Z) (hZ : ZM Z) (q0 : Nat) (v1 : Int32) (v2 : Int32) (M : Mem) (hq0 : q0 < 18) {r : Int32} {M' : Mem} (hf : f_X3_allowsMoving q0 v1 v2 M = some (r, M')) : V X G Z M 0 0 (QN X G (QcI G Z r M') 0 0) 0 [(0, .ref (Z.1 (iSt q0))), (1, .int v1), (2, .int v2)] [] := by
  unfold f_X3_allowsMoving at hf
  refine r_iconst (v := 0) hC dX3_allowsMoving_0 rfl ?_
  refine r_istore_n (L' := [(3, .int 0), (0, .ref (Z.1 (iSt q0))), (1, .int v1), (2, .int v2)]) hC dX3_allowsMoving_1 (by decide) rfl ?_
  refine r_L [1, 2, 3, 0] rfl ?_
  exact lq1_ind (P := fun (u3 : Int32) (M : Mem) => V X G Z M 0 0 (QN X G (QcI G Z r M') 0 0) 2 [(0, .ref (Z.1 (iSt q0))), (1, .int v1), (2, .int v2), (3, .int u3)] []) (fun kk hkk u3 M hf => w_X3_allowsMoving_b2 hC hz hZ q0 v1 v2 hq0 kk hkk u3 M hf) _ _ _ hf
set_option maxRecDepth 20000 in
theorem c_X3_allowsMoving {l : Launch} (hl : l.stackTraces = false) {G : GG} {Z : ZZ} (hz : ZOk G Z) (hZ : ZM Z) (q0 : Nat) (v1 : Int32) (v2 : Int32) (M : Mem) (hq0 : q0 < 18) (r : Int32) (M' : Mem) (hf : f_X3_allowsMoving q0 v1 v2 M = some (r, M')) : CN (QcI G Z r M') l G Z yX3_allowsMoving cX3_allowsMoving 5 (some .boolean) 1 [.ref (Z.1 (iSt q0)), .int v1, .int v2] M :=
  CN.of [(0, .ref (Z.1 (iSt q0))), (1, .int v1), (2, .int v2)] hl (by decide +kernel) (Nat.le_of_ble_eq_true rfl) rfl (fun _ hC => w_X3_allowsMoving hC hz hZ q0 v1 v2 M hq0 hf)
set_option maxRecDepth 20000 in
theorem w_X3_countStruckOf_b4 {X : XX} {G : GG} {Z : ZZ} {r : Int32} {M' : Mem} (hC : Cx X G RX3 cX3_countStruckOf (some .int) 1 0 0 4) (hz : ZOk G Z) (hZ : ZM Z) (q0 : Nat) (v1 : Int32) (hq0 : q0 < 18) (k4 : Int32 → Int32 → Mem → Option (Int32 × Mem)) (hk4 : ∀ (u2 : Int32) (u3 : Int32) (M : Mem), k4 u2 u3 M = some (r, M') → V X G Z M 0 0 (QN X G (QcI G Z r M') 0 0) 4 [(0, .ref (Z.1 (iSt q0))), (1, .int v1), (2, .int u2), (3, .int u3)] []) (v2 : Int32) (v3 : Int32) (M : Mem) (hf : f_X3_countStruckOf_b4 q0 v1 k4 v2 v3 M = some (r, M')) : V X G Z M 0 0 (QN X G (QcI G Z r M') 0 0) 4 [(0, .ref (Z.1 (iSt q0))), (1, .int v1), (2, .int v2), (3, .int v3)] [] := by
  unfold f_X3_countStruckOf_b4 at hf
  refine r_iload_n hC dX3_countStruckOf_4 3 rfl ?_
  refine r_aload_n hC dX3_countStruckOf_5 0 rfl ?_
  refine gf_X3_29 hC (z_S hZ hq0) rfl dX3_countStruckOf_6 ?_
  refine r_icmp_ge 33 hC dX3_countStruckOf_9 (by decide) (fun h => ?_) (fun h => ?_)
  · have hf := if_T hf h
    refine r_iload_n hC dX3_countStruckOf_33 2 rfl ?_
    exact r_iret hf hC (by decide) (by decide) dX3_countStruckOf_34
  · have hf := if_F hf h
    refine r_aload_n hC dX3_countStruckOf_12 0 rfl ?_
    refine r_iload_n hC dX3_countStruckOf_13 1 rfl ?_
    refine r_iload_n hC dX3_countStruckOf_14 3 rfl ?_
    refine r_callVI [] (fun r M1 h => c_X3_written (cx_st hC) hz hZ q0 v1 v3 _ hq0 r M1 h) hf cs_X3_51 hC (z_S hZ hq0) (q0 := (RX3, TX3, 4)) rfl rfl [.int v1, .int v3] rfl rfl rfl (by decide) (by decide) (Nat.le_of_ble_eq_true rfl) (by decide) (by decide) dX3_countStruckOf_15 (fun x1 M2 hf => ?_)
    refine r_callSI [] (fun r M1 h => c_X3_isPitch (cx_st hC) hz hZ x1 _  r M1 h) hf cs_X3_55 hC  rfl rfl (by decide) (by decide) (Nat.le_of_ble_eq_true rfl) (by decide) (by decide) dX3_countStruckOf_18 (fun x3 M4 hf => ?_)
    refine r_if_eq 27 hC dX3_countStruckOf_21 (by decide) (fun h => ?_) (fun h => ?_)
    · have hf := if_T hf h
      refine r_iinc (v := v3 + 1) (L' := [(3, .int (v3 + 1)), (0, .ref (Z.1 (iSt q0))), (1, .int v1), (2, .int v2)]) hC dX3_countStruckOf_27 3 rfl rfl (by decide) rfl ?_
      refine r_goto 4 hC dX3_countStruckOf_30 (by decide) ?_
      refine r_L [1, 2, 3, 0] rfl ?_
      exact hk4 _ _ _ hf
    · have hf := if_F hf h
      refine r_iinc (v := v2 + 1) (L' := [(2, .int (v2 + 1)), (0, .ref (Z.1 (iSt q0))), (1, .int v1), (3, .int v3)]) hC dX3_countStruckOf_24 2 rfl rfl (by decide) rfl ?_
      refine r_iinc (v := v3 + 1) (L' := [(3, .int (v3 + 1)), (2, .int (v2 + 1)), (0, .ref (Z.1 (iSt q0))), (1, .int v1)]) hC dX3_countStruckOf_27 3 rfl rfl (by decide) rfl ?_
      refine r_goto 4 hC dX3_countStruckOf_30 (by decide) ?_
      refine r_L [2, 3, 1, 0] rfl ?_
      exact hk4 _ _ _ hf
set_option maxRecDepth 20000 in
theorem w_X3_countStruckOf {X : XX} {G : GG} {Z : ZZ} (hC : Cx X G RX3 cX3_countStruckOf (some .int) 1 0 0 4) (hz : ZOk G Z) (hZ : ZM Z) (q0 : Nat) (v1 : Int32) (M : Mem) (hq0 : q0 < 18) {r : Int32} {M' : Mem} (hf : f_X3_countStruckOf q0 v1 M = some (r, M')) : V X G Z M 0 0 (QN X G (QcI G Z r M') 0 0) 0 [(0, .ref (Z.1 (iSt q0))), (1, .int v1)] [] := by
  unfold f_X3_countStruckOf at hf
  refine r_iconst (v := 0) hC dX3_countStruckOf_0 rfl ?_
  refine r_istore_n (L' := [(2, .int 0), (0, .ref (Z.1 (iSt q0))), (1, .int v1)]) hC dX3_countStruckOf_1 (by decide) rfl ?_
  refine r_iconst (v := 0) hC dX3_countStruckOf_2 rfl ?_
  refine r_istore_n (L' := [(3, .int 0), (2, .int 0), (0, .ref (Z.1 (iSt q0))), (1, .int v1)]) hC dX3_countStruckOf_3 (by decide) rfl ?_
  refine r_L [2, 3, 1, 0] rfl ?_
  exact lq2_ind (P := fun (u2 : Int32) (u3 : Int32) (M : Mem) => V X G Z M 0 0 (QN X G (QcI G Z r M') 0 0) 4 [(0, .ref (Z.1 (iSt q0))), (1, .int v1), (2, .int u2), (3, .int u3)] []) (fun kk hkk u2 u3 M hf => w_X3_countStruckOf_b4 hC hz hZ q0 v1 hq0 kk hkk u2 u3 M hf) _ _ _ _ hf
set_option maxRecDepth 20000 in
theorem c_X3_countStruckOf {l : Launch} (hl : l.stackTraces = false) {G : GG} {Z : ZZ} (hz : ZOk G Z) (hZ : ZM Z) (q0 : Nat) (v1 : Int32) (M : Mem) (hq0 : q0 < 18) (r : Int32) (M' : Mem) (hf : f_X3_countStruckOf q0 v1 M = some (r, M')) : CN (QcI G Z r M') l G Z yX3_countStruckOf cX3_countStruckOf 4 (some .int) 1 [.ref (Z.1 (iSt q0)), .int v1] M :=
  CN.of [(0, .ref (Z.1 (iSt q0))), (1, .int v1)] hl (by decide +kernel) (Nat.le_of_ble_eq_true rfl) rfl (fun _ hC => w_X3_countStruckOf hC hz hZ q0 v1 M hq0 hf)
set_option maxRecDepth 20000 in
theorem w_X3_countStruck_b4 {X : XX} {G : GG} {Z : ZZ} {r : Int32} {M' : Mem} (hC : Cx X G RX3 cX3_countStruck (some .int) 2 0 0 3) (hz : ZOk G Z) (hZ : ZM Z) (q0 : Nat) (hq0 : q0 < 18) (k4 : Int32 → Int32 → Mem → Option (Int32 × Mem)) (hk4 : ∀ (u1 : Int32) (u2 : Int32) (M : Mem), k4 u1 u2 M = some (r, M') → V X G Z M 0 0 (QN X G (QcI G Z r M') 0 0) 4 [(0, .ref (Z.1 (iSt q0))), (1, .int u1), (2, .int u2)] []) (v1 : Int32) (v2 : Int32) (M : Mem) (hf : f_X3_countStruck_b4 q0 k4 v1 v2 M = some (r, M')) : V X G Z M 0 0 (QN X G (QcI G Z r M') 0 0) 4 [(0, .ref (Z.1 (iSt q0))), (1, .int v1), (2, .int v2)] [] := by
  unfold f_X3_countStruck_b4 at hf
  refine r_iload_n hC dX3_countStruck_4 2 rfl ?_
  refine r_aload_n hC dX3_countStruck_5 0 rfl ?_
  refine gf_X3_25 hC (z_S hZ hq0) rfl dX3_countStruck_6 ?_
  refine r_icmp_ge 26 hC dX3_countStruck_9 (by decide) (fun h => ?_) (fun h => ?_)
  · have hf := if_T hf h
    refine r_iload_n hC dX3_countStruck_26 1 rfl ?_
    exact r_iret hf hC (by decide) (by decide) dX3_countStruck_27
  · have hf := if_F hf h
    refine r_iload_n hC dX3_countStruck_12 1 rfl ?_
    refine r_aload_n hC dX3_countStruck_13 0 rfl ?_
    refine r_iload_n hC dX3_countStruck_14 2 rfl ?_
    refine r_callVI [.int v1] (fun r M1 h => c_X3_countStruckOf (cx_st hC) hz hZ q0 v2 _ hq0 r M1 h) hf cs_X3_58 hC (z_S hZ hq0) (q0 := (RX3, TX3, 4)) rfl rfl [.int v2] rfl rfl rfl (by decide) (by decide) (Nat.le_of_ble_eq_true rfl) (by decide) (by decide) dX3_countStruck_15 (fun x1 M2 hf => ?_)
    refine r_iadd hC dX3_countStruck_18 ?_
    refine r_istore_n (L' := [(1, .int (v1 + x1)), (0, .ref (Z.1 (iSt q0))), (2, .int v2)]) hC dX3_countStruck_19 (by decide) rfl ?_
    refine r_iinc (v := v2 + 1) (L' := [(2, .int (v2 + 1)), (1, .int (v1 + x1)), (0, .ref (Z.1 (iSt q0)))]) hC dX3_countStruck_20 2 rfl rfl (by decide) rfl ?_
    refine r_goto 4 hC dX3_countStruck_23 (by decide) ?_
    refine r_L [2, 1, 0] rfl ?_
    exact hk4 _ _ _ hf
set_option maxRecDepth 20000 in
theorem w_X3_countStruck {X : XX} {G : GG} {Z : ZZ} (hC : Cx X G RX3 cX3_countStruck (some .int) 2 0 0 3) (hz : ZOk G Z) (hZ : ZM Z) (q0 : Nat) (M : Mem) (hq0 : q0 < 18) {r : Int32} {M' : Mem} (hf : f_X3_countStruck q0 M = some (r, M')) : V X G Z M 0 0 (QN X G (QcI G Z r M') 0 0) 0 [(0, .ref (Z.1 (iSt q0)))] [] := by
  unfold f_X3_countStruck at hf
  refine r_iconst (v := 0) hC dX3_countStruck_0 rfl ?_
  refine r_istore_n (L' := [(1, .int 0), (0, .ref (Z.1 (iSt q0)))]) hC dX3_countStruck_1 (by decide) rfl ?_
  refine r_iconst (v := 0) hC dX3_countStruck_2 rfl ?_
  refine r_istore_n (L' := [(2, .int 0), (1, .int 0), (0, .ref (Z.1 (iSt q0)))]) hC dX3_countStruck_3 (by decide) rfl ?_
  refine r_L [2, 1, 0] rfl ?_
  exact lq2_ind (P := fun (u1 : Int32) (u2 : Int32) (M : Mem) => V X G Z M 0 0 (QN X G (QcI G Z r M') 0 0) 4 [(0, .ref (Z.1 (iSt q0))), (1, .int u1), (2, .int u2)] []) (fun kk hkk u1 u2 M hf => w_X3_countStruck_b4 hC hz hZ q0 hq0 kk hkk u1 u2 M hf) _ _ _ _ hf
set_option maxRecDepth 20000 in
theorem c_X3_countStruck {l : Launch} (hl : l.stackTraces = false) {G : GG} {Z : ZZ} (hz : ZOk G Z) (hZ : ZM Z) (q0 : Nat) (M : Mem) (hq0 : q0 < 18) (r : Int32) (M' : Mem) (hf : f_X3_countStruck q0 M = some (r, M')) : CN (QcI G Z r M') l G Z yX3_countStruck cX3_countStruck 3 (some .int) 2 [.ref (Z.1 (iSt q0))] M :=
  CN.of [(0, .ref (Z.1 (iSt q0)))] hl (by decide +kernel) (Nat.le_of_ble_eq_true rfl) rfl (fun _ hC => w_X3_countStruck hC hz hZ q0 M hq0 hf)
set_option maxRecDepth 20000 in
theorem w_X3_countHolds_b14 {X : XX} {G : GG} {Z : ZZ} {r : Int32} {M' : Mem} (hC : Cx X G RX3 cX3_countHolds (some .int) 1 0 0 4) (hz : ZOk G Z) (hZ : ZM Z) (q0 : Nat) (v2 : Int32) (hq0 : q0 < 18) (k4 : Int32 → Int32 → Mem → Option (Int32 × Mem)) (hk4 : ∀ (u1 : Int32) (u2 : Int32) (M : Mem), k4 u1 u2 M = some (r, M') → V X G Z M 0 0 (QN X G (QcI G Z r M') 0 0) 4 [(0, .ref (Z.1 (iSt q0))), (1, .int u1), (2, .int u2)] []) (k14 : Int32 → Int32 → Mem → Option (Int32 × Mem)) (hk14 : ∀ (u1 : Int32) (u3 : Int32) (M : Mem), k14 u1 u3 M = some (r, M') → V X G Z M 0 0 (QN X G (QcI G Z r M') 0 0) 14 [(0, .ref (Z.1 (iSt q0))), (1, .int u1), (2, .int v2), (3, .int u3)] []) (v1 : Int32) (v3 : Int32) (M : Mem) (hf : f_X3_countHolds_b14 q0 v2 k4 k14 v1 v3 M = some (r, M')) : V X G Z M 0 0 (QN X G (QcI G Z r M') 0 0) 14 [(0, .ref (Z.1 (iSt q0))), (1, .int v1), (2, .int v2), (3, .int v3)] [] := by
  unfold f_X3_countHolds_b14 at hf
  refine r_iload_n hC dX3_countHolds_14 3 rfl ?_
  refine r_aload_n hC dX3_countHolds_15 0 rfl ?_
  refine gf_X3_29 hC (z_S hZ hq0) rfl dX3_countHolds_16 ?_
  refine r_icmp_ge 42 hC dX3_countHolds_19 (by decide) (fun h => ?_) (fun h => ?_)
  · have hf := if_T hf h
    refine r_iinc (v := v2 + 1) (L' := [(2, .int (v2 + 1)), (0, .ref (Z.1 (iSt q0))), (1, .int v1), (3, .int v3)]) hC dX3_countHolds_42 2 rfl rfl (by decide) rfl ?_
    refine r_goto 4 hC dX3_countHolds_45 (by decide) ?_
    refine r_L [1, 2, 0] rfl ?_
    exact hk4 _ _ _ hf
  · have hf := if_F hf h
    refine r_aload_n hC dX3_countHolds_22 0 rfl ?_
    refine r_iload_n hC dX3_countHolds_23 2 rfl ?_
    refine r_iload_n hC dX3_countHolds_24 3 rfl ?_
    refine r_callVI [] (fun r M1 h => c_X3_written (cx_st hC) hz hZ q0 v2 v3 _ hq0 r M1 h) hf cs_X3_51 hC (z_S hZ hq0) (q0 := (RX3, TX3, 4)) rfl rfl [.int v2, .int v3] rfl rfl rfl (by decide) (by decide) (Nat.le_of_ble_eq_true rfl) (by decide) (by decide) dX3_countHolds_25 (fun x1 M2 hf => ?_)
    refine r_bipush (v := 99) hC dX3_countHolds_28 rfl ?_
    refine r_icmp_ne 36 hC dX3_countHolds_30 (by decide) (fun h => ?_) (fun h => ?_)
    · have hf := if_F hf h
      refine r_iinc (v := v3 + 1) (L' := [(3, .int (v3 + 1)), (0, .ref (Z.1 (iSt q0))), (1, .int v1), (2, .int v2)]) hC dX3_countHolds_36 3 rfl rfl (by decide) rfl ?_
      refine r_goto 14 hC dX3_countHolds_39 (by decide) ?_
      refine r_L [1, 2, 3, 0] rfl ?_
      exact hk14 _ _ _ hf
    · have hf := if_T hf h
      refine r_iinc (v := v1 + 1) (L' := [(1, .int (v1 + 1)), (0, .ref (Z.1 (iSt q0))), (2, .int v2), (3, .int v3)]) hC dX3_countHolds_33 1 rfl rfl (by decide) rfl ?_
      refine r_iinc (v := v3 + 1) (L' := [(3, .int (v3 + 1)), (1, .int (v1 + 1)), (0, .ref (Z.1 (iSt q0))), (2, .int v2)]) hC dX3_countHolds_36 3 rfl rfl (by decide) rfl ?_
      refine r_goto 14 hC dX3_countHolds_39 (by decide) ?_
      refine r_L [2, 1, 3, 0] rfl ?_
      exact hk14 _ _ _ hf
set_option maxRecDepth 20000 in
theorem w_X3_countHolds_b4 {X : XX} {G : GG} {Z : ZZ} {r : Int32} {M' : Mem} (hC : Cx X G RX3 cX3_countHolds (some .int) 1 0 0 4) (hz : ZOk G Z) (hZ : ZM Z) (q0 : Nat) (hq0 : q0 < 18) (k4 : Int32 → Int32 → Mem → Option (Int32 × Mem)) (hk4 : ∀ (u1 : Int32) (u2 : Int32) (M : Mem), k4 u1 u2 M = some (r, M') → V X G Z M 0 0 (QN X G (QcI G Z r M') 0 0) 4 [(0, .ref (Z.1 (iSt q0))), (1, .int u1), (2, .int u2)] []) (v1 : Int32) (v2 : Int32) (M : Mem) (hf : f_X3_countHolds_b4 q0 k4 v1 v2 M = some (r, M')) : V X G Z M 0 0 (QN X G (QcI G Z r M') 0 0) 4 [(0, .ref (Z.1 (iSt q0))), (1, .int v1), (2, .int v2)] [] := by
  unfold f_X3_countHolds_b4 at hf
  refine r_iload_n hC dX3_countHolds_4 2 rfl ?_
  refine r_aload_n hC dX3_countHolds_5 0 rfl ?_
  refine gf_X3_25 hC (z_S hZ hq0) rfl dX3_countHolds_6 ?_
  refine r_icmp_ge 48 hC dX3_countHolds_9 (by decide) (fun h => ?_) (fun h => ?_)
  · have hf := if_T hf h
    refine r_iload_n hC dX3_countHolds_48 1 rfl ?_
    exact r_iret hf hC (by decide) (by decide) dX3_countHolds_49
  · have hf := if_F hf h
    refine r_iconst (v := 0) hC dX3_countHolds_12 rfl ?_
    refine r_istore_n (L' := [(3, .int 0), (0, .ref (Z.1 (iSt q0))), (1, .int v1), (2, .int v2)]) hC dX3_countHolds_13 (by decide) rfl ?_
    refine r_L [1, 2, 3, 0] rfl ?_
    exact lq2_ind (P := fun (u1 : Int32) (u3 : Int32) (M : Mem) => V X G Z M 0 0 (QN X G (QcI G Z r M') 0 0) 14 [(0, .ref (Z.1 (iSt q0))), (1, .int u1), (2, .int v2), (3, .int u3)] []) (fun kk hkk u1 u3 M hf => w_X3_countHolds_b14 hC hz hZ q0 v2 hq0 k4 hk4 kk hkk u1 u3 M hf) _ _ _ _ hf
set_option maxRecDepth 20000 in
theorem w_X3_countHolds {X : XX} {G : GG} {Z : ZZ} (hC : Cx X G RX3 cX3_countHolds (some .int) 1 0 0 4) (hz : ZOk G Z) (hZ : ZM Z) (q0 : Nat) (M : Mem) (hq0 : q0 < 18) {r : Int32} {M' : Mem} (hf : f_X3_countHolds q0 M = some (r, M')) : V X G Z M 0 0 (QN X G (QcI G Z r M') 0 0) 0 [(0, .ref (Z.1 (iSt q0)))] [] := by
  unfold f_X3_countHolds at hf
  refine r_iconst (v := 0) hC dX3_countHolds_0 rfl ?_
  refine r_istore_n (L' := [(1, .int 0), (0, .ref (Z.1 (iSt q0)))]) hC dX3_countHolds_1 (by decide) rfl ?_
  refine r_iconst (v := 0) hC dX3_countHolds_2 rfl ?_
  refine r_istore_n (L' := [(2, .int 0), (1, .int 0), (0, .ref (Z.1 (iSt q0)))]) hC dX3_countHolds_3 (by decide) rfl ?_
  refine r_L [2, 1, 0] rfl ?_
  exact lq2_ind (P := fun (u1 : Int32) (u2 : Int32) (M : Mem) => V X G Z M 0 0 (QN X G (QcI G Z r M') 0 0) 4 [(0, .ref (Z.1 (iSt q0))), (1, .int u1), (2, .int u2)] []) (fun kk hkk u1 u2 M hf => w_X3_countHolds_b4 hC hz hZ q0 hq0 kk hkk u1 u2 M hf) _ _ _ _ hf
set_option maxRecDepth 20000 in
theorem c_X3_countHolds {l : Launch} (hl : l.stackTraces = false) {G : GG} {Z : ZZ} (hz : ZOk G Z) (hZ : ZM Z) (q0 : Nat) (M : Mem) (hq0 : q0 < 18) (r : Int32) (M' : Mem) (hf : f_X3_countHolds q0 M = some (r, M')) : CN (QcI G Z r M') l G Z yX3_countHolds cX3_countHolds 4 (some .int) 1 [.ref (Z.1 (iSt q0))] M :=
  CN.of [(0, .ref (Z.1 (iSt q0)))] hl (by decide +kernel) (Nat.le_of_ble_eq_true rfl) rfl (fun _ hC => w_X3_countHolds hC hz hZ q0 M hq0 hf)
set_option maxRecDepth 20000 in
theorem w_X3_changeSetting {X : XX} {G : GG} {Z : ZZ} (hC : Cx X G RX3 cX3_changeSetting none 1 0 0 3) (hz : ZOk G Z) (hZ : ZM Z) (q0 : Nat) (v1 : Int32) (v2 : Int32) (M : Mem) (hq0 : q0 < 18) {r : Unit} {M' : Mem} (hf : f_X3_changeSetting q0 v1 v2 M = some (r, M')) : V X G Z M 0 0 (QN X G (QcV G Z r M') 0 0) 0 [(0, .ref (Z.1 (iSt q0))), (1, .int v1), (2, .int v2)] [] := by
  unfold f_X3_changeSetting at hf
  refine r_iload_n hC dX3_changeSetting_0 1 rfl ?_
  refine r_callSI [] (fun r M1 h => c_X3_isSetting (cx_st hC) hz hZ v1 _  r M1 h) hf cs_X3_35 hC  rfl rfl (by decide) (by decide) (Nat.le_of_ble_eq_true rfl) (by decide) (by decide) dX3_changeSetting_1 (fun x1 M2 hf => ?_)
  refine r_if_eq 14 hC dX3_changeSetting_4 (by decide) (fun h => ?_) (fun h => ?_)
  · have hf := if_T hf h
    exact r_vret hf hC (by decide) (by decide) dX3_changeSetting_14
  · have hf := if_F hf h
    refine r_aload_n hC dX3_changeSetting_7 0 rfl ?_
    refine gf_X3_9 hC (z_S hZ hq0) rfl dX3_changeSetting_8 ?_
    refine r_iload_n hC dX3_changeSetting_11 1 rfl ?_
    refine r_iload_n hC dX3_changeSetting_12 2 rfl ?_
    have hin := if_K hf
    have hf := if_V hf
    refine r_iast hC hz (z_S1 hZ hq0) (inb_vp hin) dX3_changeSetting_13 ?_
    exact r_vret hf hC (by decide) (by decide) dX3_changeSetting_14
set_option maxRecDepth 20000 in
theorem c_X3_changeSetting {l : Launch} (hl : l.stackTraces = false) {G : GG} {Z : ZZ} (hz : ZOk G Z) (hZ : ZM Z) (q0 : Nat) (v1 : Int32) (v2 : Int32) (M : Mem) (hq0 : q0 < 18) (r : Unit) (M' : Mem) (hf : f_X3_changeSetting q0 v1 v2 M = some (r, M')) : CN (QcV G Z r M') l G Z yX3_changeSetting cX3_changeSetting 3 none 1 [.ref (Z.1 (iSt q0)), .int v1, .int v2] M :=
  CN.of [(0, .ref (Z.1 (iSt q0))), (1, .int v1), (2, .int v2)] hl (by decide +kernel) (Nat.le_of_ble_eq_true rfl) rfl (fun _ hC => w_X3_changeSetting hC hz hZ q0 v1 v2 M hq0 hf)
set_option maxRecDepth 20000 in
theorem w_X3_put {X : XX} {G : GG} {Z : ZZ} (hC : Cx X G RX3 cX3_put none 2 0 0 4) (hz : ZOk G Z) (hZ : ZM Z) (q0 : Nat) (v1 : Int32) (v2 : Int32) (v3 : Int32) (M : Mem) (hq0 : q0 < 18) {r : Unit} {M' : Mem} (hf : f_X3_put q0 v1 v2 v3 M = some (r, M')) : V X G Z M 0 0 (QN X G (QcV G Z r M') 0 0) 0 [(0, .ref (Z.1 (iSt q0))), (1, .int v1), (2, .int v2), (3, .int v3)] [] := by
  unfold f_X3_put at hf
  refine r_aload_n hC dX3_put_0 0 rfl ?_
  refine r_iload_n hC dX3_put_1 1 rfl ?_
  refine r_iload_n hC dX3_put_2 2 rfl ?_
  refine r_callVI [] (fun r M1 h => c_X3_hasCell (cx_st hC) hz hZ q0 v1 v2 _ hq0 r M1 h) hf cs_X3_62 hC (z_S hZ hq0) (q0 := (RX3, TX3, 4)) rfl rfl [.int v1, .int v2] rfl rfl rfl (by decide) (by decide) (Nat.le_of_ble_eq_true rfl) (by decide) (by decide) dX3_put_3 (fun x1 M2 hf => ?_)
  refine r_if_eq 21 hC dX3_put_6 (by decide) (fun h => ?_) (fun h => ?_)
  · have hf := if_T hf h
    exact r_vret hf hC (by decide) (by decide) dX3_put_21
  · have hf := if_F hf h
    refine r_aload_n hC dX3_put_9 0 rfl ?_
    refine gf_X3_15 hC (z_S hZ hq0) rfl dX3_put_10 ?_
    refine r_iload_n hC dX3_put_13 1 rfl ?_
    refine r_bipush (v := 16) hC dX3_put_14 rfl ?_
    refine r_imul hC dX3_put_16 ?_
    refine r_iload_n hC dX3_put_17 2 rfl ?_
    refine r_iadd hC dX3_put_18 ?_
    refine r_iload_n hC dX3_put_19 3 rfl ?_
    have hin := if_K hf
    have hf := if_V hf
    refine r_iast hC hz (z_S2 hZ hq0) (inb_vp hin) dX3_put_20 ?_
    exact r_vret hf hC (by decide) (by decide) dX3_put_21
set_option maxRecDepth 20000 in
theorem c_X3_put {l : Launch} (hl : l.stackTraces = false) {G : GG} {Z : ZZ} (hz : ZOk G Z) (hZ : ZM Z) (q0 : Nat) (v1 : Int32) (v2 : Int32) (v3 : Int32) (M : Mem) (hq0 : q0 < 18) (r : Unit) (M' : Mem) (hf : f_X3_put q0 v1 v2 v3 M = some (r, M')) : CN (QcV G Z r M') l G Z yX3_put cX3_put 4 none 2 [.ref (Z.1 (iSt q0)), .int v1, .int v2, .int v3] M :=
  CN.of [(0, .ref (Z.1 (iSt q0))), (1, .int v1), (2, .int v2), (3, .int v3)] hl (by decide +kernel) (Nat.le_of_ble_eq_true rfl) rfl (fun _ hC => w_X3_put hC hz hZ q0 v1 v2 v3 M hq0 hf)
set_option maxRecDepth 20000 in
theorem w_X3_silenceStaff_b2 {X : XX} {G : GG} {Z : ZZ} {r : Unit} {M' : Mem} (hC : Cx X G RX3 cX3_silenceStaff none 3 0 0 3) (hz : ZOk G Z) (hZ : ZM Z) (q0 : Nat) (v1 : Int32) (hq0 : q0 < 18) (k2 : Int32 → Mem → Option (Unit × Mem)) (hk2 : ∀ (u2 : Int32) (M : Mem), k2 u2 M = some (r, M') → V X G Z M 0 0 (QN X G (QcV G Z r M') 0 0) 2 [(0, .ref (Z.1 (iSt q0))), (1, .int v1), (2, .int u2)] []) (v2 : Int32) (M : Mem) (hf : f_X3_silenceStaff_b2 q0 v1 k2 v2 M = some (r, M')) : V X G Z M 0 0 (QN X G (QcV G Z r M') 0 0) 2 [(0, .ref (Z.1 (iSt q0))), (1, .int v1), (2, .int v2)] [] := by
  unfold f_X3_silenceStaff_b2 at hf
  refine r_iload_n hC dX3_silenceStaff_2 2 rfl ?_
  refine r_aload_n hC dX3_silenceStaff_3 0 rfl ?_
  refine gf_X3_29 hC (z_S hZ hq0) rfl dX3_silenceStaff_4 ?_
  refine r_icmp_ge 24 hC dX3_silenceStaff_7 (by decide) (fun h => ?_) (fun h => ?_)
  · have hf := if_T hf h
    exact r_vret hf hC (by decide) (by decide) dX3_silenceStaff_24
  · have hf := if_F hf h
    refine r_aload_n hC dX3_silenceStaff_10 0 rfl ?_
    refine r_iload_n hC dX3_silenceStaff_11 1 rfl ?_
    refine r_iload_n hC dX3_silenceStaff_12 2 rfl ?_
    refine r_bipush (v := (-9)) hC dX3_silenceStaff_13 rfl ?_
    refine r_callVV [] (fun r M1 h => c_X3_put (cx_st hC) hz hZ q0 v1 v2 (-9) _ hq0 r M1 h) hf cs_X3_66 hC (z_S hZ hq0) (q0 := (RX3, TX3, 4)) rfl rfl [.int v1, .int v2, .int (-9)] rfl rfl rfl (by decide) (by decide) (Nat.le_of_ble_eq_true rfl) (by decide) (by decide) dX3_silenceStaff_15 (fun x1 M2 hf => ?_)
    refine r_iinc (v := v2 + 1) (L' := [(2, .int (v2 + 1)), (0, .ref (Z.1 (iSt q0))), (1, .int v1)]) hC dX3_silenceStaff_18 2 rfl rfl (by decide) rfl ?_
    refine r_goto 2 hC dX3_silenceStaff_21 (by decide) ?_
    refine r_L [1, 2, 0] rfl ?_
    exact hk2 _ _ hf
set_option maxRecDepth 20000 in
theorem w_X3_silenceStaff {X : XX} {G : GG} {Z : ZZ} (hC : Cx X G RX3 cX3_silenceStaff none 3 0 0 3) (hz : ZOk G Z) (hZ : ZM Z) (q0 : Nat) (v1 : Int32) (M : Mem) (hq0 : q0 < 18) {r : Unit} {M' : Mem} (hf : f_X3_silenceStaff q0 v1 M = some (r, M')) : V X G Z M 0 0 (QN X G (QcV G Z r M') 0 0) 0 [(0, .ref (Z.1 (iSt q0))), (1, .int v1)] [] := by
  unfold f_X3_silenceStaff at hf
  refine r_iconst (v := 0) hC dX3_silenceStaff_0 rfl ?_
  refine r_istore_n (L' := [(2, .int 0), (0, .ref (Z.1 (iSt q0))), (1, .int v1)]) hC dX3_silenceStaff_1 (by decide) rfl ?_
  refine r_L [1, 2, 0] rfl ?_
  exact lq1_ind (P := fun (u2 : Int32) (M : Mem) => V X G Z M 0 0 (QN X G (QcV G Z r M') 0 0) 2 [(0, .ref (Z.1 (iSt q0))), (1, .int v1), (2, .int u2)] []) (fun kk hkk u2 M hf => w_X3_silenceStaff_b2 hC hz hZ q0 v1 hq0 kk hkk u2 M hf) _ _ _ hf
set_option maxRecDepth 20000 in
theorem c_X3_silenceStaff {l : Launch} (hl : l.stackTraces = false) {G : GG} {Z : ZZ} (hz : ZOk G Z) (hZ : ZM Z) (q0 : Nat) (v1 : Int32) (M : Mem) (hq0 : q0 < 18) (r : Unit) (M' : Mem) (hf : f_X3_silenceStaff q0 v1 M = some (r, M')) : CN (QcV G Z r M') l G Z yX3_silenceStaff cX3_silenceStaff 3 none 3 [.ref (Z.1 (iSt q0)), .int v1] M :=
  CN.of [(0, .ref (Z.1 (iSt q0))), (1, .int v1)] hl (by decide +kernel) (Nat.le_of_ble_eq_true rfl) rfl (fun _ hC => w_X3_silenceStaff hC hz hZ q0 v1 M hq0 hf)
set_option maxRecDepth 20000 in
theorem w_X3_moveStaff_b42 {X : XX} {G : GG} {Z : ZZ} {r : Int32} {M' : Mem} (hC : Cx X G RX3 cX3_moveStaff (some .int) 3 0 0 5) (hz : ZOk G Z) (hZ : ZM Z) (q0 : Nat) (v1 : Int32) (hq0 : q0 < 18) (M : Mem) (hf : f_X3_moveStaff_b42 q0 v1 M = some (r, M')) : V X G Z M 0 0 (QN X G (QcI G Z r M') 0 0) 42 [(0, .ref (Z.1 (iSt q0))), (1, .int v1)] [] := by
  unfold f_X3_moveStaff_b42 at hf
  refine r_aload_n hC dX3_moveStaff_42 0 rfl ?_
  refine r_iload_n hC dX3_moveStaff_43 1 rfl ?_
  refine r_callVI [] (fun r M1 h => c_X3_countStruckOf (cx_st hC) hz hZ q0 v1 _ hq0 r M1 h) hf cs_X3_58 hC (z_S hZ hq0) (q0 := (RX3, TX3, 4)) rfl rfl [.int v1] rfl rfl rfl (by decide) (by decide) (Nat.le_of_ble_eq_true rfl) (by decide) (by decide) dX3_moveStaff_44 (fun x7 M8 hf => ?_)
  exact r_iret hf hC (by decide) (by decide) dX3_moveStaff_47
set_option maxRecDepth 20000 in
theorem w_X3_moveStaff_b2 {X : XX} {G : GG} {Z : ZZ} {r : Int32} {M' : Mem} (hC : Cx X G RX3 cX3_moveStaff (some .int) 3 0 0 5) (hz : ZOk G Z) (hZ : ZM Z) (q0 : Nat) (v1 : Int32) (v2 : Int32) (hq0 : q0 < 18) (k2 : Int32 → Mem → Option (Int32 × Mem)) (hk2 : ∀ (u3 : Int32) (M : Mem), k2 u3 M = some (r, M') → V X G Z M 0 0 (QN X G (QcI G Z r M') 0 0) 2 [(0, .ref (Z.1 (iSt q0))), (1, .int v1), (2, .int v2), (3, .int u3)] []) (v3 : Int32) (M : Mem) (hf : f_X3_moveStaff_b2 q0 v1 v2 k2 v3 M = some (r, M')) : V X G Z M 0 0 (QN X G (QcI G Z r M') 0 0) 2 [(0, .ref (Z.1 (iSt q0))), (1, .int v1), (2, .int v2), (3, .int v3)] [] := by
  unfold f_X3_moveStaff_b2 at hf
  refine r_iload_n hC dX3_moveStaff_2 3 rfl ?_
  refine r_aload_n hC dX3_moveStaff_3 0 rfl ?_
  refine gf_X3_29 hC (z_S hZ hq0) rfl dX3_moveStaff_4 ?_
  refine r_icmp_ge 42 hC dX3_moveStaff_7 (by decide) (fun h => ?_) (fun h => ?_)
  · have hf := if_T hf h
    refine r_L [0, 1] rfl ?_
    exact w_X3_moveStaff_b42 hC hz hZ q0 v1 hq0 _ hf
  · have hf := if_F hf h
    refine r_aload_n hC dX3_moveStaff_10 0 rfl ?_
    refine r_iload_n hC dX3_moveStaff_11 1 rfl ?_
    refine r_iload_n hC dX3_moveStaff_12 3 rfl ?_
    refine r_callVI [] (fun r M1 h => c_X3_written (cx_st hC) hz hZ q0 v1 v3 _ hq0 r M1 h) hf cs_X3_51 hC (z_S hZ hq0) (q0 := (RX3, TX3, 4)) rfl rfl [.int v1, .int v3] rfl rfl rfl (by decide) (by decide) (Nat.le_of_ble_eq_true rfl) (by decide) (by decide) dX3_moveStaff_13 (fun x1 M2 hf => ?_)
    refine r_istore (L' := [(4, .int x1), (0, .ref (Z.1 (iSt q0))), (1, .int v1), (2, .int v2), (3, .int v3)]) hC dX3_moveStaff_16 (by decide) rfl ?_
    refine r_iload hC dX3_moveStaff_18 0 rfl ?_
    refine r_callSI [] (fun r M1 h => c_X3_isPitch (cx_st hC) hz hZ x1 _  r M1 h) hf cs_X3_55 hC  rfl rfl (by decide) (by decide) (Nat.le_of_ble_eq_true rfl) (by decide) (by decide) dX3_moveStaff_20 (fun x3 M4 hf => ?_)
    refine r_if_eq 36 hC dX3_moveStaff_23 (by decide) (fun h => ?_) (fun h => ?_)
    · have hf := if_T hf h
      refine r_iinc (v := v3 + 1) (L' := [(3, .int (v3 + 1)), (4, .int x1), (0, .ref (Z.1 (iSt q0))), (1, .int v1), (2, .int v2)]) hC dX3_moveStaff_36 4 rfl rfl (by decide) rfl ?_
      refine r_goto 2 hC dX3_moveStaff_39 (by decide) ?_
      refine r_L [2, 3, 4, 0] rfl ?_
      exact hk2 _ _ hf
    · have hf := if_F hf h
      refine r_aload_n hC dX3_moveStaff_26 1 rfl ?_
      refine r_iload_n hC dX3_moveStaff_27 2 rfl ?_
      refine r_iload_n hC dX3_moveStaff_28 4 rfl ?_
      refine r_iload hC dX3_moveStaff_29 0 rfl ?_
      refine r_iload_n hC dX3_moveStaff_31 3 rfl ?_
      refine r_iadd hC dX3_moveStaff_32 ?_
      refine r_callVV [] (fun r M1 h => c_X3_put (cx_st hC) hz hZ q0 v1 v3 (x1 + v2) _ hq0 r M1 h) hf cs_X3_66 hC (z_S hZ hq0) (q0 := (RX3, TX3, 4)) rfl rfl [.int v1, .int v3, .int (x1 + v2)] rfl rfl rfl (by decide) (by decide) (Nat.le_of_ble_eq_true rfl) (by decide) (by decide) dX3_moveStaff_33 (fun x5 M6 hf => ?_)
      refine r_iinc (v := v3 + 1) (L' := [(3, .int (v3 + 1)), (4, .int x1), (0, .ref (Z.1 (iSt q0))), (1, .int v1), (2, .int v2)]) hC dX3_moveStaff_36 4 rfl rfl (by decide) rfl ?_
      refine r_goto 2 hC dX3_moveStaff_39 (by decide) ?_
      refine r_L [2, 3, 4, 0] rfl ?_
      exact hk2 _ _ hf
set_option maxRecDepth 20000 in
theorem w_X3_moveStaff {X : XX} {G : GG} {Z : ZZ} (hC : Cx X G RX3 cX3_moveStaff (some .int) 3 0 0 5) (hz : ZOk G Z) (hZ : ZM Z) (q0 : Nat) (v1 : Int32) (v2 : Int32) (M : Mem) (hq0 : q0 < 18) {r : Int32} {M' : Mem} (hf : f_X3_moveStaff q0 v1 v2 M = some (r, M')) : V X G Z M 0 0 (QN X G (QcI G Z r M') 0 0) 0 [(0, .ref (Z.1 (iSt q0))), (1, .int v1), (2, .int v2)] [] := by
  unfold f_X3_moveStaff at hf
  refine r_iconst (v := 0) hC dX3_moveStaff_0 rfl ?_
  refine r_istore_n (L' := [(3, .int 0), (0, .ref (Z.1 (iSt q0))), (1, .int v1), (2, .int v2)]) hC dX3_moveStaff_1 (by decide) rfl ?_
  refine r_L [1, 2, 3, 0] rfl ?_
  exact lq1_ind (P := fun (u3 : Int32) (M : Mem) => V X G Z M 0 0 (QN X G (QcI G Z r M') 0 0) 2 [(0, .ref (Z.1 (iSt q0))), (1, .int v1), (2, .int v2), (3, .int u3)] []) (fun kk hkk u3 M hf => w_X3_moveStaff_b2 hC hz hZ q0 v1 v2 hq0 kk hkk u3 M hf) _ _ _ hf
set_option maxRecDepth 20000 in
theorem c_X3_moveStaff {l : Launch} (hl : l.stackTraces = false) {G : GG} {Z : ZZ} (hz : ZOk G Z) (hZ : ZM Z) (q0 : Nat) (v1 : Int32) (v2 : Int32) (M : Mem) (hq0 : q0 < 18) (r : Int32) (M' : Mem) (hf : f_X3_moveStaff q0 v1 v2 M = some (r, M')) : CN (QcI G Z r M') l G Z yX3_moveStaff cX3_moveStaff 5 (some .int) 3 [.ref (Z.1 (iSt q0)), .int v1, .int v2] M :=
  CN.of [(0, .ref (Z.1 (iSt q0))), (1, .int v1), (2, .int v2)] hl (by decide +kernel) (Nat.le_of_ble_eq_true rfl) rfl (fun _ hC => w_X3_moveStaff hC hz hZ q0 v1 v2 M hq0 hf)
set_option maxRecDepth 20000 in
theorem w_X3_swapStaves_b5 {X : XX} {G : GG} {Z : ZZ} {r : Int32} {M' : Mem} (hC : Cx X G RX3 cX3_swapStaves (some .int) 3 0 0 7) (hz : ZOk G Z) (hZ : ZM Z) (q0 : Nat) (v1 : Int32) (v2 : Int32) (hq0 : q0 < 18) (k5 : Int32 → Int32 → Mem → Option (Int32 × Mem)) (hk5 : ∀ (u3 : Int32) (u4 : Int32) (M : Mem), k5 u3 u4 M = some (r, M') → V X G Z M 0 0 (QN X G (QcI G Z r M') 0 0) 5 [(0, .ref (Z.1 (iSt q0))), (1, .int v1), (2, .int v2), (3, .int u3), (4, .int u4)] []) (v3 : Int32) (v4 : Int32) (M : Mem) (hf : f_X3_swapStaves_b5 q0 v1 v2 k5 v3 v4 M = some (r, M')) : V X G Z M 0 0 (QN X G (QcI G Z r M') 0 0) 5 [(0, .ref (Z.1 (iSt q0))), (1, .int v1), (2, .int v2), (3, .int v3), (4, .int v4)] [] := by
  unfold f_X3_swapStaves_b5 at hf
  refine r_iload hC dX3_swapStaves_5 4 rfl ?_
  refine r_aload_n hC dX3_swapStaves_7 0 rfl ?_
  refine gf_X3_29 hC (z_S hZ hq0) rfl dX3_swapStaves_8 ?_
  refine r_icmp_ge 66 hC dX3_swapStaves_11 (by decide) (fun h => ?_) (fun h => ?_)
  · have hf := if_T hf h
    refine r_iload_n hC dX3_swapStaves_66 3 rfl ?_
    exact r_iret hf hC (by decide) (by decide) dX3_swapStaves_67
  · have hf := if_F hf h
    refine r_aload_n hC dX3_swapStaves_14 0 rfl ?_
    refine r_iload_n hC dX3_swapStaves_15 1 rfl ?_
    refine r_iload hC dX3_swapStaves_16 4 rfl ?_
    refine r_callVI [] (fun r M1 h => c_X3_written (cx_st hC) hz hZ q0 v1 v4 _ hq0 r M1 h) hf cs_X3_51 hC (z_S hZ hq0) (q0 := (RX3, TX3, 4)) rfl rfl [.int v1, .int v4] rfl rfl rfl (by decide) (by decide) (Nat.le_of_ble_eq_true rfl) (by decide) (by decide) dX3_swapStaves_18 (fun x1 M2 hf => ?_)
    refine r_istore (L' := [(5, .int x1), (0, .ref (Z.1 (iSt q0))), (1, .int v1), (2, .int v2), (3, .int v3), (4, .int v4)]) hC dX3_swapStaves_21 (by decide) rfl ?_
    refine r_aload_n hC dX3_swapStaves_23 1 rfl ?_
    refine r_iload_n hC dX3_swapStaves_24 3 rfl ?_
    refine r_iload hC dX3_swapStaves_25 5 rfl ?_
    refine r_callVI [] (fun r M1 h => c_X3_written (cx_st hC) hz hZ q0 v2 v4 _ hq0 r M1 h) hf cs_X3_51 hC (z_S hZ hq0) (q0 := (RX3, TX3, 4)) rfl rfl [.int v2, .int v4] rfl rfl rfl (by decide) (by decide) (Nat.le_of_ble_eq_true rfl) (by decide) (by decide) dX3_swapStaves_27 (fun x3 M4 hf => ?_)
    refine r_istore (L' := [(6, .int x3), (5, .int x1), (0, .ref (Z.1 (iSt q0))), (1, .int v1), (2, .int v2), (3, .int v3), (4, .int v4)]) hC dX3_swapStaves_30 (by decide) rfl ?_
    refine r_iload hC dX3_swapStaves_32 1 rfl ?_
    refine r_iload hC dX3_swapStaves_34 0 rfl ?_
    refine r_icmp_eq 60 hC dX3_swapStaves_36 (by decide) (fun h => ?_) (fun h => ?_)
    · have hf := if_T hf h
      refine r_iinc (v := v4 + 1) (L' := [(4, .int (v4 + 1)), (6, .int x3), (5, .int x1), (0, .ref (Z.1 (iSt q0))), (1, .int v1), (2, .int v2), (3, .int v3)]) hC dX3_swapStaves_60 6 rfl rfl (by decide) rfl ?_
      refine r_goto 5 hC dX3_swapStaves_63 (by decide) ?_
      refine r_L [3, 4, 5, 6, 0] rfl ?_
      exact hk5 _ _ _ hf
    · have hf := if_F hf h
      refine r_iinc (v := v3 + 1) (L' := [(3, .int (v3 + 1)), (6, .int x3), (5, .int x1), (0, .ref (Z.1 (iSt q0))), (1, .int v1), (2, .int v2), (4, .int v4)]) hC dX3_swapStaves_39 5 rfl rfl (by decide) rfl ?_
      refine r_aload_n hC dX3_swapStaves_42 3 rfl ?_
      refine r_iload_n hC dX3_swapStaves_43 4 rfl ?_
      refine r_iload hC dX3_swapStaves_44 6 rfl ?_
      refine r_iload hC dX3_swapStaves_46 1 rfl ?_
      refine r_callVV [] (fun r M1 h => c_X3_put (cx_st hC) hz hZ q0 v1 v4 x3 _ hq0 r M1 h) hf cs_X3_66 hC (z_S hZ hq0) (q0 := (RX3, TX3, 4)) rfl rfl [.int v1, .int v4, .int x3] rfl rfl rfl (by decide) (by decide) (Nat.le_of_ble_eq_true rfl) (by decide) (by decide) dX3_swapStaves_48 (fun x5 M6 hf => ?_)
      refine r_aload_n hC dX3_swapStaves_51 3 rfl ?_
      refine r_iload_n hC dX3_swapStaves_52 5 rfl ?_
      refine r_iload hC dX3_swapStaves_53 6 rfl ?_
      refine r_iload hC dX3_swapStaves_55 2 rfl ?_
      refine r_callVV [] (fun r M1 h => c_X3_put (cx_st hC) hz hZ q0 v2 v4 x1 _ hq0 r M1 h) hf cs_X3_66 hC (z_S hZ hq0) (q0 := (RX3, TX3, 4)) rfl rfl [.int v2, .int v4, .int x1] rfl rfl rfl (by decide) (by decide) (Nat.le_of_ble_eq_true rfl) (by decide) (by decide) dX3_swapStaves_57 (fun x7 M8 hf => ?_)
      refine r_iinc (v := v4 + 1) (L' := [(4, .int (v4 + 1)), (3, .int (v3 + 1)), (6, .int x3), (5, .int x1), (0, .ref (Z.1 (iSt q0))), (1, .int v1), (2, .int v2)]) hC dX3_swapStaves_60 6 rfl rfl (by decide) rfl ?_
      refine r_goto 5 hC dX3_swapStaves_63 (by decide) ?_
      refine r_L [4, 5, 6, 1, 0] rfl ?_
      exact hk5 _ _ _ hf
set_option maxRecDepth 20000 in
theorem w_X3_swapStaves {X : XX} {G : GG} {Z : ZZ} (hC : Cx X G RX3 cX3_swapStaves (some .int) 3 0 0 7) (hz : ZOk G Z) (hZ : ZM Z) (q0 : Nat) (v1 : Int32) (v2 : Int32) (M : Mem) (hq0 : q0 < 18) {r : Int32} {M' : Mem} (hf : f_X3_swapStaves q0 v1 v2 M = some (r, M')) : V X G Z M 0 0 (QN X G (QcI G Z r M') 0 0) 0 [(0, .ref (Z.1 (iSt q0))), (1, .int v1), (2, .int v2)] [] := by
  unfold f_X3_swapStaves at hf
  refine r_iconst (v := 0) hC dX3_swapStaves_0 rfl ?_
  refine r_istore_n (L' := [(3, .int 0), (0, .ref (Z.1 (iSt q0))), (1, .int v1), (2, .int v2)]) hC dX3_swapStaves_1 (by decide) rfl ?_
  refine r_iconst (v := 0) hC dX3_swapStaves_2 rfl ?_
  refine r_istore (L' := [(4, .int 0), (3, .int 0), (0, .ref (Z.1 (iSt q0))), (1, .int v1), (2, .int v2)]) hC dX3_swapStaves_3 (by decide) rfl ?_
  refine r_L [2, 3, 4, 1, 0] rfl ?_
  exact lq2_ind (P := fun (u3 : Int32) (u4 : Int32) (M : Mem) => V X G Z M 0 0 (QN X G (QcI G Z r M') 0 0) 5 [(0, .ref (Z.1 (iSt q0))), (1, .int v1), (2, .int v2), (3, .int u3), (4, .int u4)] []) (fun kk hkk u3 u4 M hf => w_X3_swapStaves_b5 hC hz hZ q0 v1 v2 hq0 kk hkk u3 u4 M hf) _ _ _ _ hf
set_option maxRecDepth 20000 in
theorem c_X3_swapStaves {l : Launch} (hl : l.stackTraces = false) {G : GG} {Z : ZZ} (hz : ZOk G Z) (hZ : ZM Z) (q0 : Nat) (v1 : Int32) (v2 : Int32) (M : Mem) (hq0 : q0 < 18) (r : Int32) (M' : Mem) (hf : f_X3_swapStaves q0 v1 v2 M = some (r, M')) : CN (QcI G Z r M') l G Z yX3_swapStaves cX3_swapStaves 7 (some .int) 3 [.ref (Z.1 (iSt q0)), .int v1, .int v2] M :=
  CN.of [(0, .ref (Z.1 (iSt q0))), (1, .int v1), (2, .int v2)] hl (by decide +kernel) (Nat.le_of_ble_eq_true rfl) rfl (fun _ hC => w_X3_swapStaves hC hz hZ q0 v1 v2 M hq0 hf)
set_option maxRecDepth 20000 in
theorem w_X3_addStaff {X : XX} {G : GG} {Z : ZZ} (hC : Cx X G RX3 cX3_addStaff none 4 0 0 1) (hz : ZOk G Z) (hZ : ZM Z) (q0 : Nat) (M : Mem) (hq0 : q0 < 18) {r : Unit} {M' : Mem} (hf : f_X3_addStaff q0 M = some (r, M')) : V X G Z M 0 0 (QN X G (QcV G Z r M') 0 0) 0 [(0, .ref (Z.1 (iSt q0)))] [] := by
  unfold f_X3_addStaff at hf
  refine r_aload_n hC dX3_addStaff_0 0 rfl ?_
  refine gf_X3_25 hC (z_S hZ hq0) rfl dX3_addStaff_1 ?_
  refine r_iconst (v := 4) hC dX3_addStaff_4 rfl ?_
  refine r_icmp_ge 28 hC dX3_addStaff_5 (by decide) (fun h => ?_) (fun h => ?_)
  · have hf := if_T hf h
    exact r_vret hf hC (by decide) (by decide) dX3_addStaff_28
  · have hf := if_F hf h
    refine r_aload_n hC dX3_addStaff_8 0 rfl ?_
    refine r_dup hC dX3_addStaff_9 rfl ?_
    refine gf_X3_25 hC (z_S hZ hq0) rfl dX3_addStaff_10 ?_
    refine r_iconst (v := 1) hC dX3_addStaff_13 rfl ?_
    refine r_iadd hC dX3_addStaff_14 ?_
    refine pf_X3_25 hC hz (z_S hZ hq0) rfl dX3_addStaff_15 ?_
    refine r_aload_n hC dX3_addStaff_18 0 rfl ?_
    refine r_aload_n hC dX3_addStaff_19 0 rfl ?_
    refine gf_X3_25 hC (z_S hZ hq0) rfl dX3_addStaff_20 ?_
    refine r_iconst (v := 1) hC dX3_addStaff_23 rfl ?_
    refine r_isub hC dX3_addStaff_24 ?_
    refine r_callVV [] (fun r M1 h => c_X3_silenceStaff (cx_st hC) hz hZ q0 (((mw M (iSt q0) 2 ((M (iSt q0) 2) + 1)) (iSt q0) 2) - 1) _ hq0 r M1 h) hf cs_X3_70 hC (z_S hZ hq0) (q0 := (RX3, TX3, 4)) rfl rfl [.int (((mw M (iSt q0) 2 ((M (iSt q0) 2) + 1)) (iSt q0) 2) - 1)] rfl rfl rfl (by decide) (by decide) (Nat.le_of_ble_eq_true rfl) (by decide) (by decide) dX3_addStaff_25 (fun x1 M2 hf => ?_)
    exact r_vret hf hC (by decide) (by decide) dX3_addStaff_28
set_option maxRecDepth 20000 in
theorem c_X3_addStaff {l : Launch} (hl : l.stackTraces = false) {G : GG} {Z : ZZ} (hz : ZOk G Z) (hZ : ZM Z) (q0 : Nat) (M : Mem) (hq0 : q0 < 18) (r : Unit) (M' : Mem) (hf : f_X3_addStaff q0 M = some (r, M')) : CN (QcV G Z r M') l G Z yX3_addStaff cX3_addStaff 1 none 4 [.ref (Z.1 (iSt q0))] M :=
  CN.of [(0, .ref (Z.1 (iSt q0)))] hl (by decide +kernel) (Nat.le_of_ble_eq_true rfl) rfl (fun _ hC => w_X3_addStaff hC hz hZ q0 M hq0 hf)
set_option maxRecDepth 20000 in
theorem w_X3_dropStaff {X : XX} {G : GG} {Z : ZZ} (hC : Cx X G RX3 cX3_dropStaff none 0 0 0 1) (hz : ZOk G Z) (hZ : ZM Z) (q0 : Nat) (M : Mem) (hq0 : q0 < 18) {r : Unit} {M' : Mem} (hf : f_X3_dropStaff q0 M = some (r, M')) : V X G Z M 0 0 (QN X G (QcV G Z r M') 0 0) 0 [(0, .ref (Z.1 (iSt q0)))] [] := by
  unfold f_X3_dropStaff at hf
  refine r_aload_n hC dX3_dropStaff_0 0 rfl ?_
  refine gf_X3_25 hC (z_S hZ hq0) rfl dX3_dropStaff_1 ?_
  refine r_iconst (v := 1) hC dX3_dropStaff_4 rfl ?_
  refine r_icmp_le 18 hC dX3_dropStaff_5 (by decide) (fun h => ?_) (fun h => ?_)
  · have hf := if_T hf h
    exact r_vret hf hC (by decide) (by decide) dX3_dropStaff_18
  · have hf := if_F hf h
    refine r_aload_n hC dX3_dropStaff_8 0 rfl ?_
    refine r_dup hC dX3_dropStaff_9 rfl ?_
    refine gf_X3_25 hC (z_S hZ hq0) rfl dX3_dropStaff_10 ?_
    refine r_iconst (v := 1) hC dX3_dropStaff_13 rfl ?_
    refine r_isub hC dX3_dropStaff_14 ?_
    refine pf_X3_25 hC hz (z_S hZ hq0) rfl dX3_dropStaff_15 ?_
    exact r_vret hf hC (by decide) (by decide) dX3_dropStaff_18
set_option maxRecDepth 20000 in
theorem c_X3_dropStaff {l : Launch} (hl : l.stackTraces = false) {G : GG} {Z : ZZ} (hz : ZOk G Z) (hZ : ZM Z) (q0 : Nat) (M : Mem) (hq0 : q0 < 18) (r : Unit) (M' : Mem) (hf : f_X3_dropStaff q0 M = some (r, M')) : CN (QcV G Z r M') l G Z yX3_dropStaff cX3_dropStaff 1 none 0 [.ref (Z.1 (iSt q0))] M :=
  CN.of [(0, .ref (Z.1 (iSt q0)))] hl (by decide +kernel) (Nat.le_of_ble_eq_true rfl) rfl (fun _ hC => w_X3_dropStaff hC hz hZ q0 M hq0 hf)
set_option maxRecDepth 20000 in
theorem w_X3_openBeat_b62 {X : XX} {G : GG} {Z : ZZ} {r : Unit} {M' : Mem} (hC : Cx X G RX3 cX3_openBeat none 3 0 0 4) (hz : ZOk G Z) (hZ : ZM Z) (q0 : Nat) (v1 : Int32) (v2 : Int32) (hq0 : q0 < 18) (k22 : Int32 → Mem → Option (Unit × Mem)) (hk22 : ∀ (u2 : Int32) (M : Mem), k22 u2 M = some (r, M') → V X G Z M 0 0 (QN X G (QcV G Z r M') 0 0) 22 [(0, .ref (Z.1 (iSt q0))), (1, .int v1), (2, .int u2)] []) (M : Mem) (hf : f_X3_openBeat_b62 q0 v1 v2 k22 M = some (r, M')) : V X G Z M 0 0 (QN X G (QcV G Z r M') 0 0) 62 [(0, .ref (Z.1 (iSt q0))), (1, .int v1), (2, .int v2)] [] := by
  unfold f_X3_openBeat_b62 at hf
  refine r_aload_n hC dX3_openBeat_62 0 rfl ?_
  refine r_iload_n hC dX3_openBeat_63 2 rfl ?_
  refine r_iload_n hC dX3_openBeat_64 1 rfl ?_
  refine r_bipush (v := (-9)) hC dX3_openBeat_65 rfl ?_
  refine r_callVV [] (fun r M1 h => c_X3_put (cx_st hC) hz hZ q0 v2 v1 (-9) _ hq0 r M1 h) hf cs_X3_66 hC (z_S hZ hq0) (q0 := (RX3, TX3, 4)) rfl rfl [.int v2, .int v1, .int (-9)] rfl rfl rfl (by decide) (by decide) (Nat.le_of_ble_eq_true rfl) (by decide) (by decide) dX3_openBeat_67 (fun x5 M6 hf => ?_)
  refine r_iinc (v := v2 + 1) (L' := [(2, .int (v2 + 1)), (0, .ref (Z.1 (iSt q0))), (1, .int v1)]) hC dX3_openBeat_70 2 rfl rfl (by decide) rfl ?_
  refine r_goto 22 hC dX3_openBeat_73 (by decide) ?_
  refine r_L [1, 2, 0] rfl ?_
  exact hk22 _ _ hf
set_option maxRecDepth 20000 in
theorem w_X3_openBeat_b37 {X : XX} {G : GG} {Z : ZZ} {r : Unit} {M' : Mem} (hC : Cx X G RX3 cX3_openBeat none 3 0 0 4) (hz : ZOk G Z) (hZ : ZM Z) (q0 : Nat) (v1 : Int32) (v2 : Int32) (hq0 : q0 < 18) (k22 : Int32 → Mem → Option (Unit × Mem)) (hk22 : ∀ (u2 : Int32) (M : Mem), k22 u2 M = some (r, M') → V X G Z M 0 0 (QN X G (QcV G Z r M') 0 0) 22 [(0, .ref (Z.1 (iSt q0))), (1, .int v1), (2, .int u2)] []) (k37 : Int32 → Mem → Option (Unit × Mem)) (hk37 : ∀ (u3 : Int32) (M : Mem), k37 u3 M = some (r, M') → V X G Z M 0 0 (QN X G (QcV G Z r M') 0 0) 37 [(0, .ref (Z.1 (iSt q0))), (1, .int v1), (2, .int v2), (3, .int u3)] []) (v3 : Int32) (M : Mem) (hf : f_X3_openBeat_b37 q0 v1 v2 k22 k37 v3 M = some (r, M')) : V X G Z M 0 0 (QN X G (QcV G Z r M') 0 0) 37 [(0, .ref (Z.1 (iSt q0))), (1, .int v1), (2, .int v2), (3, .int v3)] [] := by
  unfold f_X3_openBeat_b37 at hf
  refine r_iload_n hC dX3_openBeat_37 3 rfl ?_
  refine r_iload_n hC dX3_openBeat_38 1 rfl ?_
  refine r_icmp_le 62 hC dX3_openBeat_39 (by decide) (fun h => ?_) (fun h => ?_)
  · have hf := if_T hf h
    refine r_L [0, 1, 2] rfl ?_
    exact w_X3_openBeat_b62 hC hz hZ q0 v1 v2 hq0 k22 hk22 _ hf
  · have hf := if_F hf h
    refine r_aload_n hC dX3_openBeat_42 0 rfl ?_
    refine r_iload_n hC dX3_openBeat_43 2 rfl ?_
    refine r_iload_n hC dX3_openBeat_44 3 rfl ?_
    refine r_aload_n hC dX3_openBeat_45 0 rfl ?_
    refine r_iload_n hC dX3_openBeat_46 2 rfl ?_
    refine r_iload_n hC dX3_openBeat_47 3 rfl ?_
    refine r_iconst (v := 1) hC dX3_openBeat_48 rfl ?_
    refine r_isub hC dX3_openBeat_49 ?_
    refine r_callVI [.int v3, .int v2, .ref (Z.1 (iSt q0))] (fun r M1 h => c_X3_written (cx_st hC) hz hZ q0 v2 (v3 - 1) _ hq0 r M1 h) hf cs_X3_51 hC (z_S hZ hq0) (q0 := (RX3, TX3, 4)) rfl rfl [.int v2, .int (v3 - 1)] rfl rfl rfl (by decide) (by decide) (Nat.le_of_ble_eq_true rfl) (by decide) (by decide) dX3_openBeat_50 (fun x1 M2 hf => ?_)
    refine r_callVV [] (fun r M1 h => c_X3_put (cx_st hC) hz hZ q0 v2 v3 x1 _ hq0 r M1 h) hf cs_X3_66 hC (z_S hZ hq0) (q0 := (RX3, TX3, 4)) rfl rfl [.int v2, .int v3, .int x1] rfl rfl rfl (by decide) (by decide) (Nat.le_of_ble_eq_true rfl) (by decide) (by decide) dX3_openBeat_53 (fun x3 M4 hf => ?_)
    refine r_iinc (v := v3 + (-1)) (L' := [(3, .int (v3 + (-1))), (0, .ref (Z.1 (iSt q0))), (1, .int v1), (2, .int v2)]) hC dX3_openBeat_56 3 rfl rfl (by decide) rfl ?_
    refine r_goto 37 hC dX3_openBeat_59 (by decide) ?_
    refine r_L [1, 2, 3, 0] rfl ?_
    exact hk37 _ _ hf
set_option maxRecDepth 20000 in
theorem w_X3_openBeat_b22 {X : XX} {G : GG} {Z : ZZ} {r : Unit} {M' : Mem} (hC : Cx X G RX3 cX3_openBeat none 3 0 0 4) (hz : ZOk G Z) (hZ : ZM Z) (q0 : Nat) (v1 : Int32) (hq0 : q0 < 18) (k22 : Int32 → Mem → Option (Unit × Mem)) (hk22 : ∀ (u2 : Int32) (M : Mem), k22 u2 M = some (r, M') → V X G Z M 0 0 (QN X G (QcV G Z r M') 0 0) 22 [(0, .ref (Z.1 (iSt q0))), (1, .int v1), (2, .int u2)] []) (v2 : Int32) (M : Mem) (hf : f_X3_openBeat_b22 q0 v1 k22 v2 M = some (r, M')) : V X G Z M 0 0 (QN X G (QcV G Z r M') 0 0) 22 [(0, .ref (Z.1 (iSt q0))), (1, .int v1), (2, .int v2)] [] := by
  unfold f_X3_openBeat_b22 at hf
  refine r_iload_n hC dX3_openBeat_22 2 rfl ?_
  refine r_aload_n hC dX3_openBeat_23 0 rfl ?_
  refine gf_X3_25 hC (z_S hZ hq0) rfl dX3_openBeat_24 ?_
  refine r_icmp_ge 76 hC dX3_openBeat_27 (by decide) (fun h => ?_) (fun h => ?_)
  · have hf := if_T hf h
    exact r_vret hf hC (by decide) (by decide) dX3_openBeat_76
  · have hf := if_F hf h
    refine r_aload_n hC dX3_openBeat_30 0 rfl ?_
    refine gf_X3_29 hC (z_S hZ hq0) rfl dX3_openBeat_31 ?_
    refine r_iconst (v := 1) hC dX3_openBeat_34 rfl ?_
    refine r_isub hC dX3_openBeat_35 ?_
    refine r_istore_n (L' := [(3, .int ((M (iSt q0) 3) - 1)), (0, .ref (Z.1 (iSt q0))), (1, .int v1), (2, .int v2)]) hC dX3_openBeat_36 (by decide) rfl ?_
    refine r_L [1, 2, 3, 0] rfl ?_
    exact lq1_ind (P := fun (u3 : Int32) (M : Mem) => V X G Z M 0 0 (QN X G (QcV G Z r M') 0 0) 37 [(0, .ref (Z.1 (iSt q0))), (1, .int v1), (2, .int v2), (3, .int u3)] []) (fun kk hkk u3 M hf => w_X3_openBeat_b37 hC hz hZ q0 v1 v2 hq0 k22 hk22 kk hkk u3 M hf) _ _ _ hf
set_option maxRecDepth 20000 in
theorem w_X3_openBeat {X : XX} {G : GG} {Z : ZZ} (hC : Cx X G RX3 cX3_openBeat none 3 0 0 4) (hz : ZOk G Z) (hZ : ZM Z) (q0 : Nat) (v1 : Int32) (M : Mem) (hq0 : q0 < 18) {r : Unit} {M' : Mem} (hf : f_X3_openBeat q0 v1 M = some (r, M')) : V X G Z M 0 0 (QN X G (QcV G Z r M') 0 0) 0 [(0, .ref (Z.1 (iSt q0))), (1, .int v1)] [] := by
  unfold f_X3_openBeat at hf
  refine r_aload_n hC dX3_openBeat_0 0 rfl ?_
  refine gf_X3_29 hC (z_S hZ hq0) rfl dX3_openBeat_1 ?_
  refine r_bipush (v := 16) hC dX3_openBeat_4 rfl ?_
  refine r_icmp_lt 10 hC dX3_openBeat_6 (by decide) (fun h => ?_) (fun h => ?_)
  · have hf := if_T hf h
    refine r_aload_n hC dX3_openBeat_10 0 rfl ?_
    refine r_dup hC dX3_openBeat_11 rfl ?_
    refine gf_X3_29 hC (z_S hZ hq0) rfl dX3_openBeat_12 ?_
    refine r_iconst (v := 1) hC dX3_openBeat_15 rfl ?_
    refine r_iadd hC dX3_openBeat_16 ?_
    refine pf_X3_29 hC hz (z_S hZ hq0) rfl dX3_openBeat_17 ?_
    refine r_iconst (v := 0) hC dX3_openBeat_20 rfl ?_
    refine r_istore_n (L' := [(2, .int 0), (0, .ref (Z.1 (iSt q0))), (1, .int v1)]) hC dX3_openBeat_21 (by decide) rfl ?_
    refine r_L [1, 2, 0] rfl ?_
    exact lq1_ind (P := fun (u2 : Int32) (M : Mem) => V X G Z M 0 0 (QN X G (QcV G Z r M') 0 0) 22 [(0, .ref (Z.1 (iSt q0))), (1, .int v1), (2, .int u2)] []) (fun kk hkk u2 M hf => w_X3_openBeat_b22 hC hz hZ q0 v1 hq0 kk hkk u2 M hf) _ _ _ hf
  · have hf := if_F hf h
    exact r_vret hf hC (by decide) (by decide) dX3_openBeat_9
set_option maxRecDepth 20000 in
theorem c_X3_openBeat {l : Launch} (hl : l.stackTraces = false) {G : GG} {Z : ZZ} (hz : ZOk G Z) (hZ : ZM Z) (q0 : Nat) (v1 : Int32) (M : Mem) (hq0 : q0 < 18) (r : Unit) (M' : Mem) (hf : f_X3_openBeat q0 v1 M = some (r, M')) : CN (QcV G Z r M') l G Z yX3_openBeat cX3_openBeat 4 none 3 [.ref (Z.1 (iSt q0)), .int v1] M :=
  CN.of [(0, .ref (Z.1 (iSt q0))), (1, .int v1)] hl (by decide +kernel) (Nat.le_of_ble_eq_true rfl) rfl (fun _ hC => w_X3_openBeat hC hz hZ q0 v1 M hq0 hf)
set_option maxRecDepth 20000 in
theorem w_X3_closeBeat_b21 {X : XX} {G : GG} {Z : ZZ} {r : Unit} {M' : Mem} (hC : Cx X G RX3 cX3_closeBeat none 3 0 0 4) (hz : ZOk G Z) (hZ : ZM Z) (q0 : Nat) (v1 : Int32) (v2 : Int32) (hq0 : q0 < 18) (k11 : Int32 → Mem → Option (Unit × Mem)) (hk11 : ∀ (u2 : Int32) (M : Mem), k11 u2 M = some (r, M') → V X G Z M 0 0 (QN X G (QcV G Z r M') 0 0) 11 [(0, .ref (Z.1 (iSt q0))), (1, .int v1), (2, .int u2)] []) (k21 : Int32 → Mem → Option (Unit × Mem)) (hk21 : ∀ (u3 : Int32) (M : Mem), k21 u3 M = some (r, M') → V X G Z M 0 0 (QN X G (QcV G Z r M') 0 0) 21 [(0, .ref (Z.1 (iSt q0))), (1, .int v1), (2, .int v2), (3, .int u3)] []) (v3 : Int32) (M : Mem) (hf : f_X3_closeBeat_b21 q0 v1 v2 k11 k21 v3 M = some (r, M')) : V X G Z M 0 0 (QN X G (QcV G Z r M') 0 0) 21 [(0, .ref (Z.1 (iSt q0))), (1, .int v1), (2, .int v2), (3, .int v3)] [] := by
  unfold f_X3_closeBeat_b21 at hf
  refine r_iload_n hC dX3_closeBeat_21 3 rfl ?_
  refine r_aload_n hC dX3_closeBeat_22 0 rfl ?_
  refine gf_X3_29 hC (z_S hZ hq0) rfl dX3_closeBeat_23 ?_
  refine r_iconst (v := 1) hC dX3_closeBeat_26 rfl ?_
  refine r_isub hC dX3_closeBeat_27 ?_
  refine r_icmp_ge 51 hC dX3_closeBeat_28 (by decide) (fun h => ?_) (fun h => ?_)
  · have hf := if_T hf h
    refine r_iinc (v := v2 + 1) (L' := [(2, .int (v2 + 1)), (0, .ref (Z.1 (iSt q0))), (1, .int v1), (3, .int v3)]) hC dX3_closeBeat_51 2 rfl rfl (by decide) rfl ?_
    refine r_goto 11 hC dX3_closeBeat_54 (by decide) ?_
    refine r_L [1, 2, 0] rfl ?_
    exact hk11 _ _ hf
  · have hf := if_F hf h
    refine r_aload_n hC dX3_closeBeat_31 0 rfl ?_
    refine r_iload_n hC dX3_closeBeat_32 2 rfl ?_
    refine r_iload_n hC dX3_closeBeat_33 3 rfl ?_
    refine r_aload_n hC dX3_closeBeat_34 0 rfl ?_
    refine r_iload_n hC dX3_closeBeat_35 2 rfl ?_
    refine r_iload_n hC dX3_closeBeat_36 3 rfl ?_
    refine r_iconst (v := 1) hC dX3_closeBeat_37 rfl ?_
    refine r_iadd hC dX3_closeBeat_38 ?_
    refine r_callVI [.int v3, .int v2, .ref (Z.1 (iSt q0))] (fun r M1 h => c_X3_written (cx_st hC) hz hZ q0 v2 (v3 + 1) _ hq0 r M1 h) hf cs_X3_51 hC (z_S hZ hq0) (q0 := (RX3, TX3, 4)) rfl rfl [.int v2, .int (v3 + 1)] rfl rfl rfl (by decide) (by decide) (Nat.le_of_ble_eq_true rfl) (by decide) (by decide) dX3_closeBeat_39 (fun x1 M2 hf => ?_)
    refine r_callVV [] (fun r M1 h => c_X3_put (cx_st hC) hz hZ q0 v2 v3 x1 _ hq0 r M1 h) hf cs_X3_66 hC (z_S hZ hq0) (q0 := (RX3, TX3, 4)) rfl rfl [.int v2, .int v3, .int x1] rfl rfl rfl (by decide) (by decide) (Nat.le_of_ble_eq_true rfl) (by decide) (by decide) dX3_closeBeat_42 (fun x3 M4 hf => ?_)
    refine r_iinc (v := v3 + 1) (L' := [(3, .int (v3 + 1)), (0, .ref (Z.1 (iSt q0))), (1, .int v1), (2, .int v2)]) hC dX3_closeBeat_45 3 rfl rfl (by decide) rfl ?_
    refine r_goto 21 hC dX3_closeBeat_48 (by decide) ?_
    refine r_L [1, 2, 3, 0] rfl ?_
    exact hk21 _ _ hf
set_option maxRecDepth 20000 in
theorem w_X3_closeBeat_b57 {X : XX} {G : GG} {Z : ZZ} {r : Unit} {M' : Mem} (hC : Cx X G RX3 cX3_closeBeat none 3 0 0 4) (hz : ZOk G Z) (hZ : ZM Z) (q0 : Nat) (hq0 : q0 < 18) (M : Mem) (hf : f_X3_closeBeat_b57 q0 M = some (r, M')) : V X G Z M 0 0 (QN X G (QcV G Z r M') 0 0) 57 [(0, .ref (Z.1 (iSt q0)))] [] := by
  unfold f_X3_closeBeat_b57 at hf
  refine r_aload_n hC dX3_closeBeat_57 0 rfl ?_
  refine r_dup hC dX3_closeBeat_58 rfl ?_
  refine gf_X3_29 hC (z_S hZ hq0) rfl dX3_closeBeat_59 ?_
  refine r_iconst (v := 1) hC dX3_closeBeat_62 rfl ?_
  refine r_isub hC dX3_closeBeat_63 ?_
  refine pf_X3_29 hC hz (z_S hZ hq0) rfl dX3_closeBeat_64 ?_
  exact r_vret hf hC (by decide) (by decide) dX3_closeBeat_67
set_option maxRecDepth 20000 in
theorem w_X3_closeBeat_b11 {X : XX} {G : GG} {Z : ZZ} {r : Unit} {M' : Mem} (hC : Cx X G RX3 cX3_closeBeat none 3 0 0 4) (hz : ZOk G Z) (hZ : ZM Z) (q0 : Nat) (v1 : Int32) (hq0 : q0 < 18) (k11 : Int32 → Mem → Option (Unit × Mem)) (hk11 : ∀ (u2 : Int32) (M : Mem), k11 u2 M = some (r, M') → V X G Z M 0 0 (QN X G (QcV G Z r M') 0 0) 11 [(0, .ref (Z.1 (iSt q0))), (1, .int v1), (2, .int u2)] []) (v2 : Int32) (M : Mem) (hf : f_X3_closeBeat_b11 q0 v1 k11 v2 M = some (r, M')) : V X G Z M 0 0 (QN X G (QcV G Z r M') 0 0) 11 [(0, .ref (Z.1 (iSt q0))), (1, .int v1), (2, .int v2)] [] := by
  unfold f_X3_closeBeat_b11 at hf
  refine r_iload_n hC dX3_closeBeat_11 2 rfl ?_
  refine r_aload_n hC dX3_closeBeat_12 0 rfl ?_
  refine gf_X3_25 hC (z_S hZ hq0) rfl dX3_closeBeat_13 ?_
  refine r_icmp_ge 57 hC dX3_closeBeat_16 (by decide) (fun h => ?_) (fun h => ?_)
  · have hf := if_T hf h
    refine r_L [0] rfl ?_
    exact w_X3_closeBeat_b57 hC hz hZ q0 hq0 _ hf
  · have hf := if_F hf h
    refine r_iload_n hC dX3_closeBeat_19 1 rfl ?_
    refine r_istore_n (L' := [(3, .int v1), (0, .ref (Z.1 (iSt q0))), (1, .int v1), (2, .int v2)]) hC dX3_closeBeat_20 (by decide) rfl ?_
    refine r_L [1, 2, 3, 0] rfl ?_
    exact lq1_ind (P := fun (u3 : Int32) (M : Mem) => V X G Z M 0 0 (QN X G (QcV G Z r M') 0 0) 21 [(0, .ref (Z.1 (iSt q0))), (1, .int v1), (2, .int v2), (3, .int u3)] []) (fun kk hkk u3 M hf => w_X3_closeBeat_b21 hC hz hZ q0 v1 v2 hq0 k11 hk11 kk hkk u3 M hf) _ _ _ hf
set_option maxRecDepth 20000 in
theorem w_X3_closeBeat {X : XX} {G : GG} {Z : ZZ} (hC : Cx X G RX3 cX3_closeBeat none 3 0 0 4) (hz : ZOk G Z) (hZ : ZM Z) (q0 : Nat) (v1 : Int32) (M : Mem) (hq0 : q0 < 18) {r : Unit} {M' : Mem} (hf : f_X3_closeBeat q0 v1 M = some (r, M')) : V X G Z M 0 0 (QN X G (QcV G Z r M') 0 0) 0 [(0, .ref (Z.1 (iSt q0))), (1, .int v1)] [] := by
  unfold f_X3_closeBeat at hf
  refine r_aload_n hC dX3_closeBeat_0 0 rfl ?_
  refine gf_X3_29 hC (z_S hZ hq0) rfl dX3_closeBeat_1 ?_
  refine r_iconst (v := 1) hC dX3_closeBeat_4 rfl ?_
  refine r_icmp_gt 9 hC dX3_closeBeat_5 (by decide) (fun h => ?_) (fun h => ?_)
  · have hf := if_T hf h
    refine r_iconst (v := 0) hC dX3_closeBeat_9 rfl ?_
    refine r_istore_n (L' := [(2, .int 0), (0, .ref (Z.1 (iSt q0))), (1, .int v1)]) hC dX3_closeBeat_10 (by decide) rfl ?_
    refine r_L [1, 2, 0] rfl ?_
    exact lq1_ind (P := fun (u2 : Int32) (M : Mem) => V X G Z M 0 0 (QN X G (QcV G Z r M') 0 0) 11 [(0, .ref (Z.1 (iSt q0))), (1, .int v1), (2, .int u2)] []) (fun kk hkk u2 M hf => w_X3_closeBeat_b11 hC hz hZ q0 v1 hq0 kk hkk u2 M hf) _ _ _ hf
  · have hf := if_F hf h
    exact r_vret hf hC (by decide) (by decide) dX3_closeBeat_8
set_option maxRecDepth 20000 in
theorem c_X3_closeBeat {l : Launch} (hl : l.stackTraces = false) {G : GG} {Z : ZZ} (hz : ZOk G Z) (hZ : ZM Z) (q0 : Nat) (v1 : Int32) (M : Mem) (hq0 : q0 < 18) (r : Unit) (M' : Mem) (hf : f_X3_closeBeat q0 v1 M = some (r, M')) : CN (QcV G Z r M') l G Z yX3_closeBeat cX3_closeBeat 4 none 3 [.ref (Z.1 (iSt q0)), .int v1] M :=
  CN.of [(0, .ref (Z.1 (iSt q0))), (1, .int v1)] hl (by decide +kernel) (Nat.le_of_ble_eq_true rfl) rfl (fun _ hC => w_X3_closeBeat hC hz hZ q0 v1 M hq0 hf)
set_option maxRecDepth 20000 in
theorem w_X3_dropLooseHolds_b12 {X : XX} {G : GG} {Z : ZZ} {r : Unit} {M' : Mem} (hC : Cx X G RX3 cX3_dropLooseHolds none 3 0 0 3) (hz : ZOk G Z) (hZ : ZM Z) (q0 : Nat) (v1 : Int32) (hq0 : q0 < 18) (k2 : Int32 → Mem → Option (Unit × Mem)) (hk2 : ∀ (u1 : Int32) (M : Mem), k2 u1 M = some (r, M') → V X G Z M 0 0 (QN X G (QcV G Z r M') 0 0) 2 [(0, .ref (Z.1 (iSt q0))), (1, .int u1)] []) (k12 : Int32 → Mem → Option (Unit × Mem)) (hk12 : ∀ (u2 : Int32) (M : Mem), k12 u2 M = some (r, M') → V X G Z M 0 0 (QN X G (QcV G Z r M') 0 0) 12 [(0, .ref (Z.1 (iSt q0))), (1, .int v1), (2, .int u2)] []) (v2 : Int32) (M : Mem) (hf : f_X3_dropLooseHolds_b12 q0 v1 k2 k12 v2 M = some (r, M')) : V X G Z M 0 0 (QN X G (QcV G Z r M') 0 0) 12 [(0, .ref (Z.1 (iSt q0))), (1, .int v1), (2, .int v2)] [] := by
  unfold f_X3_dropLooseHolds_b12 at hf
  refine r_iload_n hC dX3_dropLooseHolds_12 2 rfl ?_
  refine r_aload_n hC dX3_dropLooseHolds_13 0 rfl ?_
  refine gf_X3_29 hC (z_S hZ hq0) rfl dX3_dropLooseHolds_14 ?_
  refine r_icmp_ge 54 hC dX3_dropLooseHolds_17 (by decide) (fun h => ?_) (fun h => ?_)
  · have hf := if_T hf h
    refine r_iinc (v := v1 + 1) (L' := [(1, .int (v1 + 1)), (0, .ref (Z.1 (iSt q0))), (2, .int v2)]) hC dX3_dropLooseHolds_54 1 rfl rfl (by decide) rfl ?_
    refine r_goto 2 hC dX3_dropLooseHolds_57 (by decide) ?_
    refine r_L [1, 0] rfl ?_
    exact hk2 _ _ hf
  · have hf := if_F hf h
    refine r_aload_n hC dX3_dropLooseHolds_20 0 rfl ?_
    refine r_iload_n hC dX3_dropLooseHolds_21 1 rfl ?_
    refine r_iload_n hC dX3_dropLooseHolds_22 2 rfl ?_
    refine r_callVI [] (fun r M1 h => c_X3_written (cx_st hC) hz hZ q0 v1 v2 _ hq0 r M1 h) hf cs_X3_51 hC (z_S hZ hq0) (q0 := (RX3, TX3, 4)) rfl rfl [.int v1, .int v2] rfl rfl rfl (by decide) (by decide) (Nat.le_of_ble_eq_true rfl) (by decide) (by decide) dX3_dropLooseHolds_23 (fun x1 M2 hf => ?_)
    refine r_bipush (v := 99) hC dX3_dropLooseHolds_26 rfl ?_
    refine r_icmp_ne 48 hC dX3_dropLooseHolds_28 (by decide) (fun h => ?_) (fun h => ?_)
    · have hf := if_F hf h
      refine r_iinc (v := v2 + 1) (L' := [(2, .int (v2 + 1)), (0, .ref (Z.1 (iSt q0))), (1, .int v1)]) hC dX3_dropLooseHolds_48 2 rfl rfl (by decide) rfl ?_
      refine r_goto 12 hC dX3_dropLooseHolds_51 (by decide) ?_
      refine r_L [1, 2, 0] rfl ?_
      exact hk12 _ _ hf
    · have hf := if_T hf h
      refine r_aload_n hC dX3_dropLooseHolds_31 0 rfl ?_
      refine r_iload_n hC dX3_dropLooseHolds_32 1 rfl ?_
      refine r_iload_n hC dX3_dropLooseHolds_33 2 rfl ?_
      refine r_callVI [] (fun r M1 h => c_X3_allowsHold (cx_st hC) hz hZ q0 v1 v2 _ hq0 r M1 h) hf cs_X3_74 hC (z_S hZ hq0) (q0 := (RX3, TX3, 4)) rfl rfl [.int v1, .int v2] rfl rfl rfl (by decide) (by decide) (Nat.le_of_ble_eq_true rfl) (by decide) (by decide) dX3_dropLooseHolds_34 (fun x3 M4 hf => ?_)
      refine r_if_ne 48 hC dX3_dropLooseHolds_37 (by decide) (fun h => ?_) (fun h => ?_)
      · have hf := if_F hf h
        refine r_iinc (v := v2 + 1) (L' := [(2, .int (v2 + 1)), (0, .ref (Z.1 (iSt q0))), (1, .int v1)]) hC dX3_dropLooseHolds_48 2 rfl rfl (by decide) rfl ?_
        refine r_goto 12 hC dX3_dropLooseHolds_51 (by decide) ?_
        refine r_L [1, 2, 0] rfl ?_
        exact hk12 _ _ hf
      · have hf := if_T hf h
        refine r_aload_n hC dX3_dropLooseHolds_40 0 rfl ?_
        refine r_iload_n hC dX3_dropLooseHolds_41 1 rfl ?_
        refine r_iload_n hC dX3_dropLooseHolds_42 2 rfl ?_
        refine r_bipush (v := (-9)) hC dX3_dropLooseHolds_43 rfl ?_
        refine r_callVV [] (fun r M1 h => c_X3_put (cx_st hC) hz hZ q0 v1 v2 (-9) _ hq0 r M1 h) hf cs_X3_66 hC (z_S hZ hq0) (q0 := (RX3, TX3, 4)) rfl rfl [.int v1, .int v2, .int (-9)] rfl rfl rfl (by decide) (by decide) (Nat.le_of_ble_eq_true rfl) (by decide) (by decide) dX3_dropLooseHolds_45 (fun x5 M6 hf => ?_)
        refine r_iinc (v := v2 + 1) (L' := [(2, .int (v2 + 1)), (0, .ref (Z.1 (iSt q0))), (1, .int v1)]) hC dX3_dropLooseHolds_48 2 rfl rfl (by decide) rfl ?_
        refine r_goto 12 hC dX3_dropLooseHolds_51 (by decide) ?_
        refine r_L [1, 2, 0] rfl ?_
        exact hk12 _ _ hf
set_option maxRecDepth 20000 in
theorem w_X3_dropLooseHolds_b2 {X : XX} {G : GG} {Z : ZZ} {r : Unit} {M' : Mem} (hC : Cx X G RX3 cX3_dropLooseHolds none 3 0 0 3) (hz : ZOk G Z) (hZ : ZM Z) (q0 : Nat) (hq0 : q0 < 18) (k2 : Int32 → Mem → Option (Unit × Mem)) (hk2 : ∀ (u1 : Int32) (M : Mem), k2 u1 M = some (r, M') → V X G Z M 0 0 (QN X G (QcV G Z r M') 0 0) 2 [(0, .ref (Z.1 (iSt q0))), (1, .int u1)] []) (v1 : Int32) (M : Mem) (hf : f_X3_dropLooseHolds_b2 q0 k2 v1 M = some (r, M')) : V X G Z M 0 0 (QN X G (QcV G Z r M') 0 0) 2 [(0, .ref (Z.1 (iSt q0))), (1, .int v1)] [] := by
  unfold f_X3_dropLooseHolds_b2 at hf
  refine r_iload_n hC dX3_dropLooseHolds_2 1 rfl ?_
  refine r_aload_n hC dX3_dropLooseHolds_3 0 rfl ?_
  refine gf_X3_25 hC (z_S hZ hq0) rfl dX3_dropLooseHolds_4 ?_
  refine r_icmp_ge 60 hC dX3_dropLooseHolds_7 (by decide) (fun h => ?_) (fun h => ?_)
  · have hf := if_T hf h
    exact r_vret hf hC (by decide) (by decide) dX3_dropLooseHolds_60
  · have hf := if_F hf h
    refine r_iconst (v := 0) hC dX3_dropLooseHolds_10 rfl ?_
    refine r_istore_n (L' := [(2, .int 0), (0, .ref (Z.1 (iSt q0))), (1, .int v1)]) hC dX3_dropLooseHolds_11 (by decide) rfl ?_
    refine r_L [1, 2, 0] rfl ?_
    exact lq1_ind (P := fun (u2 : Int32) (M : Mem) => V X G Z M 0 0 (QN X G (QcV G Z r M') 0 0) 12 [(0, .ref (Z.1 (iSt q0))), (1, .int v1), (2, .int u2)] []) (fun kk hkk u2 M hf => w_X3_dropLooseHolds_b12 hC hz hZ q0 v1 hq0 k2 hk2 kk hkk u2 M hf) _ _ _ hf
set_option maxRecDepth 20000 in
theorem w_X3_dropLooseHolds {X : XX} {G : GG} {Z : ZZ} (hC : Cx X G RX3 cX3_dropLooseHolds none 3 0 0 3) (hz : ZOk G Z) (hZ : ZM Z) (q0 : Nat) (M : Mem) (hq0 : q0 < 18) {r : Unit} {M' : Mem} (hf : f_X3_dropLooseHolds q0 M = some (r, M')) : V X G Z M 0 0 (QN X G (QcV G Z r M') 0 0) 0 [(0, .ref (Z.1 (iSt q0)))] [] := by
  unfold f_X3_dropLooseHolds at hf
  refine r_iconst (v := 0) hC dX3_dropLooseHolds_0 rfl ?_
  refine r_istore_n (L' := [(1, .int 0), (0, .ref (Z.1 (iSt q0)))]) hC dX3_dropLooseHolds_1 (by decide) rfl ?_
  refine r_L [1, 0] rfl ?_
  exact lq1_ind (P := fun (u1 : Int32) (M : Mem) => V X G Z M 0 0 (QN X G (QcV G Z r M') 0 0) 2 [(0, .ref (Z.1 (iSt q0))), (1, .int u1)] []) (fun kk hkk u1 M hf => w_X3_dropLooseHolds_b2 hC hz hZ q0 hq0 kk hkk u1 M hf) _ _ _ hf
set_option maxRecDepth 20000 in
theorem c_X3_dropLooseHolds {l : Launch} (hl : l.stackTraces = false) {G : GG} {Z : ZZ} (hz : ZOk G Z) (hZ : ZM Z) (q0 : Nat) (M : Mem) (hq0 : q0 < 18) (r : Unit) (M' : Mem) (hf : f_X3_dropLooseHolds q0 M = some (r, M')) : CN (QcV G Z r M') l G Z yX3_dropLooseHolds cX3_dropLooseHolds 3 none 3 [.ref (Z.1 (iSt q0))] M :=
  CN.of [(0, .ref (Z.1 (iSt q0)))] hl (by decide +kernel) (Nat.le_of_ble_eq_true rfl) rfl (fun _ hC => w_X3_dropLooseHolds hC hz hZ q0 M hq0 hf)
set_option maxRecDepth 20000 in
theorem w_X4_isFull {X : XX} {G : GG} {Z : ZZ} (hC : Cx X G RX4 cX4_isFull (some .boolean) 0 0 0 1) (hz : ZOk G Z) (hZ : ZM Z)  (M : Mem)  {r : Int32} {M' : Mem} (hf : f_X4_isFull  M = some (r, M')) : V X G Z M 0 0 (QN X G (QcI G Z r M') 0 0) 0 [(0, .ref (Z.1 1))] [] := by
  unfold f_X4_isFull at hf
  refine r_aload_n hC dX4_isFull_0 0 rfl ?_
  refine gf_X4_15 hC (z_1 hZ 1 (by decide) rfl) rfl dX4_isFull_1 ?_
  refine r_sipush (v := 140) hC dX4_isFull_4 rfl ?_
  refine r_icmp_lt 14 hC dX4_isFull_7 (by decide) (fun h => ?_) (fun h => ?_)
  · have hf := if_T hf h
    refine r_iconst (v := 0) hC dX4_isFull_14 rfl ?_
    exact r_zret hf hC rfl rfl (by decide) (by decide) dX4_isFull_15
  · have hf := if_F hf h
    refine r_iconst (v := 1) hC dX4_isFull_10 rfl ?_
    refine r_goto 15 hC dX4_isFull_11 (by decide) ?_
    exact r_zret hf hC rfl rfl (by decide) (by decide) dX4_isFull_15
set_option maxRecDepth 20000 in
theorem c_X4_isFull {l : Launch} (hl : l.stackTraces = false) {G : GG} {Z : ZZ} (hz : ZOk G Z) (hZ : ZM Z)  (M : Mem)  (r : Int32) (M' : Mem) (hf : f_X4_isFull  M = some (r, M')) : CN (QcI G Z r M') l G Z yX4_isFull cX4_isFull 1 (some .boolean) 0 [.ref (Z.1 1)] M :=
  CN.of [(0, .ref (Z.1 1))] hl (by decide +kernel) (Nat.le_of_ble_eq_true rfl) rfl (fun _ hC => w_X4_isFull hC hz hZ  M  hf)
set_option maxRecDepth 20000 in
theorem w_X4_add {X : XX} {G : GG} {Z : ZZ} (hC : Cx X G RX4 cX4_add (some .int) 1 0 0 2) (hz : ZOk G Z) (hZ : ZM Z) (v1 : Int32) (M : Mem)  {r : Int32} {M' : Mem} (hf : f_X4_add v1 M = some (r, M')) : V X G Z M 0 0 (QN X G (QcI G Z r M') 0 0) 0 [(0, .ref (Z.1 1)), (1, .int v1)] [] := by
  unfold f_X4_add at hf
  refine r_aload_n hC dX4_add_0 0 rfl ?_
  refine r_callVI [] (fun r M1 h => c_X4_isFull (cx_st hC) hz hZ  _  r M1 h) hf cs_X4_19 hC (z_1 hZ 1 (by decide) rfl) (q0 := (RX4, TX4, 3)) rfl rfl [] rfl rfl rfl (by decide) (by decide) (Nat.le_of_ble_eq_true rfl) (by decide) (by decide) dX4_add_1 (fun x1 M2 hf => ?_)
  refine r_if_ne 27 hC dX4_add_4 (by decide) (fun h => ?_) (fun h => ?_)
  · have hf := if_F hf h
    refine r_aload_n hC dX4_add_27 0 rfl ?_
    refine gf_X4_15 hC (z_1 hZ 1 (by decide) rfl) rfl dX4_add_28 ?_
    exact r_iret hf hC (by decide) (by decide) dX4_add_31
  · have hf := if_T hf h
    refine r_aload_n hC dX4_add_7 0 rfl ?_
    refine gf_X4_9 hC (z_1 hZ 1 (by decide) rfl) rfl dX4_add_8 ?_
    refine r_aload_n hC dX4_add_11 0 rfl ?_
    refine gf_X4_15 hC (z_1 hZ 1 (by decide) rfl) rfl dX4_add_12 ?_
    refine r_iload_n hC dX4_add_15 1 rfl ?_
    have hin := if_K hf
    have hf := if_V hf
    refine r_cast hC hz (z_1 hZ 2 (by decide) rfl) (inb_vp hin) dX4_add_16 ?_
    refine r_aload_n hC dX4_add_17 0 rfl ?_
    refine r_dup hC dX4_add_18 rfl ?_
    refine gf_X4_15 hC (z_1 hZ 1 (by decide) rfl) rfl dX4_add_19 ?_
    refine r_iconst (v := 1) hC dX4_add_22 rfl ?_
    refine r_iadd hC dX4_add_23 ?_
    refine pf_X4_15 hC hz (z_1 hZ 1 (by decide) rfl) rfl dX4_add_24 ?_
    refine r_aload_n hC dX4_add_27 0 rfl ?_
    refine gf_X4_15 hC (z_1 hZ 1 (by decide) rfl) rfl dX4_add_28 ?_
    exact r_iret hf hC (by decide) (by decide) dX4_add_31
set_option maxRecDepth 20000 in
theorem c_X4_add {l : Launch} (hl : l.stackTraces = false) {G : GG} {Z : ZZ} (hz : ZOk G Z) (hZ : ZM Z) (v1 : Int32) (M : Mem)  (r : Int32) (M' : Mem) (hf : f_X4_add v1 M = some (r, M')) : CN (QcI G Z r M') l G Z yX4_add cX4_add 2 (some .int) 1 [.ref (Z.1 1), .int v1] M :=
  CN.of [(0, .ref (Z.1 1)), (1, .int v1)] hl (by decide +kernel) (Nat.le_of_ble_eq_true rfl) rfl (fun _ hC => w_X4_add hC hz hZ v1 M  hf)
set_option maxRecDepth 20000 in
theorem w_X4_empty {X : XX} {G : GG} {Z : ZZ} (hC : Cx X G RX4 cX4_empty (some .int) 0 0 0 2) (hz : ZOk G Z) (hZ : ZM Z)  (M : Mem)  {r : Int32} {M' : Mem} (hf : f_X4_empty  M = some (r, M')) : V X G Z M 0 0 (QN X G (QcI G Z r M') 0 0) 0 [(0, .ref (Z.1 1))] [] := by
  unfold f_X4_empty at hf
  refine r_aload_n hC dX4_empty_0 0 rfl ?_
  refine gf_X4_15 hC (z_1 hZ 1 (by decide) rfl) rfl dX4_empty_1 ?_
  refine r_istore_n (L' := [(1, .int (M 1 1)), (0, .ref (Z.1 1))]) hC dX4_empty_4 (by decide) rfl ?_
  refine r_aload_n hC dX4_empty_5 1 rfl ?_
  refine r_iconst (v := 0) hC dX4_empty_6 rfl ?_
  refine pf_X4_15 hC hz (z_1 hZ 1 (by decide) rfl) rfl dX4_empty_7 ?_
  refine r_iload_n hC dX4_empty_10 0 rfl ?_
  exact r_iret hf hC (by decide) (by decide) dX4_empty_11
set_option maxRecDepth 20000 in
theorem c_X4_empty {l : Launch} (hl : l.stackTraces = false) {G : GG} {Z : ZZ} (hz : ZOk G Z) (hZ : ZM Z)  (M : Mem)  (r : Int32) (M' : Mem) (hf : f_X4_empty  M = some (r, M')) : CN (QcI G Z r M') l G Z yX4_empty cX4_empty 2 (some .int) 0 [.ref (Z.1 1)] M :=
  CN.of [(0, .ref (Z.1 1))] hl (by decide +kernel) (Nat.le_of_ble_eq_true rfl) rfl (fun _ hC => w_X4_empty hC hz hZ  M  hf)
set_option maxRecDepth 20000 in
theorem w_X4_signAt {X : XX} {G : GG} {Z : ZZ} (hC : Cx X G RX4 cX4_signAt (some .int) 0 0 0 2) (hz : ZOk G Z) (hZ : ZM Z) (v1 : Int32) (M : Mem)  {r : Int32} {M' : Mem} (hf : f_X4_signAt v1 M = some (r, M')) : V X G Z M 0 0 (QN X G (QcI G Z r M') 0 0) 0 [(0, .ref (Z.1 1)), (1, .int v1)] [] := by
  unfold f_X4_signAt at hf
  refine r_iload_n hC dX4_signAt_0 1 rfl ?_
  refine r_if_lt 21 hC dX4_signAt_1 (by decide) (fun h => ?_) (fun h => ?_)
  · have hf := if_T hf h
    refine r_iconst (v := (-1)) hC dX4_signAt_21 rfl ?_
    exact r_iret hf hC (by decide) (by decide) dX4_signAt_22
  · have hf := if_F hf h
    refine r_iload_n hC dX4_signAt_4 1 rfl ?_
    refine r_aload_n hC dX4_signAt_5 0 rfl ?_
    refine gf_X4_15 hC (z_1 hZ 1 (by decide) rfl) rfl dX4_signAt_6 ?_
    refine r_icmp_ge 21 hC dX4_signAt_9 (by decide) (fun h => ?_) (fun h => ?_)
    · have hf := if_T hf h
      refine r_iconst (v := (-1)) hC dX4_signAt_21 rfl ?_
      exact r_iret hf hC (by decide) (by decide) dX4_signAt_22
    · have hf := if_F hf h
      refine r_aload_n hC dX4_signAt_12 0 rfl ?_
      refine gf_X4_9 hC (z_1 hZ 1 (by decide) rfl) rfl dX4_signAt_13 ?_
      refine r_iload_n hC dX4_signAt_16 1 rfl ?_
      have hin := if_K hf
      have hf := if_V hf
      refine r_cald hC (z_1 hZ 2 (by decide) rfl) (inb_vp hin) dX4_signAt_17 ?_
      refine r_goto 22 hC dX4_signAt_18 (by decide) ?_
      exact r_iret hf hC (by decide) (by decide) dX4_signAt_22
set_option maxRecDepth 20000 in
theorem c_X4_signAt {l : Launch} (hl : l.stackTraces = false) {G : GG} {Z : ZZ} (hz : ZOk G Z) (hZ : ZM Z) (v1 : Int32) (M : Mem)  (r : Int32) (M' : Mem) (hf : f_X4_signAt v1 M = some (r, M')) : CN (QcI G Z r M') l G Z yX4_signAt cX4_signAt 2 (some .int) 0 [.ref (Z.1 1), .int v1] M :=
  CN.of [(0, .ref (Z.1 1)), (1, .int v1)] hl (by decide +kernel) (Nat.le_of_ble_eq_true rfl) rfl (fun _ hC => w_X4_signAt hC hz hZ v1 M  hf)
set_option maxRecDepth 20000 in
theorem w_X4_digitAt {X : XX} {G : GG} {Z : ZZ} (hC : Cx X G RX4 cX4_digitAt (some .int) 1 0 0 3) (hz : ZOk G Z) (hZ : ZM Z) (v1 : Int32) (M : Mem)  {r : Int32} {M' : Mem} (hf : f_X4_digitAt v1 M = some (r, M')) : V X G Z M 0 0 (QN X G (QcI G Z r M') 0 0) 0 [(0, .ref (Z.1 1)), (1, .int v1)] [] := by
  unfold f_X4_digitAt at hf
  refine r_aload_n hC dX4_digitAt_0 0 rfl ?_
  refine r_iload_n hC dX4_digitAt_1 1 rfl ?_
  refine r_callVI [] (fun r M1 h => c_X4_signAt (cx_st hC) hz hZ v1 _  r M1 h) hf cs_X4_23 hC (z_1 hZ 1 (by decide) rfl) (q0 := (RX4, TX4, 3)) rfl rfl [.int v1] rfl rfl rfl (by decide) (by decide) (Nat.le_of_ble_eq_true rfl) (by decide) (by decide) dX4_digitAt_2 (fun x1 M2 hf => ?_)
  refine r_istore_n (L' := [(2, .int x1), (0, .ref (Z.1 1)), (1, .int v1)]) hC dX4_digitAt_5 (by decide) rfl ?_
  refine r_iload_n hC dX4_digitAt_6 0 rfl ?_
  refine r_bipush (v := 48) hC dX4_digitAt_7 rfl ?_
  refine r_icmp_lt 25 hC dX4_digitAt_9 (by decide) (fun h => ?_) (fun h => ?_)
  · have hf := if_T hf h
    refine r_iconst (v := (-1)) hC dX4_digitAt_25 rfl ?_
    exact r_iret hf hC (by decide) (by decide) dX4_digitAt_26
  · have hf := if_F hf h
    refine r_iload_n hC dX4_digitAt_12 0 rfl ?_
    refine r_bipush (v := 57) hC dX4_digitAt_13 rfl ?_
    refine r_icmp_gt 25 hC dX4_digitAt_15 (by decide) (fun h => ?_) (fun h => ?_)
    · have hf := if_T hf h
      refine r_iconst (v := (-1)) hC dX4_digitAt_25 rfl ?_
      exact r_iret hf hC (by decide) (by decide) dX4_digitAt_26
    · have hf := if_F hf h
      refine r_iload_n hC dX4_digitAt_18 0 rfl ?_
      refine r_bipush (v := 48) hC dX4_digitAt_19 rfl ?_
      refine r_isub hC dX4_digitAt_21 ?_
      refine r_goto 26 hC dX4_digitAt_22 (by decide) ?_
      exact r_iret hf hC (by decide) (by decide) dX4_digitAt_26
set_option maxRecDepth 20000 in
theorem c_X4_digitAt {l : Launch} (hl : l.stackTraces = false) {G : GG} {Z : ZZ} (hz : ZOk G Z) (hZ : ZM Z) (v1 : Int32) (M : Mem)  (r : Int32) (M' : Mem) (hf : f_X4_digitAt v1 M = some (r, M')) : CN (QcI G Z r M') l G Z yX4_digitAt cX4_digitAt 3 (some .int) 1 [.ref (Z.1 1), .int v1] M :=
  CN.of [(0, .ref (Z.1 1)), (1, .int v1)] hl (by decide +kernel) (Nat.le_of_ble_eq_true rfl) rfl (fun _ hC => w_X4_digitAt hC hz hZ v1 M  hf)
set_option maxRecDepth 20000 in
theorem w_X4_readCell_b50 {X : XX} {G : GG} {Z : ZZ} {r : Int32} {M' : Mem} (hC : Cx X G RX4 cX4_readCell (some .boolean) 3 0 0 8) (hz : ZOk G Z) (hZ : ZM Z) (s0 : Int32) (s1 : Int32) (s2 : Int32) (s3 : Nat) (hs3 : s3 < 18) (M : Mem) (hf : f_X4_readCell_b50 s0 s1 s2 s3 M = some (r, M')) : V X G Z M 0 0 (QN X G (QcI G Z r M') 0 0) 50 [(0, .ref (Z.1 1))] [.int s0, .int s1, .int s2, .ref (Z.1 (iSt s3))] := by
  unfold f_X4_readCell_b50 at hf
  refine r_callVV [] (fun r M1 h => c_X3_put (cx_st hC) hz hZ s3 s2 s1 s0 _ hs3 r M1 h) hf cs_X4_47 hC (z_S hZ hs3) (q0 := (RX3, TX3, 4)) rfl rfl [.int s2, .int s1, .int s0] rfl rfl rfl (by decide) (by decide) (Nat.le_of_ble_eq_true rfl) (by decide) (by decide) dX4_readCell_50 (fun x13 M14 hf => ?_)
  refine r_aload_n hC dX4_readCell_53 0 rfl ?_
  refine r_dup hC dX4_readCell_54 rfl ?_
  refine gf_X4_36 hC (z_1 hZ 1 (by decide) rfl) rfl dX4_readCell_55 ?_
  refine r_iconst (v := 1) hC dX4_readCell_58 rfl ?_
  refine r_iadd hC dX4_readCell_59 ?_
  refine pf_X4_36 hC hz (z_1 hZ 1 (by decide) rfl) rfl dX4_readCell_60 ?_
  refine r_iconst (v := 1) hC dX4_readCell_63 rfl ?_
  exact r_zret hf hC rfl rfl (by decide) (by decide) dX4_readCell_64
set_option maxRecDepth 20000 in
theorem w_X4_readCell_b33 {X : XX} {G : GG} {Z : ZZ} {r : Int32} {M' : Mem} (hC : Cx X G RX4 cX4_readCell (some .boolean) 3 0 0 8) (hz : ZOk G Z) (hZ : ZM Z) (q1 : Nat) (v2 : Int32) (v3 : Int32) (v4 : Int32) (hq1 : q1 < 18) (M : Mem) (hf : f_X4_readCell_b33 q1 v2 v3 v4 M = some (r, M')) : V X G Z M 0 0 (QN X G (QcI G Z r M') 0 0) 33 [(0, .ref (Z.1 1)), (1, .ref (Z.1 (iSt q1))), (2, .int v2), (3, .int v3), (4, .int v4)] [] := by
  unfold f_X4_readCell_b33 at hf
  refine r_aload_n hC dX4_readCell_33 1 rfl ?_
  refine r_iload_n hC dX4_readCell_34 2 rfl ?_
  refine r_iload_n hC dX4_readCell_35 3 rfl ?_
  refine r_iload hC dX4_readCell_36 4 rfl ?_
  refine r_bipush (v := 45) hC dX4_readCell_38 rfl ?_
  refine r_icmp_ne 48 hC dX4_readCell_40 (by decide) (fun h => ?_) (fun h => ?_)
  · have hf := if_F hf h
    refine r_bipush (v := 99) hC dX4_readCell_48 rfl ?_
    refine r_L [0] rfl ?_
    exact w_X4_readCell_b50 hC hz hZ 99 v3 v2 q1 hq1 _ hf
  · have hf := if_T hf h
    refine r_bipush (v := (-9)) hC dX4_readCell_43 rfl ?_
    refine r_goto 50 hC dX4_readCell_45 (by decide) ?_
    refine r_L [0] rfl ?_
    exact w_X4_readCell_b50 hC hz hZ (-9) v3 v2 q1 hq1 _ hf
set_option maxRecDepth 20000 in
theorem w_X4_readCell_b65 {X : XX} {G : GG} {Z : ZZ} {r : Int32} {M' : Mem} (hC : Cx X G RX4 cX4_readCell (some .boolean) 3 0 0 8) (hz : ZOk G Z) (hZ : ZM Z) (q1 : Nat) (v2 : Int32) (v3 : Int32) (hq1 : q1 < 18) (M : Mem) (hf : f_X4_readCell_b65 q1 v2 v3 M = some (r, M')) : V X G Z M 0 0 (QN X G (QcI G Z r M') 0 0) 65 [(0, .ref (Z.1 1)), (1, .ref (Z.1 (iSt q1))), (2, .int v2), (3, .int v3)] [] := by
  unfold f_X4_readCell_b65 at hf
  refine r_aload_n hC dX4_readCell_65 0 rfl ?_
  refine r_aload_n hC dX4_readCell_66 0 rfl ?_
  refine gf_X4_36 hC (z_1 hZ 1 (by decide) rfl) rfl dX4_readCell_67 ?_
  refine r_callVI [] (fun r M1 h => c_X4_digitAt (cx_st hC) hz hZ (M 1 2) _  r M1 h) hf cs_X4_27 hC (z_1 hZ 1 (by decide) rfl) (q0 := (RX4, TX4, 3)) rfl rfl [.int (M 1 2)] rfl rfl rfl (by decide) (by decide) (Nat.le_of_ble_eq_true rfl) (by decide) (by decide) dX4_readCell_70 (fun x5 M6 hf => ?_)
  refine r_istore (L' := [(5, .int x5), (0, .ref (Z.1 1)), (1, .ref (Z.1 (iSt q1))), (2, .int v2), (3, .int v3)]) hC dX4_readCell_73 (by decide) rfl ?_
  refine r_iload hC dX4_readCell_75 0 rfl ?_
  refine r_if_lt 87 hC dX4_readCell_77 (by decide) (fun h => ?_) (fun h => ?_)
  · have hf := if_T hf h
    refine r_iconst (v := 0) hC dX4_readCell_87 rfl ?_
    exact r_zret hf hC rfl rfl (by decide) (by decide) dX4_readCell_88
  · have hf := if_F hf h
    refine r_iload hC dX4_readCell_80 0 rfl ?_
    refine r_bipush (v := 6) hC dX4_readCell_82 rfl ?_
    refine r_icmp_le 89 hC dX4_readCell_84 (by decide) (fun h => ?_) (fun h => ?_)
    · have hf := if_T hf h
      refine r_aload_n hC dX4_readCell_89 1 rfl ?_
      refine r_dup hC dX4_readCell_90 rfl ?_
      refine gf_X4_36 hC (z_1 hZ 1 (by decide) rfl) rfl dX4_readCell_91 ?_
      refine r_iconst (v := 1) hC dX4_readCell_94 rfl ?_
      refine r_iadd hC dX4_readCell_95 ?_
      refine pf_X4_36 hC hz (z_1 hZ 1 (by decide) rfl) rfl dX4_readCell_96 ?_
      refine r_aload_n hC dX4_readCell_99 1 rfl ?_
      refine r_aload_n hC dX4_readCell_100 1 rfl ?_
      refine gf_X4_36 hC (z_1 hZ 1 (by decide) rfl) rfl dX4_readCell_101 ?_
      refine r_callVI [] (fun r M1 h => c_X4_digitAt (cx_st hC) hz hZ ((mw M6 1 2 ((M6 1 2) + 1)) 1 2) _  r M1 h) hf cs_X4_27 hC (z_1 hZ 1 (by decide) rfl) (q0 := (RX4, TX4, 3)) rfl rfl [.int ((mw M6 1 2 ((M6 1 2) + 1)) 1 2)] rfl rfl rfl (by decide) (by decide) (Nat.le_of_ble_eq_true rfl) (by decide) (by decide) dX4_readCell_104 (fun x7 M8 hf => ?_)
      refine r_istore (L' := [(6, .int x7), (5, .int x5), (0, .ref (Z.1 1)), (1, .ref (Z.1 (iSt q1))), (2, .int v2), (3, .int v3)]) hC dX4_readCell_107 (by decide) rfl ?_
      refine r_bipush (v := 10) hC dX4_readCell_109 rfl ?_
      refine r_iload hC dX4_readCell_111 1 rfl ?_
      refine r_imul hC dX4_readCell_113 ?_
      refine r_iload hC dX4_readCell_114 0 rfl ?_
      refine r_iadd hC dX4_readCell_116 ?_
      refine r_istore (L' := [(7, .int ((10 * x5) + x7)), (6, .int x7), (5, .int x5), (0, .ref (Z.1 1)), (1, .ref (Z.1 (iSt q1))), (2, .int v2), (3, .int v3)]) hC dX4_readCell_117 (by decide) rfl ?_
      refine r_iload hC dX4_readCell_119 1 rfl ?_
      refine r_iconst (v := (-1)) hC dX4_readCell_121 rfl ?_
      refine r_icmp_eq 133 hC dX4_readCell_122 (by decide) (fun h => ?_) (fun h => ?_)
      · have hf := if_T hf h
        refine r_iconst (v := 0) hC dX4_readCell_133 rfl ?_
        exact r_zret hf hC rfl rfl (by decide) (by decide) dX4_readCell_134
      · have hf := if_F hf h
        refine r_iload hC dX4_readCell_125 0 rfl ?_
        refine r_callSI [] (fun r M1 h => c_X3_isPitch (cx_st hC) hz hZ ((10 * x5) + x7) _  r M1 h) hf cs_X4_51 hC  rfl rfl (by decide) (by decide) (Nat.le_of_ble_eq_true rfl) (by decide) (by decide) dX4_readCell_127 (fun x9 M10 hf => ?_)
        refine r_if_ne 135 hC dX4_readCell_130 (by decide) (fun h => ?_) (fun h => ?_)
        · have hf := if_F hf h
          refine r_aload_n hC dX4_readCell_135 3 rfl ?_
          refine r_dup hC dX4_readCell_136 rfl ?_
          refine gf_X4_36 hC (z_1 hZ 1 (by decide) rfl) rfl dX4_readCell_137 ?_
          refine r_iconst (v := 1) hC dX4_readCell_140 rfl ?_
          refine r_iadd hC dX4_readCell_141 ?_
          refine pf_X4_36 hC hz (z_1 hZ 1 (by decide) rfl) rfl dX4_readCell_142 ?_
          refine r_aload_n hC dX4_readCell_145 4 rfl ?_
          refine r_iload_n hC dX4_readCell_146 5 rfl ?_
          refine r_iload_n hC dX4_readCell_147 6 rfl ?_
          refine r_iload hC dX4_readCell_148 0 rfl ?_
          refine r_callVV [] (fun r M1 h => c_X3_put (cx_st hC) hz hZ q1 v2 v3 ((10 * x5) + x7) _ hq1 r M1 h) hf cs_X4_47 hC (z_S hZ hq1) (q0 := (RX3, TX3, 4)) rfl rfl [.int v2, .int v3, .int ((10 * x5) + x7)] rfl rfl rfl (by decide) (by decide) (Nat.le_of_ble_eq_true rfl) (by decide) (by decide) dX4_readCell_150 (fun x11 M12 hf => ?_)
          refine r_iconst (v := 1) hC dX4_readCell_153 rfl ?_
          exact r_zret hf hC rfl rfl (by decide) (by decide) dX4_readCell_154
        · have hf := if_T hf h
          refine r_iconst (v := 0) hC dX4_readCell_133 rfl ?_
          exact r_zret hf hC rfl rfl (by decide) (by decide) dX4_readCell_134
    · have hf := if_F hf h
      refine r_iconst (v := 0) hC dX4_readCell_87 rfl ?_
      exact r_zret hf hC rfl rfl (by decide) (by decide) dX4_readCell_88
set_option maxRecDepth 20000 in
theorem w_X4_readCell {X : XX} {G : GG} {Z : ZZ} (hC : Cx X G RX4 cX4_readCell (some .boolean) 3 0 0 8) (hz : ZOk G Z) (hZ : ZM Z) (q1 : Nat) (v2 : Int32) (v3 : Int32) (M : Mem) (hq1 : q1 < 18) {r : Int32} {M' : Mem} (hf : f_X4_readCell q1 v2 v3 M = some (r, M')) : V X G Z M 0 0 (QN X G (QcI G Z r M') 0 0) 0 [(0, .ref (Z.1 1)), (1, .ref (Z.1 (iSt q1))), (2, .int v2), (3, .int v3)] [] := by
  unfold f_X4_readCell at hf
  refine r_aload_n hC dX4_readCell_0 0 rfl ?_
  refine r_aload_n hC dX4_readCell_1 0 rfl ?_
  refine gf_X4_36 hC (z_1 hZ 1 (by decide) rfl) rfl dX4_readCell_2 ?_
  refine r_callVI [] (fun r M1 h => c_X4_signAt (cx_st hC) hz hZ (M 1 2) _  r M1 h) hf cs_X4_23 hC (z_1 hZ 1 (by decide) rfl) (q0 := (RX4, TX4, 3)) rfl rfl [.int (M 1 2)] rfl rfl rfl (by decide) (by decide) (Nat.le_of_ble_eq_true rfl) (by decide) (by decide) dX4_readCell_5 (fun x1 M2 hf => ?_)
  refine r_istore (L' := [(4, .int x1), (0, .ref (Z.1 1)), (1, .ref (Z.1 (iSt q1))), (2, .int v2), (3, .int v3)]) hC dX4_readCell_8 (by decide) rfl ?_
  refine r_iload hC dX4_readCell_10 0 rfl ?_
  refine r_bipush (v := 45) hC dX4_readCell_12 rfl ?_
  refine r_icmp_eq 33 hC dX4_readCell_14 (by decide) (fun h => ?_) (fun h => ?_)
  · have hf := if_T hf h
    refine r_L [1, 2, 3, 4, 0] rfl ?_
    exact w_X4_readCell_b33 hC hz hZ q1 v2 v3 x1 hq1 _ hf
  · have hf := if_F hf h
    refine r_iload hC dX4_readCell_17 0 rfl ?_
    refine r_bipush (v := 61) hC dX4_readCell_19 rfl ?_
    refine r_icmp_ne 65 hC dX4_readCell_21 (by decide) (fun h => ?_) (fun h => ?_)
    · have hf := if_F hf h
      refine r_L [1, 2, 3, 4] rfl ?_
      exact w_X4_readCell_b65 hC hz hZ q1 v2 v3 hq1 _ hf
    · have hf := if_T hf h
      refine r_aload_n hC dX4_readCell_24 2 rfl ?_
      refine r_iload_n hC dX4_readCell_25 3 rfl ?_
      refine r_iload_n hC dX4_readCell_26 4 rfl ?_
      refine r_callVI [] (fun r M1 h => c_X3_allowsHold (cx_st hC) hz hZ q1 v2 v3 _ hq1 r M1 h) hf cs_X4_43 hC (z_S hZ hq1) (q0 := (RX3, TX3, 4)) rfl rfl [.int v2, .int v3] rfl rfl rfl (by decide) (by decide) (Nat.le_of_ble_eq_true rfl) (by decide) (by decide) dX4_readCell_27 (fun x3 M4 hf => ?_)
      refine r_if_eq 65 hC dX4_readCell_30 (by decide) (fun h => ?_) (fun h => ?_)
      · have hf := if_T hf h
        refine r_L [1, 2, 3, 4] rfl ?_
        exact w_X4_readCell_b65 hC hz hZ q1 v2 v3 hq1 _ hf
      · have hf := if_F hf h
        refine r_L [1, 2, 3, 4, 0] rfl ?_
        exact w_X4_readCell_b33 hC hz hZ q1 v2 v3 x1 hq1 _ hf
set_option maxRecDepth 20000 in
theorem c_X4_readCell {l : Launch} (hl : l.stackTraces = false) {G : GG} {Z : ZZ} (hz : ZOk G Z) (hZ : ZM Z) (q1 : Nat) (v2 : Int32) (v3 : Int32) (M : Mem) (hq1 : q1 < 18) (r : Int32) (M' : Mem) (hf : f_X4_readCell q1 v2 v3 M = some (r, M')) : CN (QcI G Z r M') l G Z yX4_readCell cX4_readCell 8 (some .boolean) 3 [.ref (Z.1 1), .ref (Z.1 (iSt q1)), .int v2, .int v3] M :=
  CN.of [(0, .ref (Z.1 1)), (1, .ref (Z.1 (iSt q1))), (2, .int v2), (3, .int v3)] hl (by decide +kernel) (Nat.le_of_ble_eq_true rfl) rfl (fun _ hC => w_X4_readCell hC hz hZ q1 v2 v3 M hq1 hf)
set_option maxRecDepth 20000 in
theorem w_X4_readInto_b108 {X : XX} {G : GG} {Z : ZZ} {r : Int32} {M' : Mem} (hC : Cx X G RX4 cX4_readInto (some .int) 4 0 0 8) (hz : ZOk G Z) (hZ : ZM Z) (q1 : Nat) (v2 : Int32) (v5 : Int32) (v6 : Int32) (hq1 : q1 < 18) (k99 : Int32 → Mem → Option (Int32 × Mem)) (hk99 : ∀ (u6 : Int32) (M : Mem), k99 u6 M = some (r, M') → V X G Z M 0 0 (QN X G (QcI G Z r M') 0 0) 99 [(0, .ref (Z.1 1)), (1, .ref (Z.1 (iSt q1))), (2, .int v2), (5, .int v5), (6, .int u6)] []) (k108 : Int32 → Mem → Option (Int32 × Mem)) (hk108 : ∀ (u7 : Int32) (M : Mem), k108 u7 M = some (r, M') → V X G Z M 0 0 (QN X G (QcI G Z r M') 0 0) 108 [(0, .ref (Z.1 1)), (1, .ref (Z.1 (iSt q1))), (2, .int v2), (5, .int v5), (6, .int v6), (7, .int u7)] []) (v7 : Int32) (M : Mem) (hf : f_X4_readInto_b108 q1 v2 v5 v6 k99 k108 v7 M = some (r, M')) : V X G Z M 0 0 (QN X G (QcI G Z r M') 0 0) 108 [(0, .ref (Z.1 1)), (1, .ref (Z.1 (iSt q1))), (2, .int v2), (5, .int v5), (6, .int v6), (7, .int v7)] [] := by
  unfold f_X4_readInto_b108 at hf
  refine r_iload hC dX4_readInto_108 5 rfl ?_
  refine r_iload hC dX4_readInto_110 3 rfl ?_
  refine r_icmp_ge 138 hC dX4_readInto_112 (by decide) (fun h => ?_) (fun h => ?_)
  · have hf := if_T hf h
    refine r_iinc (v := v6 + 1) (L' := [(6, .int (v6 + 1)), (0, .ref (Z.1 1)), (1, .ref (Z.1 (iSt q1))), (2, .int v2), (5, .int v5), (7, .int v7)]) hC dX4_readInto_138 4 rfl rfl (by decide) rfl ?_
    refine r_goto 99 hC dX4_readInto_141 (by decide) ?_
    refine r_L [1, 2, 3, 4, 0] rfl ?_
    exact hk99 _ _ hf
  · have hf := if_F hf h
    refine r_aload_n hC dX4_readInto_115 0 rfl ?_
    refine r_aload_n hC dX4_readInto_116 1 rfl ?_
    refine r_iload hC dX4_readInto_117 4 rfl ?_
    refine r_iload hC dX4_readInto_119 5 rfl ?_
    refine r_callVI [] (fun r M1 h => c_X4_readCell (cx_st hC) hz hZ q1 v6 v7 _ hq1 r M1 h) hf cs_X4_39 hC (z_1 hZ 1 (by decide) rfl) (q0 := (RX4, TX4, 3)) rfl rfl [.ref (Z.1 (iSt q1)), .int v6, .int v7] rfl rfl rfl (by decide) (by decide) (Nat.le_of_ble_eq_true rfl) (by decide) (by decide) dX4_readInto_121 (fun x11 M12 hf => ?_)
    refine r_if_ne 132 hC dX4_readInto_124 (by decide) (fun h => ?_) (fun h => ?_)
    · have hf := if_F hf h
      refine r_iinc (v := v7 + 1) (L' := [(7, .int (v7 + 1)), (0, .ref (Z.1 1)), (1, .ref (Z.1 (iSt q1))), (2, .int v2), (5, .int v5), (6, .int v6)]) hC dX4_readInto_132 5 rfl rfl (by decide) rfl ?_
      refine r_goto 108 hC dX4_readInto_135 (by decide) ?_
      refine r_L [1, 2, 3, 4, 5, 0] rfl ?_
      exact hk108 _ _ hf
    · have hf := if_T hf h
      refine r_aload_n hC dX4_readInto_127 0 rfl ?_
      refine gf_X4_36 hC (z_1 hZ 1 (by decide) rfl) rfl dX4_readInto_128 ?_
      exact r_iret hf hC (by decide) (by decide) dX4_readInto_131
set_option maxRecDepth 20000 in
theorem w_X4_readInto_b144 {X : XX} {G : GG} {Z : ZZ} {r : Int32} {M' : Mem} (hC : Cx X G RX4 cX4_readInto (some .int) 4 0 0 8) (hz : ZOk G Z) (hZ : ZM Z)  (M : Mem) (hf : f_X4_readInto_b144  M = some (r, M')) : V X G Z M 0 0 (QN X G (QcI G Z r M') 0 0) 144 [(0, .ref (Z.1 1))] [] := by
  unfold f_X4_readInto_b144 at hf
  refine r_aload_n hC dX4_readInto_144 0 rfl ?_
  refine gf_X4_36 hC (z_1 hZ 1 (by decide) rfl) rfl dX4_readInto_145 ?_
  refine r_aload_n hC dX4_readInto_148 0 rfl ?_
  refine gf_X4_15 hC (z_1 hZ 1 (by decide) rfl) rfl dX4_readInto_149 ?_
  refine r_icmp_ne 160 hC dX4_readInto_152 (by decide) (fun h => ?_) (fun h => ?_)
  · have hf := if_F hf h
    refine r_aload_n hC dX4_readInto_160 0 rfl ?_
    refine gf_X4_36 hC (z_1 hZ 1 (by decide) rfl) rfl dX4_readInto_161 ?_
    exact r_iret hf hC (by decide) (by decide) dX4_readInto_164
  · have hf := if_T hf h
    refine r_bipush (v := (-9)) hC dX4_readInto_155 rfl ?_
    refine r_goto 164 hC dX4_readInto_157 (by decide) ?_
    exact r_iret hf hC (by decide) (by decide) dX4_readInto_164
set_option maxRecDepth 20000 in
theorem w_X4_readInto_b99 {X : XX} {G : GG} {Z : ZZ} {r : Int32} {M' : Mem} (hC : Cx X G RX4 cX4_readInto (some .int) 4 0 0 8) (hz : ZOk G Z) (hZ : ZM Z) (q1 : Nat) (v2 : Int32) (v5 : Int32) (hq1 : q1 < 18) (k99 : Int32 → Mem → Option (Int32 × Mem)) (hk99 : ∀ (u6 : Int32) (M : Mem), k99 u6 M = some (r, M') → V X G Z M 0 0 (QN X G (QcI G Z r M') 0 0) 99 [(0, .ref (Z.1 1)), (1, .ref (Z.1 (iSt q1))), (2, .int v2), (5, .int v5), (6, .int u6)] []) (v6 : Int32) (M : Mem) (hf : f_X4_readInto_b99 q1 v2 v5 k99 v6 M = some (r, M')) : V X G Z M 0 0 (QN X G (QcI G Z r M') 0 0) 99 [(0, .ref (Z.1 1)), (1, .ref (Z.1 (iSt q1))), (2, .int v2), (5, .int v5), (6, .int v6)] [] := by
  unfold f_X4_readInto_b99 at hf
  refine r_iload hC dX4_readInto_99 4 rfl ?_
  refine r_iload_n hC dX4_readInto_101 2 rfl ?_
  refine r_icmp_ge 144 hC dX4_readInto_102 (by decide) (fun h => ?_) (fun h => ?_)
  · have hf := if_T hf h
    refine r_L [0] rfl ?_
    exact w_X4_readInto_b144 hC hz hZ  _ hf
  · have hf := if_F hf h
    refine r_iconst (v := 0) hC dX4_readInto_105 rfl ?_
    refine r_istore (L' := [(7, .int 0), (0, .ref (Z.1 1)), (1, .ref (Z.1 (iSt q1))), (2, .int v2), (5, .int v5), (6, .int v6)]) hC dX4_readInto_106 (by decide) rfl ?_
    refine r_L [1, 2, 3, 4, 5, 0] rfl ?_
    exact lq1_ind (P := fun (u7 : Int32) (M : Mem) => V X G Z M 0 0 (QN X G (QcI G Z r M') 0 0) 108 [(0, .ref (Z.1 1)), (1, .ref (Z.1 (iSt q1))), (2, .int v2), (5, .int v5), (6, .int v6), (7, .int u7)] []) (fun kk hkk u7 M hf => w_X4_readInto_b108 hC hz hZ q1 v2 v5 v6 hq1 k99 hk99 kk hkk u7 M hf) _ _ _ hf
set_option maxRecDepth 20000 in
theorem w_X4_readInto {X : XX} {G : GG} {Z : ZZ} (hC : Cx X G RX4 cX4_readInto (some .int) 4 0 0 8) (hz : ZOk G Z) (hZ : ZM Z) (q1 : Nat) (M : Mem) (hq1 : q1 < 18) {r : Int32} {M' : Mem} (hf : f_X4_readInto q1 M = some (r, M')) : V X G Z M 0 0 (QN X G (QcI G Z r M') 0 0) 0 [(0, .ref (Z.1 1)), (1, .ref (Z.1 (iSt q1)))] [] := by
  unfold f_X4_readInto at hf
  refine r_aload_n hC dX4_readInto_0 0 rfl ?_
  refine r_iconst (v := 0) hC dX4_readInto_1 rfl ?_
  refine r_callVI [] (fun r M1 h => c_X4_signAt (cx_st hC) hz hZ 0 _  r M1 h) hf cs_X4_23 hC (z_1 hZ 1 (by decide) rfl) (q0 := (RX4, TX4, 3)) rfl rfl [.int 0] rfl rfl rfl (by decide) (by decide) (Nat.le_of_ble_eq_true rfl) (by decide) (by decide) dX4_readInto_2 (fun x1 M2 hf => ?_)
  refine r_bipush (v := 77) hC dX4_readInto_5 rfl ?_
  refine r_icmp_eq 12 hC dX4_readInto_7 (by decide) (fun h => ?_) (fun h => ?_)
  · have hf := if_T hf h
    refine r_aload_n hC dX4_readInto_12 0 rfl ?_
    refine r_iconst (v := 1) hC dX4_readInto_13 rfl ?_
    refine r_callVI [] (fun r M1 h => c_X4_digitAt (cx_st hC) hz hZ 1 _  r M1 h) hf cs_X4_27 hC (z_1 hZ 1 (by decide) rfl) (q0 := (RX4, TX4, 3)) rfl rfl [.int 1] rfl rfl rfl (by decide) (by decide) (Nat.le_of_ble_eq_true rfl) (by decide) (by decide) dX4_readInto_14 (fun x3 M4 hf => ?_)
    refine r_istore_n (L' := [(2, .int x3), (0, .ref (Z.1 1)), (1, .ref (Z.1 (iSt q1)))]) hC dX4_readInto_17 (by decide) rfl ?_
    refine r_iload_n hC dX4_readInto_18 0 rfl ?_
    refine r_iconst (v := 1) hC dX4_readInto_19 rfl ?_
    refine r_icmp_lt 28 hC dX4_readInto_20 (by decide) (fun h => ?_) (fun h => ?_)
    · have hf := if_T hf h
      refine r_iconst (v := 1) hC dX4_readInto_28 rfl ?_
      exact r_iret hf hC (by decide) (by decide) dX4_readInto_29
    · have hf := if_F hf h
      refine r_iload_n hC dX4_readInto_23 0 rfl ?_
      refine r_iconst (v := 4) hC dX4_readInto_24 rfl ?_
      refine r_icmp_le 30 hC dX4_readInto_25 (by decide) (fun h => ?_) (fun h => ?_)
      · have hf := if_T hf h
        refine r_aload_n hC dX4_readInto_30 1 rfl ?_
        refine r_iconst (v := 2) hC dX4_readInto_31 rfl ?_
        refine r_callVI [] (fun r M1 h => c_X4_digitAt (cx_st hC) hz hZ 2 _  r M1 h) hf cs_X4_27 hC (z_1 hZ 1 (by decide) rfl) (q0 := (RX4, TX4, 3)) rfl rfl [.int 2] rfl rfl rfl (by decide) (by decide) (Nat.le_of_ble_eq_true rfl) (by decide) (by decide) dX4_readInto_32 (fun x5 M6 hf => ?_)
        refine r_istore_n (L' := [(3, .int x5), (2, .int x3), (0, .ref (Z.1 1)), (1, .ref (Z.1 (iSt q1)))]) hC dX4_readInto_35 (by decide) rfl ?_
        refine r_iload_n hC dX4_readInto_36 0 rfl ?_
        refine r_if_lt 45 hC dX4_readInto_37 (by decide) (fun h => ?_) (fun h => ?_)
        · have hf := if_T hf h
          refine r_iconst (v := 2) hC dX4_readInto_45 rfl ?_
          exact r_iret hf hC (by decide) (by decide) dX4_readInto_46
        · have hf := if_F hf h
          refine r_iload_n hC dX4_readInto_40 0 rfl ?_
          refine r_iconst (v := 1) hC dX4_readInto_41 rfl ?_
          refine r_icmp_le 47 hC dX4_readInto_42 (by decide) (fun h => ?_) (fun h => ?_)
          · have hf := if_T hf h
            refine r_aload_n hC dX4_readInto_47 2 rfl ?_
            refine r_iconst (v := 3) hC dX4_readInto_48 rfl ?_
            refine r_callVI [] (fun r M1 h => c_X4_digitAt (cx_st hC) hz hZ 3 _  r M1 h) hf cs_X4_27 hC (z_1 hZ 1 (by decide) rfl) (q0 := (RX4, TX4, 3)) rfl rfl [.int 3] rfl rfl rfl (by decide) (by decide) (Nat.le_of_ble_eq_true rfl) (by decide) (by decide) dX4_readInto_49 (fun x7 M8 hf => ?_)
            refine r_istore (L' := [(4, .int x7), (3, .int x5), (2, .int x3), (0, .ref (Z.1 1)), (1, .ref (Z.1 (iSt q1)))]) hC dX4_readInto_52 (by decide) rfl ?_
            refine r_bipush (v := 10) hC dX4_readInto_54 rfl ?_
            refine r_iload_n hC dX4_readInto_56 1 rfl ?_
            refine r_imul hC dX4_readInto_57 ?_
            refine r_iload hC dX4_readInto_58 0 rfl ?_
            refine r_iadd hC dX4_readInto_60 ?_
            refine r_istore (L' := [(5, .int ((10 * x5) + x7)), (4, .int x7), (3, .int x5), (2, .int x3), (0, .ref (Z.1 1)), (1, .ref (Z.1 (iSt q1)))]) hC dX4_readInto_61 (by decide) rfl ?_
            refine r_iload hC dX4_readInto_63 1 rfl ?_
            refine r_iconst (v := (-1)) hC dX4_readInto_65 rfl ?_
            refine r_icmp_eq 82 hC dX4_readInto_66 (by decide) (fun h => ?_) (fun h => ?_)
            · have hf := if_T hf h
              refine r_iconst (v := 3) hC dX4_readInto_82 rfl ?_
              exact r_iret hf hC (by decide) (by decide) dX4_readInto_83
            · have hf := if_F hf h
              refine r_iload hC dX4_readInto_69 0 rfl ?_
              refine r_iconst (v := 1) hC dX4_readInto_71 rfl ?_
              refine r_icmp_lt 82 hC dX4_readInto_72 (by decide) (fun h => ?_) (fun h => ?_)
              · have hf := if_T hf h
                refine r_iconst (v := 3) hC dX4_readInto_82 rfl ?_
                exact r_iret hf hC (by decide) (by decide) dX4_readInto_83
              · have hf := if_F hf h
                refine r_iload hC dX4_readInto_75 0 rfl ?_
                refine r_bipush (v := 16) hC dX4_readInto_77 rfl ?_
                refine r_icmp_le 84 hC dX4_readInto_79 (by decide) (fun h => ?_) (fun h => ?_)
                · have hf := if_T hf h
                  refine r_aload_n hC dX4_readInto_84 5 rfl ?_
                  refine r_iload_n hC dX4_readInto_85 3 rfl ?_
                  refine r_iload hC dX4_readInto_86 0 rfl ?_
                  refine r_callVV [] (fun r M1 h => c_X3_becomeRests (cx_st hC) hz hZ q1 x3 ((10 * x5) + x7) _ hq1 r M1 h) hf cs_X4_30 hC (z_S hZ hq1) (q0 := (RX3, TX3, 4)) rfl rfl [.int x3, .int ((10 * x5) + x7)] rfl rfl rfl (by decide) (by decide) (Nat.le_of_ble_eq_true rfl) (by decide) (by decide) dX4_readInto_88 (fun x9 M10 hf => ?_)
                  refine r_aload_n hC dX4_readInto_91 4 rfl ?_
                  refine r_iconst (v := 4) hC dX4_readInto_92 rfl ?_
                  refine pf_X4_36 hC hz (z_1 hZ 1 (by decide) rfl) rfl dX4_readInto_93 ?_
                  refine r_iconst (v := 0) hC dX4_readInto_96 rfl ?_
                  refine r_istore (L' := [(6, .int 0), (5, .int ((10 * x5) + x7)), (4, .int x7), (3, .int x5), (2, .int x3), (0, .ref (Z.1 1)), (1, .ref (Z.1 (iSt q1)))]) hC dX4_readInto_97 (by decide) rfl ?_
                  refine r_L [5, 6, 4, 1, 0] rfl ?_
                  exact lq1_ind (P := fun (u6 : Int32) (M : Mem) => V X G Z M 0 0 (QN X G (QcI G Z r M') 0 0) 99 [(0, .ref (Z.1 1)), (1, .ref (Z.1 (iSt q1))), (2, .int x3), (5, .int ((10 * x5) + x7)), (6, .int u6)] []) (fun kk hkk u6 M hf => w_X4_readInto_b99 hC hz hZ q1 x3 ((10 * x5) + x7) hq1 kk hkk u6 M hf) _ _ _ hf
                · have hf := if_F hf h
                  refine r_iconst (v := 3) hC dX4_readInto_82 rfl ?_
                  exact r_iret hf hC (by decide) (by decide) dX4_readInto_83
          · have hf := if_F hf h
            refine r_iconst (v := 2) hC dX4_readInto_45 rfl ?_
            exact r_iret hf hC (by decide) (by decide) dX4_readInto_46
      · have hf := if_F hf h
        refine r_iconst (v := 1) hC dX4_readInto_28 rfl ?_
        exact r_iret hf hC (by decide) (by decide) dX4_readInto_29
  · have hf := if_F hf h
    refine r_iconst (v := 0) hC dX4_readInto_10 rfl ?_
    exact r_iret hf hC (by decide) (by decide) dX4_readInto_11
set_option maxRecDepth 20000 in
theorem c_X4_readInto {l : Launch} (hl : l.stackTraces = false) {G : GG} {Z : ZZ} (hz : ZOk G Z) (hZ : ZM Z) (q1 : Nat) (M : Mem) (hq1 : q1 < 18) (r : Int32) (M' : Mem) (hf : f_X4_readInto q1 M = some (r, M')) : CN (QcI G Z r M') l G Z yX4_readInto cX4_readInto 8 (some .int) 4 [.ref (Z.1 1), .ref (Z.1 (iSt q1))] M :=
  CN.of [(0, .ref (Z.1 1)), (1, .ref (Z.1 (iSt q1)))] hl (by decide +kernel) (Nat.le_of_ble_eq_true rfl) rfl (fun _ hC => w_X4_readInto hC hz hZ q1 M hq1 hf)
end
