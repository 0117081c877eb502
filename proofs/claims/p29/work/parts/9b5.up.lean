/-! COUNTERS BEHIND MORE NUMBERS -/
theorem up4_tot {A0 A1 A2 R : Type} {body : (A0 → A1 → A2 → Int32 → Mem → Option R) → A0 → A1 → A2 → Int32 → Mem → Option R} {P : R → Prop} (e : Nat) (J : Nat → A0 → A1 → A2 → Mem → Prop)
    (hs : ∀ (k : A0 → A1 → A2 → Int32 → Mem → Option R) (i : Nat) (a0 : A0) (a1 : A1) (a2 : A2) (M : Mem), i < e → J i a0 a1 a2 M → (∀ a0' a1' a2' M', J (i + 1) a0' a1' a2' M' → Tot (k a0' a1' a2' (iz (i + 1 : Nat)) M') P) → Tot (body k a0 a1 a2 (iz i) M) P)
    (hx : ∀ (k : A0 → A1 → A2 → Int32 → Mem → Option R) (a0 : A0) (a1 : A1) (a2 : A2) (M : Mem), J e a0 a1 a2 M → Tot (body k a0 a1 a2 (iz e) M) P) (n : Nat) (i : Nat) (a0 : A0) (a1 : A1) (a2 : A2) (M : Mem) (hi : i ≤ e) (h : J i a0 a1 a2 M) (hn : e - i < n) : Tot (lq4 body n a0 a1 a2 (iz i) M) P := by
  induction n generalizing i a0 a1 a2 M with
  | zero => omega
  | succ n ih =>
    show Tot (body (lq4 body n) a0 a1 a2 (iz i) M) P
    by_cases c : i = e
    · subst c; exact hx _ a0 a1 a2 M h
    · exact hs _ i a0 a1 a2 M (by omega) h (fun a0' a1' a2' M' h' => ih (i + 1) a0' a1' a2' M' (by omega) h' (by omega))
theorem up5_tot {A0 A1 A2 A3 R : Type} {body : (A0 → A1 → A2 → A3 → Int32 → Mem → Option R) → A0 → A1 → A2 → A3 → Int32 → Mem → Option R} {P : R → Prop} (e : Nat) (J : Nat → A0 → A1 → A2 → A3 → Mem → Prop)
    (hs : ∀ (k : A0 → A1 → A2 → A3 → Int32 → Mem → Option R) (i : Nat) (a0 : A0) (a1 : A1) (a2 : A2) (a3 : A3) (M : Mem), i < e → J i a0 a1 a2 a3 M → (∀ a0' a1' a2' a3' M', J (i + 1) a0' a1' a2' a3' M' → Tot (k a0' a1' a2' a3' (iz (i + 1 : Nat)) M') P) → Tot (body k a0 a1 a2 a3 (iz i) M) P)
    (hx : ∀ (k : A0 → A1 → A2 → A3 → Int32 → Mem → Option R) (a0 : A0) (a1 : A1) (a2 : A2) (a3 : A3) (M : Mem), J e a0 a1 a2 a3 M → Tot (body k a0 a1 a2 a3 (iz e) M) P) (n : Nat) (i : Nat) (a0 : A0) (a1 : A1) (a2 : A2) (a3 : A3) (M : Mem) (hi : i ≤ e) (h : J i a0 a1 a2 a3 M) (hn : e - i < n) : Tot (lq5 body n a0 a1 a2 a3 (iz i) M) P := by
  induction n generalizing i a0 a1 a2 a3 M with
  | zero => omega
  | succ n ih =>
    show Tot (body (lq5 body n) a0 a1 a2 a3 (iz i) M) P
    by_cases c : i = e
    · subst c; exact hx _ a0 a1 a2 a3 M h
    · exact hs _ i a0 a1 a2 a3 M (by omega) h (fun a0' a1' a2' a3' M' h' => ih (i + 1) a0' a1' a2' a3' M' (by omega) h' (by omega))
theorem up6_tot {A0 A1 A2 A3 A4 R : Type} {body : (A0 → A1 → A2 → A3 → A4 → Int32 → Mem → Option R) → A0 → A1 → A2 → A3 → A4 → Int32 → Mem → Option R} {P : R → Prop} (e : Nat) (J : Nat → A0 → A1 → A2 → A3 → A4 → Mem → Prop)
    (hs : ∀ (k : A0 → A1 → A2 → A3 → A4 → Int32 → Mem → Option R) (i : Nat) (a0 : A0) (a1 : A1) (a2 : A2) (a3 : A3) (a4 : A4) (M : Mem), i < e → J i a0 a1 a2 a3 a4 M → (∀ a0' a1' a2' a3' a4' M', J (i + 1) a0' a1' a2' a3' a4' M' → Tot (k a0' a1' a2' a3' a4' (iz (i + 1 : Nat)) M') P) → Tot (body k a0 a1 a2 a3 a4 (iz i) M) P)
    (hx : ∀ (k : A0 → A1 → A2 → A3 → A4 → Int32 → Mem → Option R) (a0 : A0) (a1 : A1) (a2 : A2) (a3 : A3) (a4 : A4) (M : Mem), J e a0 a1 a2 a3 a4 M → Tot (body k a0 a1 a2 a3 a4 (iz e) M) P) (n : Nat) (i : Nat) (a0 : A0) (a1 : A1) (a2 : A2) (a3 : A3) (a4 : A4) (M : Mem) (hi : i ≤ e) (h : J i a0 a1 a2 a3 a4 M) (hn : e - i < n) : Tot (lq6 body n a0 a1 a2 a3 a4 (iz i) M) P := by
  induction n generalizing i a0 a1 a2 a3 a4 M with
  | zero => omega
  | succ n ih =>
    show Tot (body (lq6 body n) a0 a1 a2 a3 a4 (iz i) M) P
    by_cases c : i = e
    · subst c; exact hx _ a0 a1 a2 a3 a4 M h
    · exact hs _ i a0 a1 a2 a3 a4 M (by omega) h (fun a0' a1' a2' a3' a4' M' h' => ih (i + 1) a0' a1' a2' a3' a4' M' (by omega) h' (by omega))
theorem up7_tot {A0 A1 A2 A3 A4 A5 R : Type} {body : (A0 → A1 → A2 → A3 → A4 → A5 → Int32 → Mem → Option R) → A0 → A1 → A2 → A3 → A4 → A5 → Int32 → Mem → Option R} {P : R → Prop} (e : Nat) (J : Nat → A0 → A1 → A2 → A3 → A4 → A5 → Mem → Prop)
    (hs : ∀ (k : A0 → A1 → A2 → A3 → A4 → A5 → Int32 → Mem → Option R) (i : Nat) (a0 : A0) (a1 : A1) (a2 : A2) (a3 : A3) (a4 : A4) (a5 : A5) (M : Mem), i < e → J i a0 a1 a2 a3 a4 a5 M → (∀ a0' a1' a2' a3' a4' a5' M', J (i + 1) a0' a1' a2' a3' a4' a5' M' → Tot (k a0' a1' a2' a3' a4' a5' (iz (i + 1 : Nat)) M') P) → Tot (body k a0 a1 a2 a3 a4 a5 (iz i) M) P)
    (hx : ∀ (k : A0 → A1 → A2 → A3 → A4 → A5 → Int32 → Mem → Option R) (a0 : A0) (a1 : A1) (a2 : A2) (a3 : A3) (a4 : A4) (a5 : A5) (M : Mem), J e a0 a1 a2 a3 a4 a5 M → Tot (body k a0 a1 a2 a3 a4 a5 (iz e) M) P) (n : Nat) (i : Nat) (a0 : A0) (a1 : A1) (a2 : A2) (a3 : A3) (a4 : A4) (a5 : A5) (M : Mem) (hi : i ≤ e) (h : J i a0 a1 a2 a3 a4 a5 M) (hn : e - i < n) : Tot (lq7 body n a0 a1 a2 a3 a4 a5 (iz i) M) P := by
  induction n generalizing i a0 a1 a2 a3 a4 a5 M with
  | zero => omega
  | succ n ih =>
    show Tot (body (lq7 body n) a0 a1 a2 a3 a4 a5 (iz i) M) P
    by_cases c : i = e
    · subst c; exact hx _ a0 a1 a2 a3 a4 a5 M h
    · exact hs _ i a0 a1 a2 a3 a4 a5 M (by omega) h (fun a0' a1' a2' a3' a4' a5' M' h' => ih (i + 1) a0' a1' a2' a3' a4' a5' M' (by omega) h' (by omega))
