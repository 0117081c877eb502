/-! MASKS -/
def w5 (a b c d e : Bool) : Int32 := (if a then 1 else 0) ||| (if b then 2 else 0) ||| (if c then 4 else 0) ||| (if d then 8 else 0) ||| (if e then 16 else 0)
theorem w5_and : ∀ a b c d e a' b' c' d' e' : Bool, w5 a b c d e &&& w5 a' b' c' d' e' = w5 (a && a') (b && b') (c && c') (d && d') (e && e') := by decide
theorem w5_or : ∀ a b c d e a' b' c' d' e' : Bool, w5 a b c d e ||| w5 a' b' c' d' e' = w5 (a || a') (b || b') (c || c') (d || d') (e || e') := by decide
theorem w5_xor : ∀ a b c d e a' b' c' d' e' : Bool, w5 a b c d e ^^^ w5 a' b' c' d' e' = w5 (a != a') (b != b') (c != c') (d != d') (e != e') := by decide
theorem w5_andn : ∀ a b c d e a' b' c' d' e' : Bool, w5 a b c d e &&& (w5 a' b' c' d' e' ^^^ (-1)) = w5 (a && !a') (b && !b') (c && !c') (d && !d') (e && !e') := by decide
theorem w5_zero : ∀ a b c d e : Bool, (w5 a b c d e = 0) ↔ (a = false ∧ b = false ∧ c = false ∧ d = false ∧ e = false) := by decide
def mf (f : Nat → Bool) : Int32 := w5 (f 0) (f 1) (f 2) (f 3) (f 4)
theorem mf_and (f g : Nat → Bool) : mf f &&& mf g = mf (fun k => f k && g k) := w5_and _ _ _ _ _ _ _ _ _ _
theorem mf_or (f g : Nat → Bool) : mf f ||| mf g = mf (fun k => f k || g k) := w5_or _ _ _ _ _ _ _ _ _ _
theorem mf_xor (f g : Nat → Bool) : mf f ^^^ mf g = mf (fun k => f k != g k) := w5_xor _ _ _ _ _ _ _ _ _ _
theorem mf_andn (f g : Nat → Bool) : mf f &&& (mf g ^^^ (-1)) = mf (fun k => f k && !g k) := w5_andn _ _ _ _ _ _ _ _ _ _
theorem mf_cong {f g : Nat → Bool} (h : ∀ k, k < 5 → f k = g k) : mf f = mf g := by
  unfold mf
  rw [h 0 (by omega), h 1 (by omega), h 2 (by omega), h 3 (by omega), h 4 (by omega)]
theorem lt5 {k : Nat} (h : k < 5) : k = 0 ∨ k = 1 ∨ k = 2 ∨ k = 3 ∨ k = 4 := by omega
theorem mf_zero (f : Nat → Bool) : (mf f = 0) = ∀ k, k < 5 → f k = false := by
  refine propext ⟨fun h k hk => ?_, fun h => ?_⟩
  · have := (w5_zero _ _ _ _ _).mp h
    rcases lt5 hk with rfl | rfl | rfl | rfl | rfl
    · exact this.1
    · exact this.2.1
    · exact this.2.2.1
    · exact this.2.2.2.1
    · exact this.2.2.2.2
  · exact (w5_zero _ _ _ _ _).mpr ⟨h 0 (by omega), h 1 (by omega), h 2 (by omega), h 3 (by omega), h 4 (by omega)⟩
theorem mf_none : mf (fun _ => false) = iz 0 := by decide
theorem mf_sh (k : Nat) (hk : k < 5) : (1 : Int32) <<< (iz k &&& 31) = mf (fun j => decide (j = k)) := by
  rcases lt5 hk with rfl | rfl | rfl | rfl | rfl <;> decide
theorem mf_set (f : Nat → Bool) {k : Nat} (hk : k < 5) : mf f ||| ((1 : Int32) <<< (iz k &&& 31)) = mf (fun j => f j || decide (j = k)) := by
  rw [mf_sh k hk, mf_or]
theorem w5_bit0 : ∀ a b c d e : Bool, ((w5 a b c d e >>> (iz 0 &&& 31)) &&& 1 = 1) ↔ a = true := by decide
theorem w5_bit1 : ∀ a b c d e : Bool, ((w5 a b c d e >>> (iz 1 &&& 31)) &&& 1 = 1) ↔ b = true := by decide
theorem w5_bit2 : ∀ a b c d e : Bool, ((w5 a b c d e >>> (iz 2 &&& 31)) &&& 1 = 1) ↔ c = true := by decide
theorem w5_bit3 : ∀ a b c d e : Bool, ((w5 a b c d e >>> (iz 3 &&& 31)) &&& 1 = 1) ↔ d = true := by decide
theorem w5_bit4 : ∀ a b c d e : Bool, ((w5 a b c d e >>> (iz 4 &&& 31)) &&& 1 = 1) ↔ e = true := by decide
theorem mf_bit (f : Nat → Bool) {k : Nat} (hk : k < 5) : (((mf f >>> (iz k &&& 31)) &&& 1) = 1) = (f k = true) := by
  refine propext ?_
  rcases lt5 hk with rfl | rfl | rfl | rfl | rfl
  · exact w5_bit0 _ _ _ _ _
  · exact w5_bit1 _ _ _ _ _
  · exact w5_bit2 _ _ _ _ _
  · exact w5_bit3 _ _ _ _ _
  · exact w5_bit4 _ _ _ _ _
def b01 (b : Bool) : Int := if b then 1 else 0
def nf (f : Nat → Bool) : Int := b01 (f 0) + b01 (f 1) + b01 (f 2) + b01 (f 3) + b01 (f 4)
theorem nf_rng (f : Nat → Bool) : 0 ≤ nf f ∧ nf f ≤ 5 := by
  unfold nf b01
  refine ⟨?_, ?_⟩ <;> (repeat' split) <;> omega
theorem w5_cnt : ∀ a b c d e : Bool, (f_J6_bitCount_0f7a4 (w5 a b c d e) (fun _ _ => 0)).map (fun x => x.1) = some (iz (b01 a + b01 b + b01 c + b01 d + b01 e)) := by decide
theorem bitCount_eq (f : Nat → Bool) (M : Mem) : f_J6_bitCount_0f7a4 (mf f) M = some (iz (nf f), M) := by
  have h := w5_cnt (f 0) (f 1) (f 2) (f 3) (f 4)
  unfold f_J6_bitCount_0f7a4 at h ⊢
  simp only [Option.map_some, Option.some.injEq] at h
  exact congrArg (fun x => some (x, M)) h
