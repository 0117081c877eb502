/-! THE CELLS OF A RUN: HandSpans (0), Text (1, 2), History (3, 4), slots (5), filled (6), Reduction (7 .. 26), the model (27 .. 42), the law's answer (43), 18 states of 3, 17 chords of 12 -/
abbrev rf (j : Nat) : Option (Option Nat) := some (some j)
abbrev dHS : Dsc := .inl (5, 7, fun k => match k with | 0 => rf 1 | 1 => rf (iSt 0) | 2 => rf (iSt 1) | 3 => rf 7 | 4 => rf 3 | 5 => rf 5 | _ => rf 6)
abbrev dText : Dsc := .inl (4, 3, fun k => match k with | 0 => rf 2 | _ => none)
abbrev dHist : Dsc := .inl (1, 3, fun k => match k with | 0 => rf 4 | _ => none)
abbrev dRed : Dsc := .inl (2, 5, fun k => match k with | 0 => rf 8 | 1 => rf (iCh 16) | 2 => rf 9 | 3 => rf 10 | _ => none)
abbrev dSt (k : Nat) : Dsc := .inl (3, 4, fun j => match j with | 0 => rf (iSt k + 1) | 1 => rf (iSt k + 2) | _ => none)
abbrev dCh (b : Nat) : Dsc := .inl (0, 14, fun j => match j with | 0 => rf (iCh b + 1) | 1 => none | 2 => none | 3 => none | 4 => rf (iCh b + 2) | 5 => rf (iCh b + 3) | 6 => none | 7 => none | 8 => rf (iCh b + 4) | 9 => none | 10 => none | 11 => rf (iCh b + 5) | 12 => rf (iCh b + 6) | _ => rf (iCh b + 9))
abbrev dA (t n : Nat) : Dsc := .inr (.inl (t, n))
abbrev dR (t n : Nat) (f : Nat → Nat) : Dsc := .inr (.inr (.inl (t, n, fun j => some (f j))))
abbrev dRing : Dsc := dR 5 14 (fun j => iSt (4 + j))
abbrev dSlots : Dsc := dR 5 2 (fun j => iSt (2 + j))
abbrev dChords : Dsc := dR 6 16 (fun j => iCh j)
abbrev dAhead : Dsc := dR 4 16 (fun j => 11 + j)
abbrev dPos (b : Nat) : Dsc := dR 4 2 (fun j => iCh b + 7 + j)
abbrev dWid (b : Nat) : Dsc := dR 4 2 (fun j => iCh b + 10 + j)
def TB1 (i : Nat) : Dsc := match i with
  | 0 => dHS | 1 => dText | 2 => dA 2 140 | 3 => dHist | 4 => dRing | 5 => dSlots | 6 => dA 1 2 | 7 => dRed | 8 => dChords | 9 => dA 0 16 | 10 => dAhead
  | _ => dA 0 5
def TBS (k j : Nat) : Dsc := match j with | 0 => dSt k | 1 => dA 0 6 | _ => dA 0 64
def TBC (b j : Nat) : Dsc := match j with | 0 => dCh b | 1 => dA 0 2 | 2 => dA 0 4 | 3 => dA 0 4 | 4 => dA 0 4 | 5 => dA 0 5 | 6 => dPos b | 7 => dA 0 5 | 8 => dA 0 5 | 9 => dWid b | 10 => dA 0 5 | _ => dA 0 5
def TB (i : Nat) : Dsc := if i < 44 then TB1 i else if i < 98 then TBS ((i - 44) / 3) ((i - 44) % 3) else TBC ((i - 98) / 12) ((i - 98) % 12)
def ZM (Z : ZZ) : Prop := ∀ i : Nat, i < 302 → (i < 27 ∨ 44 ≤ i) → At Z i (TB i)
theorem TB_1 {i : Nat} (h : i < 44) : TB i = TB1 i := by unfold TB; rw [if_pos h]
theorem TB_S {k j : Nat} (hk : k < 18) (hj : j < 3) : TB (iSt k + j) = TBS k j := by
  unfold TB iSt
  rw [if_neg (by omega), if_pos (by omega), show (44 + 3 * k + j - 44) / 3 = k by omega, show (44 + 3 * k + j - 44) % 3 = j by omega]
theorem TB_C {b j : Nat} (hj : j < 12) : TB (iCh b + j) = TBC b j := by
  unfold TB iCh
  rw [if_neg (by omega), if_neg (by omega), show (98 + 12 * b + j - 98) / 12 = b by omega, show (98 + 12 * b + j - 98) % 12 = j by omega]
theorem z_1 {Z : ZZ} (hZ : ZM Z) (i : Nat) {D : Dsc} (h : i < 27) (e : TB1 i = D) : At Z i D := by
  have := hZ i (by omega) (by omega)
  rw [TB_1 (by omega), e] at this
  exact this
theorem z_S {Z : ZZ} (hZ : ZM Z) {k : Nat} (hk : k < 18) : At Z (iSt k) (dSt k) := by
  have := hZ (iSt k + 0) (by unfold iSt; omega) (by unfold iSt; omega)
  rw [TB_S hk (by decide)] at this
  exact this
theorem z_S1 {Z : ZZ} (hZ : ZM Z) {k : Nat} (hk : k < 18) : At Z (iSt k + 1) (dA 0 6) := by
  have := hZ (iSt k + 1) (by unfold iSt; omega) (by unfold iSt; omega)
  rw [TB_S hk (by decide)] at this
  exact this
theorem z_S2 {Z : ZZ} (hZ : ZM Z) {k : Nat} (hk : k < 18) : At Z (iSt k + 2) (dA 0 64) := by
  have := hZ (iSt k + 2) (by unfold iSt; omega) (by unfold iSt; omega)
  rw [TB_S hk (by decide)] at this
  exact this
theorem z_C {Z : ZZ} (hZ : ZM Z) {b : Nat} (hb : b < 17) : At Z (iCh b) (dCh b) := by
  have := hZ (iCh b + 0) (by unfold iCh; omega) (by unfold iCh; omega)
  rw [TB_C (by decide)] at this
  exact this
theorem z_Cj {Z : ZZ} (hZ : ZM Z) {b : Nat} (hb : b < 17) (j : Nat) {D : Dsc} (hj : j < 12) (e : TBC b j = D) : At Z (iCh b + j) D := by
  have := hZ (iCh b + j) (by unfold iCh; omega) (by unfold iCh; omega)
  rw [TB_C hj, e] at this
  exact this
/-- positions and widths by hand -/
theorem z_Ph {Z : ZZ} (hZ : ZM Z) {b h : Nat} (hb : b < 17) (hh : h < 2) : At Z (iCh b + 7 + h) (dA 0 5) := by
  match h, hh with
  | 0, _ => exact z_Cj hZ hb 7 (by decide) rfl
  | 1, _ => exact z_Cj hZ hb 8 (by decide) rfl
theorem z_Wh {Z : ZZ} (hZ : ZM Z) {b h : Nat} (hb : b < 17) (hh : h < 2) : At Z (iCh b + 10 + h) (dA 0 5) := by
  match h, hh with
  | 0, _ => exact z_Cj hZ hb 10 (by decide) rfl
  | 1, _ => exact z_Cj hZ hb 11 (by decide) rfl
theorem z_Ah {Z : ZZ} (hZ : ZM Z) {j : Nat} (hj : j < 16) : At Z (11 + j) (dA 0 5) := by
  have h := hZ (11 + j) (by omega) (by omega)
  rw [TB_1 (by omega)] at h
  have e : TB1 (11 + j) = dA 0 5 := by
    match j, hj with
    | 0, _ => rfl | 1, _ => rfl | 2, _ => rfl | 3, _ => rfl | 4, _ => rfl | 5, _ => rfl | 6, _ => rfl | 7, _ => rfl | 8, _ => rfl | 9, _ => rfl | 10, _ => rfl | 11, _ => rfl | 12, _ => rfl | 13, _ => rfl | 14, _ => rfl | 15, _ => rfl | n + 16, h => exact absurd h (by omega)
  rw [e] at h
  exact h
def ArI (r : Nat) : Prop := r < 44 ∧ TB1 r = dA 0 (lnA r)
theorem inb_vp {x : Int32} {N : Nat} (h : inb x N) : vp_in x N := vp_in_iff.mpr h
theorem inb_lt {x : Int32} {N : Nat} (h : inb x N) : x.toNatClampNeg < N := by
  have h1 := h.1
  have h2 := h.2
  show x.toInt.toNat < N
  omega
theorem st_ring {x : Int32} (h : inb x 14) : 4 + x.toNatClampNeg < 18 := by have := inb_lt h; omega
theorem st_slot {x : Int32} (h : inb x 2) : 2 + x.toNatClampNeg < 18 := by have := inb_lt h; omega
theorem ch_at {x : Int32} (h : inb x 16) : x.toNatClampNeg < 17 := by have := inb_lt h; omega
theorem ZM.up {Z Z1 : ZZ} (h : ZM Z) (e : ∀ (i : Nat) (D : Dsc), At Z i D → At Z1 i D) : ZM Z1 := fun i a b => e i _ (h i a b)
