theorem padd_Ok {P : Pg} (hP : PgOk P) (h4 : gS P < 4) : PgOk (padd P) := by
  have t : ∀ s b, gC (padd P) s b = if s = gS P then -9 else gC P s b := fun _ _ => rfl
  refine ⟨⟨⟨⟨by show 1 ≤ gS P + 1; omega, by show gS P + 1 ≤ 4; omega⟩, hP.1.1.2⟩, hP.1.2.1, fun s b hs hb => ?_⟩, fun s b hs hb h99 => ?_⟩
  · have hs : s < gS P + 1 := hs
    rw [t]
    by_cases e : s = gS P
    · rw [if_pos e]; exact Or.inl rfl
    · rw [if_neg e]; exact hP.1.2.2 s b (by omega) hb
  · have hs : s < gS P + 1 := hs
    rw [t] at h99 ⊢
    by_cases e : s = gS P
    · rw [if_pos e] at h99; omega
    · rw [if_neg e] at h99 ⊢
      exact hP.2 s b (by omega) hb h99
theorem pdrp_Ok {P : Pg} (hP : PgOk P) (h4 : 1 < gS P) : PgOk (pdrp P) := by
  have h1 := hP.1.1.1
  refine ⟨⟨⟨⟨by show 1 ≤ gS P - 1; omega, by show gS P - 1 ≤ 4; omega⟩, hP.1.1.2⟩, hP.1.2.1, fun s b hs hb => ?_⟩, fun s b hs hb h99 => ?_⟩
  · have hs : s < gS P - 1 := hs
    exact hP.1.2.2 s b (by omega) hb
  · have hs : s < gS P - 1 := hs
    exact hP.2 s b (by omega) hb h99
/-- the model: a row of rests at n, then the count -/
theorem mstaff_tot {M : Mem} {P : Pg} {n : Nat} (v1 : Int32) (x : Nat) (hx : x = if v1 = 0 then 0 else 1) (hn : n < 4) (h6 : M 30 6 = iz n) : Tot (f_X6_staff_b52 v1 M) (fun y => y.1 = iz (n + x : Nat) ∧ y.2 30 6 = iz (n + x : Nat) ∧ (∀ b, b < 16 → y.2 30 (8 + (16 * n + b)) = iz (-9)) ∧ (∀ j, j ≠ 6 → (j < 8 + 16 * n ∨ 8 + 16 * n + 16 ≤ j) → y.2 30 j = M 30 j) ∧ Off (fun d => d = 30) M y.2) := by
  unfold f_X6_staff_b52
  have i6 : inb 6 72 := by decide
  rw [show (0 : Int32) = iz ((0 : Nat) : Int) from rfl]
  refine up_tot 16 (fun i M' => M' 30 6 = iz n ∧ (∀ b, b < i → M' 30 (8 + (16 * n + b)) = iz (-9)) ∧ (∀ j, j ≠ 6 → (j < 8 + 16 * n ∨ 8 + 16 * n + 16 ≤ j) → M' 30 j = M 30 j) ∧ Off (fun d => d = 30) M M') ?_ ?_ 9999 0 M (by omega) ⟨h6, fun b hb => absurd hb (Nat.not_lt_zero b), fun _ _ _ => rfl, Off.rf⟩ (by omega)
  · intro K i M' hi ⟨a, b, c, o⟩ hK
    unfold f_X6_staff_b54
    have l : ¬ ((16 : Int32) ≤ iz (i : Int)) := by rw [show (16 : Int32) = iz ((16 : Nat) : Int) from rfl, lez (by omega) (by omega)]; omega
    rw [if_neg l, if_pos i6, c6, a, at_eq, ob_some, l8, if_pos (inb_n (n := 8 + (16 * n + i)) (by omega) (by omega)), cl_n (n := 8 + (16 * n + i)) (by omega), a1z]
    refine hK _ ⟨by rw [mw_at, if_neg (by omega)]; exact a, fun b' hb' => ?_, fun j h1 h2 => by rw [mw_at, if_neg (by omega)]; exact c j h1 h2, o.put rfl⟩
    rw [mw_at]
    by_cases e : b' = i
    · rw [if_pos (by omega)]; rfl
    · rw [if_neg (by omega)]; exact b b' (by omega)
  · intro K M' ⟨a, b, c, o⟩
    unfold f_X6_staff_b54
    rw [if_pos (by decide)]
    unfold f_X6_staff_b87
    have go : ∀ y : Nat, y = x → Tot (f_X6_staff_b104 (iz y) (iz n) 6 30 M') (fun y => y.1 = iz (n + x : Nat) ∧ y.2 30 6 = iz (n + x : Nat) ∧ (∀ b, b < 16 → y.2 30 (8 + (16 * n + b)) = iz (-9)) ∧ (∀ j, j ≠ 6 → (j < 8 + 16 * n ∨ 8 + 16 * n + 16 ≤ j) → y.2 30 j = M 30 j) ∧ Off (fun d => d = 30) M y.2) := fun y hy => by
      subst hy
      unfold f_X6_staff_b104
      have e : iz (n : Int) + iz (y : Int) = iz ((n + y : Nat) : Int) := by rw [iz_add]; rfl
      rw [show lnA 30 = 72 from rfl, if_pos i6, if_pos i6, c6, e]
      have w : mw M' 30 6 (iz ((n + y : Nat) : Int)) 30 6 = iz ((n + y : Nat) : Int) := by rw [mw_at, if_pos rfl]
      have o1 : Off (fun d => d = 30) M (mw M' 30 6 (iz ((n + y : Nat) : Int))) := o.put rfl
      exact Tot.mk ⟨w, w, fun b' hb' => by show mw M' 30 6 (iz ((n + y : Nat) : Int)) 30 (8 + (16 * n + b')) = _; rw [mw_at, if_neg (by omega)]; exact b b' hb', fun j h1 h2 => by show mw M' 30 6 (iz ((n + y : Nat) : Int)) 30 j = _; rw [mw_at, if_neg h1]; exact c j h1 h2, o1⟩
    rw [if_pos i6, c6, a]
    by_cases k : v1 = 0
    · rw [if_pos k, show (0 : Int32) = iz ((0 : Nat) : Int) from rfl]
      exact go 0 (by rw [hx, if_pos k])
    · rw [if_neg k, show (1 : Int32) = iz ((1 : Nat) : Int) from rfl]
      exact go 1 (by rw [hx, if_neg k])
