/-! WHAT HOLDS AT THE START -/
theorem aK_prim {ty : FieldType} {a : Array Value} {s : State} (h : (Cond.arrayClass ty).before a s = true) : ∃ cA : ClassId, ArrOfT s cA ty ∧ s.vm.findClass ("[" ++ ty.toString) = some cA := by
  obtain ⟨cA, kA, comp, h1, h2, h3⟩ := Cond.arrayClass_spec h
  exact ⟨cA, fun n z => ⟨fun k h => (by cases h), kA, h2, comp, h3⟩, h1⟩
theorem aK_obj {C : String} {a : Array Value} {s : State} (h : (Cond.arrayOver (.object C)).before a s = true) : ∃ cA : ClassId, ArrOfT s cA (.object C) ∧ va_RA s cA (.object C) := by
  obtain ⟨comp, cA, kA, h1, h2, h3, h4, h5⟩ := Cond.arrayOver_spec h
  exact ⟨cA, fun n z => ⟨fun k h => (by cases h), kA, h3, comp, h4⟩, kA, comp, h3, h4, h1, h5⟩
theorem aK_arr {a : Array Value} {s : State} (h : (Cond.arrayOver (.array .int)).before a s = true) : ∃ cA : ClassId, ArrOfT s cA (.array .int) ∧ s.vm.findClass ("[" ++ (FieldType.array .int).toString) = some cA := by
  obtain ⟨ci, cA, kA, hci, -, hkA, hkindA, hnameA⟩ := arrayOverA_spec h
  exact ⟨cA, fun n z => ⟨fun k h => (by cases h), kA, hkA, ci, hkindA⟩, hnameA⟩
theorem st_table {nm : String} {s : State} {a : Array Value} {A : Nat → Prop} {f : Nat → Int32} (hA : ∀ q : Nat, q < s.heap.size → ¬ A q) (hl : (Cond.laysStatic "HandSpans" nm "[I").before a s = true) (hini : (Cond.initialized "HandSpans").before a s = true) (harr : (Cond.arrayOf (.static "HandSpans" nm "[I") .int).before a s = true) (hlen : (Cond.eq (.length (.static "HandSpans" nm "[I")) (.int 6)).before a s = true) (hel : ∀ j, j < 6 → (Cond.eq (.elem (.static "HandSpans" nm "[I") (.int (Int32.ofNat j))) (.int (f j))).before a s = true) : ∃ t : Nat, va_Z "HandSpans" nm "[I" (.ref t) A s s.heap ∧ va_T .int t 6 (fun k => .int (f k)) A s s.heap := by
  obtain ⟨t, h1, h2⟩ := va_Tof (N := 6) (f := fun k => .int (f k)) (by decide) harr (va_eqt hlen) (fun j hj => va_eqt (hel j hj)) hA
  exact ⟨t, va_Zof hl hini h1 hA, h2⟩
theorem i32_self (x : Int32) : Int32.ofNat x.toBitVec.toNat = x := by
  apply Int32.toBitVec.inj
  show BitVec.ofNat 32 x.toBitVec.toNat = x.toBitVec
  apply BitVec.eq_of_toNat_eq
  rw [BitVec.toNat_ofNat, Nat.mod_eq_of_lt x.toBitVec.isLt]
theorem start_G {p : Program} {s : State} {m : MethodId} {meth : Method} {c : Code} {b L : Nat} {xs : Nat → Int32} (C0 : lw_At p s m meth c b L xs) : ∃ G : GG, G.2.2.1 = (fun q => s.heap.size ≤ q) ∧ va_K G.1 vwCl (tys G) s ∧ Sg G s s.heap ∧ G.2.2.2 3 = b ∧ lnG G = L := by
  obtain ⟨hx, hb, hr, hml, hown, hts, hX, hbl, hlocks, hgv⟩ := C0
  have hg := flat_of_before _ hgv
  have tw := (Tw.of hts).use #[Value.ref b]
  have hA : ∀ q : Nat, q < s.heap.size → ¬ (fun q => s.heap.size ≤ q) q := fun q hq => Nat.not_le.mpr hq
  obtain ⟨c0, i0, k0⟩ := u_known tw tw_wsX0 (tw _ wt_111)
  obtain ⟨c1, i1, k1⟩ := u_known tw tw_wsX1 (tw _ wt_186)
  obtain ⟨c2, i2, k2⟩ := u_known tw tw_wsX2 (tw _ wt_104)
  obtain ⟨c3, i3, k3⟩ := u_known tw tw_wsX3 (tw _ wt_70)
  obtain ⟨c4, i4, k4⟩ := u_known tw tw_wsX4 (tw _ wt_53)
  obtain ⟨c5, i5, k5⟩ := u_known tw tw_wsX5 (tw _ wt_45)
  obtain ⟨a0, x0, y0⟩ := aK_prim (tw _ w_ai)
  obtain ⟨a1, x1, y1⟩ := aK_prim (tw _ w_az)
  obtain ⟨a2, x2, y2⟩ := aK_prim (tw _ w_ac)
  obtain ⟨a4, x4, y4⟩ := aK_arr (tw _ w_aai)
  obtain ⟨a5, x5, y5⟩ := aK_obj (tw _ wt_192)
  obtain ⟨a6, x6, y6⟩ := aK_obj (tw _ wt_110)
  have hini : (Cond.initialized "HandSpans").before #[Value.ref b] s = true := tw _ wt_30
  have word : ∀ {w : Cond} (i : Nat), lw_tbl[i]? = some w → w.before #[Value.ref b] s = true := fun i h => hts _ (List.mem_of_getElem? (i := i) h)
  obtain ⟨t0, z0, v0⟩ := st_table (nm := "SETTING_AT_FIRST") (f := fun k => sa_first.getD k 0) hA (word 84 (by decide +kernel)) hini (hg _ (by decide +kernel)) (hg _ (by decide +kernel)) (fun j hj => match j, hj with | 0, _ => hg _ (by decide +kernel) | 1, _ => hg _ (by decide +kernel) | 2, _ => hg _ (by decide +kernel) | 3, _ => hg _ (by decide +kernel) | 4, _ => hg _ (by decide +kernel) | 5, _ => hg _ (by decide +kernel) | n + 6, h => absurd h (by omega))
  obtain ⟨t1, z1, v1⟩ := st_table (nm := "LEAST_SETTING") (f := fun k => sa_least.getD k 0) hA (word 661 (by decide +kernel)) hini (hg _ (by decide +kernel)) (hg _ (by decide +kernel)) (fun j hj => match j, hj with | 0, _ => hg _ (by decide +kernel) | 1, _ => hg _ (by decide +kernel) | 2, _ => hg _ (by decide +kernel) | 3, _ => hg _ (by decide +kernel) | 4, _ => hg _ (by decide +kernel) | 5, _ => hg _ (by decide +kernel) | n + 6, h => absurd h (by omega))
  obtain ⟨t2, z2, v2⟩ := st_table (nm := "MOST_SETTING") (f := fun k => sa_most.getD k 0) hA (word 663 (by decide +kernel)) hini (hg _ (by decide +kernel)) (hg _ (by decide +kernel)) (fun j hj => match j, hj with | 0, _ => hg _ (by decide +kernel) | 1, _ => hg _ (by decide +kernel) | 2, _ => hg _ (by decide +kernel) | 3, _ => hg _ (by decide +kernel) | 4, _ => hg _ (by decide +kernel) | 5, _ => hg _ (by decide +kernel) | n + 6, h => absurd h (by omega))
  have q1 : vx_Zq Bundle.tN "UNASSIGNED_STACK" Bundle.steD (fun q => s.heap.size ≤ q) s s.heap := vx_Zqof (word 330 (by decide +kernel)) (tw _ wt_36) (hg _ (by decide +kernel)) hA
  have q2 : vx_Zq Bundle.tN "SUPPRESSED_SENTINEL" Bundle.listD (fun q => s.heap.size ≤ q) s s.heap := vx_Zqof (word 332 (by decide +kernel)) (tw _ wt_36) (hg _ (by decide +kernel)) hA
  have sE : (fun k => Int32.ofNat ((fun k => if k = 0 then t0 else if k = 1 then t1 else if k = 2 then t2 else if k = 3 then b else if k = 4 then L else (xs (k - 5)).toBitVec.toNat) (5 + k))) = xs := by
    funext k
    show Int32.ofNat (if 5 + k = 0 then t0 else if 5 + k = 1 then t1 else if 5 + k = 2 then t2 else if 5 + k = 3 then b else if 5 + k = 4 then L else (xs (5 + k - 5)).toBitVec.toNat) = xs k
    rw [if_neg (by omega), if_neg (by omega), if_neg (by omega), if_neg (by omega), if_neg (by omega), show 5 + k - 5 = k by omega]
    exact i32_self (xs k)
  refine ⟨((fun k => match k with | 0 => c0 | 1 => c1 | 2 => c2 | 3 => c3 | 4 => c4 | _ => c5, fun k => match k with | 0 => i0 | 1 => i1 | 2 => i2 | 3 => i3 | 4 => i4 | _ => i5), fun k => match k with | 0 => a0 | 1 => a1 | 2 => a2 | 3 => a0 | 4 => a4 | 5 => a5 | _ => a6, fun q => s.heap.size ≤ q, fun k => if k = 0 then t0 else if k = 1 then t1 else if k = 2 then t2 else if k = 3 then b else if k = 4 then L else (xs (k - 5)).toBitVec.toNat), rfl, ⟨fun k q hq => ?_, fun k q hq => ?_⟩, ⟨⟨z0, v0⟩, ⟨z1, v1⟩, ⟨z2, v2⟩, q1, q2, fun x y hx hy hxy => ?_, ?_, Nat.not_le.mpr hbl⟩, rfl, rfl⟩
  · match k, hq with
    | 0, hq => cases hq; exact k0
    | 1, hq => cases hq; exact k1
    | 2, hq => cases hq; exact k2
    | 3, hq => cases hq; exact k3
    | 4, hq => cases hq; exact k4
    | 5, hq => cases hq; exact k5
    | k + 6, hq => simp [vwCl] at hq
  · match k, hq with
    | 0, hq => cases hq; exact ⟨x0, y0⟩
    | 1, hq => cases hq; exact ⟨x1, y1⟩
    | 2, hq => cases hq; exact ⟨x2, y2⟩
    | 3, hq => cases hq; exact ⟨x0, y0⟩
    | 4, hq => cases hq; exact ⟨x4, y4⟩
    | 5, hq => cases hq; exact ⟨x5, y5⟩
    | 6, hq => cases hq; exact ⟨x6, y6⟩
    | k + 7, hq => simp [tys] at hq
  · match x, y, hx, hy, hxy with
    | 0, 0, _, _, h => exact absurd rfl h
    | 0, 1, _, _, _ => exact va_Nc.of (hg _ (by decide +kernel))
    | 0, 2, _, _, _ => exact va_Nc.of (hg _ (by decide +kernel))
    | 1, 0, _, _, _ => exact va_Nc.of (hg _ (by decide +kernel))
    | 1, 1, _, _, h => exact absurd rfl h
    | 1, 2, _, _, _ => exact va_Nc.of (hg _ (by decide +kernel))
    | 2, 0, _, _, _ => exact va_Nc.of (hg _ (by decide +kernel))
    | 2, 1, _, _, _ => exact va_Nc.of (hg _ (by decide +kernel))
    | 2, 2, _, _, h => exact absurd rfl h
    | n + 3, _, h, _, _ => exact absurd h (by omega)
    | 0, n + 3, _, h, _ => exact absurd h (by omega)
    | 1, n + 3, _, h, _ => exact absurd h (by omega)
    | 2, n + 3, _, h, _ => exact absurd h (by omega)
  · show va_X b L (fun k => Int32.ofNat ((fun k => if k = 0 then t0 else if k = 1 then t1 else if k = 2 then t2 else if k = 3 then b else if k = 4 then L else (xs (k - 5)).toBitVec.toNat) (5 + k))) s s.heap
    rw [sE]
    exact hX
