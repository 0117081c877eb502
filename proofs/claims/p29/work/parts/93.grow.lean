/-! WORLDS THAT GROW -/
def rfs : Dsc → Nat → Prop
  | .inl (_, n, f) => fun r => ∃ k, k < n ∧ f k = some (some r)
  | .inr (.inl _) => fun _ => False
  | .inr (.inr (.inl (_, n, f))) => fun r => ∃ k, k < n ∧ f k = some r
  | .inr (.inr (.inr _)) => fun _ => False
def ZC (Z : ZZ) : Prop := ∀ j ∈ Z.2.2, ∀ r, rfs (Z.2.1 j) r → r ∈ Z.2.2
def ZK (G : GG) (Z : ZZ) : Prop := ZOk G Z ∧ ZC Z
def zadd (Z : ZZ) (i a : Nat) (D : Dsc) : ZZ := (fun j => if j = i then a else Z.1 j, fun j => if j = i then D else Z.2.1 j, Z.2.2 ++ [i])
def zput (Z : ZZ) (i : Nat) (D : Dsc) : ZZ := (Z.1, fun j => if j = i then D else Z.2.1 j, Z.2.2)
theorem wvP {G : GG} {Z : ZZ} {M : Mem} {H : Heap} : va_P G.1 vwCl (wv G Z M) H ↔ ∀ j ∈ Z.2.2, va_at G.1 vwCl (Z.1 j, el G.2.1 Z.1 (M j) (Z.2.1 j)) H := by
  refine ⟨fun h j hj => ?_, fun h k q hk => ?_⟩
  · obtain ⟨k, hk⟩ := List.mem_iff_getElem?.mp hj
    refine h k _ ?_
    unfold wv
    rw [List.getElem?_map, hk]; rfl
  · have := List.mem_of_getElem? hk
    unfold wv at this
    obtain ⟨j, hj, rfl⟩ := List.mem_map.mp this
    exact h j hj
theorem arrV_cong (cA : ClassId) (n : Nat) {f g : Nat → Value} (h : ∀ k, k < n → f k = g k) : arrV cA n f = arrV cA n g := by
  unfold arrV
  have : (Array.ofFn (n := n) fun j => f j.val) = (Array.ofFn (n := n) fun j => g j.val) := by
    congr 1
    funext j
    exact h j.val j.isLt
  rw [this]
/-- a cell seen in another way -/
def Sm (ad ad' : Nat → Nat) (m m' : Nat → Int32) : Dsc → Dsc → Prop
  | .inl (c, n, f), .inl (c', n', f') => c = c' ∧ n = n' ∧ ∀ k, k < n → fv ad m f k = fv ad' m' f' k
  | .inr (.inl (t, n)), .inr (.inl (t', n')) => t = t' ∧ n = n' ∧ ∀ k, k < n → m k = m' k
  | .inr (.inr (.inl (t, n, f))), .inr (.inr (.inl (t', n', f'))) => t = t' ∧ n = n' ∧ ∀ k, k < n → (f k).map ad = (f' k).map ad'
  | .inr (.inr (.inr n)), .inr (.inr (.inr n')) => n = n' ∧ ∀ k, k < n → m k = m' k
  | _, _ => False
theorem Sm.at {ad ad' : Nat → Nat} {m m' : Nat → Int32} {D D' : Dsc} {G1 : va_G} {tA : Nat → ClassId} {a : Nat} {H : Heap} (h : Sm ad ad' m m' D D') (k : va_at G1 vwCl (a, el tA ad m D) H) : va_at G1 vwCl (a, el tA ad' m' D') H := by
  match D, D', h with
  | .inl (c, n, f), .inl (c', n', f'), h =>
    obtain ⟨rfl, rfl, h⟩ := h
    have e : (List.range n).map (fv ad m f) = (List.range n).map (fv ad' m' f') := List.map_congr_left fun q hq => h q (List.mem_range.mp hq)
    show va_at G1 vwCl (a, .inr (c, (List.range n).map (fv ad' m' f'))) H
    rw [← e]
    exact k
  | .inr (.inl (t, n)), .inr (.inl (t', n')), h =>
    obtain ⟨rfl, rfl, h⟩ := h
    have k : H[a]? = some (arrV (tA t) n (fun j => .int (m j))) := k
    show H[a]? = some (arrV (tA t) n (fun j => .int (m' j)))
    rw [k, arrV_cong (tA t) n (fun q hq => by rw [h q hq])]
  | .inr (.inr (.inl (t, n, f))), .inr (.inr (.inl (t', n', f'))), h =>
    obtain ⟨rfl, rfl, h⟩ := h
    have k : H[a]? = some (arrV (tA t) n (fun j => va_rf ((f j).map ad))) := k
    show H[a]? = some (arrV (tA t) n (fun j => va_rf ((f' j).map ad')))
    rw [k, arrV_cong (tA t) n (fun q hq => by rw [h q hq])]
  | .inr (.inr (.inr n)), .inr (.inr (.inr n')), h =>
    obtain ⟨rfl, h⟩ := h
    have k : H[a]? = some (arrV (tA 3) n (fun j => .int (m j))) := k
    show H[a]? = some (arrV (tA 3) n (fun j => .int (m' j)))
    rw [k, arrV_cong (tA 3) n (fun q hq => by rw [h q hq])]
  | .inl _, .inr (.inl _), h => exact h.elim
  | .inl _, .inr (.inr (.inl _)), h => exact h.elim
  | .inl _, .inr (.inr (.inr _)), h => exact h.elim
  | .inr (.inl _), .inl _, h => exact h.elim
  | .inr (.inl _), .inr (.inr (.inl _)), h => exact h.elim
  | .inr (.inl _), .inr (.inr (.inr _)), h => exact h.elim
  | .inr (.inr (.inl _)), .inl _, h => exact h.elim
  | .inr (.inr (.inl _)), .inr (.inl _), h => exact h.elim
  | .inr (.inr (.inl _)), .inr (.inr (.inr _)), h => exact h.elim
  | .inr (.inr (.inr _)), .inl _, h => exact h.elim
  | .inr (.inr (.inr _)), .inr (.inl _), h => exact h.elim
  | .inr (.inr (.inr _)), .inr (.inr (.inl _)), h => exact h.elim
theorem Sm.rf {ad ad' : Nat → Nat} {m : Nat → Int32} {D : Dsc} (h : ∀ r, rfs D r → ad r = ad' r) : Sm ad ad' m m D D := by
  match D, h with
  | .inl (c, n, f), h =>
    refine ⟨rfl, rfl, fun k hk => ?_⟩
    unfold fv
    cases e : f k with
    | none => rfl
    | some o => cases o with
      | none => rfl
      | some r => exact congrArg Value.ref (h r ⟨k, hk, e⟩)
  | .inr (.inl (t, n)), _ => exact ⟨rfl, rfl, fun _ _ => rfl⟩
  | .inr (.inr (.inl (t, n, f))), h =>
    refine ⟨rfl, rfl, fun k hk => ?_⟩
    cases e : f k with
    | none => rfl
    | some r => exact congrArg some (h r ⟨k, hk, e⟩)
  | .inr (.inr (.inr n)), _ => exact ⟨rfl, fun _ _ => rfl⟩
theorem nodup_add {l : List Nat} {i : Nat} (h : l.Nodup) (hi : i ∉ l) : (l ++ [i]).Nodup := by
  rw [List.nodup_append]
  refine ⟨h, List.nodup_cons.mpr ⟨List.not_mem_nil, List.nodup_nil⟩, fun x hx y hy => ?_⟩
  rcases List.mem_singleton.mp hy with rfl
  exact fun e => hi (e ▸ hx)
theorem zadd_1 {Z : ZZ} {i a j : Nat} {D : Dsc} (h : j ≠ i) : (zadd Z i a D).1 j = Z.1 j := by show (if j = i then a else Z.1 j) = _; rw [if_neg h]
theorem zadd_2 {Z : ZZ} {i a j : Nat} {D : Dsc} (h : j ≠ i) : (zadd Z i a D).2.1 j = Z.2.1 j := by show (if j = i then D else Z.2.1 j) = _; rw [if_neg h]
theorem zadd_11 {Z : ZZ} {i a : Nat} {D : Dsc} : (zadd Z i a D).1 i = a := by show (if i = i then a else Z.1 i) = _; rw [if_pos rfl]
theorem zadd_21 {Z : ZZ} {i a : Nat} {D : Dsc} : (zadd Z i a D).2.1 i = D := by show (if i = i then D else Z.2.1 i) = _; rw [if_pos rfl]
theorem zput_2 {Z : ZZ} {i j : Nat} {D : Dsc} (h : j ≠ i) : (zput Z i D).2.1 j = Z.2.1 j := by show (if j = i then D else Z.2.1 j) = _; rw [if_neg h]
theorem zput_21 {Z : ZZ} {i : Nat} {D : Dsc} : (zput Z i D).2.1 i = D := by show (if i = i then D else Z.2.1 i) = _; rw [if_pos rfl]
/-- a new cell -/
theorem grow {G : GG} {Z : ZZ} {M : Mem} {H : Heap} {i a : Nat} {D : Dsc} {f : Nat → Int32} {e : va_E} (hz : ZK G Z) (hi : i ∉ Z.2.2) (hP : va_P G.1 vwCl (wv G Z M ++ [(a, e)]) H) (hD : va_D G.2.2.1 (wv G Z M ++ [(a, e)])) (he : va_at G.1 vwCl (a, e) H → va_at G.1 vwCl (a, el G.2.1 (zadd Z i a D).1 f D) H) (hr : ∀ r, rfs D r → r ∈ Z.2.2) : ZK G (zadd Z i a D) ∧ va_P G.1 vwCl (wv G (zadd Z i a D) (ms M i f)) H := by
  obtain ⟨⟨z1, z2, z3⟩, zc⟩ := hz
  have hlen : (wv G Z M).length = Z.2.2.length := by unfold wv; rw [List.length_map]
  have hlast : (wv G Z M ++ [(a, e)])[(wv G Z M).length]? = some (a, e) := by rw [List.getElem?_append_right (Nat.le_refl _), Nat.sub_self]; rfl
  have hold : ∀ j ∈ Z.2.2, ∃ k, k < (wv G Z M).length ∧ (wv G Z M ++ [(a, e)])[k]? = some (Z.1 j, el G.2.1 Z.1 (M j) (Z.2.1 j)) := fun j hj => by
    obtain ⟨k, hk⟩ := List.mem_iff_getElem?.mp hj
    have hk2 : (wv G Z M)[k]? = some (Z.1 j, el G.2.1 Z.1 (M j) (Z.2.1 j)) := by unfold wv; rw [List.getElem?_map, hk]; rfl
    have hl := (List.getElem?_eq_some_iff.mp hk2).1
    exact ⟨k, hl, by rw [List.getElem?_append_left hl]; exact hk2⟩
  have hne : ∀ j ∈ Z.2.2, Z.1 j ≠ a := fun j hj e' => by
    obtain ⟨k, hl, hk⟩ := hold j hj
    have := hD.1 k _ _ _ hk hlast e'
    omega
  have ni : ∀ j ∈ Z.2.2, j ≠ i := fun j hj e' => hi (e' ▸ hj)
  refine ⟨⟨⟨nodup_add z1 hi, fun x hx y hy hxy => ?_, fun x hx => ?_⟩, fun x hx r hrr => ?_⟩, wvP.mpr (fun x hx => ?_)⟩
  · rcases List.mem_append.mp hx with hx' | hx'
    · rcases List.mem_append.mp hy with hy' | hy'
      · rw [zadd_1 (ni x hx'), zadd_1 (ni y hy')] at hxy
        exact z2 x hx' y hy' hxy
      · have ey := List.mem_singleton.mp hy'
        rw [ey, zadd_1 (ni x hx'), zadd_11] at hxy
        exact absurd hxy (hne x hx')
    · have ex := List.mem_singleton.mp hx'
      rcases List.mem_append.mp hy with hy' | hy'
      · rw [ex, zadd_1 (ni y hy'), zadd_11] at hxy
        exact absurd hxy.symm (hne y hy')
      · rw [ex, List.mem_singleton.mp hy']
  · rcases List.mem_append.mp hx with hx | hx
    · rw [zadd_1 (ni x hx)]; exact z3 x hx
    · rcases List.mem_singleton.mp hx with rfl
      rw [zadd_11]
      exact hD.2 _ _ hlast
  · rcases List.mem_append.mp hx with hx | hx
    · rw [zadd_2 (ni x hx)] at hrr
      exact List.mem_append_left _ (zc x hx r hrr)
    · rcases List.mem_singleton.mp hx with rfl
      rw [zadd_21] at hrr
      exact List.mem_append_left _ (hr r hrr)
  · rcases List.mem_append.mp hx with hx | hx
    · obtain ⟨k, hl, hk⟩ := hold x hx
      rw [zadd_1 (ni x hx), zadd_2 (ni x hx), ms_ne (ni x hx)]
      exact (Sm.rf (fun r hrr => (zadd_1 (ni r (zc x hx r hrr))).symm)).at (hP k _ hk)
    · rcases List.mem_singleton.mp hx with rfl
      rw [zadd_11, zadd_21, ms_same]
      exact he (hP _ _ hlast)
theorem wv_put {G : GG} {Z : ZZ} {M : Mem} {i k : Nat} (hz : ZOk G Z) (hk : Z.2.2[k]? = some i) (D' : Dsc) : (wv G Z M).set k (Z.1 i, el G.2.1 Z.1 (M i) D') = wv G (zput Z i D') M := by
  unfold wv zput
  have := map_set (fun j => (Z.1 j, el G.2.1 Z.1 (M j) (Z.2.1 j))) (fun j => (Z.1 j, el G.2.1 Z.1 (M j) (if j = i then D' else Z.2.1 j))) Z.2.2 k hk hz.1 (fun j hj => by simp [hj])
  rw [← this]
  simp
theorem ZK.put {G : GG} {Z : ZZ} {i : Nat} {D : Dsc} (hz : ZK G Z) (hr : ∀ r, rfs D r → r ∈ Z.2.2) : ZK G (zput Z i D) := by
  refine ⟨⟨hz.1.1, hz.1.2.1, hz.1.2.2⟩, fun x hx r hrr => ?_⟩
  by_cases e : x = i
  · rw [e, zput_21] at hrr
    exact hr r hrr
  · rw [zput_2 e] at hrr
    exact hz.2 x hx r hrr
/-- one world behind another: what was there stays but for S; what is new is in S -/
def Ex (S : Nat → Prop) (Z : ZZ) (M : Mem) (Z' : ZZ) (M' : Mem) : Prop := (∀ j ∈ Z.2.2, j ∈ Z'.2.2 ∧ Z'.1 j = Z.1 j) ∧ (∀ j ∈ Z.2.2, ¬ S j → Z'.2.1 j = Z.2.1 j ∧ M' j = M j) ∧ ∀ j ∈ Z'.2.2, j ∈ Z.2.2 ∨ S j
theorem Ex.rf {S : Nat → Prop} {Z : ZZ} {M : Mem} : Ex S Z M Z M := ⟨fun _ h => ⟨h, rfl⟩, fun _ _ _ => ⟨rfl, rfl⟩, fun _ h => Or.inl h⟩
theorem Ex.tr {S : Nat → Prop} {Z Z' Z'' : ZZ} {M M' M'' : Mem} (h : Ex S Z M Z' M') (k : Ex S Z' M' Z'' M'') : Ex S Z M Z'' M'' := by
  refine ⟨fun j hj => ?_, fun j hj hs => ?_, fun j hj => ?_⟩
  · have a := h.1 j hj
    have b := k.1 j a.1
    exact ⟨b.1, b.2.trans a.2⟩
  · have a := h.1 j hj
    have b := h.2.1 j hj hs
    have c := k.2.1 j a.1 hs
    exact ⟨c.1.trans b.1, c.2.trans b.2⟩
  · rcases k.2.2 j hj with a | a
    · exact h.2.2 j a
    · exact Or.inr a
theorem Ex.wk {S T : Nat → Prop} {Z Z' : ZZ} {M M' : Mem} (h : Ex S Z M Z' M') (k : ∀ j, S j → T j) : Ex T Z M Z' M' := ⟨h.1, fun j hj hs => h.2.1 j hj (fun s => hs (k j s)), fun j hj => (h.2.2 j hj).imp id (k j)⟩
theorem Ex.add {S : Nat → Prop} {Z Z1 : ZZ} {M M1 : Mem} {i a : Nat} {D : Dsc} {f : Nat → Int32} (h : Ex S Z M Z1 M1) (hi : i ∉ Z1.2.2) (hs : S i) : Ex S Z M (zadd Z1 i a D) (ms M1 i f) := by
  refine h.tr ⟨fun j hj => ⟨List.mem_append_left _ hj, zadd_1 (fun e => hi (e ▸ hj))⟩, fun j hj hn => ?_, fun j hj => ?_⟩
  · have ne : j ≠ i := fun e => hn (e ▸ hs)
    exact ⟨zadd_2 ne, ms_ne ne⟩
  · rcases List.mem_append.mp hj with a | a
    · exact Or.inl a
    · rcases List.mem_singleton.mp a with rfl
      exact Or.inr hs
theorem Ex.put {S : Nat → Prop} {Z Z1 : ZZ} {M M1 : Mem} {i : Nat} {D : Dsc} (h : Ex S Z M Z1 M1) (hs : S i) : Ex S Z M (zput Z1 i D) M1 :=
  h.tr ⟨fun j hj => ⟨hj, rfl⟩, fun j hj hn => ⟨zput_2 (fun e => hn (e ▸ hs)), rfl⟩, fun j hj => Or.inl hj⟩
theorem Ex.mem {S : Nat → Prop} {Z Z1 : ZZ} {M M1 M2 : Mem} (h : Ex S Z M Z1 M1) (o : Off S M1 M2) : Ex S Z M Z1 M2 :=
  h.tr ⟨fun j hj => ⟨hj, rfl⟩, fun j hj hn => ⟨rfl, o j hn⟩, fun j hj => Or.inl hj⟩
theorem Ex.at {S : Nat → Prop} {Z Z' : ZZ} {M M' : Mem} {i : Nat} {D : Dsc} (h : Ex S Z M Z' M') (hs : ¬ S i) (a : At Z i D) : At Z' i D := ⟨(h.1 i a.1).1, (h.2.1 i a.1 hs).1.trans a.2⟩
