/-! THE TABLES' WORDS, all of one kind: a fact of the machine's state that stays when it warms up -/
def okw : Cond → Bool
  | .arrayClass _ => true
  | .fieldLinkNest .. => true
  | .methodLinkNest .. => true
  | .declares _ => true
  | .castable .. => true
  | .arrayOver _ => true
  | w => w.onTables && w.keeps
def TW : List Cond := lw_tbl.filter okw
theorem tw_in {w : Cond} (h : w ∈ lw_tbl) (o : okw w = true) : w ∈ TW := List.mem_filter.mpr ⟨h, o⟩
theorem tw_at {i : Nat} {w : Cond} (h : lw_tbl[i]? = some w) (o : okw w = true) : w ∈ TW := tw_in (List.mem_of_getElem? h) o
theorem tw_warm {a a' : Array Value} {s U : State} (hW : s.WarmedH U.vm) {w : Cond} (ho : okw w = true) (h : w.before a s = true) : w.before a' U = true := by
  cases w with
  | arrayClass t => exact word_at hW (Or.inr ⟨_, rfl⟩) h
  | fieldLinkNest x i b n d hh => exact va_Nw.use rfl (va_Nw.warmF hW (va_Nw.of rfl h))
  | methodLinkNest x i b hh => exact va_Nw.use rfl (va_Nw.warmM hW (va_Nw.of rfl h))
  | declares x => exact va_Nw.use rfl (va_Nw.warmD hW (va_Nw.of rfl h))
  | castable x y => exact va_Nw.use rfl (va_Nw.warmC hW (va_Nw.of rfl h))
  | arrayOver ty =>
    have h1 : (Cond.arrayOver ty).before a (s.setVm U.vm) = true := by rw [Cond.arrayOver_setVmC hW.alike]; exact h
    exact h1
  | _ => exact word_at hW (Or.inl ho) h
/-- all words, at a state -/
def Tw (U : State) : Prop := ∀ w ∈ TW, w.before #[] U = true
theorem Tw.warm {s U : State} (hW : s.WarmedH U.vm) (h : Tw s) : Tw U := fun w hw => tw_warm hW (List.mem_filter.mp hw).2 (h w hw)
theorem Tw.of {a : Array Value} {s : State} (h : ∀ w ∈ lw_tbl, w.before a s = true) : Tw s := fun w hw => tw_warm (State.WarmedH.refl s) (List.mem_filter.mp hw).2 (h w (List.mem_filter.mp hw).1)
theorem Tw.use {s : State} (h : Tw s) (a : Array Value) : ∀ w ∈ TW, w.before a s = true := fun w hw => tw_warm (State.WarmedH.refl s) (List.mem_filter.mp hw).2 (h w hw)
theorem Tw.same {s U : State} (e : s.vm = U.vm) (h : Tw s) : Tw U := Tw.warm (by rw [← e]; exact State.WarmedH.refl s) h
theorem tw_wsX0 : ∀ w ∈ u_ws RX0 TX0 14, w ∈ TW := by decide +kernel
theorem tw_wsX1 : ∀ w ∈ u_ws RX1 TX1 3, w ∈ TW := by decide +kernel
theorem tw_wsX2 : ∀ w ∈ u_ws RX2 TX2 5, w ∈ TW := by decide +kernel
theorem tw_wsX3 : ∀ w ∈ u_ws RX3 TX3 4, w ∈ TW := by decide +kernel
theorem tw_wsX4 : ∀ w ∈ u_ws RX4 TX4 3, w ∈ TW := by decide +kernel
theorem tw_wsX5 : ∀ w ∈ u_ws RX5 TX5 7, w ∈ TW := by decide +kernel
