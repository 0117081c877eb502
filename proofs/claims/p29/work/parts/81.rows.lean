section RR
variable {X : XX} {G : GG} {Z : ZZ} {M : Mem} {k n : Nat} {Q : State → Prop} {pc : Nat} {L : List (Nat × Value)} {rest : List Value} {own : String} {cc : ByteArray} {ret : Option FieldType} {d mc ms nL : Nat}
theorem r_iconst {c : Int} {v : Int32} (hC : Cx X G own cc ret d mc ms nL) (hdg : decode cc pc = .ok (.iconst c, 1)) (hv : Int32.ofInt c = v) (kk : V X G Z M k n Q (pc + 1) L (.int v :: rest)) : V X G Z M k n Q pc L rest := by
  obtain ⟨⟨hx, hb, hr, hml, hn⟩, hown, htw, hlk, hK, hA, hsg, hst, hR⟩ := hC
  intro H locs ls hP hS hl
  exact lv_iconst hx hb hdg hv (kk H locs ls hP hS hl)
theorem r_bipush {c : Int} {v : Int32} (hC : Cx X G own cc ret d mc ms nL) (hdg : decode cc pc = .ok (.bipush c, 2)) (hv : (Int8.ofInt c).toInt32 = v) (kk : V X G Z M k n Q (pc + 2) L (.int v :: rest)) : V X G Z M k n Q pc L rest := by
  obtain ⟨⟨hx, hb, hr, hml, hn⟩, hown, htw, hlk, hK, hA, hsg, hst, hR⟩ := hC
  intro H locs ls hP hS hl
  exact lv_bipush hx hb hdg hv (kk H locs ls hP hS hl)
theorem r_sipush {c : Int} {v : Int32} (hC : Cx X G own cc ret d mc ms nL) (hdg : decode cc pc = .ok (.sipush c, 3)) (hv : (Int16.ofInt c).toInt32 = v) (kk : V X G Z M k n Q (pc + 3) L (.int v :: rest)) : V X G Z M k n Q pc L rest := by
  obtain ⟨⟨hx, hb, hr, hml, hn⟩, hown, htw, hlk, hK, hA, hsg, hst, hR⟩ := hC
  intro H locs ls hP hS hl
  exact lv_sipush hx hb hdg hv (kk H locs ls hP hS hl)
theorem r_lconst {c : Fin 2} {v : Int64} (hC : Cx X G own cc ret d mc ms nL) (hdg : decode cc pc = .ok (.lconst c, 1)) (hv : Int64.ofNat (c : Nat) = v) (kk : V X G Z M k n Q (pc + 1) L (.long v :: rest)) : V X G Z M k n Q pc L rest := by
  obtain ⟨⟨hx, hb, hr, hml, hn⟩, hown, htw, hlk, hK, hA, hsg, hst, hR⟩ := hC
  intro H locs ls hP hS hl
  exact lv_lconst hx hb hdg hv (kk H locs ls hP hS hl)
theorem r_ldc {i : Nat} {v : Int32} (hC : Cx X G own cc ret d mc ms nL) (hdg : decode cc pc = .ok (.ldc i, 2)) (hw : Cond.constant own i v ∈ TW) (kk : V X G Z M k n Q (pc + 2) L (.int v :: rest)) : V X G Z M k n Q pc L rest := by
  obtain ⟨⟨hx, hb, hr, hml, hn⟩, hown, htw, hlk, hK, hA, hsg, hst, hR⟩ := hC
  intro H locs ls hP hS hl
  exact lv_ldc hx hb hown (htw.use _ _ hw) hdg (kk H locs ls hP hS hl)
theorem r_ldcw {i : Nat} {v : Int32} (hC : Cx X G own cc ret d mc ms nL) (hdg : decode cc pc = .ok (.ldc_w i, 3)) (hw : Cond.constant own i v ∈ TW) (kk : V X G Z M k n Q (pc + 3) L (.int v :: rest)) : V X G Z M k n Q pc L rest := by
  obtain ⟨⟨hx, hb, hr, hml, hn⟩, hown, htw, hlk, hK, hA, hsg, hst, hR⟩ := hC
  intro H locs ls hP hS hl
  exact lv_ldcw hx hb hown (htw.use _ _ hw) hdg (kk H locs ls hP hS hl)
theorem r_ldc2 {i : Nat} {v : Int64} (hC : Cx X G own cc ret d mc ms nL) (hdg : decode cc pc = .ok (.ldc2_w i, 3)) (hw : Cond.constantLong own i v ∈ TW) (kk : V X G Z M k n Q (pc + 3) L (.long v :: rest)) : V X G Z M k n Q pc L rest := by
  obtain ⟨⟨hx, hb, hr, hml, hn⟩, hown, htw, hlk, hK, hA, hsg, hst, hR⟩ := hC
  intro H locs ls hP hS hl
  exact lv_ldc2 hx hb hown (htw.use _ _ hw) hdg (kk H locs ls hP hS hl)
theorem r_iload_n {c : Fin 4} {x : Int32} (hC : Cx X G own cc ret d mc ms nL) (hdg : decode cc pc = .ok (.iload_n c, 1)) (j : Nat) (hj : L[j]? = some ((c : Nat), .int x)) (kk : V X G Z M k n Q (pc + 1) L (.int x :: rest)) : V X G Z M k n Q pc L rest := by
  obtain ⟨⟨hx, hb, hr, hml, hn⟩, hown, htw, hlk, hK, hA, hsg, hst, hR⟩ := hC
  intro H locs ls hP hS hl
  exact lv_iload_n hx hb hdg rfl (lv_at hl j hj) (kk H locs ls hP hS hl)
theorem r_iload {c : Nat} {x : Int32} (hC : Cx X G own cc ret d mc ms nL) (hdg : decode cc pc = .ok (.iload c, 2)) (j : Nat) (hj : L[j]? = some (c, .int x)) (kk : V X G Z M k n Q (pc + 2) L (.int x :: rest)) : V X G Z M k n Q pc L rest := by
  obtain ⟨⟨hx, hb, hr, hml, hn⟩, hown, htw, hlk, hK, hA, hsg, hst, hR⟩ := hC
  intro H locs ls hP hS hl
  exact lv_iload hx hb hdg (lv_at hl j hj) (kk H locs ls hP hS hl)
theorem r_lload_n {c : Fin 4} {x : Int64} (hC : Cx X G own cc ret d mc ms nL) (hdg : decode cc pc = .ok (.lload_n c, 1)) (j : Nat) (hj : L[j]? = some ((c : Nat), .long x)) (kk : V X G Z M k n Q (pc + 1) L (.long x :: rest)) : V X G Z M k n Q pc L rest := by
  obtain ⟨⟨hx, hb, hr, hml, hn⟩, hown, htw, hlk, hK, hA, hsg, hst, hR⟩ := hC
  intro H locs ls hP hS hl
  exact lv_lload_n hx hb hdg rfl (lv_at hl j hj) (kk H locs ls hP hS hl)
theorem r_lload {c : Nat} {x : Int64} (hC : Cx X G own cc ret d mc ms nL) (hdg : decode cc pc = .ok (.lload c, 2)) (j : Nat) (hj : L[j]? = some (c, .long x)) (kk : V X G Z M k n Q (pc + 2) L (.long x :: rest)) : V X G Z M k n Q pc L rest := by
  obtain ⟨⟨hx, hb, hr, hml, hn⟩, hown, htw, hlk, hK, hA, hsg, hst, hR⟩ := hC
  intro H locs ls hP hS hl
  exact lv_lload hx hb hdg (lv_at hl j hj) (kk H locs ls hP hS hl)
theorem r_aload_n {c : Fin 4} {x : Nat} (hC : Cx X G own cc ret d mc ms nL) (hdg : decode cc pc = .ok (.aload_n c, 1)) (j : Nat) (hj : L[j]? = some ((c : Nat), .ref x)) (kk : V X G Z M k n Q (pc + 1) L (.ref x :: rest)) : V X G Z M k n Q pc L rest := by
  obtain ⟨⟨hx, hb, hr, hml, hn⟩, hown, htw, hlk, hK, hA, hsg, hst, hR⟩ := hC
  intro H locs ls hP hS hl
  exact lv_aload_n hx hb hdg rfl (lv_at hl j hj) (kk H locs ls hP hS hl)
theorem r_aload {c : Nat} {x : Nat} (hC : Cx X G own cc ret d mc ms nL) (hdg : decode cc pc = .ok (.aload c, 2)) (j : Nat) (hj : L[j]? = some (c, .ref x)) (kk : V X G Z M k n Q (pc + 2) L (.ref x :: rest)) : V X G Z M k n Q pc L rest := by
  obtain ⟨⟨hx, hb, hr, hml, hn⟩, hown, htw, hlk, hK, hA, hsg, hst, hR⟩ := hC
  intro H locs ls hP hS hl
  exact lv_aload hx hb hdg (lv_at hl j hj) (kk H locs ls hP hS hl)
theorem r_istore_n {c : Fin 4} {x : Int32} {L' : List (Nat × Value)} (hC : Cx X G own cc ret d mc ms nL) (hdg : decode cc pc = .ok (.istore_n c, 1)) (hc : ((c : Nat) < nL)) (hL : ((c : Nat), Value.int x) :: L.filter (fun q => !(q.1 == (c : Nat)) && !(q.1 + 1 == (c : Nat) && q.2.category == 2)) = L') (kk : V X G Z M k n Q (pc + 1) L' rest) : V X G Z M k n Q pc L (.int x :: rest) := by
  obtain ⟨⟨hx, hb, hr, hml, hn⟩, hown, htw, hlk, hK, hA, hsg, hst, hR⟩ := hC
  intro H locs ls hP hS hl
  exact lv_istore_n hx hb hdg rfl hl (by rw [hn]; exact hc) hL (fun ls' hl' => kk H locs ls' hP hS hl')
theorem r_istore {c : Nat} {x : Int32} {L' : List (Nat × Value)} (hC : Cx X G own cc ret d mc ms nL) (hdg : decode cc pc = .ok (.istore c, 2)) (hc : (c < nL)) (hL : (c, Value.int x) :: L.filter (fun q => !(q.1 == c) && !(q.1 + 1 == c && q.2.category == 2)) = L') (kk : V X G Z M k n Q (pc + 2) L' rest) : V X G Z M k n Q pc L (.int x :: rest) := by
  obtain ⟨⟨hx, hb, hr, hml, hn⟩, hown, htw, hlk, hK, hA, hsg, hst, hR⟩ := hC
  intro H locs ls hP hS hl
  exact lv_istore hx hb hdg hl (by rw [hn]; exact hc) hL (fun ls' hl' => kk H locs ls' hP hS hl')
theorem r_astore_n {c : Fin 4} {x : Nat} {L' : List (Nat × Value)} (hC : Cx X G own cc ret d mc ms nL) (hdg : decode cc pc = .ok (.astore_n c, 1)) (hc : ((c : Nat) < nL)) (hL : ((c : Nat), Value.ref x) :: L.filter (fun q => !(q.1 == (c : Nat)) && !(q.1 + 1 == (c : Nat) && q.2.category == 2)) = L') (kk : V X G Z M k n Q (pc + 1) L' rest) : V X G Z M k n Q pc L (.ref x :: rest) := by
  obtain ⟨⟨hx, hb, hr, hml, hn⟩, hown, htw, hlk, hK, hA, hsg, hst, hR⟩ := hC
  intro H locs ls hP hS hl
  exact lv_astore_n hx hb hdg rfl hl (by rw [hn]; exact hc) hL (fun ls' hl' => kk H locs ls' hP hS hl')
theorem r_astore {c : Nat} {x : Nat} {L' : List (Nat × Value)} (hC : Cx X G own cc ret d mc ms nL) (hdg : decode cc pc = .ok (.astore c, 2)) (hc : (c < nL)) (hL : (c, Value.ref x) :: L.filter (fun q => !(q.1 == c) && !(q.1 + 1 == c && q.2.category == 2)) = L') (kk : V X G Z M k n Q (pc + 2) L' rest) : V X G Z M k n Q pc L (.ref x :: rest) := by
  obtain ⟨⟨hx, hb, hr, hml, hn⟩, hown, htw, hlk, hK, hA, hsg, hst, hR⟩ := hC
  intro H locs ls hP hS hl
  exact lv_astore hx hb hdg hl (by rw [hn]; exact hc) hL (fun ls' hl' => kk H locs ls' hP hS hl')
theorem r_lstore_n {c : Fin 4} {x : Int64} {L' : List (Nat × Value)} (hC : Cx X G own cc ret d mc ms nL) (hdg : decode cc pc = .ok (.lstore_n c, 1)) (hc : ((c : Nat) + 1 < nL)) (hL : ((c : Nat), Value.long x) :: L.filter (fun q => !(q.1 == (c : Nat)) && (!(q.1 == (c : Nat) + 1) && !(q.1 + 1 == (c : Nat) && q.2.category == 2))) = L') (kk : V X G Z M k n Q (pc + 1) L' rest) : V X G Z M k n Q pc L (.long x :: rest) := by
  obtain ⟨⟨hx, hb, hr, hml, hn⟩, hown, htw, hlk, hK, hA, hsg, hst, hR⟩ := hC
  intro H locs ls hP hS hl
  exact lv_lstore_n hx hb hdg rfl hl (by rw [hn]; exact hc) hL (fun ls' hl' => kk H locs ls' hP hS hl')
theorem r_lstore {c : Nat} {x : Int64} {L' : List (Nat × Value)} (hC : Cx X G own cc ret d mc ms nL) (hdg : decode cc pc = .ok (.lstore c, 2)) (hc : (c + 1 < nL)) (hL : (c, Value.long x) :: L.filter (fun q => !(q.1 == c) && (!(q.1 == c + 1) && !(q.1 + 1 == c && q.2.category == 2))) = L') (kk : V X G Z M k n Q (pc + 2) L' rest) : V X G Z M k n Q pc L (.long x :: rest) := by
  obtain ⟨⟨hx, hb, hr, hml, hn⟩, hown, htw, hlk, hK, hA, hsg, hst, hR⟩ := hC
  intro H locs ls hP hS hl
  exact lv_lstore hx hb hdg hl (by rw [hn]; exact hc) hL (fun ls' hl' => kk H locs ls' hP hS hl')
theorem r_iinc {c : Nat} {a : Int} {x v : Int32} {L' : List (Nat × Value)} (hC : Cx X G own cc ret d mc ms nL) (hdg : decode cc pc = .ok (.iinc c a, 3)) (j : Nat) (hj : L[j]? = some (c, .int x)) (hv : x + Int32.ofInt a = v) (hc : c < nL) (hL : (c, Value.int v) :: L.filter (fun q => !(q.1 == c) && !(q.1 + 1 == c && q.2.category == 2)) = L') (kk : V X G Z M k n Q (pc + 3) L' rest) : V X G Z M k n Q pc L rest := by
  obtain ⟨⟨hx, hb, hr, hml, hn⟩, hown, htw, hlk, hK, hA, hsg, hst, hR⟩ := hC
  intro H locs ls hP hS hl
  exact lv_iinc hx hb hdg hl hj hv (by rw [hn]; exact hc) hL (fun ls' hl' => kk H locs ls' hP hS hl')
theorem r_iadd {x y : Int32} (hC : Cx X G own cc ret d mc ms nL) (hdg : decode cc pc = .ok (.iadd, 1)) (kk : V X G Z M k n Q (pc + 1) L (.int (x + y) :: rest)) : V X G Z M k n Q pc L (.int y :: .int x :: rest) := by
  obtain ⟨⟨hx, hb, hr, hml, hn⟩, hown, htw, hlk, hK, hA, hsg, hst, hR⟩ := hC
  intro H locs ls hP hS hl
  exact lv_iadd hx hb hdg (kk H locs ls hP hS hl)
theorem r_isub {x y : Int32} (hC : Cx X G own cc ret d mc ms nL) (hdg : decode cc pc = .ok (.isub, 1)) (kk : V X G Z M k n Q (pc + 1) L (.int (x - y) :: rest)) : V X G Z M k n Q pc L (.int y :: .int x :: rest) := by
  obtain ⟨⟨hx, hb, hr, hml, hn⟩, hown, htw, hlk, hK, hA, hsg, hst, hR⟩ := hC
  intro H locs ls hP hS hl
  exact lv_isub hx hb hdg (kk H locs ls hP hS hl)
theorem r_imul {x y : Int32} (hC : Cx X G own cc ret d mc ms nL) (hdg : decode cc pc = .ok (.imul, 1)) (kk : V X G Z M k n Q (pc + 1) L (.int (x * y) :: rest)) : V X G Z M k n Q pc L (.int y :: .int x :: rest) := by
  obtain ⟨⟨hx, hb, hr, hml, hn⟩, hown, htw, hlk, hK, hA, hsg, hst, hR⟩ := hC
  intro H locs ls hP hS hl
  exact lv_imul hx hb hdg (kk H locs ls hP hS hl)
theorem r_iand {x y : Int32} (hC : Cx X G own cc ret d mc ms nL) (hdg : decode cc pc = .ok (.iand, 1)) (kk : V X G Z M k n Q (pc + 1) L (.int (x &&& y) :: rest)) : V X G Z M k n Q pc L (.int y :: .int x :: rest) := by
  obtain ⟨⟨hx, hb, hr, hml, hn⟩, hown, htw, hlk, hK, hA, hsg, hst, hR⟩ := hC
  intro H locs ls hP hS hl
  exact lv_iand hx hb hdg (kk H locs ls hP hS hl)
theorem r_ior {x y : Int32} (hC : Cx X G own cc ret d mc ms nL) (hdg : decode cc pc = .ok (.ior, 1)) (kk : V X G Z M k n Q (pc + 1) L (.int (x ||| y) :: rest)) : V X G Z M k n Q pc L (.int y :: .int x :: rest) := by
  obtain ⟨⟨hx, hb, hr, hml, hn⟩, hown, htw, hlk, hK, hA, hsg, hst, hR⟩ := hC
  intro H locs ls hP hS hl
  exact lv_ior hx hb hdg (kk H locs ls hP hS hl)
theorem r_ixor {x y : Int32} (hC : Cx X G own cc ret d mc ms nL) (hdg : decode cc pc = .ok (.ixor, 1)) (kk : V X G Z M k n Q (pc + 1) L (.int (x ^^^ y) :: rest)) : V X G Z M k n Q pc L (.int y :: .int x :: rest) := by
  obtain ⟨⟨hx, hb, hr, hml, hn⟩, hown, htw, hlk, hK, hA, hsg, hst, hR⟩ := hC
  intro H locs ls hP hS hl
  exact lv_ixor hx hb hdg (kk H locs ls hP hS hl)
theorem r_ishl {x y : Int32} (hC : Cx X G own cc ret d mc ms nL) (hdg : decode cc pc = .ok (.ishl, 1)) (kk : V X G Z M k n Q (pc + 1) L (.int (x <<< (y &&& 31)) :: rest)) : V X G Z M k n Q pc L (.int y :: .int x :: rest) := by
  obtain ⟨⟨hx, hb, hr, hml, hn⟩, hown, htw, hlk, hK, hA, hsg, hst, hR⟩ := hC
  intro H locs ls hP hS hl
  exact lv_ishl hx hb hdg (kk H locs ls hP hS hl)
theorem r_ishr {x y : Int32} (hC : Cx X G own cc ret d mc ms nL) (hdg : decode cc pc = .ok (.ishr, 1)) (kk : V X G Z M k n Q (pc + 1) L (.int (x >>> (y &&& 31)) :: rest)) : V X G Z M k n Q pc L (.int y :: .int x :: rest) := by
  obtain ⟨⟨hx, hb, hr, hml, hn⟩, hown, htw, hlk, hK, hA, hsg, hst, hR⟩ := hC
  intro H locs ls hP hS hl
  exact lv_ishr hx hb hdg (kk H locs ls hP hS hl)
theorem r_iushr {x y : Int32} (hC : Cx X G own cc ret d mc ms nL) (hdg : decode cc pc = .ok (.iushr, 1)) (kk : V X G Z M k n Q (pc + 1) L (.int ((x.toUInt32 >>> (y.toUInt32 &&& Int32.toUInt32 31)).toInt32) :: rest)) : V X G Z M k n Q pc L (.int y :: .int x :: rest) := by
  obtain ⟨⟨hx, hb, hr, hml, hn⟩, hown, htw, hlk, hK, hA, hsg, hst, hR⟩ := hC
  intro H locs ls hP hS hl
  exact lv_iushr hx hb hdg rfl (kk H locs ls hP hS hl)
theorem r_idiv {x y : Int32} (hC : Cx X G own cc ret d mc ms nL) (hdg : decode cc pc = .ok (.idiv, 1)) (hne : ¬ y = 0) (kk : V X G Z M k n Q (pc + 1) L (.int (x / y) :: rest)) : V X G Z M k n Q pc L (.int y :: .int x :: rest) := by
  obtain ⟨⟨hx, hb, hr, hml, hn⟩, hown, htw, hlk, hK, hA, hsg, hst, hR⟩ := hC
  intro H locs ls hP hS hl
  exact lv_idiv hx hb hdg hne (kk H locs ls hP hS hl)
theorem r_irem {x y : Int32} (hC : Cx X G own cc ret d mc ms nL) (hdg : decode cc pc = .ok (.irem, 1)) (hne : ¬ y = 0) (kk : V X G Z M k n Q (pc + 1) L (.int (x - x / y * y) :: rest)) : V X G Z M k n Q pc L (.int y :: .int x :: rest) := by
  obtain ⟨⟨hx, hb, hr, hml, hn⟩, hown, htw, hlk, hK, hA, hsg, hst, hR⟩ := hC
  intro H locs ls hP hS hl
  exact lv_irem hx hb hdg hne (kk H locs ls hP hS hl)
theorem r_ineg {x : Int32} (hC : Cx X G own cc ret d mc ms nL) (hdg : decode cc pc = .ok (.ineg, 1)) (kk : V X G Z M k n Q (pc + 1) L (.int (-x) :: rest)) : V X G Z M k n Q pc L (.int x :: rest) := by
  obtain ⟨⟨hx, hb, hr, hml, hn⟩, hown, htw, hlk, hK, hA, hsg, hst, hR⟩ := hC
  intro H locs ls hP hS hl
  exact lv_ineg hx hb hdg (kk H locs ls hP hS hl)
theorem r_ladd {x y : Int64} (hC : Cx X G own cc ret d mc ms nL) (hdg : decode cc pc = .ok (.ladd, 1)) (kk : V X G Z M k n Q (pc + 1) L (.long (x + y) :: rest)) : V X G Z M k n Q pc L (.long y :: .long x :: rest) := by
  obtain ⟨⟨hx, hb, hr, hml, hn⟩, hown, htw, hlk, hK, hA, hsg, hst, hR⟩ := hC
  intro H locs ls hP hS hl
  exact lv_ladd hx hb hdg (kk H locs ls hP hS hl)
theorem r_lsub {x y : Int64} (hC : Cx X G own cc ret d mc ms nL) (hdg : decode cc pc = .ok (.lsub, 1)) (kk : V X G Z M k n Q (pc + 1) L (.long (x - y) :: rest)) : V X G Z M k n Q pc L (.long y :: .long x :: rest) := by
  obtain ⟨⟨hx, hb, hr, hml, hn⟩, hown, htw, hlk, hK, hA, hsg, hst, hR⟩ := hC
  intro H locs ls hP hS hl
  exact lv_lsub hx hb hdg (kk H locs ls hP hS hl)
theorem r_lmul {x y : Int64} (hC : Cx X G own cc ret d mc ms nL) (hdg : decode cc pc = .ok (.lmul, 1)) (kk : V X G Z M k n Q (pc + 1) L (.long (x * y) :: rest)) : V X G Z M k n Q pc L (.long y :: .long x :: rest) := by
  obtain ⟨⟨hx, hb, hr, hml, hn⟩, hown, htw, hlk, hK, hA, hsg, hst, hR⟩ := hC
  intro H locs ls hP hS hl
  exact lv_lmul hx hb hdg (kk H locs ls hP hS hl)
theorem r_land {x y : Int64} (hC : Cx X G own cc ret d mc ms nL) (hdg : decode cc pc = .ok (.land, 1)) (kk : V X G Z M k n Q (pc + 1) L (.long (x &&& y) :: rest)) : V X G Z M k n Q pc L (.long y :: .long x :: rest) := by
  obtain ⟨⟨hx, hb, hr, hml, hn⟩, hown, htw, hlk, hK, hA, hsg, hst, hR⟩ := hC
  intro H locs ls hP hS hl
  exact lv_land hx hb hdg (kk H locs ls hP hS hl)
theorem r_lor {x y : Int64} (hC : Cx X G own cc ret d mc ms nL) (hdg : decode cc pc = .ok (.lor, 1)) (kk : V X G Z M k n Q (pc + 1) L (.long (x ||| y) :: rest)) : V X G Z M k n Q pc L (.long y :: .long x :: rest) := by
  obtain ⟨⟨hx, hb, hr, hml, hn⟩, hown, htw, hlk, hK, hA, hsg, hst, hR⟩ := hC
  intro H locs ls hP hS hl
  exact lv_lor hx hb hdg (kk H locs ls hP hS hl)
theorem r_lxor {x y : Int64} (hC : Cx X G own cc ret d mc ms nL) (hdg : decode cc pc = .ok (.lxor, 1)) (kk : V X G Z M k n Q (pc + 1) L (.long (x ^^^ y) :: rest)) : V X G Z M k n Q pc L (.long y :: .long x :: rest) := by
  obtain ⟨⟨hx, hb, hr, hml, hn⟩, hown, htw, hlk, hK, hA, hsg, hst, hR⟩ := hC
  intro H locs ls hP hS hl
  exact lv_lxor hx hb hdg (kk H locs ls hP hS hl)
theorem r_ldiv {x y : Int64} (hC : Cx X G own cc ret d mc ms nL) (hdg : decode cc pc = .ok (.ldiv, 1)) (hne : ¬ y = 0) (kk : V X G Z M k n Q (pc + 1) L (.long (x / y) :: rest)) : V X G Z M k n Q pc L (.long y :: .long x :: rest) := by
  obtain ⟨⟨hx, hb, hr, hml, hn⟩, hown, htw, hlk, hK, hA, hsg, hst, hR⟩ := hC
  intro H locs ls hP hS hl
  exact lv_ldiv hx hb hdg hne (kk H locs ls hP hS hl)
theorem r_lrem {x y : Int64} (hC : Cx X G own cc ret d mc ms nL) (hdg : decode cc pc = .ok (.lrem, 1)) (hne : ¬ y = 0) (kk : V X G Z M k n Q (pc + 1) L (.long (x - x / y * y) :: rest)) : V X G Z M k n Q pc L (.long y :: .long x :: rest) := by
  obtain ⟨⟨hx, hb, hr, hml, hn⟩, hown, htw, hlk, hK, hA, hsg, hst, hR⟩ := hC
  intro H locs ls hP hS hl
  exact lv_lrem hx hb hdg hne (kk H locs ls hP hS hl)
theorem r_lshl {x : Int64} {y : Int32} (hC : Cx X G own cc ret d mc ms nL) (hdg : decode cc pc = .ok (.lshl, 1)) (kk : V X G Z M k n Q (pc + 1) L (.long (x <<< (y.toInt64 &&& 63)) :: rest)) : V X G Z M k n Q pc L (.int y :: .long x :: rest) := by
  obtain ⟨⟨hx, hb, hr, hml, hn⟩, hown, htw, hlk, hK, hA, hsg, hst, hR⟩ := hC
  intro H locs ls hP hS hl
  exact lv_lshl hx hb hdg rfl (kk H locs ls hP hS hl)
theorem r_lushr {x : Int64} {y : Int32} (hC : Cx X G own cc ret d mc ms nL) (hdg : decode cc pc = .ok (.lushr, 1)) (kk : V X G Z M k n Q (pc + 1) L (.long ((x.toUInt64 >>> (y.toInt64.toUInt64 &&& Int64.toUInt64 63)).toInt64) :: rest)) : V X G Z M k n Q pc L (.int y :: .long x :: rest) := by
  obtain ⟨⟨hx, hb, hr, hml, hn⟩, hown, htw, hlk, hK, hA, hsg, hst, hR⟩ := hC
  intro H locs ls hP hS hl
  exact lv_lushr hx hb hdg rfl (kk H locs ls hP hS hl)
theorem r_lcmp {x y : Int64} (hC : Cx X G own cc ret d mc ms nL) (hdg : decode cc pc = .ok (.lcmp, 1)) (kk : V X G Z M k n Q (pc + 1) L (.int (lg_cmp x y) :: rest)) : V X G Z M k n Q pc L (.long y :: .long x :: rest) := by
  obtain ⟨⟨hx, hb, hr, hml, hn⟩, hown, htw, hlk, hK, hA, hsg, hst, hR⟩ := hC
  intro H locs ls hP hS hl
  exact W.lcmp hx hb hdg (kk H locs ls hP hS hl)
theorem r_i2l {x : Int32} (hC : Cx X G own cc ret d mc ms nL) (hdg : decode cc pc = .ok (.i2l, 1)) (kk : V X G Z M k n Q (pc + 1) L (.long x.toInt64 :: rest)) : V X G Z M k n Q pc L (.int x :: rest) := by
  obtain ⟨⟨hx, hb, hr, hml, hn⟩, hown, htw, hlk, hK, hA, hsg, hst, hR⟩ := hC
  intro H locs ls hP hS hl
  exact lv_i2l hx hb hdg rfl (kk H locs ls hP hS hl)
theorem r_l2i {x : Int64} (hC : Cx X G own cc ret d mc ms nL) (hdg : decode cc pc = .ok (.l2i, 1)) (kk : V X G Z M k n Q (pc + 1) L (.int x.toInt32 :: rest)) : V X G Z M k n Q pc L (.long x :: rest) := by
  obtain ⟨⟨hx, hb, hr, hml, hn⟩, hown, htw, hlk, hK, hA, hsg, hst, hR⟩ := hC
  intro H locs ls hP hS hl
  exact lv_l2i hx hb hdg rfl (kk H locs ls hP hS hl)
theorem r_i2c {x : Int32} (hC : Cx X G own cc ret d mc ms nL) (hdg : decode cc pc = .ok (.i2c, 1)) (kk : V X G Z M k n Q (pc + 1) L (.int ((x.toUInt32 % 65536).toInt32) :: rest)) : V X G Z M k n Q pc L (.int x :: rest) := by
  obtain ⟨⟨hx, hb, hr, hml, hn⟩, hown, htw, hlk, hK, hA, hsg, hst, hR⟩ := hC
  intro H locs ls hP hS hl
  exact lv_i2c hx hb hdg rfl (kk H locs ls hP hS hl)
theorem r_dup {v : Value} (hC : Cx X G own cc ret d mc ms nL) (hdg : decode cc pc = .ok (.dup, 1)) (hv : v.category = 1) (kk : V X G Z M k n Q (pc + 1) L (v :: v :: rest)) : V X G Z M k n Q pc L (v :: rest) := by
  obtain ⟨⟨hx, hb, hr, hml, hn⟩, hown, htw, hlk, hK, hA, hsg, hst, hR⟩ := hC
  intro H locs ls hP hS hl
  exact lv_dup hx hb hdg hv (kk H locs ls hP hS hl)
theorem r_pop {v : Value} (hC : Cx X G own cc ret d mc ms nL) (hdg : decode cc pc = .ok (.pop, 1)) (hv : v.category = 1) (kk : V X G Z M k n Q (pc + 1) L rest) : V X G Z M k n Q pc L (v :: rest) := by
  obtain ⟨⟨hx, hb, hr, hml, hn⟩, hown, htw, hlk, hK, hA, hsg, hst, hR⟩ := hC
  intro H locs ls hP hS hl
  exact lv_pop hx hb hdg hv (kk H locs ls hP hS hl)
theorem r_dup2 {v w : Value} (hC : Cx X G own cc ret d mc ms nL) (hdg : decode cc pc = .ok (.dup2, 1)) (hv : v.category = 1) (hw : w.category = 1) (kk : V X G Z M k n Q (pc + 1) L (v :: w :: v :: w :: rest)) : V X G Z M k n Q pc L (v :: w :: rest) := by
  obtain ⟨⟨hx, hb, hr, hml, hn⟩, hown, htw, hlk, hK, hA, hsg, hst, hR⟩ := hC
  intro H locs ls hP hS hl
  exact lv_dup2_11 hx hb hdg hv hw (kk H locs ls hP hS hl)
theorem r_if_eq {x : Int32} {off : Int} (tgt : Nat) (hC : Cx X G own cc ret d mc ms nL) (hdg : decode cc pc = .ok (.ifCond .eq off, 3)) (ht : (pc : Int) + off = (tgt : Int)) (kt : x = 0 → V X G Z M k n Q tgt L rest) (kf : ¬ x = 0 → V X G Z M k n Q (pc + 3) L rest) : V X G Z M k n Q pc L (.int x :: rest) := by
  obtain ⟨⟨hx, hb, hr, hml, hn⟩, hown, htw, hlk, hK, hA, hsg, hst, hR⟩ := hC
  intro H locs ls hP hS hl
  exact lv_if_eq hx hb hdg ht (fun h => kt h H locs ls hP hS hl) (fun h => kf h H locs ls hP hS hl)
theorem r_if_ne {x : Int32} {off : Int} (tgt : Nat) (hC : Cx X G own cc ret d mc ms nL) (hdg : decode cc pc = .ok (.ifCond .ne off, 3)) (ht : (pc : Int) + off = (tgt : Int)) (kt : ¬ x = 0 → V X G Z M k n Q tgt L rest) (kf : x = 0 → V X G Z M k n Q (pc + 3) L rest) : V X G Z M k n Q pc L (.int x :: rest) := by
  obtain ⟨⟨hx, hb, hr, hml, hn⟩, hown, htw, hlk, hK, hA, hsg, hst, hR⟩ := hC
  intro H locs ls hP hS hl
  exact lv_if_ne hx hb hdg ht (fun h => kt h H locs ls hP hS hl) (fun h => kf h H locs ls hP hS hl)
theorem r_if_lt {x : Int32} {off : Int} (tgt : Nat) (hC : Cx X G own cc ret d mc ms nL) (hdg : decode cc pc = .ok (.ifCond .lt off, 3)) (ht : (pc : Int) + off = (tgt : Int)) (kt : x < 0 → V X G Z M k n Q tgt L rest) (kf : ¬ x < 0 → V X G Z M k n Q (pc + 3) L rest) : V X G Z M k n Q pc L (.int x :: rest) := by
  obtain ⟨⟨hx, hb, hr, hml, hn⟩, hown, htw, hlk, hK, hA, hsg, hst, hR⟩ := hC
  intro H locs ls hP hS hl
  exact lv_if_lt hx hb hdg ht (fun h => kt h H locs ls hP hS hl) (fun h => kf h H locs ls hP hS hl)
theorem r_if_ge {x : Int32} {off : Int} (tgt : Nat) (hC : Cx X G own cc ret d mc ms nL) (hdg : decode cc pc = .ok (.ifCond .ge off, 3)) (ht : (pc : Int) + off = (tgt : Int)) (kt : 0 ≤ x → V X G Z M k n Q tgt L rest) (kf : ¬ 0 ≤ x → V X G Z M k n Q (pc + 3) L rest) : V X G Z M k n Q pc L (.int x :: rest) := by
  obtain ⟨⟨hx, hb, hr, hml, hn⟩, hown, htw, hlk, hK, hA, hsg, hst, hR⟩ := hC
  intro H locs ls hP hS hl
  exact lv_if_ge hx hb hdg ht (fun h => kt h H locs ls hP hS hl) (fun h => kf h H locs ls hP hS hl)
theorem r_if_gt {x : Int32} {off : Int} (tgt : Nat) (hC : Cx X G own cc ret d mc ms nL) (hdg : decode cc pc = .ok (.ifCond .gt off, 3)) (ht : (pc : Int) + off = (tgt : Int)) (kt : 0 < x → V X G Z M k n Q tgt L rest) (kf : ¬ 0 < x → V X G Z M k n Q (pc + 3) L rest) : V X G Z M k n Q pc L (.int x :: rest) := by
  obtain ⟨⟨hx, hb, hr, hml, hn⟩, hown, htw, hlk, hK, hA, hsg, hst, hR⟩ := hC
  intro H locs ls hP hS hl
  exact lv_if_gt hx hb hdg ht (fun h => kt h H locs ls hP hS hl) (fun h => kf h H locs ls hP hS hl)
theorem r_if_le {x : Int32} {off : Int} (tgt : Nat) (hC : Cx X G own cc ret d mc ms nL) (hdg : decode cc pc = .ok (.ifCond .le off, 3)) (ht : (pc : Int) + off = (tgt : Int)) (kt : x ≤ 0 → V X G Z M k n Q tgt L rest) (kf : ¬ x ≤ 0 → V X G Z M k n Q (pc + 3) L rest) : V X G Z M k n Q pc L (.int x :: rest) := by
  obtain ⟨⟨hx, hb, hr, hml, hn⟩, hown, htw, hlk, hK, hA, hsg, hst, hR⟩ := hC
  intro H locs ls hP hS hl
  exact lv_if_le hx hb hdg ht (fun h => kt h H locs ls hP hS hl) (fun h => kf h H locs ls hP hS hl)
theorem r_icmp_eq {x y : Int32} {off : Int} (tgt : Nat) (hC : Cx X G own cc ret d mc ms nL) (hdg : decode cc pc = .ok (.if_icmp .eq off, 3)) (ht : (pc : Int) + off = (tgt : Int)) (kt : x = y → V X G Z M k n Q tgt L rest) (kf : ¬ x = y → V X G Z M k n Q (pc + 3) L rest) : V X G Z M k n Q pc L (.int y :: .int x :: rest) := by
  obtain ⟨⟨hx, hb, hr, hml, hn⟩, hown, htw, hlk, hK, hA, hsg, hst, hR⟩ := hC
  intro H locs ls hP hS hl
  exact lv_icmp_eq hx hb hdg ht (fun h => kt h H locs ls hP hS hl) (fun h => kf h H locs ls hP hS hl)
theorem r_icmp_ne {x y : Int32} {off : Int} (tgt : Nat) (hC : Cx X G own cc ret d mc ms nL) (hdg : decode cc pc = .ok (.if_icmp .ne off, 3)) (ht : (pc : Int) + off = (tgt : Int)) (kt : ¬ x = y → V X G Z M k n Q tgt L rest) (kf : x = y → V X G Z M k n Q (pc + 3) L rest) : V X G Z M k n Q pc L (.int y :: .int x :: rest) := by
  obtain ⟨⟨hx, hb, hr, hml, hn⟩, hown, htw, hlk, hK, hA, hsg, hst, hR⟩ := hC
  intro H locs ls hP hS hl
  exact lv_icmp_ne hx hb hdg ht (fun h => kt h H locs ls hP hS hl) (fun h => kf h H locs ls hP hS hl)
theorem r_icmp_lt {x y : Int32} {off : Int} (tgt : Nat) (hC : Cx X G own cc ret d mc ms nL) (hdg : decode cc pc = .ok (.if_icmp .lt off, 3)) (ht : (pc : Int) + off = (tgt : Int)) (kt : x < y → V X G Z M k n Q tgt L rest) (kf : ¬ x < y → V X G Z M k n Q (pc + 3) L rest) : V X G Z M k n Q pc L (.int y :: .int x :: rest) := by
  obtain ⟨⟨hx, hb, hr, hml, hn⟩, hown, htw, hlk, hK, hA, hsg, hst, hR⟩ := hC
  intro H locs ls hP hS hl
  exact lv_icmp_lt hx hb hdg ht (fun h => kt h H locs ls hP hS hl) (fun h => kf h H locs ls hP hS hl)
theorem r_icmp_ge {x y : Int32} {off : Int} (tgt : Nat) (hC : Cx X G own cc ret d mc ms nL) (hdg : decode cc pc = .ok (.if_icmp .ge off, 3)) (ht : (pc : Int) + off = (tgt : Int)) (kt : y ≤ x → V X G Z M k n Q tgt L rest) (kf : ¬ y ≤ x → V X G Z M k n Q (pc + 3) L rest) : V X G Z M k n Q pc L (.int y :: .int x :: rest) := by
  obtain ⟨⟨hx, hb, hr, hml, hn⟩, hown, htw, hlk, hK, hA, hsg, hst, hR⟩ := hC
  intro H locs ls hP hS hl
  exact lv_icmp_ge hx hb hdg ht (fun h => kt h H locs ls hP hS hl) (fun h => kf h H locs ls hP hS hl)
theorem r_icmp_gt {x y : Int32} {off : Int} (tgt : Nat) (hC : Cx X G own cc ret d mc ms nL) (hdg : decode cc pc = .ok (.if_icmp .gt off, 3)) (ht : (pc : Int) + off = (tgt : Int)) (kt : y < x → V X G Z M k n Q tgt L rest) (kf : ¬ y < x → V X G Z M k n Q (pc + 3) L rest) : V X G Z M k n Q pc L (.int y :: .int x :: rest) := by
  obtain ⟨⟨hx, hb, hr, hml, hn⟩, hown, htw, hlk, hK, hA, hsg, hst, hR⟩ := hC
  intro H locs ls hP hS hl
  exact lv_icmp_gt hx hb hdg ht (fun h => kt h H locs ls hP hS hl) (fun h => kf h H locs ls hP hS hl)
theorem r_icmp_le {x y : Int32} {off : Int} (tgt : Nat) (hC : Cx X G own cc ret d mc ms nL) (hdg : decode cc pc = .ok (.if_icmp .le off, 3)) (ht : (pc : Int) + off = (tgt : Int)) (kt : x ≤ y → V X G Z M k n Q tgt L rest) (kf : ¬ x ≤ y → V X G Z M k n Q (pc + 3) L rest) : V X G Z M k n Q pc L (.int y :: .int x :: rest) := by
  obtain ⟨⟨hx, hb, hr, hml, hn⟩, hown, htw, hlk, hK, hA, hsg, hst, hR⟩ := hC
  intro H locs ls hP hS hl
  exact lv_icmp_le hx hb hdg ht (fun h => kt h H locs ls hP hS hl) (fun h => kf h H locs ls hP hS hl)
theorem r_goto {off : Int} (tgt : Nat) (hC : Cx X G own cc ret d mc ms nL) (hdg : decode cc pc = .ok (.goto off, 3)) (ht : (pc : Int) + off = (tgt : Int)) (kk : V X G Z M k n Q tgt L rest) : V X G Z M k n Q pc L rest := by
  obtain ⟨⟨hx, hb, hr, hml, hn⟩, hown, htw, hlk, hK, hA, hsg, hst, hR⟩ := hC
  intro H locs ls hP hS hl
  exact lv_goto hx hb hdg ht (kk H locs ls hP hS hl)
theorem r_switch {x : Int32} {dflt lo hi : Int} {offs : Array Int} {len : Nat} (hC : Cx X G own cc ret d mc ms nL) (hdg : decode cc pc = .ok (.tableswitch dflt lo hi offs, len)) (td : Nat) (htd : (pc : Int) + dflt = (td : Int)) (tg : List Nat) (htg : ∀ i : Nat, i < tg.length → ∃ off : Int, offs[i]? = some off ∧ (pc : Int) + off = ((tg.getD i 0 : Nat) : Int)) (hlen : hi - lo + 1 = tg.length)
    (kd : (x.toInt < lo ∨ hi < x.toInt) → V X G Z M k n Q td L rest) (kk : ∀ i : Nat, i < tg.length → x.toInt = lo + i → V X G Z M k n Q (tg.getD i 0) L rest) : V X G Z M k n Q pc L (.int x :: rest) := by
  obtain ⟨⟨hx, hb, hr, hml, hn⟩, hown, htw, hlk, hK, hA, hsg, hst, hR⟩ := hC
  intro H locs ls hP hS hl
  by_cases h1 : x.toInt < lo
  · exact lv_tableOut hx hb hdg (Or.inl h1) htd (kd (Or.inl h1) H locs ls hP hS hl)
  · by_cases h2 : hi < x.toInt
    · exact lv_tableOut hx hb hdg (Or.inr h2) htd (kd (Or.inr h2) H locs ls hP hS hl)
    · have hi' : (x.toInt - lo).toNat < tg.length := by omega
      obtain ⟨off, ho, ht⟩ := htg _ hi'
      exact lv_tableIn hx hb hdg h1 h2 ho ht (kk _ hi' (by omega) H locs ls hP hS hl)
theorem r_L {L' : List (Nat × Value)} (ps : List Nat) (hL : lv_pick L ps = L') (kk : V X G Z M k n Q pc L' rest) : V X G Z M k n Q pc L rest := by
  intro H locs ls hP hS hl
  exact kk H locs ls hP hS (lv_sub hl ps hL)
theorem r_wide {k' n' : Nat} (h1 : k ≤ k') (h2 : n ≤ n') (kk : V X G Z M k' n' Q pc L rest) : V X G Z M k n Q pc L rest := by
  intro H locs ls hP hS hl
  exact W.widen h1 h2 (kk H locs ls hP hS hl)
theorem r_get {C : String} {T : u_T} {N ci idx i : Nat} {F : Nat → Option (Option Nat)} {v : Value} (hin : ∀ w ∈ u_ws C T N, w ∈ TW) (hc : vwCl[ci]? = some (C, T, N)) (kf : Nat) (hk : kf < N) (hown2 : (T kf).1 = C) (hw : Cond.fieldLink own idx C (T kf).2.1 (T kf).2.2.1 ∈ TW)
    (hC : Cx X G own cc ret d mc ms nL) (hi : At Z i (.inl (ci, N, F))) (hv : fv Z.1 (M i) F kf = v) (hdg : decode cc pc = .ok (.getfield idx, 3)) (kk : V X G Z M k n Q (pc + 3) L (v :: rest)) : V X G Z M k n Q pc L (.ref (Z.1 i) :: rest) := by
  obtain ⟨⟨hx, hb, hr, hml, hn⟩, hown, htw, hlk, hK, hA, hsg, hst, hR⟩ := hC
  intro H locs ls hP hS hl
  obtain ⟨q, -, hq⟩ := wv_get (G := G) (M := M) hi
  exact va_get (Ts := TW) hx hb (htw.use _) hin hown hK hP q hq hc kf hk (htw.use _ _ hw) (fun x h => by rw [hown2] at h; exact h) (by rw [List.getElem?_map, List.getElem?_range hk, ← hv]; rfl) hdg (kk H locs ls hP hS hl)
theorem r_getN {C : String} {T : u_T} {N ci idx i : Nat} {F : Nat → Option (Option Nat)} {v : Value} (hin : ∀ w ∈ u_ws C T N, w ∈ TW) (hc : vwCl[ci]? = some (C, T, N)) (kf : Nat) (hk : kf < N) (hown2 : (T kf).1 = C) (hw : Cond.fieldLinkNest own idx C (T kf).2.1 (T kf).2.2.1 "HandSpans" ∈ TW)
    (hC : Cx X G own cc ret d mc ms nL) (hi : At Z i (.inl (ci, N, F))) (hv : fv Z.1 (M i) F kf = v) (hdg : decode cc pc = .ok (.getfield idx, 3)) (kk : V X G Z M k n Q (pc + 3) L (v :: rest)) : V X G Z M k n Q pc L (.ref (Z.1 i) :: rest) := by
  obtain ⟨⟨hx, hb, hr, hml, hn⟩, hown, htw, hlk, hK, hA, hsg, hst, hR⟩ := hC
  intro H locs ls hP hS hl
  obtain ⟨q, -, hq⟩ := wv_get (G := G) (M := M) hi
  exact va_getN (Ts := TW) hx hb (htw.use _) hin hown hK hP q hq hc kf hk (htw.use _ _ hw) (fun x h => by rw [hown2] at h; exact h) (by rw [List.getElem?_map, List.getElem?_range hk, ← hv]; rfl) hdg (kk H locs ls hP hS hl)
theorem r_put {C : String} {T : u_T} {N ci idx i : Nat} {F : Nat → Option (Option Nat)} {x : Int32} {ty : FieldType} (hin : ∀ w ∈ u_ws C T N, w ∈ TW) (ty0 : Nat → FieldType) (hty : ∀ k, k < N → parseFieldDescriptor (T k).2.2.1 = some (ty0 k)) (hnm : ∀ a, a < N → ∀ b, b < N → a ≠ b → (T a).2.1 ≠ (T b).2.1) (hc : vwCl[ci]? = some (C, T, N)) (kf : Nat) (hk : kf < N) (hown2 : (T kf).1 = C) (hfin : (T kf).2.2.2 = false) (hd : parseFieldDescriptor (T kf).2.2.1 = some ty) (hw : Cond.fieldLink own idx C (T kf).2.1 (T kf).2.2.1 ∈ TW)
    (hC : Cx X G own cc ret d mc ms nL) (hz : ZOk G Z) (hi : At Z i (.inl (ci, N, F))) (hF : F kf = none) (hnr : narrow ty (.int x) = .int x) (hfit : fits ty (.int x) = true) (hdg : decode cc pc = .ok (.putfield idx, 3)) (kk : V X G Z (mw M i kf x) k n Q (pc + 3) L rest) : V X G Z M k n Q pc L (.int x :: .ref (Z.1 i) :: rest) := by
  obtain ⟨⟨hx, hb, hr, hml, hn⟩, hown, htw, hlk, hK, hA, hsg, hst, hR⟩ := hC
  intro H locs ls hP hS hl
  obtain ⟨q, hq0, hq⟩ := wv_get (G := G) (M := M) hi
  refine va_put (Ts := TW) hx hb (htw.use _) hin ty0 hty hnm hown hK hP (wv_D hz M) hS q hq hc kf hk (htw.use _ _ hw) (fun x h => by rw [hown2] at h; exact h) hfin hd hnr hfit (by simp; exact hk) hdg (fun H1 locs1 hP1 _ hS1 => kk H1 locs1 ls ?_ hS1 hl)
  have e : (((List.range N).map (fv Z.1 (M i) F)).set kf (.int x)) = (List.range N).map (fv Z.1 (upd (M i) kf x) F) := by
    have := map_set (fv Z.1 (M i) F) (fv Z.1 (upd (M i) kf x) F) (List.range N) kf (List.getElem?_range hk) List.nodup_range (fun j hj => by simp [fv, upd, hj])
    rw [← this]
    simp [fv, hF, upd]
  rw [e] at hP1
  have e2 := wv_set (M := M) hz hq0 (upd (M i) kf x)
  rw [hi.2] at e2
  have e3 : wv G Z (mw M i kf x) = (wv G Z M).set q (Z.1 i, .inr (ci, (List.range N).map (fv Z.1 (upd (M i) kf x) F))) := e2.symm
  rw [e3]
  exact hP1
theorem r_putN {C : String} {T : u_T} {N ci idx i : Nat} {F : Nat → Option (Option Nat)} {x : Int32} {ty : FieldType} (hin : ∀ w ∈ u_ws C T N, w ∈ TW) (ty0 : Nat → FieldType) (hty : ∀ k, k < N → parseFieldDescriptor (T k).2.2.1 = some (ty0 k)) (hnm : ∀ a, a < N → ∀ b, b < N → a ≠ b → (T a).2.1 ≠ (T b).2.1) (hc : vwCl[ci]? = some (C, T, N)) (kf : Nat) (hk : kf < N) (hown2 : (T kf).1 = C) (hfin : (T kf).2.2.2 = false) (hd : parseFieldDescriptor (T kf).2.2.1 = some ty) (hw : Cond.fieldLinkNest own idx C (T kf).2.1 (T kf).2.2.1 "HandSpans" ∈ TW)
    (hC : Cx X G own cc ret d mc ms nL) (hz : ZOk G Z) (hi : At Z i (.inl (ci, N, F))) (hF : F kf = none) (hnr : narrow ty (.int x) = .int x) (hfit : fits ty (.int x) = true) (hdg : decode cc pc = .ok (.putfield idx, 3)) (kk : V X G Z (mw M i kf x) k n Q (pc + 3) L rest) : V X G Z M k n Q pc L (.int x :: .ref (Z.1 i) :: rest) := by
  obtain ⟨⟨hx, hb, hr, hml, hn⟩, hown, htw, hlk, hK, hA, hsg, hst, hR⟩ := hC
  intro H locs ls hP hS hl
  obtain ⟨q, hq0, hq⟩ := wv_get (G := G) (M := M) hi
  refine va_putN (Ts := TW) hx hb (htw.use _) hin ty0 hty hnm hown hK hP (wv_D hz M) hS q hq hc kf hk (htw.use _ _ hw) (fun x h => by rw [hown2] at h; exact h) hfin hd hnr hfit (by simp; exact hk) hdg (fun H1 locs1 hP1 _ hS1 => kk H1 locs1 ls ?_ hS1 hl)
  have e : (((List.range N).map (fv Z.1 (M i) F)).set kf (.int x)) = (List.range N).map (fv Z.1 (upd (M i) kf x) F) := by
    have := map_set (fv Z.1 (M i) F) (fv Z.1 (upd (M i) kf x) F) (List.range N) kf (List.getElem?_range hk) List.nodup_range (fun j hj => by simp [fv, upd, hj])
    rw [← this]
    simp [fv, hF, upd]
  rw [e] at hP1
  have e2 := wv_set (M := M) hz hq0 (upd (M i) kf x)
  rw [hi.2] at e2
  have e3 : wv G Z (mw M i kf x) = (wv G Z M).set q (Z.1 i, .inr (ci, (List.range N).map (fv Z.1 (upd (M i) kf x) F))) := e2.symm
  rw [e3]
  exact hP1
theorem r_iald {i N : Nat} {x : Int32} (hC : Cx X G own cc ret d mc ms nL) (hi : At Z i (.inr (.inl (0, N)))) (hin : vp_in x N) (hdg : decode cc pc = .ok (.iaload, 1)) (kk : V X G Z M k n Q (pc + 1) L (.int (M i x.toNatClampNeg) :: rest)) : V X G Z M k n Q pc L (.int x :: .ref (Z.1 i) :: rest) := by
  obtain ⟨⟨hx, hb, hr, hml, hn⟩, hown, htw, hlk, hK, hA, hsg, hst, hR⟩ := hC
  intro H locs ls hP hS hl
  obtain ⟨q, hq0, hq⟩ := wv_get (G := G) (M := M) hi
  exact va_iald hx hb hK hP q 0 hq rfl hin hdg (kk H locs ls hP hS hl)
theorem r_zald {i N : Nat} {x : Int32} (hC : Cx X G own cc ret d mc ms nL) (hi : At Z i (.inr (.inl (1, N)))) (hin : vp_in x N) (hdg : decode cc pc = .ok (.baload, 1)) (kk : V X G Z M k n Q (pc + 1) L (.int (M i x.toNatClampNeg) :: rest)) : V X G Z M k n Q pc L (.int x :: .ref (Z.1 i) :: rest) := by
  obtain ⟨⟨hx, hb, hr, hml, hn⟩, hown, htw, hlk, hK, hA, hsg, hst, hR⟩ := hC
  intro H locs ls hP hS hl
  obtain ⟨q, hq0, hq⟩ := wv_get (G := G) (M := M) hi
  exact va_zald hx hb hK hP q 1 hq rfl hin hdg (kk H locs ls hP hS hl)
theorem r_cald {i N : Nat} {x : Int32} (hC : Cx X G own cc ret d mc ms nL) (hi : At Z i (.inr (.inl (2, N)))) (hin : vp_in x N) (hdg : decode cc pc = .ok (.caload, 1)) (kk : V X G Z M k n Q (pc + 1) L (.int (M i x.toNatClampNeg) :: rest)) : V X G Z M k n Q pc L (.int x :: .ref (Z.1 i) :: rest) := by
  obtain ⟨⟨hx, hb, hr, hml, hn⟩, hown, htw, hlk, hK, hA, hsg, hst, hR⟩ := hC
  intro H locs ls hP hS hl
  obtain ⟨q, hq0, hq⟩ := wv_get (G := G) (M := M) hi
  exact va_cald hx hb hK hP q 2 hq rfl hin hdg (kk H locs ls hP hS hl)
theorem r_iast {i N : Nat} {j x : Int32} (hC : Cx X G own cc ret d mc ms nL) (hz : ZOk G Z) (hi : At Z i (.inr (.inl (0, N)))) (hin : vp_in j N) (hdg : decode cc pc = .ok (.iastore, 1)) (kk : V X G Z (mw M i j.toNatClampNeg (x)) k n Q (pc + 1) L rest) : V X G Z M k n Q pc L (.int x :: .int j :: .ref (Z.1 i) :: rest) := by
  obtain ⟨⟨hx, hb, hr, hml, hn⟩, hown, htw, hlk, hK, hA, hsg, hst, hR⟩ := hC
  intro H locs ls hP hS hl
  obtain ⟨q, hq0, hq⟩ := wv_get (G := G) (M := M) hi
  refine va_iast hx hb hK hP (wv_D hz M) hS q 0 hq rfl hin hdg (fun H1 locs1 hP1 _ hS1 => kk H1 locs1 ls ?_ hS1 hl)
  have e2 := wv_set (M := M) hz hq0 (upd (M i) j.toNatClampNeg (x))
  rw [hi.2] at e2
  have e3 : wv G Z (mw M i j.toNatClampNeg (x)) = (wv G Z M).set q (Z.1 i, .inl (G.2.1 0, N, .inl (upd (M i) j.toNatClampNeg (x)))) := e2.symm
  rw [e3]
  exact hP1
theorem r_zast {i N : Nat} {j x : Int32} (hC : Cx X G own cc ret d mc ms nL) (hz : ZOk G Z) (hi : At Z i (.inr (.inl (1, N)))) (hin : vp_in j N) (hdg : decode cc pc = .ok (.bastore, 1)) (kk : V X G Z (mw M i j.toNatClampNeg (vp_nar .boolean x)) k n Q (pc + 1) L rest) : V X G Z M k n Q pc L (.int x :: .int j :: .ref (Z.1 i) :: rest) := by
  obtain ⟨⟨hx, hb, hr, hml, hn⟩, hown, htw, hlk, hK, hA, hsg, hst, hR⟩ := hC
  intro H locs ls hP hS hl
  obtain ⟨q, hq0, hq⟩ := wv_get (G := G) (M := M) hi
  refine va_zast hx hb hK hP (wv_D hz M) hS q 1 hq rfl hin hdg (fun H1 locs1 hP1 _ hS1 => kk H1 locs1 ls ?_ hS1 hl)
  have e2 := wv_set (M := M) hz hq0 (upd (M i) j.toNatClampNeg (vp_nar .boolean x))
  rw [hi.2] at e2
  have e3 : wv G Z (mw M i j.toNatClampNeg (vp_nar .boolean x)) = (wv G Z M).set q (Z.1 i, .inl (G.2.1 1, N, .inl (upd (M i) j.toNatClampNeg (vp_nar .boolean x)))) := e2.symm
  rw [e3]
  exact hP1
theorem r_cast {i N : Nat} {j x : Int32} (hC : Cx X G own cc ret d mc ms nL) (hz : ZOk G Z) (hi : At Z i (.inr (.inl (2, N)))) (hin : vp_in j N) (hdg : decode cc pc = .ok (.castore, 1)) (kk : V X G Z (mw M i j.toNatClampNeg (vp_nar .char x)) k n Q (pc + 1) L rest) : V X G Z M k n Q pc L (.int x :: .int j :: .ref (Z.1 i) :: rest) := by
  obtain ⟨⟨hx, hb, hr, hml, hn⟩, hown, htw, hlk, hK, hA, hsg, hst, hR⟩ := hC
  intro H locs ls hP hS hl
  obtain ⟨q, hq0, hq⟩ := wv_get (G := G) (M := M) hi
  refine va_cast hx hb hK hP (wv_D hz M) hS q 2 hq rfl hin hdg (fun H1 locs1 hP1 _ hS1 => kk H1 locs1 ls ?_ hS1 hl)
  have e2 := wv_set (M := M) hz hq0 (upd (M i) j.toNatClampNeg (vp_nar .char x))
  rw [hi.2] at e2
  have e3 : wv G Z (mw M i j.toNatClampNeg (vp_nar .char x)) = (wv G Z M).set q (Z.1 i, .inl (G.2.1 2, N, .inl (upd (M i) j.toNatClampNeg (vp_nar .char x)))) := e2.symm
  rw [e3]
  exact hP1
theorem r_alen {i N : Nat} {v : Int32} (hC : Cx X G own cc ret d mc ms nL) (hi : At Z i (.inr (.inl (0, N)))) (hv : N.toInt32 = v) (hdg : decode cc pc = .ok (.arraylength, 1)) (kk : V X G Z M k n Q (pc + 1) L (.int v :: rest)) : V X G Z M k n Q pc L (.ref (Z.1 i) :: rest) := by
  obtain ⟨⟨hx, hb, hr, hml, hn⟩, hown, htw, hlk, hK, hA, hsg, hst, hR⟩ := hC
  intro H locs ls hP hS hl
  obtain ⟨q, hq0, hq⟩ := wv_get (G := G) (M := M) hi
  exact va_alen hx hb hK hP q 0 hq rfl hv hdg (kk H locs ls hP hS hl)
theorem r_aald {i N t j : Nat} {F : Nat → Option Nat} {C : String} {x : Int32} (hC : Cx X G own cc ret d mc ms nL) (hi : At Z i (.inr (.inr (.inl (t, N, F))))) (ht : (tys G)[t]? = some (G.2.1 t, .object C)) (hin : vp_in x N) (hF : F x.toNatClampNeg = some j) (hdg : decode cc pc = .ok (.aaload, 1)) (kk : V X G Z M k n Q (pc + 1) L (.ref (Z.1 j) :: rest)) : V X G Z M k n Q pc L (.int x :: .ref (Z.1 i) :: rest) := by
  obtain ⟨⟨hx, hb, hr, hml, hn⟩, hown, htw, hlk, hK, hA, hsg, hst, hR⟩ := hC
  intro H locs ls hP hS hl
  obtain ⟨q, hq0, hq⟩ := wv_get (G := G) (M := M) hi
  refine va_aldq hx hb hK hP q t hq ht hin hdg ?_
  rw [hF]
  exact kk H locs ls hP hS hl
theorem r_gald {i N j : Nat} {F : Nat → Option Nat} {x : Int32} (hC : Cx X G own cc ret d mc ms nL) (hi : At Z i (.inr (.inr (.inl (4, N, F))))) (hin : vp_in x N) (hF : F x.toNatClampNeg = some j) (hdg : decode cc pc = .ok (.aaload, 1)) (kk : V X G Z M k n Q (pc + 1) L (.ref (Z.1 j) :: rest)) : V X G Z M k n Q pc L (.int x :: .ref (Z.1 i) :: rest) := by
  obtain ⟨⟨hx, hb, hr, hml, hn⟩, hown, htw, hlk, hK, hA, hsg, hst, hR⟩ := hC
  intro H locs ls hP hS hl
  obtain ⟨q, hq0, hq⟩ := wv_get (G := G) (M := M) hi
  have hlt : x.toNatClampNeg < N := Nat.not_le.mp fun q => hin (Or.inr q)
  refine W.aald (v := .ref (Z.1 j)) (ty := .array .int) hx hb (hP q _ hq) ((hK.2 4 _ rfl).1 N (fun j => va_rf ((F j).map Z.1))) rfl (fun q => by cases q) (by show ¬ (x < 0 ∨ (arrV _ _ _).slots.size ≤ _); rw [arrV_size]; exact hin) (by show (arrV _ _ _).slots[_]? = _; rw [arrV_read _ _ hlt]; show some (va_rf (Option.map Z.1 (F x.toNatClampNeg))) = _; rw [hF]; rfl) rfl rfl hdg (kk H locs ls hP hS hl)
theorem r_gets {j idx : Nat} {nm : String} {f : Nat → Value} (hZ : ∀ {U : State} {H : Heap}, Sg G U H → va_Z "HandSpans" nm "[I" (.ref (G.2.2.2 j)) G.2.2.1 U H) (hC : Cx X G own cc ret d mc ms nL) (hw : Cond.fieldLinkNest own idx "HandSpans" nm "[I" "HandSpans" ∈ TW) (hdg : decode cc pc = .ok (.getstatic idx, 3)) (kk : V X G Z M k n Q (pc + 3) L (.ref (G.2.2.2 j) :: rest)) : V X G Z M k n Q pc L rest := by
  obtain ⟨⟨hx, hb, hr, hml, hn⟩, hown, htw, hlk, hK, hA, hsg, hst, hR⟩ := hC
  intro H locs ls hP hS hl
  exact va_getsN hx hb (hZ hsg) hS hown (htw.use _ _ hw) (fun _ h => h) hdg (kk H locs ls hP hS hl)
theorem r_tald {j : Nat} {x v : Int32} {f : Nat → Int32} (hT : ∀ {U : State} {H : Heap}, Sg G U H → va_T .int (G.2.2.2 j) 6 (fun k => .int (f k)) G.2.2.1 U H) (hC : Cx X G own cc ret d mc ms nL) (hin : vp_in x 6) (hv : f x.toNatClampNeg = v) (hdg : decode cc pc = .ok (.iaload, 1)) (kk : V X G Z M k n Q (pc + 1) L (.int v :: rest)) : V X G Z M k n Q pc L (.int x :: .ref (G.2.2.2 j) :: rest) := by
  obtain ⟨⟨hx, hb, hr, hml, hn⟩, hown, htw, hlk, hK, hA, hsg, hst, hR⟩ := hC
  intro H locs ls hP hS hl
  exact va_ti hx hb (hT hsg) hS hin (by rw [hv]) hdg (kk H locs ls hP hS hl)
end RR
