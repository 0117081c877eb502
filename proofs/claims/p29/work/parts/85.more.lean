theorem cx_st {X : XX} {G : GG} {own : String} {cc : ByteArray} {ret : Option FieldType} {d mc ms nL : Nat} (hC : Cx X G own cc ret d mc ms nL) : (xl X).stackTraces = false := hC.2.2.2.2.2.2.2.1
theorem nar_bool {x : Int32} (h : x &&& 1 = x) : narrow .boolean (.int x) = .int x ∧ fits .boolean (.int x) = true := by
  have h1 : narrow .boolean (.int x) = .int (x &&& 1) := rfl
  refine ⟨by rw [h1, h], ?_⟩
  obtain ⟨j, hj, e⟩ := pk_andE x (m := 1) 1 (by decide)
  rw [h] at e
  have hj2 : j = 0 ∨ j = 1 := by omega
  rcases hj2 with rfl | rfl
  · rw [e]; decide
  · rw [e]; decide
theorem sw_out {x : Int32} (lo hi : Int) (h1 : -2147483648 ≤ lo) (h2 : hi < 2147483648) (h : ∀ c : Int, lo ≤ c → c ≤ hi → x ≠ Int32.ofInt c) : x.toInt < lo ∨ hi < x.toInt := by
  by_cases a : x.toInt < lo
  · exact Or.inl a
  · by_cases b : hi < x.toInt
    · exact Or.inr b
    · refine absurd ?_ (h x.toInt (by omega) (by omega))
      simp
section LK
variable {X : XX} {G : GG} {Z : ZZ} {M : Mem} {k n : Nat} {Q : State → Prop} {pc : Nat} {L : List (Nat × Value)} {rest : List Value} {own : String} {cc : ByteArray} {ret : Option FieldType} {d mc ms nL : Nat}
theorem r_swIn {x c : Int32} {dflt lo hi off : Int} {offs : Array Int} {len tgt : Nat} (hC : Cx X G own cc ret d mc ms nL) (hdg : decode cc pc = .ok (.tableswitch dflt lo hi offs, len)) (he : x = c) (h1 : ¬ c.toInt < lo) (h2 : ¬ hi < c.toInt) (ho : offs[(c.toInt - lo).toNat]? = some off) (ht : (pc : Int) + off = (tgt : Int)) (kk : V X G Z M k n Q tgt L rest) : V X G Z M k n Q pc L (.int x :: rest) := by
  subst he
  obtain ⟨⟨hx, hb, hr, hml, hn⟩, hown, htw, hlk, hK, hA, hsg, hst, hR⟩ := hC
  intro H locs ls hP hS hl
  exact lv_tableIn hx hb hdg h1 h2 ho ht (kk H locs ls hP hS hl)
theorem r_swOut {x : Int32} {dflt lo hi : Int} {offs : Array Int} {len tgt : Nat} (hC : Cx X G own cc ret d mc ms nL) (hdg : decode cc pc = .ok (.tableswitch dflt lo hi offs, len)) (h : x.toInt < lo ∨ hi < x.toInt) (ht : (pc : Int) + dflt = (tgt : Int)) (kk : V X G Z M k n Q tgt L rest) : V X G Z M k n Q pc L (.int x :: rest) := by
  obtain ⟨⟨hx, hb, hr, hml, hn⟩, hown, htw, hlk, hK, hA, hsg, hst, hR⟩ := hC
  intro H locs ls hP hS hl
  exact lv_tableOut hx hb hdg h ht (kk H locs ls hP hS hl)
def MaK (own : String) (idx : Nat) : Prop := Cond.methodLink own idx Lib.Math.abs.name ∈ TW ∧ Cond.static Lib.Math.abs.name ∈ TW ∧ Cond.initialized "java/lang/Math" ∈ TW ∧ Cond.code Lib.Math.abs.name Lib.Math.abs.code 1 (some .int) ∈ TW
theorem r_mabs {x : Int32} {idx : Nat} (hC : Cx X G own cc ret d mc ms nL) (ma : MaK own idx) (hd : 1 ≤ d) (hrest : (rest.map fun v => v.category).sum ≤ 8) (hk : k ≤ mc) (hm : n ≤ ms) (hdg : decode cc pc = .ok (.invokestatic idx, 3)) (kk : V X G Z M k n Q (pc + 3) L (.int (if 0 ≤ x then x else 0 - x) :: rest)) : V X G Z M k n Q pc L (.int x :: rest) := by
  obtain ⟨⟨hx, hb, hr, hml, hn⟩, hown, htw, hlk, hK, hA, hsg, hst, hR⟩ := hC
  intro H locs ls hP hS hl
  obtain ⟨hR1, hR2, hR3, hR4⟩ := hR
  exact va_mabs hx hb (by rw [hml, hl.1, hn]) hown (htw.use _ _ ma.1) (htw.use _ _ ma.2.1) (htw.use _ _ ma.2.2.1) (htw.use _ _ ma.2.2.2) (by rw [hR1]; exact hd) (by omega) (by rw [hR3]; exact hk) (by rw [hR4]; exact hm) hdg (kk H locs ls hP hS hl)
end LK
