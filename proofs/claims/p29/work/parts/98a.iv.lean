/-! A CONSTRUCTOR UNDER WAY -/
def ov (o : Nat) (D : Dsc) (T : Nat → Dsc) : Nat → Dsc := fun j => if j = o then D else T j
theorem ov_1 {o : Nat} {D : Dsc} {T : Nat → Dsc} : ov o D T o = D := by unfold ov; rw [if_pos rfl]
theorem ov_2 {o j : Nat} {D : Dsc} {T : Nat → Dsc} (h : j ≠ o) : ov o D T j = T j := by unfold ov; rw [if_neg h]
/-- S: the cells that are new (or mine); T: what each of them is by now; E: what the memory says of them -/
def Iv (G : GG) (S : Nat → Prop) (T : Nat → Dsc) (E : Mem → Prop) (Z0 : ZZ) (M0 : Mem) (Z : ZZ) (M : Mem) : Prop :=
  ZK G Z ∧ Ex S Z0 M0 Z M ∧ (∀ j, S j → At Z j (T j)) ∧ E M ∧ ∀ M1 M2 : Mem, (∀ j, S j → M2 j = M1 j) → E M1 → E M2
section IVS
variable {G : GG} {S : Nat → Prop} {T T0 : Nat → Dsc} {E : Mem → Prop} {Z0 Z : ZZ} {M0 M : Mem} {i o a : Nat} {D : Dsc}
theorem Iv.start (hz : ZK G Z) (ha : At Z o D) (hm : ∀ q, M o q = 0) : Iv G (fun q => q = o) (ov o D T0) (fun m => ∀ q, m o q = 0) Z M Z M :=
  ⟨hz, Ex.rf, fun j hj => by rw [show j = o from hj, ov_1]; exact ha, hm, fun M1 M2 h h1 q => by rw [h o rfl]; exact h1 q⟩
theorem Iv.fresh (h : Iv G S T E Z0 M0 Z M) (h0 : i ∉ Z0.2.2) (hs : ¬ S i) : i ∉ Z.2.2 := fun hi => by
  rcases h.2.1.2.2 i hi with h | h
  · exact h0 h
  · exact hs h
theorem Iv.ad (h : Iv G S T E Z0 M0 Z M) (ho : o ∈ Z0.2.2) : Z.1 o = Z0.1 o := (h.2.1.1 o ho).2
theorem Iv.add (h : Iv G S T E Z0 M0 Z M) (hi : i ∉ Z.2.2) (hz : ZK G (zadd Z i a D)) (hT : T i = D) : Iv G (fun q => S q ∨ q = i) T (fun m => E m ∧ ∀ q, m i q = 0) Z0 M0 (zadd Z i a D) (ms M i (fun _ => 0)) := by
  obtain ⟨h1, h2, h3, h4, h5⟩ := h
  have ne : ∀ j, S j → j ≠ i := fun j hj e => hi (e ▸ (h3 j hj).1)
  refine ⟨hz, Ex.add (h2.wk fun _ hj => Or.inl hj) hi (Or.inr rfl), fun j hj => ?_, ⟨h5 M _ (fun j hj => ms_ne (ne j hj)) h4, fun q => by rw [ms_same]⟩, fun M1 M2 hh k => ⟨h5 M1 M2 (fun j hj => hh j (Or.inl hj)) k.1, fun q => by rw [hh i (Or.inr rfl)]; exact k.2 q⟩⟩
  rcases hj with hj | hj
  · exact ⟨List.mem_append_left _ (h3 j hj).1, (zadd_2 (ne j hj)).trans (h3 j hj).2⟩
  · rw [show j = i from hj]
    exact ⟨List.mem_append_right _ (List.mem_singleton.mpr rfl), zadd_21.trans hT.symm⟩
theorem Iv.put {T' : Nat → Dsc} (h : Iv G S T E Z0 M0 Z M) (ho : S o) (hz : ZK G (zput Z o D)) (h1 : T' o = D) (h2 : ∀ j, j ≠ o → T' j = T j) : Iv G S T' E Z0 M0 (zput Z o D) M := by
  obtain ⟨k1, k2, k3, k4, k5⟩ := h
  refine ⟨hz, Ex.put k2 ho, fun j hj => ?_, k4, k5⟩
  by_cases e : j = o
  · rw [e]
    exact ⟨(k3 o ho).1, zput_21.trans h1.symm⟩
  · exact ⟨(k3 j hj).1, (zput_2 e).trans ((k3 j hj).2.trans (h2 j e).symm)⟩
theorem Iv.join {S1 : Nat → Prop} {E1 : Mem → Prop} {f : Nat → Int32} {Z2 : ZZ} {M2 : Mem} (h : Iv G S T E Z0 M0 Z M) (hi : i ∉ Z.2.2) (hS1 : S1 i) (h1 : Iv G S1 TB E1 (zadd Z i a D) (ms M i f) Z2 M2) (hd : ∀ j, S1 j → ¬ S j) (hT : ∀ j, S1 j → T j = TB j) : Iv G (fun q => S q ∨ S1 q) T (fun m => E m ∧ E1 m) Z0 M0 Z2 M2 := by
  obtain ⟨k1, k2, k3, k4, k5⟩ := h
  obtain ⟨l1, l2, l3, l4, l5⟩ := h1
  have ne : ∀ j, S j → j ≠ i := fun j hj e => hi (e ▸ (k3 j hj).1)
  have nd : ∀ j, S j → ¬ S1 j := fun j hj h => hd j h hj
  refine ⟨l1, (Ex.add (k2.wk fun _ hj => Or.inl hj) hi (Or.inr hS1)).tr (l2.wk fun _ hj => Or.inr hj), fun j hj => ?_, ⟨k5 M _ (fun j hj => ?_) k4, l4⟩, fun M1 M2 hh k => ⟨k5 M1 M2 (fun j hj => hh j (Or.inl hj)) k.1, l5 M1 M2 (fun j hj => hh j (Or.inr hj)) k.2⟩⟩
  · rcases hj with hj | hj
    · exact l2.at (nd j hj) ⟨List.mem_append_left _ (k3 j hj).1, (zadd_2 (ne j hj)).trans (k3 j hj).2⟩
    · exact ⟨(l3 j hj).1, (l3 j hj).2.trans (hT j hj).symm⟩
  · exact (l2.2.1 j (List.mem_append_left _ (k3 j hj).1) (nd j hj)).2.trans (ms_ne (ne j hj))
end IVS
section RIV
variable {X : XX} {G : GG} {S : Nat → Prop} {T T0 : Nat → Dsc} {E : Mem → Prop} {Z0 Z : ZZ} {M0 M : Mem} {k n : Nat} {Q : State → Prop} {pc : Nat} {L : List (Nat × Value)} {rest : List Value} {own : String} {cc : ByteArray} {ret : Option FieldType} {d mc ms' nL : Nat}
theorem w_az : Cond.arrayClass .boolean ∈ TW := tw_in (List.mem_of_getElem? (i := 226) (by decide +kernel)) rfl
theorem w_ac : Cond.arrayClass .char ∈ TW := tw_in (List.mem_of_getElem? (i := 68) (by decide +kernel)) rfl
theorem r_ni {i N : Nat} {v : Int32} (h : Iv G S T E Z0 M0 Z M) (hT : T i = dA 0 N) (h0 : i ∉ Z0.2.2) (hs : ¬ S i) (hv : ¬ v < 0) (hN : v.toNatClampNeg = N) (hby : N * componentBytes .int ≤ 536870912) (hC : Cx X G own cc ret d mc ms' nL) (hk : k + 1 ≤ mc) (hn : n + N ≤ ms') (hdg : decode cc pc = .ok (.newarray .int, 2)) (kk : ∀ (Z' : ZZ) (M' : Mem) (a : Nat), Z'.1 i = a → Iv G (fun q => S q ∨ q = i) T (fun m => E m ∧ ∀ q, m i q = 0) Z0 M0 Z' M' → V X G Z' M' (k + 1) (n + N) Q (pc + 2) L (.ref a :: rest)) : V X G Z M k n Q pc L (.int v :: rest) :=
  r_newa (atype := .int) (ty := .int) w_ai rfl rfl rfl (fun _ _ h => h) hv hN hby hC h.1 (h.fresh h0 hs) hk hn hdg (fun a hz => kk _ _ a zadd_11 (h.add (h.fresh h0 hs) hz hT))
theorem r_nz {i N : Nat} {v : Int32} (h : Iv G S T E Z0 M0 Z M) (hT : T i = dA 1 N) (h0 : i ∉ Z0.2.2) (hs : ¬ S i) (hv : ¬ v < 0) (hN : v.toNatClampNeg = N) (hby : N * componentBytes .boolean ≤ 536870912) (hC : Cx X G own cc ret d mc ms' nL) (hk : k + 1 ≤ mc) (hn : n + N ≤ ms') (hdg : decode cc pc = .ok (.newarray .boolean, 2)) (kk : ∀ (Z' : ZZ) (M' : Mem) (a : Nat), Z'.1 i = a → Iv G (fun q => S q ∨ q = i) T (fun m => E m ∧ ∀ q, m i q = 0) Z0 M0 Z' M' → V X G Z' M' (k + 1) (n + N) Q (pc + 2) L (.ref a :: rest)) : V X G Z M k n Q pc L (.int v :: rest) :=
  r_newa (atype := .boolean) (ty := .boolean) w_az rfl rfl rfl (fun _ _ h => h) hv hN hby hC h.1 (h.fresh h0 hs) hk hn hdg (fun a hz => kk _ _ a zadd_11 (h.add (h.fresh h0 hs) hz hT))
theorem r_nc {i N : Nat} {v : Int32} (h : Iv G S T E Z0 M0 Z M) (hT : T i = dA 2 N) (h0 : i ∉ Z0.2.2) (hs : ¬ S i) (hv : ¬ v < 0) (hN : v.toNatClampNeg = N) (hby : N * componentBytes .char ≤ 536870912) (hC : Cx X G own cc ret d mc ms' nL) (hk : k + 1 ≤ mc) (hn : n + N ≤ ms') (hdg : decode cc pc = .ok (.newarray .char, 2)) (kk : ∀ (Z' : ZZ) (M' : Mem) (a : Nat), Z'.1 i = a → Iv G (fun q => S q ∨ q = i) T (fun m => E m ∧ ∀ q, m i q = 0) Z0 M0 Z' M' → V X G Z' M' (k + 1) (n + N) Q (pc + 2) L (.ref a :: rest)) : V X G Z M k n Q pc L (.int v :: rest) :=
  r_newa (atype := .char) (ty := .char) w_ac rfl rfl rfl (fun _ _ h => h) hv hN hby hC h.1 (h.fresh h0 hs) hk hn hdg (fun a hz => kk _ _ a zadd_11 (h.add (h.fresh h0 hs) hz hT))
theorem r_na {C : String} {t N i idx : Nat} {v : Int32} (h : Iv G S T E Z0 M0 Z M) (hT : T i = .inr (.inr (.inl (t, N, fun _ => none)))) (h0 : i ∉ Z0.2.2) (hs : ¬ S i) (w1 : Cond.classLink own idx C ∈ TW) (w2 : Cond.arrayOver (.object C) ∈ TW) (ht : (tys G)[t]? = some (G.2.1 t, .object C)) (hv : ¬ v < 0) (hN : v.toNatClampNeg = N) (hby : N * 4 ≤ 536870912) (hC : Cx X G own cc ret d mc ms' nL) (hk : k + 1 ≤ mc) (hn : n + N ≤ ms') (hdg : decode cc pc = .ok (.anewarray idx, 3)) (kk : ∀ (Z' : ZZ) (M' : Mem) (a : Nat), Z'.1 i = a → Iv G (fun q => S q ∨ q = i) T (fun m => E m ∧ ∀ q, m i q = 0) Z0 M0 Z' M' → V X G Z' M' (k + 1) (n + N) Q (pc + 3) L (.ref a :: rest)) : V X G Z M k n Q pc L (.int v :: rest) :=
  r_anewa w1 w2 ht hv hN hby hC h.1 (h.fresh h0 hs) hk hn hdg (fun a hz => kk _ _ a zadd_11 (h.add (h.fresh h0 hs) hz hT))
theorem r_pF {C : String} {Tb : u_T} {N ci idx o j b : Nat} {F : Nat → Option (Option Nat)} {ty : FieldType} (h : Iv G S (ov o (.inl (ci, N, F)) T0) E Z0 M0 Z M) (ho : o ∈ Z0.2.2) (hso : S o) (hsj : S j) (hbj : Z.1 j = b) (hin : ∀ w ∈ u_ws C Tb N, w ∈ TW) (ty0 : Nat → FieldType) (hty : ∀ k, k < N → parseFieldDescriptor (Tb k).2.2.1 = some (ty0 k)) (hnm : ∀ a, a < N → ∀ b, b < N → a ≠ b → (Tb a).2.1 ≠ (Tb b).2.1) (hc : vwCl[ci]? = some (C, Tb, N)) (kf : Nat) (hk : kf < N) (hown2 : (Tb kf).1 = C) (hown3 : (Tb kf).1 = own) (hfin : (Tb kf).2.2.2 = true) (hd : parseFieldDescriptor (Tb kf).2.2.1 = some ty) (hr0 : ∀ a : Nat, narrow ty (.ref a) = .ref a ∧ fits ty (.ref a) = true) (hw : Cond.fieldLink own idx C (Tb kf).2.1 (Tb kf).2.2.1 ∈ TW)
    (hC : Cx X G own cc ret d mc ms' nL) (hI : (xM X).name = "<init>") (hdg : decode cc pc = .ok (.putfield idx, 3)) (kk : ∀ Z' : ZZ, Iv G S (ov o (.inl (ci, N, va_up F kf (some (some j)))) T0) E Z0 M0 Z' M → V X G Z' M k n Q (pc + 3) L rest) : V X G Z M k n Q pc L (.ref b :: .ref (Z0.1 o) :: rest) :=
  r_putF hin ty0 hty hnm hc kf hk hown2 hown3 hfin hd hr0 hw hC hI h.1 (by have := h.2.2.1 o hso; rw [ov_1] at this; exact this) (h.ad ho) (h.2.2.1 j hsj).1 hbj hdg (fun hz => kk _ (h.put hso hz ov_1 (fun j hj => (ov_2 hj).trans (ov_2 hj).symm)))
theorem r_mn {io N idx : Nat} {v : Int32} (h : Iv G S T E Z0 M0 Z M) (hT : T io = .inr (.inr (.inl (4, N, fun j => some (io + 1 + j))))) (hTj : ∀ j, j < N → T (io + 1 + j) = dA 0 5) (h0 : ∀ q, io ≤ q → q < io + 1 + N → q ∉ Z0.2.2 ∧ ¬ S q) (w1 : Cond.classLink own idx "[[I" ∈ TW) (hv : ¬ v < 0) (hN : v.toNatClampNeg = N) (hN2 : N ≤ 16) (hC : Cx X G own cc ret d mc ms' nL) (hk : k + (1 + N) ≤ mc) (hn : n + (N + N * 5) ≤ ms') (hdg : decode cc pc = .ok (.multianewarray idx 2, 4)) (kk : ∀ (Z' : ZZ) (M' : Mem) (a : Nat), Z'.1 io = a → Iv G (fun q => S q ∨ (io ≤ q ∧ q < io + 1 + N)) T (fun m => E m ∧ ∀ j, j < N → ∀ q, m (io + 1 + j) q = 0) Z0 M0 Z' M' → V X G Z' M' (k + 1 + N) (n + N + N * 5) Q (pc + 4) L (.ref a :: rest)) : V X G Z M k n Q pc L (.int 5 :: .int v :: rest) := by
  have fr : ∀ q, io ≤ q → q < io + 1 + N → q ∉ Z.2.2 := fun q h1 h2 => h.fresh (h0 q h1 h2).1 (h0 q h1 h2).2
  refine r_mna (g := fun j => io + 1 + j) w1 hv hN hN2 hC h.1 (fr io (Nat.le_refl _) (by omega)) (fun j hj => ⟨fr _ (by omega) (by omega), by omega⟩) (fun i j _ _ e => by omega) hk hn hdg (fun Z' M' a hz hx hio ha hj => ?_)
  obtain ⟨k1, k2, k3, k4, k5⟩ := h
  have ns : ∀ q, S q → ¬ (q = io ∨ ∃ j, j < N ∧ q = io + 1 + j) := fun q hq e => by
    have hm := (k3 q hq).1
    rcases e with e | ⟨j, hj, e⟩
    · exact fr q (by omega) (by omega) hm
    · exact fr q (by omega) (by omega) hm
  refine kk Z' M' a ha ⟨hz, (k2.wk fun q hq => Or.inl hq).tr (hx.wk fun q hq => Or.inr (by
    rcases hq with e | ⟨j, hj, e⟩
    · omega
    · omega)), fun j hj' => ?_, ⟨k5 M M' (fun j hj' => (hx.2.1 j (k3 j hj').1 (ns j hj')).2) k4, fun j hj' q => (hj j hj').2 q⟩, fun M1 M2 hh kx => ⟨k5 M1 M2 (fun j hj' => hh j (Or.inl hj')) kx.1, fun j hj' q => by rw [hh (io + 1 + j) (Or.inr (by omega))]; exact kx.2 j hj' q⟩⟩
  rcases hj' with hj' | ⟨h1, h2⟩
  · exact hx.at (ns j hj') (k3 j hj')
  · by_cases e : j = io
    · rw [e, hT]; exact hio
    · obtain ⟨p, rfl⟩ : ∃ p, j = io + 1 + p := ⟨j - (io + 1), by omega⟩
      rw [hTj p (by omega)]
      exact (hj p (by omega)).1
/-- what a constructor owes -/
def Ctr (G : GG) (l : Launch) (y : MethodName) (cy : ByteArray) (ny d mc ms : Nat) (o ci N : Nat) (F : Nat → Option (Option Nat)) (S1 : Nat → Prop) (E1 : Mem → Prop) : Prop :=
  ∀ (Z : ZZ) (M : Mem), ZK G Z → At Z o (.inl (ci, N, F)) → (∀ q, M o q = 0) → (∀ j, S1 j → j ≠ o → j ∉ Z.2.2) → CNw (Iv G S1 TB E1 Z M) l G Z y cy ny d mc ms [.ref (Z.1 o)] M
theorem r_nw {C : String} {Tb : u_T} {N ci idx idc i : Nat} {F : Nat → Option (Option Nat)} {y : MethodName} {cy : ByteArray} {ny dy mcy msy : Nat} {S1 : Nat → Prop} {E1 : Mem → Prop} (h : Iv G S T E Z0 M0 Z M) (h0 : ∀ j, S1 j → j ∉ Z0.2.2 ∧ ¬ S j ∧ T j = TB j) (hS1 : S1 i) (ct : Ctr G (xl X) y cy ny dy mcy msy i ci N F S1 E1) (hin : ∀ w ∈ u_ws C Tb N, w ∈ TW) (ty : Nat → FieldType) (hty : ∀ k, k < N → parseFieldDescriptor (Tb k).2.2.1 = some (ty k)) (hc : vwCl[ci]? = some (C, Tb, N)) (w1 : Cond.classLink own idx C ∈ TW) (w2 : Cond.instantiable C N ∈ TW) (w3 : Cond.initialized C ∈ TW) (hF : ∀ j, j < N → (F j = none ∧ defaultValue (ty j) = .int 0) ∨ (F j = some none ∧ defaultValue (ty j) = .null)) (cs : CsI own idc y cy ny ∨ CsIN own idc y cy ny) (hC : Cx X G own cc ret d mc ms' nL) (hd : dy + 1 ≤ d) (hlo : 8 + (ny + 11) + 40 * dy ≤ 40 * d) (hrest : (rest.map fun v => v.category).sum ≤ 7) (hk : k + 1 + mcy ≤ mc) (hn : n + N + msy ≤ ms') (hdg : decode cc pc = .ok (.new idx, 3)) (hdg2 : decode cc (pc + 3) = .ok (.dup, 1)) (hdg3 : decode cc (pc + 4) = .ok (.invokespecial idc, 3))
    (kk : ∀ (Z' : ZZ) (M' : Mem) (a : Nat), Z'.1 i = a → (∀ j, S j → Z'.1 j = Z.1 j) → Iv G (fun q => S q ∨ S1 q) T (fun m => E m ∧ E1 m) Z0 M0 Z' M' → V X G Z' M' (k + 1 + mcy) (n + N + msy) Q (pc + 7) L (.ref a :: rest)) : V X G Z M k n Q pc L rest := by
  have fr : i ∉ Z.2.2 := h.fresh (h0 i hS1).1 (h0 i hS1).2.1
  refine r_new hin ty hty hc w1 w2 w3 hF hC h.1 fr (by omega) (by omega) hdg (fun a hz => ?_)
  refine r_dup hC hdg2 rfl ?_
  have hm : i ∈ (zadd Z i a (.inl (ci, N, F))).2.2 := List.mem_append_right _ (List.mem_singleton.mpr rfl)
  have c := ct _ (ms M i (fun _ => 0)) hz ⟨hm, zadd_21⟩ (fun q => by rw [ms_same]) (fun j hj hne hmj => by
    rcases List.mem_append.mp hmj with e | e
    · exact h.fresh (h0 j hj).1 (h0 j hj).2.1 e
    · exact hne (List.mem_singleton.mp e))
  rw [zadd_11] at c
  have kk' : ∀ (Z' : ZZ) (M' : Mem), Iv G S1 TB E1 (zadd Z i a (.inl (ci, N, F))) (ms M i (fun _ => 0)) Z' M' → V X G Z' M' (k + 1 + mcy) (n + N + msy) Q (pc + 7) L (.ref a :: rest) := fun Z' M' hp =>
    kk Z' M' a ((hp.ad hm).trans zadd_11) (fun j hj => (hp.ad (List.mem_append_left _ (h.2.2.1 j hj).1)).trans (zadd_1 (fun e => fr (e ▸ (h.2.2.1 j hj).1)))) (h.join fr hS1 hp (fun j hj => (h0 j hj).2.1) (fun j hj => (h0 j hj).2.2))
  have hr : ((Value.ref a :: rest).map fun v => v.category).sum ≤ 8 := by
    rw [List.map_cons, List.sum_cons]
    have : (Value.ref a).category = 1 := rfl
    omega
  rcases cs with cs | cs
  · exact r_callN c cs hC hd hlo hr hk hn hdg3 kk'
  · exact r_callNN c cs hC hd hlo hr hk hn hdg3 kk'
end RIV
