/-! AN ACTION: whatever it comes to, both come to it -/
def Ex2 (f : Mem → Option (Int32 × Mem)) (D : Ds) : Prop := ∃ (v : Int32) (D' : Ds), AkO f D v D'
theorem ex_bind {f : Mem → Option (Int32 × Mem)} {K : Int32 → Mem → Option (Int32 × Mem)} {D D' : Ds} {v : Int32} {S : Nat → Prop} (a : AkG S f D v D') (h : Ex2 (K v) D') (hS : ∀ d, S d → CO d := by intro d h; first | exact h | exact Or.inl h) : Ex2 (fun M => ob (f M) K) D := by
  obtain ⟨w, E, b⟩ := h
  exact ⟨w, E, ak_of b.1 (fun M0 M h => stp (a.o hS) h (fun M1 h1 => (b.2 M1 h1.1).mono (fun x hx => ⟨hx.1, hx.2.1, h1.2.tr hx.2.2⟩)))⟩
theorem ex_last {f : Mem → Option (Int32 × Mem)} {D : Ds} (h : Ex2 f D) : Ex2 (fun M => ob (f M) (fun x N => some (x, N))) D := by
  obtain ⟨v, D', a⟩ := h
  exact ⟨v, D', ak_of a.1 (fun M0 M h => stp a h (fun M1 h1 => ak_end h1))⟩
theorem ex_if {c : Prop} [Decidable c] {F G : Mem → Option (Int32 × Mem)} {D : Ds} (h : Ex2 F D) (k : Ex2 G D) : Ex2 (fun M => if c then F M else G M) D := by
  by_cases z : c
  · simp only [if_pos z]; exact h
  · simp only [if_neg z]; exact k
theorem ex_ift {c : Prop} [Decidable c] {F G : Mem → Option (Int32 × Mem)} {D : Ds} (z : c) (h : Ex2 F D) : Ex2 (fun M => if c then F M else G M) D := by
  simp only [if_pos z]; exact h
section EX
variable {D : Ds}
theorem x_write (hD : DOk D) (x y z : Int32) : Ex2 (f_L_tryWrite x y z) D := by
  obtain ⟨s, rfl, s1, s2⟩ := izself x
  obtain ⟨b, rfl, b1, b2⟩ := izself y
  obtain ⟨v, rfl, v1, v2⟩ := izself z
  have k := k_write D hD rfl s1 s2 rfl b1 b2 rfl v1 v2
  repeat' split at k
  all_goals first | exact ⟨_, _, (ak_ok k).o⟩ | exact ⟨_, _, AkG.o (ak_er k rfl)⟩
theorem x_trans (hD : DOk D) (x y : Int32) : Ex2 (f_L_tryTranspose x y) D := by
  obtain ⟨s, rfl, s1, s2⟩ := izself x
  obtain ⟨b, rfl, b1, b2⟩ := izself y
  have k := k_transpose D hD rfl s1 s2 rfl b1 b2
  repeat' split at k
  all_goals first | exact ⟨_, _, (ak_ok k).o⟩ | exact ⟨_, _, AkG.o (ak_er k rfl)⟩
theorem x_exch (hD : DOk D) (x y : Int32) : Ex2 (f_L_tryExchange x y) D := by
  obtain ⟨s, rfl, s1, s2⟩ := izself x
  obtain ⟨b, rfl, b1, b2⟩ := izself y
  have k := k_exchange D hD rfl s1 s2 rfl b1 b2
  repeat' split at k
  all_goals first | exact ⟨_, _, (ak_ok k).o⟩ | exact ⟨_, _, AkG.o (ak_er k rfl)⟩
theorem x_set (hD : DOk D) (x y : Int32) : Ex2 (f_L_trySet x y) D := by
  obtain ⟨s, rfl, s1, s2⟩ := izself x
  obtain ⟨b, rfl, b1, b2⟩ := izself y
  have k := k_set D hD rfl s1 s2 rfl b1 b2
  repeat' split at k
  all_goals first | exact ⟨_, _, (ak_ok k).o⟩ | exact ⟨_, _, AkG.o (ak_er k rfl)⟩
theorem x_staff (hD : DOk D) (z : Int32) : Ex2 (f_L_tryStaff z) D := by
  have k := k_staff D hD z
  repeat' split at k
  all_goals first | exact ⟨_, _, (ak_ok k).o⟩ | exact ⟨_, _, AkG.o (ak_er k rfl)⟩
theorem x_ins (hD : DOk D) (x : Int32) : Ex2 (f_L_tryInsertBeat x) D := by
  obtain ⟨s, rfl, s1, s2⟩ := izself x
  have k := k_insertBeat D hD rfl s1 s2
  repeat' split at k
  all_goals first | exact ⟨_, _, (ak_ok k).o⟩ | exact ⟨_, _, AkG.o (ak_er k rfl)⟩
theorem x_rem (hD : DOk D) (x : Int32) : Ex2 (f_L_tryRemoveBeat x) D := by
  obtain ⟨s, rfl, s1, s2⟩ := izself x
  have k := k_removeBeat D hD rfl s1 s2
  repeat' split at k
  all_goals first | exact ⟨_, _, (ak_ok k).o⟩ | exact ⟨_, _, AkG.o (ak_er k rfl)⟩
theorem x_undo (hD : DOk D) : Ex2 f_L_tryUndo D := by
  have k := k_undo D hD
  repeat' split at k
  all_goals first | exact ⟨_, _, (ak_ok k).o⟩ | exact ⟨_, _, AkG.o (ak_er k rfl)⟩
theorem x_save (hD : DOk D) (x : Int32) : Ex2 (f_L_trySave x) D := by
  obtain ⟨s, rfl, s1, s2⟩ := izself x
  have k := k_save D hD rfl s1 s2
  repeat' split at k
  all_goals first | exact ⟨_, _, (ak_ok k).o⟩ | exact ⟨_, _, AkG.o (ak_er k rfl)⟩
theorem x_rest (hD : DOk D) (x : Int32) : Ex2 (f_L_tryRestore x) D := by
  obtain ⟨s, rfl, s1, s2⟩ := izself x
  have k := k_restore D hD rfl s1 s2
  repeat' split at k
  all_goals first | exact ⟨_, _, (ak_ok k).o⟩ | exact ⟨_, _, AkG.o (ak_er k rfl)⟩
theorem act_ex (hD : DOk D) (x y : Int32) : Ex2 (f_L_act x y) D := by
  have h1 := hD.2.2.1.1.1.1
  have h2 := hD.2.2.1.1.1.2
  have n1 : ¬ (iz (gS (dP D) : Int) = 0) := by rw [show (0 : Int32) = iz 0 from rfl, iz_eq (by omega) (by omega) (by omega) (by omega)]; omega
  have n3 : ¬ (iz (gB (dP D) : Int) = 0) := by rw [show (0 : Int32) = iz 0 from rfl, iz_eq (by omega) (by omega) (by omega) (by omega)]; omega
  have n4 : ¬ (iz (gB (dP D) : Int) + 1 = 0) := by rw [a1z, show (0 : Int32) = iz 0 from rfl, iz_eq (by omega) (by omega) (by omega) (by omega)]; omega
  have b108 : ∀ a b c : Int32, Ex2 (f_L_act_b108 a b c) D := fun a b c => by
    have b151 : ∀ u, Ex2 (f_L_act_b151 u c b) D := fun u => ex_last (x_write hD b c u)
    exact ex_if (b151 _) (ex_if (b151 _) (b151 _))
  have b197 : ∀ a, Ex2 (f_L_act_b197 a) D := fun a => ex_last (x_staff hD a)
  have b222 : ∀ a, Ex2 (f_L_act_b222 a) D := fun a => ex_last (x_set hD _ _)
  refine ex_bind (a_S hD) (ex_bind (a_B hD) (ex_ift n1 (ex_ift n3 ?_)))
  refine ex_if (b108 _ _ _) (ex_if (b108 _ _ _) (ex_if (b108 _ _ _) (ex_if (b108 _ _ _) (ex_if (b108 _ _ _) ?_))))
  refine ex_if (ex_last (x_trans hD _ _)) (ex_if (ex_ift n1 (ex_last (x_exch hD _ _))) ?_)
  refine ex_if (ex_if (b197 _) (b197 _)) (ex_if (ex_ift n4 (ex_last (x_ins hD _))) ?_)
  refine ex_if (ex_last (x_rem hD _)) (ex_if (b222 _) (ex_if (b222 _) ?_))
  refine ex_if (ex_last (x_set hD _ _)) (ex_if (ex_last (x_set hD _ _)) ?_)
  exact ex_if (ex_last (x_undo hD)) (ex_if (ex_last (x_save hD _)) (ex_last (x_rest hD _)))
end EX
