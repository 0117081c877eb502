def stp (P : Pg) (b w s : Nat) (c : Bool) (ρ : Nat → Int) : Int := (if 1 ≤ w ∧ w < 4 ∧ sp P b s ≠ -9 ∧ mr ρ s = w then 1 else 0) + (if (w = 4 ∧ c = true) ∨ (w = 7 ∧ sp P b s ≠ -9 ∧ mr ρ s = 0 ∧ (c = true ∨ ¬ hd P b s)) then 1 else 0)
noncomputable def hpt (P : Pg) (b w h : Nat) : Int := (if w = 5 then (if ro P b h (sq P b) then 1 else 0) else 0) + (if w = 6 then mv P b (bef P b) h (sq P b) else 0)
noncomputable def shM (P : Pg) (b w : Nat) : Int := sg (hpt P b w) 2 + (if w = 0 then co P b (bef P b) (sq P b) else 0) + sg (fun s => stp P b w s (cutH P b s) (rho P b)) (gS P)
theorem sg_up {f : Nat → Int} {n : Nat} (h : ∀ i, n ≤ i → f i = 0) : ∀ m, n ≤ m → sg f m = sg f n
  | 0, hm => by rw [show n = 0 by omega]
  | m + 1, hm => by
    by_cases e : n = m + 1
    · rw [e]
    · rw [sg, h m (by omega), Int.add_zero]
      exact sg_up h m (by omega)
theorem sg_nf (f : Nat → Bool) : sg (fun s => b01 (f s)) 5 = nf f := by
  simp only [sg, nf]
  omega
theorem sg_z {f : Nat → Int} (h : ∀ i, f i = 0) : ∀ n, sg f n = 0
  | 0 => rfl
  | n + 1 => by rw [sg, h n, sg_z h n]; rfl
theorem nf_one {f g : Nat → Bool} {a : Nat} (ha : a < 5) (hf : f a = false) (hg : ∀ s, g s = (f s || decide (s = a))) : nf g = nf f + 1 := by
  unfold nf
  rw [hg 0, hg 1, hg 2, hg 3, hg 4]
  rcases lt5 ha with rfl | rfl | rfl | rfl | rfl <;> rw [hf] <;> simp [b01] <;> omega
theorem nf_lf {P : Pg} {b : Nat} {ρ : Nat → Int} (hR : IsRow (sp P b) (kp ρ) (rN P b ρ) (rR P b ρ)) : ∀ k, k ≤ rN P b ρ → nf (lf P b ρ k) = k
  | 0, _ => by
    have : ∀ s, lf P b ρ 0 s = false := fun s => by
      unfold lf
      exact decide_eq_false (fun ⟨m, hm, _⟩ => Nat.not_lt_zero m hm)
    unfold nf b01
    rw [this, this, this, this, this]
    rfl
  | k + 1, hk => by
    have ih := nf_lf hR k (by omega)
    rw [nf_one (f := lf P b ρ k) (a := rR P b ρ k) (by have := (hR.1 k (by omega)).1; omega) ?_ ?_, ih]
    · omega
    · unfold lf
      refine decide_eq_false (fun ⟨m, hm, e⟩ => ?_)
      have := hR.2.2 m k hm (by omega)
      rw [e] at this
      omega
    · intro s
      unfold lf
      rw [Bool.eq_iff_iff]
      simp only [Bool.or_eq_true, decide_eq_true_eq]
      refine ⟨fun ⟨m, hm, e⟩ => ?_, fun z => ?_⟩
      · by_cases d : m = k
        · rw [d] at e; exact Or.inr e.symm
        · exact Or.inl ⟨m, by omega, e⟩
      · rcases z with ⟨m, hm, e⟩ | z
        · exact ⟨m, by omega, e⟩
        · exact ⟨k, by omega, z.symm⟩
theorem lb_kept {P : Pg} {b : Nat} (hR : IsRow (sp P b) (kp (rho P b)) (rN P b (rho P b)) (rR P b (rho P b))) {s : Nat} (hs : s < 4) : (lb P b (nn P b) s = true) = (rho P b s = 0) := by
  unfold lb lf
  rw [decide_eq_true_eq]
  refine propext ⟨fun ⟨m, hm, e⟩ => ?_, fun z => ?_⟩
  · rw [← e]; exact (hR.1 m hm).2
  · obtain ⟨i, hi, e⟩ := hR.2.1 s hs z
    exact ⟨i, hi, e⟩
theorem nf_add (f g : Nat → Bool) (h : Nat → Bool) (e : ∀ s, b01 (f s) + b01 (g s) = b01 (h s)) : nf f + nf g = nf h := by
  unfold nf
  rw [← e 0, ← e 1, ← e 2, ← e 3, ← e 4]
  omega
theorem shM_eq {P : Pg} {b w : Nat} (hP : PgD P) (hb : b < gB P) (hR : IsRow (sp P b) (kp (rho P b)) (rN P b (rho P b)) (rR P b (rho P b))) (hw : w < 8) : shM P b w = shW P b w := by
  have h1 := hP.1
  have out : ∀ s, gS P ≤ s → rho P b s = -9 := fun s hs => by
    have := (RO_drp P b (tF P b) s).2.mpr (by unfold sp; rw [if_neg (by omega)])
    exact this
  have hp0 : w ≠ 5 → w ≠ 6 → sg (hpt P b w) 2 = 0 := fun a c => sg_z (fun i => by unfold hpt; rw [if_neg a, if_neg c]; rfl) 2
  have st0 : (w < 1 ∨ 4 ≤ w) → w ≠ 4 → w ≠ 7 → sg (fun s => stp P b w s (cutH P b s) (rho P b)) (gS P) = 0 := fun a c d => sg_z (fun i => by unfold stp; rw [if_neg (by omega), if_neg (by omega)]; rfl) _
  unfold shM shW
  rcases (show w = 0 ∨ (1 ≤ w ∧ w < 4) ∨ w = 4 ∨ w = 5 ∨ w = 6 ∨ w = 7 by omega) with rfl | hw' | rfl | rfl | rfl | rfl
  · rw [hp0 (by omega) (by omega), st0 (by omega) (by omega) (by omega), if_pos rfl, if_pos rfl]
    omega
  · rw [hp0 (by omega) (by omega), if_neg (by omega), if_neg (by omega), if_neg (by omega), if_neg (by omega), if_neg (by omega), if_neg (by omega)]
    unfold cntR
    rw [sg_up (f := fun s => if rho P b s = w then 1 else 0) (n := gS P) (fun i hi => by show (if rho P b i = w then (1 : Int) else 0) = 0; rw [out i hi, if_neg (by omega)]) 4 (by omega)]
    rw [show (0 : Int) + 0 = 0 from rfl, Int.zero_add]
    refine sg_cong fun s hs => ?_
    have hro := rho_RO P b s
    unfold stp
    rw [if_neg (show ¬ ((w = 4 ∧ cutH P b s = true) ∨ _) by omega), Int.add_zero]
    unfold mr
    by_cases c : rho P b s = -9
    · rw [if_neg, if_neg (by omega)]
      intro z
      exact z.2.2.1 (hro.2.mp c)
    · rw [if_neg c]
      by_cases d : rho P b s = w
      · rw [if_pos ⟨hw'.1, hw'.2, fun z => c (hro.2.mpr z), d⟩, if_pos d]
      · rw [if_neg (fun z => d z.2.2.2), if_neg d]
  · rw [hp0 (by omega) (by omega), if_neg (by omega), if_neg (by omega), if_pos rfl, show (0 : Int) + 0 = 0 from rfl, Int.zero_add, ← sg_nf]
    have e : sg (fun s => b01 (cutH P b s)) 5 = sg (fun s => b01 (cutH P b s)) (gS P) := sg_up (fun i hi => by show b01 (cutH P b i) = 0; unfold cutH; rw [cutB_out hi]; rfl) 5 (by omega)
    rw [e]
    refine sg_cong fun s hs => ?_
    unfold stp
    rw [if_neg (by omega)]
    cases cutH P b s
    · rw [if_neg (by intro z; rcases z with z | z; exact Bool.noConfusion z.2; omega)]; rfl
    · rw [if_pos (Or.inl ⟨rfl, rfl⟩)]; rfl
  · rw [st0 (by omega) (by omega) (by omega), if_neg (by omega), if_neg (by omega), if_neg (by omega), if_pos rfl]
    have e5 : ∀ h, hpt P b 5 h = if ro P b h (sq P b) then 1 else 0 := fun h => by
      unfold hpt
      rw [if_pos rfl, if_neg (show ¬ (5 = 6) by omega), Int.add_zero]
    rw [show sg (hpt P b 5) 2 = 0 + hpt P b 5 0 + hpt P b 5 1 from rfl, e5, e5]
    unfold nro
    omega
  · rw [st0 (by omega) (by omega) (by omega), if_neg (by omega), if_neg (by omega), if_neg (by omega), if_neg (by omega), if_pos rfl]
    have e6 : ∀ h, hpt P b 6 h = mv P b (bef P b) h (sq P b) := fun h => by
      unfold hpt
      rw [if_neg (show ¬ (6 = 5) by omega), if_pos rfl, Int.zero_add]
    rw [show sg (hpt P b 6) 2 = 0 + hpt P b 6 0 + hpt P b 6 1 from rfl, e6, e6]
    omega
  · rw [hp0 (by omega) (by omega), if_neg (by omega), if_neg (by omega), if_neg (by omega), if_neg (by omega), if_neg (by omega), if_pos rfl, show (0 : Int) + 0 = 0 from rfl, Int.zero_add]
    have hn : nf (lb P b (nn P b)) = nn P b := nf_lf hR _ (Nat.le_refl _)
    have lo : ∀ s, gS P ≤ s → lb P b (nn P b) s = false := fun s hs => by
      by_cases h4 : s < 4
      · cases e : lb P b (nn P b) s
        · rfl
        · have := lb_kept hR h4
          rw [e] at this
          have := this.mp rfl
          rw [out s hs] at this
          omega
      · unfold lb lf
        refine decide_eq_false (fun ⟨m, hm, e⟩ => ?_)
        have := (hR.1 m hm).1
        omega
    have key : nf (fun s => (lb P b (nn P b) s && (cutH P b s || !decide (hd P b s)))) + nf (fun s => (decide (hd P b s) && lb P b (nn P b) s) && !cutH P b s) = nf (lb P b (nn P b)) := nf_add _ _ _ (fun s => by
      cases lb P b (nn P b) s <;> cases cutH P b s <;> cases decide (hd P b s) <;> rfl)
    have e : sg (fun s => b01 (lb P b (nn P b) s && (cutH P b s || !decide (hd P b s)))) 5 = sg (fun s => b01 (lb P b (nn P b) s && (cutH P b s || !decide (hd P b s)))) (gS P) := sg_up (fun i hi => by show b01 (lb P b (nn P b) i && _) = 0; rw [lo i hi]; rfl) 5 (by omega)
    rw [sg_nf] at e
    have e2 : sg (fun s => stp P b 7 s (cutH P b s) (rho P b)) (gS P) = sg (fun s => b01 (lb P b (nn P b) s && (cutH P b s || !decide (hd P b s)))) (gS P) := by
      refine sg_cong fun s hs => ?_
      have hro := rho_RO P b s
      have hk := lb_kept hR (s := s) (by omega)
      unfold stp
      rw [if_neg (by omega), Int.zero_add]
      have em : (sp P b s ≠ -9 ∧ mr (rho P b) s = 0) = (rho P b s = 0) := by
        unfold mr
        refine propext ⟨fun z => ?_, fun z => ?_⟩
        · have := z.2
          rw [if_neg (fun y => z.1 (hro.2.mp y))] at this
          exact this
        · exact ⟨fun y => by have := hro.2.mpr y; omega, by rw [if_neg (by omega)]; exact z⟩
      by_cases c : rho P b s = 0
      · rw [hk.mpr c]
        have em' := em.mpr c
        by_cases ch : hd P b s
        · rw [decide_eq_true ch]
          cases cutH P b s
          · rw [if_neg]; rfl
            intro z
            rcases z with z | z
            · omega
            · rcases z.2.2.2 with y | y
              · exact Bool.noConfusion y
              · exact y ch
          · rw [if_pos (Or.inr ⟨rfl, em'.1, em'.2, Or.inl rfl⟩)]; rfl
        · rw [decide_eq_false ch, if_pos (Or.inr ⟨rfl, em'.1, em'.2, Or.inr ch⟩)]
          cases cutH P b s <;> rfl
      · have lf : lb P b (nn P b) s = false := by
          cases e : lb P b (nn P b) s
          · rfl
          · rw [e] at hk; exact absurd (hk.mp rfl) c
        rw [lf, if_neg]
        · rfl
        · intro z
          rcases z with z | z
          · omega
          · exact c (em.mp ⟨z.2.1, z.2.2.1⟩)
    rw [e2, ← e, ← hn]
    omega
