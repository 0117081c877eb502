def f_X3_written (q0 : Nat) (v1 : Int32) (v2 : Int32) (M : Mem) : Option (Int32 × Mem) :=
  if v1 < 0 then (some ((-9), M)) else (if (M (iSt q0) 2) ≤ v1 then (some ((-9), M)) else (if v2 < 0 then (some ((-9), M)) else (if (M (iSt q0) 3) ≤ v2 then (some ((-9), M)) else (if inb ((v1 * 16) + v2) 64 then (some (M (iSt q0 + 2) (Int32.toNatClampNeg ((v1 * 16) + v2)), M)) else none))))
def f_X3_sounding_b2 (q0 : Nat) (v1 : Int32) (k2 : Int32 → Mem → Option (Int32 × Mem)) (v3 : Int32) (M : Mem) : Option (Int32 × Mem) :=
  if v3 < 0 then (some ((-9), M)) else (ob (f_X3_written q0 v1 v3 M) (fun x1 M2 => if x1 = 99 then (k2 (v3 + (-1)) M2) else (some (x1, M2))))
def f_X3_sounding (q0 : Nat) (v1 : Int32) (v2 : Int32) (M : Mem) : Option (Int32 × Mem) :=
  lq1 (f_X3_sounding_b2 q0 v1) 9999 v2 M
def f_X0_readNotes_b46 (b0 : Nat) (q1 : Nat) (v2 : Int32) (v3 : Int32) (k7 : Int32 → Mem → Option (Unit × Mem)) (s0 : Int32) (s1 : Int32) (s2 : Nat) (M : Mem) : Option (Unit × Mem) :=
  if inb s1 4 then (ob (f_X3_written q1 v3 v2 (mw M s2 (Int32.toNatClampNeg s1) s0)) (fun x3 M4 => if x3 = 99 then (k7 (v3 + 1) (mw M4 (iCh b0) 6 ((M4 (iCh b0) 6) ||| (1 <<< (v3 &&& 31))))) else (k7 (v3 + 1) M4))) else none
def f_X0_readNotes_b7 (b0 : Nat) (q1 : Nat) (v2 : Int32) (k7 : Int32 → Mem → Option (Unit × Mem)) (v3 : Int32) (M : Mem) : Option (Unit × Mem) :=
  if 4 ≤ v3 then (some ((), M)) else (ob (f_X3_sounding q1 v3 v2 M) (fun x1 M2 => if inb v3 4 then (if inb v3 4 then (if ((mw M2 (iCh b0 + 2) (Int32.toNatClampNeg v3) x1) (iCh b0 + 2) (Int32.toNatClampNeg v3)) = (-9) then (f_X0_readNotes_b46 b0 q1 v2 v3 k7 (-9) v3 (iCh b0 + 3) (mw M2 (iCh b0 + 2) (Int32.toNatClampNeg v3) x1)) else (f_X0_readNotes_b46 b0 q1 v2 v3 k7 0 v3 (iCh b0 + 3) (mw M2 (iCh b0 + 2) (Int32.toNatClampNeg v3) x1))) else none) else none))
def f_X0_readNotes (b0 : Nat) (q1 : Nat) (v2 : Int32) (M : Mem) : Option (Unit × Mem) :=
  lq1 (f_X0_readNotes_b7 b0 q1 v2) 9999 0 (mw M (iCh b0) 6 0)
def f_X3_isSetting (v0 : Int32) (M : Mem) : Option (Int32 × Mem) :=
  if v0 < 0 then (some (0, M)) else (if 6 ≤ v0 then (some (0, M)) else (some (1, M)))
def f_X3_settingAt (q0 : Nat) (v1 : Int32) (M : Mem) : Option (Int32 × Mem) :=
  ob (f_X3_isSetting v1 M) (fun x1 M2 => if x1 = 0 then (some (0, M2)) else (if inb v1 6 then (some (M2 (iSt q0 + 1) (Int32.toNatClampNeg v1), M2)) else none))
def f_X0_readSettings_b24 (b0 : Nat) (q1 : Nat) (M : Mem) : Option (Unit × Mem) :=
  ob (f_X3_settingAt q1 2 M) (fun x3 M4 => ob (f_X3_settingAt q1 3 (mw M4 (iCh b0) 1 x3)) (fun x5 M6 => ob (f_X3_settingAt q1 4 (mw M6 (iCh b0) 2 x5)) (fun x7 M8 => if x7 = 1 then (some ((), (mw M8 (iCh b0) 3 1))) else (some ((), (mw M8 (iCh b0) 3 0))))))
def f_X0_readSettings_b2 (b0 : Nat) (q1 : Nat) (k2 : Int32 → Mem → Option (Unit × Mem)) (v2 : Int32) (M : Mem) : Option (Unit × Mem) :=
  if 2 ≤ v2 then (f_X0_readSettings_b24 b0 q1 M) else (ob (f_X3_settingAt q1 v2 M) (fun x1 M2 => if inb v2 2 then (k2 (v2 + 1) (mw M2 (iCh b0 + 1) (Int32.toNatClampNeg v2) x1)) else none))
def f_X0_readSettings (b0 : Nat) (q1 : Nat) (M : Mem) : Option (Unit × Mem) :=
  lq1 (f_X0_readSettings_b2 b0 q1) 9999 0 M
def f_X0_reasonFor_b23 (b0 : Nat) (v1 : Int32) (v2 : Int32) (v3 : Int32) (v4 : Int32) (k5 : Int32 → Int32 → Mem → Option (Int32 × Mem)) (M : Mem) : Option (Int32 × Mem) :=
  if inb v4 4 then (if (M (iCh b0 + 3) (Int32.toNatClampNeg v4)) = 0 then (if inb v1 4 then (if inb v4 4 then (if (if 0 ≤ ((M (iCh b0 + 2) (Int32.toNatClampNeg v1)) - (M (iCh b0 + 2) (Int32.toNatClampNeg v4))) then ((M (iCh b0 + 2) (Int32.toNatClampNeg v1)) - (M (iCh b0 + 2) (Int32.toNatClampNeg v4))) else 0 - ((M (iCh b0 + 2) (Int32.toNatClampNeg v1)) - (M (iCh b0 + 2) (Int32.toNatClampNeg v4)))) = 0 then (some (1, M)) else (if (M (iCh b0) 3) = 0 then (k5 v3 (v4 + 1) M) else (if ((if 0 ≤ ((M (iCh b0 + 2) (Int32.toNatClampNeg v1)) - (M (iCh b0 + 2) (Int32.toNatClampNeg v4))) then ((M (iCh b0 + 2) (Int32.toNatClampNeg v1)) - (M (iCh b0 + 2) (Int32.toNatClampNeg v4))) else 0 - ((M (iCh b0 + 2) (Int32.toNatClampNeg v1)) - (M (iCh b0 + 2) (Int32.toNatClampNeg v4)))) - (if 0 ≤ ((M (iCh b0 + 2) (Int32.toNatClampNeg v1)) - (M (iCh b0 + 2) (Int32.toNatClampNeg v4))) then ((M (iCh b0 + 2) (Int32.toNatClampNeg v1)) - (M (iCh b0 + 2) (Int32.toNatClampNeg v4))) else 0 - ((M (iCh b0 + 2) (Int32.toNatClampNeg v1)) - (M (iCh b0 + 2) (Int32.toNatClampNeg v4)))) / 12 * 12) = 0 then (k5 2 (v4 + 1) M) else (k5 v3 (v4 + 1) M)))) else none) else none) else (k5 v3 (v4 + 1) M)) else none
def f_X0_reasonFor_b5 (b0 : Nat) (v1 : Int32) (v2 : Int32) (k5 : Int32 → Int32 → Mem → Option (Int32 × Mem)) (v3 : Int32) (v4 : Int32) (M : Mem) : Option (Int32 × Mem) :=
  if 4 ≤ v4 then (some (v3, M)) else (if v4 < v1 then (f_X0_reasonFor_b23 b0 v1 v2 v3 v4 k5 M) else (if v4 = v2 then (f_X0_reasonFor_b23 b0 v1 v2 v3 v4 k5 M) else (k5 v3 (v4 + 1) M)))
def f_X0_reasonFor (b0 : Nat) (v1 : Int32) (v2 : Int32) (M : Mem) : Option (Int32 × Mem) :=
  lq2 (f_X0_reasonFor_b5 b0 v1 v2) 9999 0 0 M
def f_X0_countOf (b0 : Nat) (v1 : Int32) (v2 : Int32) (M : Mem) : Option (Int32 × Mem) :=
  if v1 = 0 then (some (v2, M)) else (some ((M (iCh b0) 9) - v2, M))
def f_X0_stavesOf (b0 : Nat) (v1 : Int32) (v2 : Int32) (M : Mem) : Option (Int32 × Mem) :=
  if v1 = 0 then (if inb v2 5 then (some (M (iCh b0 + 5) (Int32.toNatClampNeg v2), M)) else none) else (if inb (M (iCh b0) 9) 5 then (if inb v2 5 then (some ((M (iCh b0 + 5) (Int32.toNatClampNeg (M (iCh b0) 9))) &&& ((M (iCh b0 + 5) (Int32.toNatClampNeg v2)) ^^^ (-1)), M)) else none) else none)
def f_X0_canPlay_b49 (b0 : Nat) (v1 : Int32) (v2 : Int32) (s0 : Int32) (M : Mem) : Option (Int32 × Mem) :=
  if inb v1 2 then (if inb v2 5 then (if s0 < (M (iCh b0 + 10 + Int32.toNatClampNeg v1) (Int32.toNatClampNeg v2)) then (some (0, M)) else (some (1, M))) else none) else none
def f_X0_canPlay (b0 : Nat) (v1 : Int32) (v2 : Int32) (M : Mem) : Option (Int32 × Mem) :=
  ob (f_X0_countOf b0 v1 v2 M) (fun x1 M2 => if x1 ≤ (M2 (iCh b0) 1) then (ob (f_X0_stavesOf b0 v1 v2 M2) (fun x3 M4 => if (x3 &&& (M4 (iCh b0) 6)) = 0 then (if inb v1 2 then (f_X0_canPlay_b49 b0 v1 v2 ((M4 (iCh b0 + 1) (Int32.toNatClampNeg v1)) + (M4 (iCh b0) 2)) M4) else none) else (if inb v1 2 then (f_X0_canPlay_b49 b0 v1 v2 (M4 (iCh b0 + 1) (Int32.toNatClampNeg v1)) M4) else none))) else (some (0, M2)))
def f_X0_insert_b51 (b0 : Nat) (v1 : Int32) (v2 : Int32) (M : Mem) : Option (Unit × Mem) :=
  if inb v2 4 then (some ((), (mw (mw M (iCh b0 + 4) (Int32.toNatClampNeg v2) v1) (iCh b0) 9 (((mw M (iCh b0 + 4) (Int32.toNatClampNeg v2) v1) (iCh b0) 9) + 1)))) else none
def f_X0_insert_b5 (b0 : Nat) (v1 : Int32) (k5 : Int32 → Mem → Option (Unit × Mem)) (v2 : Int32) (M : Mem) : Option (Unit × Mem) :=
  if v2 ≤ 0 then (f_X0_insert_b51 b0 v1 v2 M) else (if inb (v2 - 1) 4 then (if inb (M (iCh b0 + 4) (Int32.toNatClampNeg (v2 - 1))) 4 then (if inb v1 4 then (if (M (iCh b0 + 2) (Int32.toNatClampNeg (M (iCh b0 + 4) (Int32.toNatClampNeg (v2 - 1))))) ≤ (M (iCh b0 + 2) (Int32.toNatClampNeg v1)) then (f_X0_insert_b51 b0 v1 v2 M) else (if inb (v2 - 1) 4 then (if inb v2 4 then (k5 (v2 + (-1)) (mw M (iCh b0 + 4) (Int32.toNatClampNeg v2) (M (iCh b0 + 4) (Int32.toNatClampNeg (v2 - 1))))) else none) else none)) else none) else none) else none)
def f_X0_insert (b0 : Nat) (v1 : Int32) (M : Mem) : Option (Unit × Mem) :=
  lq1 (f_X0_insert_b5 b0 v1) 9999 (M (iCh b0) 9) M
def f_X0_measure (b0 : Nat) (v1 : Int32) (v2 : Int32) (v3 : Int32) (v4 : Int32) (M : Mem) : Option (Unit × Mem) :=
  if v4 ≤ v3 then (if inb v1 2 then (if inb v2 5 then (if inb v1 2 then (if inb v2 5 then (some ((), (mw (mw M (iCh b0 + 7 + Int32.toNatClampNeg v1) (Int32.toNatClampNeg v2) (-9)) (iCh b0 + 10 + Int32.toNatClampNeg v1) (Int32.toNatClampNeg v2) 0))) else none) else none) else none) else none) else (if inb v1 2 then (if inb v3 4 then (if inb (M (iCh b0 + 4) (Int32.toNatClampNeg v3)) 4 then (if inb v2 5 then (if inb v1 2 then (if inb (v4 - 1) 4 then (if inb ((mw M (iCh b0 + 7 + Int32.toNatClampNeg v1) (Int32.toNatClampNeg v2) (M (iCh b0 + 2) (Int32.toNatClampNeg (M (iCh b0 + 4) (Int32.toNatClampNeg v3))))) (iCh b0 + 4) (Int32.toNatClampNeg (v4 - 1))) 4 then (if inb v3 4 then (if inb ((mw M (iCh b0 + 7 + Int32.toNatClampNeg v1) (Int32.toNatClampNeg v2) (M (iCh b0 + 2) (Int32.toNatClampNeg (M (iCh b0 + 4) (Int32.toNatClampNeg v3))))) (iCh b0 + 4) (Int32.toNatClampNeg v3)) 4 then (if inb v2 5 then (some ((), (mw (mw M (iCh b0 + 7 + Int32.toNatClampNeg v1) (Int32.toNatClampNeg v2) (M (iCh b0 + 2) (Int32.toNatClampNeg (M (iCh b0 + 4) (Int32.toNatClampNeg v3))))) (iCh b0 + 10 + Int32.toNatClampNeg v1) (Int32.toNatClampNeg v2) (((mw M (iCh b0 + 7 + Int32.toNatClampNeg v1) (Int32.toNatClampNeg v2) (M (iCh b0 + 2) (Int32.toNatClampNeg (M (iCh b0 + 4) (Int32.toNatClampNeg v3))))) (iCh b0 + 2) (Int32.toNatClampNeg ((mw M (iCh b0 + 7 + Int32.toNatClampNeg v1) (Int32.toNatClampNeg v2) (M (iCh b0 + 2) (Int32.toNatClampNeg (M (iCh b0 + 4) (Int32.toNatClampNeg v3))))) (iCh b0 + 4) (Int32.toNatClampNeg (v4 - 1))))) - ((mw M (iCh b0 + 7 + Int32.toNatClampNeg v1) (Int32.toNatClampNeg v2) (M (iCh b0 + 2) (Int32.toNatClampNeg (M (iCh b0 + 4) (Int32.toNatClampNeg v3))))) (iCh b0 + 2) (Int32.toNatClampNeg ((mw M (iCh b0 + 7 + Int32.toNatClampNeg v1) (Int32.toNatClampNeg v2) (M (iCh b0 + 2) (Int32.toNatClampNeg (M (iCh b0 + 4) (Int32.toNatClampNeg v3))))) (iCh b0 + 4) (Int32.toNatClampNeg v3)))))))) else none) else none) else none) else none) else none) else none) else none) else none) else none) else none)
def f_X0_share_b95 (b0 : Nat) (k95 : Int32 → Mem → Option (Unit × Mem)) (v1 : Int32) (M : Mem) : Option (Unit × Mem) :=
  if (M (iCh b0) 9) < v1 then (some ((), M)) else (ob (f_X0_measure b0 0 v1 0 v1 M) (fun x3 M4 => ob (f_X0_measure b0 1 v1 v1 (M4 (iCh b0) 9) M4) (fun x5 M6 => ob (f_X0_canPlay b0 0 v1 M6) (fun x7 M8 => if x7 = 0 then (k95 (v1 + 1) M8) else (ob (f_X0_canPlay b0 1 v1 M8) (fun x9 M10 => if x9 = 0 then (k95 (v1 + 1) M10) else (k95 (v1 + 1) (mw M10 (iCh b0) 10 ((M10 (iCh b0) 10) ||| (1 <<< (v1 &&& 31)))))))))))
def f_X0_share_b70 (b0 : Nat) (M : Mem) : Option (Unit × Mem) :=
  if inb (M (iCh b0) 9) 5 then (lq1 (f_X0_share_b95 b0) 9999 0 (mw (mw M (iCh b0) 7 ((M (iCh b0) 6) &&& (M (iCh b0 + 5) (Int32.toNatClampNeg (M (iCh b0) 9))))) (iCh b0) 10 0)) else none
def f_X0_share_b33 (b0 : Nat) (k33 : Int32 → Mem → Option (Unit × Mem)) (v1 : Int32) (M : Mem) : Option (Unit × Mem) :=
  if (M (iCh b0) 9) ≤ v1 then (f_X0_share_b70 b0 M) else (if inb v1 5 then (if inb v1 4 then (if inb (v1 + 1) 5 then (k33 (v1 + 1) (mw M (iCh b0 + 5) (Int32.toNatClampNeg (v1 + 1)) ((M (iCh b0 + 5) (Int32.toNatClampNeg v1)) ||| (1 <<< ((M (iCh b0 + 4) (Int32.toNatClampNeg v1)) &&& 31))))) else none) else none) else none)
def f_X0_share_b31 (b0 : Nat) (M : Mem) : Option (Unit × Mem) :=
  lq1 (f_X0_share_b33 b0) 9999 0 M
def f_X0_share_b7 (b0 : Nat) (k7 : Int32 → Mem → Option (Unit × Mem)) (v1 : Int32) (M : Mem) : Option (Unit × Mem) :=
  if v1 < 0 then (f_X0_share_b31 b0 M) else (if inb v1 4 then (if (M (iCh b0 + 3) (Int32.toNatClampNeg v1)) = 0 then (ob (f_X0_insert b0 v1 M) (fun x1 M2 => k7 (v1 + (-1)) M2)) else (k7 (v1 + (-1)) M)) else none)
def f_X0_share (b0 : Nat) (M : Mem) : Option (Unit × Mem) :=
  lq1 (f_X0_share_b7 b0) 9999 3 (mw M (iCh b0) 9 0)
def f_X0_read_b66 (b0 : Nat) (k66 : Int32 → Mem → Option (Unit × Mem)) (v4 : Int32) (M : Mem) : Option (Unit × Mem) :=
  if v4 < 1 then (some ((), M)) else (if (M (iCh b0) 10) = 0 then (if inb v4 4 then (if (M (iCh b0 + 3) (Int32.toNatClampNeg v4)) = 0 then (if inb v4 4 then (ob (f_X0_share b0 (mw M (iCh b0 + 3) (Int32.toNatClampNeg v4) 3)) (fun x9 M10 => k66 (v4 + (-1)) M10)) else none) else (k66 (v4 + (-1)) M)) else none) else (some ((), M)))
def f_X0_read_b57 (b0 : Nat) (v3 : Int32) (M : Mem) : Option (Unit × Mem) :=
  ob (f_X0_share b0 M) (fun x7 M8 => lq1 (f_X0_read_b66 b0) 9999 (v3 - 1) M8)
def f_X0_read_b21 (b0 : Nat) (v3 : Int32) (k21 : Int32 → Mem → Option (Unit × Mem)) (v4 : Int32) (M : Mem) : Option (Unit × Mem) :=
  if v3 ≤ v4 then (f_X0_read_b57 b0 v3 M) else (if inb v4 4 then (if (M (iCh b0 + 3) (Int32.toNatClampNeg v4)) = 0 then (ob (f_X0_reasonFor b0 v4 v3 M) (fun x5 M6 => if inb v4 4 then (k21 (v4 + 1) (mw M6 (iCh b0 + 3) (Int32.toNatClampNeg v4) x5)) else none)) else (k21 (v4 + 1) M)) else none)
def f_X0_read (b0 : Nat) (q1 : Nat) (v2 : Int32) (M : Mem) : Option (Unit × Mem) :=
  ob (f_X0_readSettings b0 q1 M) (fun x1 M2 => ob (f_X0_readNotes b0 q1 v2 M2) (fun x3 M4 => lq1 (f_X0_read_b21 b0 ((M4 (iSt q1) 2) - 1)) 9999 1 M4))
def f_X0_isPossible (b0 : Nat) (v1 : Int32) (M : Mem) : Option (Int32 × Mem) :=
  if (((M (iCh b0) 10) >>> (v1 &&& 31)) &&& 1) = 1 then (some (1, M)) else (some (0, M))
def f_X0_isRolled (b0 : Nat) (v1 : Int32) (v2 : Int32) (M : Mem) : Option (Int32 × Mem) :=
  if inb v1 2 then (if inb v2 5 then (if inb v1 2 then (if (M (iCh b0 + 10 + Int32.toNatClampNeg v1) (Int32.toNatClampNeg v2)) ≤ (M (iCh b0 + 1) (Int32.toNatClampNeg v1)) then (some (0, M)) else (some (1, M))) else none) else none) else none
def f_X0_countRolled_b14 (b0 : Nat) (v1 : Int32) (s0 : Int32) (M : Mem) : Option (Int32 × Mem) :=
  ob (f_X0_isRolled b0 1 v1 M) (fun x3 M4 => if x3 = 0 then (some (s0 + 0, M4)) else (some (s0 + 1, M4)))
def f_X0_countRolled (b0 : Nat) (v1 : Int32) (M : Mem) : Option (Int32 × Mem) :=
  ob (f_X0_isRolled b0 0 v1 M) (fun x1 M2 => if x1 = 0 then (f_X0_countRolled_b14 b0 v1 0 M2) else (f_X0_countRolled_b14 b0 v1 1 M2))
def f_X0_move (b0 : Nat) (v1 : Int32) (v2 : Int32) (b3 : Nat) (v4 : Int32) (M : Mem) : Option (Int32 × Mem) :=
  if inb v1 2 then (if inb v4 5 then (if inb v1 2 then (if inb v2 5 then (if (M (iCh b3 + 7 + Int32.toNatClampNeg v1) (Int32.toNatClampNeg v4)) = (-9) then (some (0, M)) else (if (M (iCh b0 + 7 + Int32.toNatClampNeg v1) (Int32.toNatClampNeg v2)) = (-9) then (some (0, M)) else (if (M (iCh b0 + 7 + Int32.toNatClampNeg v1) (Int32.toNatClampNeg v2)) ≤ (M (iCh b3 + 7 + Int32.toNatClampNeg v1) (Int32.toNatClampNeg v4)) then (some ((M (iCh b3 + 7 + Int32.toNatClampNeg v1) (Int32.toNatClampNeg v4)) - (M (iCh b0 + 7 + Int32.toNatClampNeg v1) (Int32.toNatClampNeg v2)), M)) else (some ((M (iCh b0 + 7 + Int32.toNatClampNeg v1) (Int32.toNatClampNeg v2)) - (M (iCh b3 + 7 + Int32.toNatClampNeg v1) (Int32.toNatClampNeg v4)), M))))) else none) else none) else none) else none
def f_X0_cutStaves (b0 : Nat) (v1 : Int32) (b2 : Nat) (v3 : Int32) (M : Mem) : Option (Int32 × Mem) :=
  if inb (M (iCh b2) 9) 5 then (if inb v1 5 then (if inb v3 5 then (some ((M (iCh b0) 7) &&& (((M (iCh b2 + 5) (Int32.toNatClampNeg (M (iCh b2) 9))) ^^^ (-1)) ||| ((M (iCh b0 + 5) (Int32.toNatClampNeg v1)) ^^^ (M (iCh b2 + 5) (Int32.toNatClampNeg v3)))), M)) else none) else none) else none
def f_J6_bitCount_0f7a4 (v0 : Int32) (M : Mem) : Option (Int32 × Mem) :=
  some ((((((((v0 - (((Int32.toUInt32 v0 >>> (Int32.toUInt32 1 &&& Int32.toUInt32 31)).toInt32) &&& 1431655765)) &&& 858993459) + (((Int32.toUInt32 (v0 - (((Int32.toUInt32 v0 >>> (Int32.toUInt32 1 &&& Int32.toUInt32 31)).toInt32) &&& 1431655765)) >>> (Int32.toUInt32 2 &&& Int32.toUInt32 31)).toInt32) &&& 858993459)) + ((Int32.toUInt32 (((v0 - (((Int32.toUInt32 v0 >>> (Int32.toUInt32 1 &&& Int32.toUInt32 31)).toInt32) &&& 1431655765)) &&& 858993459) + (((Int32.toUInt32 (v0 - (((Int32.toUInt32 v0 >>> (Int32.toUInt32 1 &&& Int32.toUInt32 31)).toInt32) &&& 1431655765)) >>> (Int32.toUInt32 2 &&& Int32.toUInt32 31)).toInt32) &&& 858993459)) >>> (Int32.toUInt32 4 &&& Int32.toUInt32 31)).toInt32)) &&& 252645135) + ((Int32.toUInt32 (((((v0 - (((Int32.toUInt32 v0 >>> (Int32.toUInt32 1 &&& Int32.toUInt32 31)).toInt32) &&& 1431655765)) &&& 858993459) + (((Int32.toUInt32 (v0 - (((Int32.toUInt32 v0 >>> (Int32.toUInt32 1 &&& Int32.toUInt32 31)).toInt32) &&& 1431655765)) >>> (Int32.toUInt32 2 &&& Int32.toUInt32 31)).toInt32) &&& 858993459)) + ((Int32.toUInt32 (((v0 - (((Int32.toUInt32 v0 >>> (Int32.toUInt32 1 &&& Int32.toUInt32 31)).toInt32) &&& 1431655765)) &&& 858993459) + (((Int32.toUInt32 (v0 - (((Int32.toUInt32 v0 >>> (Int32.toUInt32 1 &&& Int32.toUInt32 31)).toInt32) &&& 1431655765)) >>> (Int32.toUInt32 2 &&& Int32.toUInt32 31)).toInt32) &&& 858993459)) >>> (Int32.toUInt32 4 &&& Int32.toUInt32 31)).toInt32)) &&& 252645135) >>> (Int32.toUInt32 8 &&& Int32.toUInt32 31)).toInt32)) + ((Int32.toUInt32 ((((((v0 - (((Int32.toUInt32 v0 >>> (Int32.toUInt32 1 &&& Int32.toUInt32 31)).toInt32) &&& 1431655765)) &&& 858993459) + (((Int32.toUInt32 (v0 - (((Int32.toUInt32 v0 >>> (Int32.toUInt32 1 &&& Int32.toUInt32 31)).toInt32) &&& 1431655765)) >>> (Int32.toUInt32 2 &&& Int32.toUInt32 31)).toInt32) &&& 858993459)) + ((Int32.toUInt32 (((v0 - (((Int32.toUInt32 v0 >>> (Int32.toUInt32 1 &&& Int32.toUInt32 31)).toInt32) &&& 1431655765)) &&& 858993459) + (((Int32.toUInt32 (v0 - (((Int32.toUInt32 v0 >>> (Int32.toUInt32 1 &&& Int32.toUInt32 31)).toInt32) &&& 1431655765)) >>> (Int32.toUInt32 2 &&& Int32.toUInt32 31)).toInt32) &&& 858993459)) >>> (Int32.toUInt32 4 &&& Int32.toUInt32 31)).toInt32)) &&& 252645135) + ((Int32.toUInt32 (((((v0 - (((Int32.toUInt32 v0 >>> (Int32.toUInt32 1 &&& Int32.toUInt32 31)).toInt32) &&& 1431655765)) &&& 858993459) + (((Int32.toUInt32 (v0 - (((Int32.toUInt32 v0 >>> (Int32.toUInt32 1 &&& Int32.toUInt32 31)).toInt32) &&& 1431655765)) >>> (Int32.toUInt32 2 &&& Int32.toUInt32 31)).toInt32) &&& 858993459)) + ((Int32.toUInt32 (((v0 - (((Int32.toUInt32 v0 >>> (Int32.toUInt32 1 &&& Int32.toUInt32 31)).toInt32) &&& 1431655765)) &&& 858993459) + (((Int32.toUInt32 (v0 - (((Int32.toUInt32 v0 >>> (Int32.toUInt32 1 &&& Int32.toUInt32 31)).toInt32) &&& 1431655765)) >>> (Int32.toUInt32 2 &&& Int32.toUInt32 31)).toInt32) &&& 858993459)) >>> (Int32.toUInt32 4 &&& Int32.toUInt32 31)).toInt32)) &&& 252645135) >>> (Int32.toUInt32 8 &&& Int32.toUInt32 31)).toInt32)) >>> (Int32.toUInt32 16 &&& Int32.toUInt32 31)).toInt32)) &&& 63, M)
def f_X0_costs (b0 : Nat) (v1 : Int32) (b2 : Nat) (v3 : Int32) (M : Mem) : Option (Int32 × Mem) :=
  ob (f_X0_cutStaves b0 v1 b2 v3 M) (fun x1 M2 => ob (f_J6_bitCount_0f7a4 x1 M2) (fun x3 M4 => ob (f_X0_countRolled b0 v1 M4) (fun x5 M6 => ob (f_X0_move b0 0 v1 b2 v3 M6) (fun x7 M8 => ob (f_X0_move b0 1 v1 b2 v3 M8) (fun x9 M10 => some ((((10 * x3) + (5 * x5)) + x7) + x9, M10))))))
def f_X0_countLeftOut_b4 (b0 : Nat) (v1 : Int32) (k4 : Int32 → Int32 → Mem → Option (Int32 × Mem)) (v2 : Int32) (v3 : Int32) (M : Mem) : Option (Int32 × Mem) :=
  if 4 ≤ v3 then (some (v2, M)) else (if inb v3 4 then (if (M (iCh b0 + 3) (Int32.toNatClampNeg v3)) = v1 then (k4 (v2 + 1) (v3 + 1) M) else (k4 v2 (v3 + 1) M)) else none)
def f_X0_countLeftOut (b0 : Nat) (v1 : Int32) (M : Mem) : Option (Int32 × Mem) :=
  lq2 (f_X0_countLeftOut_b4 b0 v1) 9999 0 0 M
def f_X1_isEmpty  (M : Mem) : Option (Int32 × Mem) :=
  if (M 3 2) = 0 then (some (1, M)) else (some (0, M))
def f_X1_forget  (M : Mem) : Option (Unit × Mem) :=
  some ((), (mw M 3 2 0))
def f_X3_takeFrom_b44 (q0 : Nat) (q1 : Nat) (k44 : Int32 → Mem → Option (Unit × Mem)) (v2 : Int32) (M : Mem) : Option (Unit × Mem) :=
  if 64 ≤ v2 then (some ((), M)) else (if inb v2 64 then (if inb v2 64 then (k44 (v2 + 1) (mw M (iSt q0 + 2) (Int32.toNatClampNeg v2) (M (iSt q1 + 2) (Int32.toNatClampNeg v2)))) else none) else none)
def f_X3_takeFrom_b42 (q0 : Nat) (q1 : Nat) (M : Mem) : Option (Unit × Mem) :=
  lq1 (f_X3_takeFrom_b44 q0 q1) 9999 0 M
def f_X3_takeFrom_b18 (q0 : Nat) (q1 : Nat) (k18 : Int32 → Mem → Option (Unit × Mem)) (v2 : Int32) (M : Mem) : Option (Unit × Mem) :=
  if 6 ≤ v2 then (f_X3_takeFrom_b42 q0 q1 M) else (if inb v2 6 then (if inb v2 6 then (k18 (v2 + 1) (mw M (iSt q0 + 1) (Int32.toNatClampNeg v2) (M (iSt q1 + 1) (Int32.toNatClampNeg v2)))) else none) else none)
def f_X3_takeFrom (q0 : Nat) (q1 : Nat) (M : Mem) : Option (Unit × Mem) :=
  lq1 (f_X3_takeFrom_b18 q0 q1) 9999 0 (mw (mw M (iSt q0) 2 (M (iSt q1) 2)) (iSt q0) 3 ((mw M (iSt q0) 2 (M (iSt q1) 2)) (iSt q1) 3))
def f_X1_remember (q1 : Nat) (M : Mem) : Option (Unit × Mem) :=
  if inb (M 3 1) 14 then (ob (f_X3_takeFrom (4 + Int32.toNatClampNeg (M 3 1)) q1 M) (fun x2 M3 => if 14 ≤ ((mw M3 3 1 (((M3 3 1) + 1) - ((M3 3 1) + 1) / 14 * 14)) 3 2) then (some ((), (mw M3 3 1 (((M3 3 1) + 1) - ((M3 3 1) + 1) / 14 * 14)))) else (some ((), (mw (mw M3 3 1 (((M3 3 1) + 1) - ((M3 3 1) + 1) / 14 * 14)) 3 2 (((mw M3 3 1 (((M3 3 1) + 1) - ((M3 3 1) + 1) / 14 * 14)) 3 2) + 1)))))) else none
def f_X1_takeBack (q1 : Nat) (M : Mem) : Option (Int32 × Mem) :=
  if (M 3 2) ≤ 0 then (some (M 3 2, M)) else (if inb ((mw M 3 1 ((((M 3 1) + 14) - 1) - (((M 3 1) + 14) - 1) / 14 * 14)) 3 1) 14 then (ob (f_X3_takeFrom q1 (4 + Int32.toNatClampNeg ((mw M 3 1 ((((M 3 1) + 14) - 1) - (((M 3 1) + 14) - 1) / 14 * 14)) 3 1)) (mw M 3 1 ((((M 3 1) + 14) - 1) - (((M 3 1) + 14) - 1) / 14 * 14))) (fun x2 M3 => some ((mw M3 3 2 ((M3 3 2) - 1)) 3 2, (mw M3 3 2 ((M3 3 2) - 1))))) else none)
def f_X2_chordAt (v1 : Int32) (M : Mem) : Option (Nat × Mem) :=
  if v1 < 0 then (some (16, M)) else (if (M 7 4) ≤ v1 then (some (16, M)) else (if inb v1 16 then (some (Int32.toNatClampNeg v1, M)) else none))
def f_X2_bestSplit_b17 (v1 : Int32) (b2 : Nat) (v3 : Int32) (b4 : Nat) (k17 : Int32 → Int32 → Int32 → Mem → Option (Int32 × Mem)) (v5 : Int32) (v6 : Int32) (v7 : Int32) (M : Mem) : Option (Int32 × Mem) :=
  if 5 ≤ v7 then (some (v5, M)) else (ob (f_X0_isPossible b4 v7 M) (fun x4 M5 => if x4 = 0 then (k17 v5 v6 (v7 + 1) M5) else (ob (f_X0_costs b4 v7 b2 v3 M5) (fun x6 M7 => if inb v1 16 then (if inb v7 5 then (if v6 ≤ (x6 + (M7 (11 + Int32.toNatClampNeg v1) (Int32.toNatClampNeg v7))) then (k17 v5 v6 (v7 + 1) M7) else (k17 v7 (x6 + (M7 (11 + Int32.toNatClampNeg v1) (Int32.toNatClampNeg v7))) (v7 + 1) M7)) else none) else none))))
def f_X2_bestSplit (v1 : Int32) (b2 : Nat) (v3 : Int32) (M : Mem) : Option (Int32 × Mem) :=
  ob (f_X2_chordAt v1 M) (fun x1 M2 => if x1 < 17 then (lq3 (f_X2_bestSplit_b17 v1 b2 v3 x1) 9999 0 1000000 0 M2) else none)
def f_X2_lookAhead_b20 (v1 : Int32) (v2 : Int32) (b3 : Nat) (k7 : Int32 → Mem → Option (Unit × Mem)) (k20 : Int32 → Mem → Option (Unit × Mem)) (v4 : Int32) (M : Mem) : Option (Unit × Mem) :=
  if 5 ≤ v4 then (k7 (v2 + (-1)) M) else (if inb v2 16 then (if inb v4 5 then (if v1 = 0 then (k20 (v4 + 1) (mw M (11 + Int32.toNatClampNeg v2) (Int32.toNatClampNeg v4) 0)) else (if (((mw M (11 + Int32.toNatClampNeg v2) (Int32.toNatClampNeg v4) 0) 7 4) - 1) ≤ v2 then (k20 (v4 + 1) (mw M (11 + Int32.toNatClampNeg v2) (Int32.toNatClampNeg v4) 0)) else (ob (f_X0_isPossible b3 v4 (mw M (11 + Int32.toNatClampNeg v2) (Int32.toNatClampNeg v4) 0)) (fun x5 M6 => if x5 = 0 then (k20 (v4 + 1) M6) else (ob (f_X2_bestSplit (v2 + 1) b3 v4 M6) (fun x7 M8 => if inb v2 16 then (ob (f_X2_chordAt (v2 + 1) M8) (fun x10 M11 => if x10 < 17 then (ob (f_X0_costs x10 x7 b3 v4 M11) (fun x13 M14 => if inb (v2 + 1) 16 then (if inb x7 5 then (if inb v4 5 then (k20 (v4 + 1) (mw M14 (11 + Int32.toNatClampNeg v2) (Int32.toNatClampNeg v4) (x13 + (M14 (11 + Int32.toNatClampNeg (v2 + 1)) (Int32.toNatClampNeg x7))))) else none) else none) else none)) else none)) else none)))))) else none) else none)
def f_X2_lookAhead_b7 (v1 : Int32) (k7 : Int32 → Mem → Option (Unit × Mem)) (v2 : Int32) (M : Mem) : Option (Unit × Mem) :=
  if v2 < 0 then (some ((), M)) else (ob (f_X2_chordAt v2 M) (fun x1 M2 => if x1 < 17 then (lq1 (f_X2_lookAhead_b20 v1 v2 x1 k7) 9999 0 M2) else none))
def f_X2_lookAhead (v1 : Int32) (M : Mem) : Option (Unit × Mem) :=
  lq1 (f_X2_lookAhead_b7 v1) 9999 ((M 7 4) - 1) M
def f_X2_splitAt (v1 : Int32) (M : Mem) : Option (Int32 × Mem) :=
  if v1 < 0 then (some (0, M)) else (if (M 7 4) ≤ v1 then (some (0, M)) else (if inb v1 16 then (some (M 9 (Int32.toNatClampNeg v1), M)) else none))
def f_X2_make_b55 (k55 : Int32 → Mem → Option (Unit × Mem)) (v2 : Int32) (M : Mem) : Option (Unit × Mem) :=
  if (M 7 4) ≤ v2 then (some ((), M)) else (ob (f_X2_chordAt (v2 - 1) M) (fun x8 M9 => if x8 < 17 then (ob (f_X2_splitAt (v2 - 1) M9) (fun x11 M12 => ob (f_X2_bestSplit v2 x8 x11 M12) (fun x13 M14 => if inb v2 16 then (k55 (v2 + 1) (mw M14 9 (Int32.toNatClampNeg v2) x13)) else none))) else none))
def f_X2_make_b50 (s0 : Int32) (M : Mem) : Option (Unit × Mem) :=
  ob (f_X2_lookAhead s0 M) (fun x6 M7 => lq1 (f_X2_make_b55 ) 9999 0 M7)
def f_X2_make_b35 (q1 : Nat) (M : Mem) : Option (Unit × Mem) :=
  ob (f_X3_settingAt q1 5 M) (fun x4 M5 => if x4 = 1 then (f_X2_make_b50 1 M5) else (f_X2_make_b50 0 M5))
def f_X2_make_b10 (q1 : Nat) (k10 : Int32 → Mem → Option (Unit × Mem)) (v2 : Int32) (M : Mem) : Option (Unit × Mem) :=
  if (M 7 4) ≤ v2 then (f_X2_make_b35 q1 M) else (if inb v2 16 then (ob (f_X0_read (Int32.toNatClampNeg v2) q1 v2 M) (fun x2 M3 => k10 (v2 + 1) M3)) else none)
def f_X2_make (q1 : Nat) (M : Mem) : Option (Unit × Mem) :=
  lq1 (f_X2_make_b10 q1) 9999 0 (mw M 7 4 (M (iSt q1) 3))
def f_X2_cutStaves (v1 : Int32) (M : Mem) : Option (Int32 × Mem) :=
  ob (f_X2_chordAt v1 M) (fun x1 M2 => if x1 < 17 then (ob (f_X2_splitAt v1 M2) (fun x4 M5 => ob (f_X2_chordAt (v1 - 1) M5) (fun x6 M7 => if x6 < 17 then (ob (f_X2_splitAt (v1 - 1) M7) (fun x9 M10 => ob (f_X0_cutStaves x1 x4 x6 x9 M10) (fun x11 M12 => some (x11, M12)))) else none))) else none)
def f_X2_move (v1 : Int32) (v2 : Int32) (M : Mem) : Option (Int32 × Mem) :=
  ob (f_X2_chordAt v2 M) (fun x1 M2 => if x1 < 17 then (ob (f_X2_splitAt v2 M2) (fun x4 M5 => ob (f_X2_chordAt (v2 - 1) M5) (fun x6 M7 => if x6 < 17 then (ob (f_X2_splitAt (v2 - 1) M7) (fun x9 M10 => ob (f_X0_move x1 v1 x4 x6 x9 M10) (fun x11 M12 => some (x11, M12)))) else none))) else none)
def f_X2_costs (v1 : Int32) (M : Mem) : Option (Int32 × Mem) :=
  ob (f_X2_chordAt v1 M) (fun x1 M2 => if x1 < 17 then (ob (f_X2_splitAt v1 M2) (fun x4 M5 => ob (f_X2_chordAt (v1 - 1) M5) (fun x6 M7 => if x6 < 17 then (ob (f_X2_splitAt (v1 - 1) M7) (fun x9 M10 => ob (f_X0_costs x1 x4 x6 x9 M10) (fun x11 M12 => some (x11, M12)))) else none))) else none)
def f_X2_numberOfNote_b98 (v6 : Int32) (s0 : Int32) (M : Mem) : Option (Int32 × Mem) :=
  if s0 = 0 then (some (1, M)) else (if v6 = 0 then (some (0, M)) else (some (1, M)))
def f_X2_numberOfNote_b49 (v1 : Int32) (v2 : Int32) (v3 : Int32) (b4 : Nat) (v5 : Int32) (s0 : Int32) (M : Mem) : Option (Int32 × Mem) :=
  if v3 = 3 then (if s0 = 0 then (some (0, M)) else (some (1, M))) else (if v5 = 0 then (if v3 = 2 then (if (((M (iCh b4) 6) >>> (v1 &&& 31)) &&& 1) = 1 then (f_X2_numberOfNote_b98 s0 1 M) else (f_X2_numberOfNote_b98 s0 0 M)) else (ob (f_X2_splitAt v2 M) (fun x6 M7 => ob (f_X0_stavesOf b4 0 x6 M7) (fun x8 M9 => if ((x8 >>> (v1 &&& 31)) &&& 1) = 1 then (some (0, M9)) else (some (1, M9)))))) else (some ((-9), M)))
def f_X2_numberOfNote (v1 : Int32) (v2 : Int32) (v3 : Int32) (M : Mem) : Option (Int32 × Mem) :=
  ob (f_X2_chordAt v2 M) (fun x1 M2 => if x1 < 17 then (if inb v1 4 then (if (M2 (iCh x1 + 3) (Int32.toNatClampNeg v1)) = (-9) then (some (M2 (iCh x1 + 3) (Int32.toNatClampNeg v1), M2)) else (if v3 = 1 then (some (M2 (iCh x1 + 3) (Int32.toNatClampNeg v1), M2)) else (ob (f_X2_cutStaves v2 M2) (fun x4 M5 => if ((x4 >>> (v1 &&& 31)) &&& 1) = 1 then (f_X2_numberOfNote_b49 v1 v2 v3 x1 (M2 (iCh x1 + 3) (Int32.toNatClampNeg v1)) 1 M5) else (f_X2_numberOfNote_b49 v1 v2 v3 x1 (M2 (iCh x1 + 3) (Int32.toNatClampNeg v1)) 0 M5))))) else none) else none)
def f_X2_numberOfHand (v1 : Int32) (v2 : Int32) (v3 : Int32) (M : Mem) : Option (Int32 × Mem) :=
  ob (f_X2_chordAt v2 M) (fun x1 M2 => if x1 < 17 then (ob (f_X2_splitAt v2 M2) (fun x4 M5 => if v3 = 0 then (ob (f_X0_countOf x1 v1 x4 M5) (fun x6 M7 => some (x6, M7))) else (if v3 = 1 then (if inb v1 2 then (if inb x4 5 then (some (M5 (iCh x1 + 7 + Int32.toNatClampNeg v1) (Int32.toNatClampNeg x4), M5)) else none) else none) else (if v3 = 2 then (if inb v1 2 then (if inb x4 5 then (some (M5 (iCh x1 + 10 + Int32.toNatClampNeg v1) (Int32.toNatClampNeg x4), M5)) else none) else none) else (if v3 = 3 then (ob (f_X0_isRolled x1 v1 x4 M5) (fun x10 M11 => if x10 = 0 then (some (0, M11)) else (some (1, M11)))) else (ob (f_X2_move v1 v2 M5) (fun x12 M13 => some (x12, M13)))))))) else none)
def f_X2_numberOfBeat (v1 : Int32) (v2 : Int32) (M : Mem) : Option (Int32 × Mem) :=
  ob (f_X2_chordAt v1 M) (fun x1 M2 => if x1 < 17 then (if v2 = 0 then (ob (f_X2_splitAt v1 M2) (fun x4 M5 => some (x4, M5))) else (if v2 = 1 then (ob (f_J6_bitCount_0f7a4 (M2 (iCh x1) 10) M2) (fun x6 M7 => some (x6, M7))) else (if v2 = 2 then (ob (f_X2_costs v1 M2) (fun x8 M9 => some (x8, M9))) else (if v2 = 3 then (some (M2 (iCh x1) 9, M2)) else (some (M2 (iCh x1) 10, M2)))))) else none)
def f_X2_shareOfBeat_b112 (v2 : Int32) (b3 : Nat) (M : Mem) : Option (Int32 × Mem) :=
  ob (f_X0_countLeftOut b3 v2 M) (fun x22 M23 => some (x22, M23))
def f_X2_shareOfBeat (v1 : Int32) (v2 : Int32) (M : Mem) : Option (Int32 × Mem) :=
  ob (f_X2_chordAt v1 M) (fun x1 M2 => if x1 < 17 then (if v2 = 0 then (ob (f_X2_costs v1 M2) (fun x4 M5 => some (x4, M5))) else (if v2 = 1 then (f_X2_shareOfBeat_b112 v2 x1 M2) else (if v2 = 2 then (f_X2_shareOfBeat_b112 v2 x1 M2) else (if v2 = 3 then (f_X2_shareOfBeat_b112 v2 x1 M2) else (if v2 = 4 then (ob (f_X2_cutStaves v1 M2) (fun x6 M7 => ob (f_J6_bitCount_0f7a4 x6 M7) (fun x8 M9 => some (x8, M9)))) else (if v2 = 5 then (ob (f_X2_splitAt v1 M2) (fun x10 M11 => ob (f_X0_countRolled x1 x10 M11) (fun x12 M13 => some (x12, M13)))) else (if v2 = 6 then (ob (f_X2_move 0 v1 M2) (fun x14 M15 => ob (f_X2_move 1 v1 M15) (fun x16 M17 => some (x14 + x16, M17)))) else (if v2 = 7 then (ob (f_X2_cutStaves v1 M2) (fun x18 M19 => ob (f_J6_bitCount_0f7a4 ((M2 (iCh x1) 7) &&& (x18 ^^^ (-1))) M19) (fun x20 M21 => some ((M2 (iCh x1) 9) - x20, M21)))) else (f_X2_shareOfBeat_b112 v2 x1 M2))))))))) else none)
def f_X2_numberOfWhole_b4 (v1 : Int32) (k4 : Int32 → Int32 → Mem → Option (Int32 × Mem)) (v2 : Int32) (v3 : Int32) (M : Mem) : Option (Int32 × Mem) :=
  if (M 7 4) ≤ v3 then (some (v2, M)) else (ob (f_X2_shareOfBeat v3 v1 M) (fun x1 M2 => k4 (v2 + x1) (v3 + 1) M2))
def f_X2_numberOfWhole (v1 : Int32) (M : Mem) : Option (Int32 × Mem) :=
  lq2 (f_X2_numberOfWhole_b4 v1) 9999 0 0 M
def f_X3_becomeRests_b12 (q0 : Nat) (k12 : Int32 → Mem → Option (Unit × Mem)) (v3 : Int32) (M : Mem) : Option (Unit × Mem) :=
  if 64 ≤ v3 then (some ((), M)) else (if inb v3 64 then (k12 (v3 + 1) (mw M (iSt q0 + 2) (Int32.toNatClampNeg v3) (-9))) else none)
def f_X3_becomeRests (q0 : Nat) (v1 : Int32) (v2 : Int32) (M : Mem) : Option (Unit × Mem) :=
  lq1 (f_X3_becomeRests_b12 q0) 9999 0 (mw (mw M (iSt q0) 2 v1) (iSt q0) 3 v2)
def f_X3_resetSettings_b2 (q0 : Nat) (k2 : Int32 → Mem → Option (Unit × Mem)) (v1 : Int32) (M : Mem) : Option (Unit × Mem) :=
  if 6 ≤ v1 then (some ((), M)) else (if inb v1 6 then (if inb v1 6 then (k2 (v1 + 1) (mw M (iSt q0 + 1) (Int32.toNatClampNeg v1) (sa_first.getD v1.toNatClampNeg 0))) else none) else none)
def f_X3_resetSettings (q0 : Nat) (M : Mem) : Option (Unit × Mem) :=
  lq1 (f_X3_resetSettings_b2 q0) 9999 0 M
def f_X3_isPitch (v0 : Int32) (M : Mem) : Option (Int32 × Mem) :=
  if v0 < 0 then (some (0, M)) else (if 60 < v0 then (some (0, M)) else (some (1, M)))
def f_X3_allowsSetting (v0 : Int32) (v1 : Int32) (M : Mem) : Option (Int32 × Mem) :=
  ob (f_X3_isSetting v0 M) (fun x1 M2 => if x1 = 0 then (some (0, M2)) else (if inb v0 6 then (if v1 < (sa_least.getD v0.toNatClampNeg 0) then (some (0, M2)) else (if inb v0 6 then (if (sa_most.getD v0.toNatClampNeg 0) < v1 then (some (0, M2)) else (some (1, M2))) else none)) else none))
def f_X3_hasStaff (q0 : Nat) (v1 : Int32) (M : Mem) : Option (Int32 × Mem) :=
  if v1 < 0 then (some (0, M)) else (if (M (iSt q0) 2) ≤ v1 then (some (0, M)) else (some (1, M)))
def f_X3_hasBeat (q0 : Nat) (v1 : Int32) (M : Mem) : Option (Int32 × Mem) :=
  if v1 < 0 then (some (0, M)) else (if (M (iSt q0) 3) ≤ v1 then (some (0, M)) else (some (1, M)))
def f_X3_hasCell (q0 : Nat) (v1 : Int32) (v2 : Int32) (M : Mem) : Option (Int32 × Mem) :=
  ob (f_X3_hasStaff q0 v1 M) (fun x1 M2 => if x1 = 0 then (some (0, M2)) else (ob (f_X3_hasBeat q0 v2 M2) (fun x3 M4 => if x3 = 0 then (some (0, M4)) else (some (1, M4)))))
def f_X3_allowsHold (q0 : Nat) (v1 : Int32) (v2 : Int32) (M : Mem) : Option (Int32 × Mem) :=
  ob (f_X3_written q0 v1 (v2 - 1) M) (fun x1 M2 => if x1 = (-9) then (some (0, M2)) else (some (1, M2)))
def f_X3_allowsMoving_b2 (q0 : Nat) (v1 : Int32) (v2 : Int32) (k2 : Int32 → Mem → Option (Int32 × Mem)) (v3 : Int32) (M : Mem) : Option (Int32 × Mem) :=
  if (M (iSt q0) 3) ≤ v3 then (some (1, M)) else (ob (f_X3_written q0 v1 v3 M) (fun x1 M2 => ob (f_X3_isPitch x1 M2) (fun x3 M4 => if x3 = 0 then (k2 (v3 + 1) M4) else (ob (f_X3_isPitch (x1 + v2) M4) (fun x5 M6 => if x5 = 0 then (some (0, M6)) else (k2 (v3 + 1) M6))))))
def f_X3_allowsMoving (q0 : Nat) (v1 : Int32) (v2 : Int32) (M : Mem) : Option (Int32 × Mem) :=
  lq1 (f_X3_allowsMoving_b2 q0 v1 v2) 9999 0 M
def f_X3_countStruckOf_b4 (q0 : Nat) (v1 : Int32) (k4 : Int32 → Int32 → Mem → Option (Int32 × Mem)) (v2 : Int32) (v3 : Int32) (M : Mem) : Option (Int32 × Mem) :=
  if (M (iSt q0) 3) ≤ v3 then (some (v2, M)) else (ob (f_X3_written q0 v1 v3 M) (fun x1 M2 => ob (f_X3_isPitch x1 M2) (fun x3 M4 => if x3 = 0 then (k4 v2 (v3 + 1) M4) else (k4 (v2 + 1) (v3 + 1) M4))))
def f_X3_countStruckOf (q0 : Nat) (v1 : Int32) (M : Mem) : Option (Int32 × Mem) :=
  lq2 (f_X3_countStruckOf_b4 q0 v1) 9999 0 0 M
def f_X3_countStruck_b4 (q0 : Nat) (k4 : Int32 → Int32 → Mem → Option (Int32 × Mem)) (v1 : Int32) (v2 : Int32) (M : Mem) : Option (Int32 × Mem) :=
  if (M (iSt q0) 2) ≤ v2 then (some (v1, M)) else (ob (f_X3_countStruckOf q0 v2 M) (fun x1 M2 => k4 (v1 + x1) (v2 + 1) M2))
def f_X3_countStruck (q0 : Nat) (M : Mem) : Option (Int32 × Mem) :=
  lq2 (f_X3_countStruck_b4 q0) 9999 0 0 M
def f_X3_countHolds_b14 (q0 : Nat) (v2 : Int32) (k4 : Int32 → Int32 → Mem → Option (Int32 × Mem)) (k14 : Int32 → Int32 → Mem → Option (Int32 × Mem)) (v1 : Int32) (v3 : Int32) (M : Mem) : Option (Int32 × Mem) :=
  if (M (iSt q0) 3) ≤ v3 then (k4 v1 (v2 + 1) M) else (ob (f_X3_written q0 v2 v3 M) (fun x1 M2 => if x1 = 99 then (k14 (v1 + 1) (v3 + 1) M2) else (k14 v1 (v3 + 1) M2)))
def f_X3_countHolds_b4 (q0 : Nat) (k4 : Int32 → Int32 → Mem → Option (Int32 × Mem)) (v1 : Int32) (v2 : Int32) (M : Mem) : Option (Int32 × Mem) :=
  if (M (iSt q0) 2) ≤ v2 then (some (v1, M)) else (lq2 (f_X3_countHolds_b14 q0 v2 k4) 9999 v1 0 M)
def f_X3_countHolds (q0 : Nat) (M : Mem) : Option (Int32 × Mem) :=
  lq2 (f_X3_countHolds_b4 q0) 9999 0 0 M
def f_X3_changeSetting (q0 : Nat) (v1 : Int32) (v2 : Int32) (M : Mem) : Option (Unit × Mem) :=
  ob (f_X3_isSetting v1 M) (fun x1 M2 => if x1 = 0 then (some ((), M2)) else (if inb v1 6 then (some ((), (mw M2 (iSt q0 + 1) (Int32.toNatClampNeg v1) v2))) else none))
def f_X3_put (q0 : Nat) (v1 : Int32) (v2 : Int32) (v3 : Int32) (M : Mem) : Option (Unit × Mem) :=
  ob (f_X3_hasCell q0 v1 v2 M) (fun x1 M2 => if x1 = 0 then (some ((), M2)) else (if inb ((v1 * 16) + v2) 64 then (some ((), (mw M2 (iSt q0 + 2) (Int32.toNatClampNeg ((v1 * 16) + v2)) v3))) else none))
def f_X3_silenceStaff_b2 (q0 : Nat) (v1 : Int32) (k2 : Int32 → Mem → Option (Unit × Mem)) (v2 : Int32) (M : Mem) : Option (Unit × Mem) :=
  if (M (iSt q0) 3) ≤ v2 then (some ((), M)) else (ob (f_X3_put q0 v1 v2 (-9) M) (fun x1 M2 => k2 (v2 + 1) M2))
def f_X3_silenceStaff (q0 : Nat) (v1 : Int32) (M : Mem) : Option (Unit × Mem) :=
  lq1 (f_X3_silenceStaff_b2 q0 v1) 9999 0 M
def f_X3_moveStaff_b42 (q0 : Nat) (v1 : Int32) (M : Mem) : Option (Int32 × Mem) :=
  ob (f_X3_countStruckOf q0 v1 M) (fun x7 M8 => some (x7, M8))
def f_X3_moveStaff_b2 (q0 : Nat) (v1 : Int32) (v2 : Int32) (k2 : Int32 → Mem → Option (Int32 × Mem)) (v3 : Int32) (M : Mem) : Option (Int32 × Mem) :=
  if (M (iSt q0) 3) ≤ v3 then (f_X3_moveStaff_b42 q0 v1 M) else (ob (f_X3_written q0 v1 v3 M) (fun x1 M2 => ob (f_X3_isPitch x1 M2) (fun x3 M4 => if x3 = 0 then (k2 (v3 + 1) M4) else (ob (f_X3_put q0 v1 v3 (x1 + v2) M4) (fun x5 M6 => k2 (v3 + 1) M6)))))
def f_X3_moveStaff (q0 : Nat) (v1 : Int32) (v2 : Int32) (M : Mem) : Option (Int32 × Mem) :=
  lq1 (f_X3_moveStaff_b2 q0 v1 v2) 9999 0 M
def f_X3_swapStaves_b5 (q0 : Nat) (v1 : Int32) (v2 : Int32) (k5 : Int32 → Int32 → Mem → Option (Int32 × Mem)) (v3 : Int32) (v4 : Int32) (M : Mem) : Option (Int32 × Mem) :=
  if (M (iSt q0) 3) ≤ v4 then (some (v3, M)) else (ob (f_X3_written q0 v1 v4 M) (fun x1 M2 => ob (f_X3_written q0 v2 v4 M2) (fun x3 M4 => if x1 = x3 then (k5 v3 (v4 + 1) M4) else (ob (f_X3_put q0 v1 v4 x3 M4) (fun x5 M6 => ob (f_X3_put q0 v2 v4 x1 M6) (fun x7 M8 => k5 (v3 + 1) (v4 + 1) M8))))))
def f_X3_swapStaves (q0 : Nat) (v1 : Int32) (v2 : Int32) (M : Mem) : Option (Int32 × Mem) :=
  lq2 (f_X3_swapStaves_b5 q0 v1 v2) 9999 0 0 M
def f_X3_addStaff (q0 : Nat) (M : Mem) : Option (Unit × Mem) :=
  if 4 ≤ (M (iSt q0) 2) then (some ((), M)) else (ob (f_X3_silenceStaff q0 (((mw M (iSt q0) 2 ((M (iSt q0) 2) + 1)) (iSt q0) 2) - 1) (mw M (iSt q0) 2 ((M (iSt q0) 2) + 1))) (fun x1 M2 => some ((), M2)))
def f_X3_dropStaff (q0 : Nat) (M : Mem) : Option (Unit × Mem) :=
  if (M (iSt q0) 2) ≤ 1 then (some ((), M)) else (some ((), (mw M (iSt q0) 2 ((M (iSt q0) 2) - 1))))
def f_X3_openBeat_b62 (q0 : Nat) (v1 : Int32) (v2 : Int32) (k22 : Int32 → Mem → Option (Unit × Mem)) (M : Mem) : Option (Unit × Mem) :=
  ob (f_X3_put q0 v2 v1 (-9) M) (fun x5 M6 => k22 (v2 + 1) M6)
def f_X3_openBeat_b37 (q0 : Nat) (v1 : Int32) (v2 : Int32) (k22 : Int32 → Mem → Option (Unit × Mem)) (k37 : Int32 → Mem → Option (Unit × Mem)) (v3 : Int32) (M : Mem) : Option (Unit × Mem) :=
  if v3 ≤ v1 then (f_X3_openBeat_b62 q0 v1 v2 k22 M) else (ob (f_X3_written q0 v2 (v3 - 1) M) (fun x1 M2 => ob (f_X3_put q0 v2 v3 x1 M2) (fun x3 M4 => k37 (v3 + (-1)) M4)))
def f_X3_openBeat_b22 (q0 : Nat) (v1 : Int32) (k22 : Int32 → Mem → Option (Unit × Mem)) (v2 : Int32) (M : Mem) : Option (Unit × Mem) :=
  if (M (iSt q0) 2) ≤ v2 then (some ((), M)) else (lq1 (f_X3_openBeat_b37 q0 v1 v2 k22) 9999 ((M (iSt q0) 3) - 1) M)
def f_X3_openBeat (q0 : Nat) (v1 : Int32) (M : Mem) : Option (Unit × Mem) :=
  if (M (iSt q0) 3) < 16 then (lq1 (f_X3_openBeat_b22 q0 v1) 9999 0 (mw M (iSt q0) 3 ((M (iSt q0) 3) + 1))) else (some ((), M))
def f_X3_closeBeat_b21 (q0 : Nat) (v1 : Int32) (v2 : Int32) (k11 : Int32 → Mem → Option (Unit × Mem)) (k21 : Int32 → Mem → Option (Unit × Mem)) (v3 : Int32) (M : Mem) : Option (Unit × Mem) :=
  if ((M (iSt q0) 3) - 1) ≤ v3 then (k11 (v2 + 1) M) else (ob (f_X3_written q0 v2 (v3 + 1) M) (fun x1 M2 => ob (f_X3_put q0 v2 v3 x1 M2) (fun x3 M4 => k21 (v3 + 1) M4)))
def f_X3_closeBeat_b57 (q0 : Nat) (M : Mem) : Option (Unit × Mem) :=
  some ((), (mw M (iSt q0) 3 ((M (iSt q0) 3) - 1)))
def f_X3_closeBeat_b11 (q0 : Nat) (v1 : Int32) (k11 : Int32 → Mem → Option (Unit × Mem)) (v2 : Int32) (M : Mem) : Option (Unit × Mem) :=
  if (M (iSt q0) 2) ≤ v2 then (f_X3_closeBeat_b57 q0 M) else (lq1 (f_X3_closeBeat_b21 q0 v1 v2 k11) 9999 v1 M)
def f_X3_closeBeat (q0 : Nat) (v1 : Int32) (M : Mem) : Option (Unit × Mem) :=
  if 1 < (M (iSt q0) 3) then (lq1 (f_X3_closeBeat_b11 q0 v1) 9999 0 M) else (some ((), M))
def f_X3_dropLooseHolds_b12 (q0 : Nat) (v1 : Int32) (k2 : Int32 → Mem → Option (Unit × Mem)) (k12 : Int32 → Mem → Option (Unit × Mem)) (v2 : Int32) (M : Mem) : Option (Unit × Mem) :=
  if (M (iSt q0) 3) ≤ v2 then (k2 (v1 + 1) M) else (ob (f_X3_written q0 v1 v2 M) (fun x1 M2 => if x1 = 99 then (ob (f_X3_allowsHold q0 v1 v2 M2) (fun x3 M4 => if x3 = 0 then (ob (f_X3_put q0 v1 v2 (-9) M4) (fun x5 M6 => k12 (v2 + 1) M6)) else (k12 (v2 + 1) M4))) else (k12 (v2 + 1) M2)))
def f_X3_dropLooseHolds_b2 (q0 : Nat) (k2 : Int32 → Mem → Option (Unit × Mem)) (v1 : Int32) (M : Mem) : Option (Unit × Mem) :=
  if (M (iSt q0) 2) ≤ v1 then (some ((), M)) else (lq1 (f_X3_dropLooseHolds_b12 q0 v1 k2) 9999 0 M)
def f_X3_dropLooseHolds (q0 : Nat) (M : Mem) : Option (Unit × Mem) :=
  lq1 (f_X3_dropLooseHolds_b2 q0) 9999 0 M
def f_X4_isFull  (M : Mem) : Option (Int32 × Mem) :=
  if (M 1 1) < 140 then (some (0, M)) else (some (1, M))
def f_X4_add (v1 : Int32) (M : Mem) : Option (Int32 × Mem) :=
  ob (f_X4_isFull  M) (fun x1 M2 => if x1 = 0 then (if inb (M2 1 1) 140 then (some ((mw (mw M2 2 (Int32.toNatClampNeg (M2 1 1)) (vp_nar .char v1)) 1 1 (((mw M2 2 (Int32.toNatClampNeg (M2 1 1)) (vp_nar .char v1)) 1 1) + 1)) 1 1, (mw (mw M2 2 (Int32.toNatClampNeg (M2 1 1)) (vp_nar .char v1)) 1 1 (((mw M2 2 (Int32.toNatClampNeg (M2 1 1)) (vp_nar .char v1)) 1 1) + 1)))) else none) else (some (M2 1 1, M2)))
def f_X4_empty  (M : Mem) : Option (Int32 × Mem) :=
  some (M 1 1, (mw M 1 1 0))
def f_X4_signAt (v1 : Int32) (M : Mem) : Option (Int32 × Mem) :=
  if v1 < 0 then (some ((-1), M)) else (if (M 1 1) ≤ v1 then (some ((-1), M)) else (if inb v1 140 then (some (M 2 (Int32.toNatClampNeg v1), M)) else none))
def f_X4_digitAt (v1 : Int32) (M : Mem) : Option (Int32 × Mem) :=
  ob (f_X4_signAt v1 M) (fun x1 M2 => if x1 < 48 then (some ((-1), M2)) else (if 57 < x1 then (some ((-1), M2)) else (some (x1 - 48, M2))))
def f_X4_readCell_b50 (s0 : Int32) (s1 : Int32) (s2 : Int32) (s3 : Nat) (M : Mem) : Option (Int32 × Mem) :=
  ob (f_X3_put s3 s2 s1 s0 M) (fun x13 M14 => some (1, (mw M14 1 2 ((M14 1 2) + 1))))
def f_X4_readCell_b33 (q1 : Nat) (v2 : Int32) (v3 : Int32) (v4 : Int32) (M : Mem) : Option (Int32 × Mem) :=
  if v4 = 45 then (f_X4_readCell_b50 (-9) v3 v2 q1 M) else (f_X4_readCell_b50 99 v3 v2 q1 M)
def f_X4_readCell_b65 (q1 : Nat) (v2 : Int32) (v3 : Int32) (M : Mem) : Option (Int32 × Mem) :=
  ob (f_X4_digitAt (M 1 2) M) (fun x5 M6 => if x5 < 0 then (some (0, M6)) else (if x5 ≤ 6 then (ob (f_X4_digitAt ((mw M6 1 2 ((M6 1 2) + 1)) 1 2) (mw M6 1 2 ((M6 1 2) + 1))) (fun x7 M8 => if x7 = (-1) then (some (0, M8)) else (ob (f_X3_isPitch ((10 * x5) + x7) M8) (fun x9 M10 => if x9 = 0 then (some (0, M10)) else (ob (f_X3_put q1 v2 v3 ((10 * x5) + x7) (mw M10 1 2 ((M10 1 2) + 1))) (fun x11 M12 => some (1, M12))))))) else (some (0, M6))))
def f_X4_readCell (q1 : Nat) (v2 : Int32) (v3 : Int32) (M : Mem) : Option (Int32 × Mem) :=
  ob (f_X4_signAt (M 1 2) M) (fun x1 M2 => if x1 = 45 then (f_X4_readCell_b33 q1 v2 v3 x1 M2) else (if x1 = 61 then (ob (f_X3_allowsHold q1 v2 v3 M2) (fun x3 M4 => if x3 = 0 then (f_X4_readCell_b65 q1 v2 v3 M4) else (f_X4_readCell_b33 q1 v2 v3 x1 M4))) else (f_X4_readCell_b65 q1 v2 v3 M2)))
def f_X4_readInto_b108 (q1 : Nat) (v2 : Int32) (v5 : Int32) (v6 : Int32) (k99 : Int32 → Mem → Option (Int32 × Mem)) (k108 : Int32 → Mem → Option (Int32 × Mem)) (v7 : Int32) (M : Mem) : Option (Int32 × Mem) :=
  if v5 ≤ v7 then (k99 (v6 + 1) M) else (ob (f_X4_readCell q1 v6 v7 M) (fun x11 M12 => if x11 = 0 then (some (M12 1 2, M12)) else (k108 (v7 + 1) M12)))
def f_X4_readInto_b144  (M : Mem) : Option (Int32 × Mem) :=
  if (M 1 2) = (M 1 1) then (some ((-9), M)) else (some (M 1 2, M))
def f_X4_readInto_b99 (q1 : Nat) (v2 : Int32) (v5 : Int32) (k99 : Int32 → Mem → Option (Int32 × Mem)) (v6 : Int32) (M : Mem) : Option (Int32 × Mem) :=
  if v2 ≤ v6 then (f_X4_readInto_b144  M) else (lq1 (f_X4_readInto_b108 q1 v2 v5 v6 k99) 9999 0 M)
def f_X4_readInto (q1 : Nat) (M : Mem) : Option (Int32 × Mem) :=
  ob (f_X4_signAt 0 M) (fun x1 M2 => if x1 = 77 then (ob (f_X4_digitAt 1 M2) (fun x3 M4 => if x3 < 1 then (some (1, M4)) else (if x3 ≤ 4 then (ob (f_X4_digitAt 2 M4) (fun x5 M6 => if x5 < 0 then (some (2, M6)) else (if x5 ≤ 1 then (ob (f_X4_digitAt 3 M6) (fun x7 M8 => if x7 = (-1) then (some (3, M8)) else (if ((10 * x5) + x7) < 1 then (some (3, M8)) else (if ((10 * x5) + x7) ≤ 16 then (ob (f_X3_becomeRests q1 x3 ((10 * x5) + x7) M8) (fun x9 M10 => lq1 (f_X4_readInto_b99 q1 x3 ((10 * x5) + x7)) 9999 0 (mw M10 1 2 4))) else (some (3, M8)))))) else (some (2, M6))))) else (some (1, M4))))) else (some (0, M2)))
def f_X5_append (v1 : Int32) (M : Mem) : Option (Except Nat Int32 × Mem) :=
  if v1 < 0 then (some (.error 0, M)) else (if v1 ≤ 255 then (ob (f_X4_isFull  M) (fun x1 M2 => if x1 = 0 then (ob (f_X4_add ((Int32.toUInt32 v1 % 65536).toInt32) M2) (fun x3 M4 => some (.ok x3, M4))) else (some (.error 1, M2)))) else (some (.error 0, M)))
def f_X5_clearText  (M : Mem) : Option (Int32 × Mem) :=
  ob (f_X4_empty  M) (fun x1 M2 => some (x1, M2))
def f_X5_errorPosition  (M : Mem) : Option (Int32 × Mem) :=
  ob (f_X4_readInto 1 M) (fun x1 M2 => some (x1, M2))
def f_X5_load_b51 (k51 : Int32 → Mem → Option (Except Nat Int32 × Mem)) (v1 : Int32) (M : Mem) : Option (Except Nat Int32 × Mem) :=
  if 2 ≤ v1 then (some (.ok (M (iSt 0) 3), M)) else (if inb v1 2 then (k51 (v1 + 1) (mw M 6 (Int32.toNatClampNeg v1) (vp_nar .boolean 0))) else none)
def f_X5_load  (M : Mem) : Option (Except Nat Int32 × Mem) :=
  ob (f_X4_readInto 1 M) (fun x1 M2 => if x1 = (-9) then (ob (f_X3_resetSettings 1 M2) (fun x3 M4 => ob (f_X3_takeFrom 0 1 M4) (fun x5 M6 => ob (f_X1_forget  M6) (fun x7 M8 => lq1 (f_X5_load_b51 ) 9999 0 M8)))) else (some (.error 1, M2)))
def f_X5_about_b19 (v1 : Int32) (M : Mem) : Option (Except Nat Int32 × Mem) :=
  if v1 = 6 then (some (.ok (M (iSt 0) 2), M)) else (if v1 = 7 then (some (.ok (M (iSt 0) 3), M)) else (if v1 = 8 then (ob (f_X3_countStruck 0 M) (fun x3 M4 => some (.ok x3, M4))) else (if v1 = 9 then (ob (f_X3_countHolds 0 M) (fun x5 M6 => some (.ok x5, M6))) else (some (.error 0, M)))))
def f_X5_about (v1 : Int32) (M : Mem) : Option (Except Nat Int32 × Mem) :=
  if v1 < 0 then (f_X5_about_b19 v1 M) else (if 6 ≤ v1 then (f_X5_about_b19 v1 M) else (ob (f_X3_settingAt 0 v1 M) (fun x1 M2 => some (.ok x1, M2))))
def f_X5_requireBeat (v1 : Int32) (M : Mem) : Option (Except Nat Unit × Mem) :=
  ob (f_X3_hasBeat 0 v1 M) (fun x1 M2 => if x1 = 0 then (some (.error 2, M2)) else (some (.ok (), M2)))
def f_X5_requireStaff (v1 : Int32) (M : Mem) : Option (Except Nat Unit × Mem) :=
  ob (f_X3_hasStaff 0 v1 M) (fun x1 M2 => if x1 = 0 then (some (.error 2, M2)) else (some (.ok (), M2)))
def f_X5_requireCell (v1 : Int32) (v2 : Int32) (M : Mem) : Option (Except Nat Unit × Mem) :=
  oe (f_X5_requireStaff v1 M) (fun x1 M2 => oe (f_X5_requireBeat v2 M2) (fun x3 M4 => some (.ok (), M4)))
def f_X5_cell (v1 : Int32) (v2 : Int32) (v3 : Int32) (M : Mem) : Option (Except Nat Int32 × Mem) :=
  oe (f_X5_requireCell v1 v2 M) (fun x1 M2 => if v3 = 0 then (ob (f_X3_written 0 v1 v2 M2) (fun x3 M4 => some (.ok x3, M4))) else (ob (f_X3_sounding 0 v1 v2 M2) (fun x5 M6 => some (.ok x5, M6))))
def f_X5_set (v1 : Int32) (v2 : Int32) (M : Mem) : Option (Except Nat Int32 × Mem) :=
  ob (f_X3_allowsSetting v1 v2 M) (fun x1 M2 => if x1 = 0 then (some (.error 0, M2)) else (ob (f_X1_remember 0 M2) (fun x3 M4 => ob (f_X3_settingAt 0 v1 M4) (fun x5 M6 => ob (f_X3_changeSetting 0 v1 v2 M6) (fun x7 M8 => some (.ok x5, M8))))))
def f_X5_write_b97 (v4 : Int32) (s0 : Int32) (s1 : Int32) (s2 : Int32) (s3 : Nat) (M : Mem) : Option (Except Nat Int32 × Mem) :=
  ob (f_X3_put s3 s2 s1 s0 M) (fun x11 M12 => ob (f_X3_dropLooseHolds 0 M12) (fun x13 M14 => some (.ok v4, M14)))
def f_X5_write_b58 (v1 : Int32) (v2 : Int32) (v3 : Int32) (M : Mem) : Option (Except Nat Int32 × Mem) :=
  ob (f_X1_remember 0 M) (fun x7 M8 => ob (f_X3_written 0 v1 v2 M8) (fun x9 M10 => if v3 = (-1) then (f_X5_write_b97 x9 (-9) v2 v1 0 M10) else (f_X5_write_b97 x9 v3 v2 v1 0 M10)))
def f_X5_write_b32 (v1 : Int32) (v2 : Int32) (v3 : Int32) (M : Mem) : Option (Except Nat Int32 × Mem) :=
  if v3 = 99 then (ob (f_X3_allowsHold 0 v1 v2 M) (fun x5 M6 => if x5 = 0 then (some (.error 1, M6)) else (f_X5_write_b58 v1 v2 v3 M6))) else (f_X5_write_b58 v1 v2 v3 M)
def f_X5_write (v1 : Int32) (v2 : Int32) (v3 : Int32) (M : Mem) : Option (Except Nat Int32 × Mem) :=
  oe (f_X5_requireCell v1 v2 M) (fun x1 M2 => if v3 = (-1) then (f_X5_write_b32 v1 v2 v3 M2) else (if v3 = 99 then (f_X5_write_b32 v1 v2 v3 M2) else (ob (f_X3_isPitch v3 M2) (fun x3 M4 => if x3 = 0 then (some (.error 0, M4)) else (f_X5_write_b32 v1 v2 v3 M4)))))
def f_X5_transpose (v1 : Int32) (v2 : Int32) (M : Mem) : Option (Except Nat Int32 × Mem) :=
  oe (f_X5_requireStaff v1 M) (fun x1 M2 => if v2 < (-60) then (some (.error 0, M2)) else (if v2 ≤ 60 then (ob (f_X3_allowsMoving 0 v1 v2 M2) (fun x3 M4 => if x3 = 0 then (some (.error 1, M4)) else (ob (f_X1_remember 0 M4) (fun x5 M6 => ob (f_X3_moveStaff 0 v1 v2 M6) (fun x7 M8 => some (.ok x7, M8)))))) else (some (.error 0, M2))))
def f_X5_exchange (v1 : Int32) (v2 : Int32) (M : Mem) : Option (Except Nat Int32 × Mem) :=
  oe (f_X5_requireStaff v1 M) (fun x1 M2 => oe (f_X5_requireStaff v2 M2) (fun x3 M4 => ob (f_X1_remember 0 M4) (fun x5 M6 => ob (f_X3_swapStaves 0 v1 v2 M6) (fun x7 M8 => some (.ok x7, M8)))))
def f_X5_staff_b37 (v1 : Int32) (M : Mem) : Option (Except Nat Int32 × Mem) :=
  ob (f_X1_remember 0 M) (fun x1 M2 => if v1 = 0 then (ob (f_X3_dropStaff 0 M2) (fun x3 M4 => some (.ok (M4 (iSt 0) 2), M4))) else (ob (f_X3_addStaff 0 M2) (fun x5 M6 => some (.ok (M6 (iSt 0) 2), M6))))
def f_X5_staff (v1 : Int32) (M : Mem) : Option (Except Nat Int32 × Mem) :=
  if v1 = 0 then (if 1 < (M (iSt 0) 2) then (f_X5_staff_b37 v1 M) else (some (.error 1, M))) else (if (M (iSt 0) 2) < 4 then (f_X5_staff_b37 v1 M) else (some (.error 1, M)))
def f_X5_insertBeat (v1 : Int32) (M : Mem) : Option (Except Nat Int32 × Mem) :=
  if v1 < 0 then (some (.error 2, M)) else (if v1 ≤ (M (iSt 0) 3) then (if (M (iSt 0) 3) < 16 then (ob (f_X1_remember 0 M) (fun x1 M2 => ob (f_X3_openBeat 0 v1 M2) (fun x3 M4 => ob (f_X3_dropLooseHolds 0 M4) (fun x5 M6 => some (.ok (M6 (iSt 0) 3), M6))))) else (some (.error 1, M))) else (some (.error 2, M)))
def f_X5_removeBeat (v1 : Int32) (M : Mem) : Option (Except Nat Int32 × Mem) :=
  oe (f_X5_requireBeat v1 M) (fun x1 M2 => if 1 < (M2 (iSt 0) 3) then (ob (f_X1_remember 0 M2) (fun x3 M4 => ob (f_X3_closeBeat 0 v1 M4) (fun x5 M6 => ob (f_X3_dropLooseHolds 0 M6) (fun x7 M8 => some (.ok (M8 (iSt 0) 3), M8))))) else (some (.error 1, M2)))
def f_X5_undo  (M : Mem) : Option (Except Nat Int32 × Mem) :=
  ob (f_X1_isEmpty  M) (fun x1 M2 => if x1 = 0 then (ob (f_X1_takeBack 0 M2) (fun x3 M4 => some (.ok x3, M4))) else (some (.error 1, M2)))
def f_X5_requireUpTo (v0 : Int32) (v1 : Int32) (M : Mem) : Option (Except Nat Unit × Mem) :=
  if v1 < 0 then (some (.error 0, M)) else (if v1 ≤ v0 then (some (.ok (), M)) else (some (.error 0, M)))
def f_X5_note (v1 : Int32) (v2 : Int32) (v3 : Int32) (M : Mem) : Option (Except Nat Int32 × Mem) :=
  oe (f_X5_requireCell v1 v2 M) (fun x1 M2 => oe (f_X5_requireUpTo 3 v3 M2) (fun x3 M4 => ob (f_X2_make 0 M4) (fun x5 M6 => ob (f_X2_numberOfNote v1 v2 v3 M6) (fun x7 M8 => some (.ok x7, M8)))))
def f_X5_hand (v1 : Int32) (v2 : Int32) (v3 : Int32) (M : Mem) : Option (Except Nat Int32 × Mem) :=
  if v1 < 0 then (some (.error 2, M)) else (if v1 < 2 then (oe (f_X5_requireBeat v2 M) (fun x1 M2 => oe (f_X5_requireUpTo 4 v3 M2) (fun x3 M4 => ob (f_X2_make 0 M4) (fun x5 M6 => ob (f_X2_numberOfHand v1 v2 v3 M6) (fun x7 M8 => some (.ok x7, M8)))))) else (some (.error 2, M)))
def f_X5_beat (v1 : Int32) (v2 : Int32) (M : Mem) : Option (Except Nat Int32 × Mem) :=
  oe (f_X5_requireBeat v1 M) (fun x1 M2 => oe (f_X5_requireUpTo 4 v2 M2) (fun x3 M4 => ob (f_X2_make 0 M4) (fun x5 M6 => ob (f_X2_numberOfBeat v1 v2 M6) (fun x7 M8 => some (.ok x7, M8)))))
def f_X5_whole (v1 : Int32) (M : Mem) : Option (Except Nat Int32 × Mem) :=
  oe (f_X5_requireUpTo 7 v1 M) (fun x1 M2 => ob (f_X2_make 0 M2) (fun x3 M4 => ob (f_X2_numberOfWhole v1 M4) (fun x5 M6 => some (.ok x5, M6))))
def f_X5_numberOfTrial (v1 : Int32) (M : Mem) : Option (Int32 × Mem) :=
  ob (f_X2_make 1 M) (fun x1 M2 => ob (f_X2_numberOfWhole v1 M2) (fun x3 M4 => some (x3, M4)))
def f_X5_whatIf (v1 : Int32) (v2 : Int32) (v3 : Int32) (M : Mem) : Option (Except Nat Int32 × Mem) :=
  ob (f_X3_allowsSetting v1 v2 M) (fun x1 M2 => if x1 = 0 then (some (.error 0, M2)) else (oe (f_X5_requireUpTo 7 v3 M2) (fun x3 M4 => ob (f_X3_takeFrom 1 0 M4) (fun x5 M6 => ob (f_X3_changeSetting 1 v1 v2 M6) (fun x7 M8 => ob (f_X5_numberOfTrial v3 M8) (fun x9 M10 => some (.ok x9, M10)))))))
def f_X5_smallestSpan_b41 (v1 : Int32) (k13 : Int32 → Mem → Option (Int32 × Mem)) (M : Mem) : Option (Int32 × Mem) :=
  ob (f_X5_numberOfTrial 3 M) (fun x5 M6 => if x5 = 0 then (some (v1, M6)) else (k13 (v1 + 1) M6))
def f_X5_smallestSpan_b21 (v1 : Int32) (k13 : Int32 → Mem → Option (Int32 × Mem)) (k21 : Int32 → Mem → Option (Int32 × Mem)) (v2 : Int32) (M : Mem) : Option (Int32 × Mem) :=
  if 2 ≤ v2 then (f_X5_smallestSpan_b41 v1 k13 M) else (ob (f_X3_changeSetting 1 v2 v1 M) (fun x3 M4 => k21 (v2 + 1) M4))
def f_X5_smallestSpan_b13 (k13 : Int32 → Mem → Option (Int32 × Mem)) (v1 : Int32) (M : Mem) : Option (Int32 × Mem) :=
  if 24 < v1 then (some ((-9), M)) else (lq1 (f_X5_smallestSpan_b21 v1 k13) 9999 0 M)
def f_X5_smallestSpan  (M : Mem) : Option (Int32 × Mem) :=
  ob (f_X3_takeFrom 1 0 M) (fun x1 M2 => lq1 (f_X5_smallestSpan_b13 ) 9999 1 M2)
def f_X5_dearest_b7 (k7 : Int32 → Int32 → Int32 → Mem → Option (Int32 × Mem)) (v1 : Int32) (v2 : Int32) (v3 : Int32) (M : Mem) : Option (Int32 × Mem) :=
  if (M (iSt 0) 2) ≤ v3 then (some (v1, M)) else (ob (f_X3_takeFrom 1 0 M) (fun x1 M2 => ob (f_X3_silenceStaff 1 v3 M2) (fun x3 M4 => ob (f_X5_numberOfTrial 0 M4) (fun x5 M6 => if v2 ≤ x5 then (k7 v1 v2 (v3 + 1) M6) else (k7 v3 x5 (v3 + 1) M6)))))
def f_X5_dearest  (M : Mem) : Option (Int32 × Mem) :=
  lq3 (f_X5_dearest_b7 ) 9999 0 1000000 0 M
def f_X5_bestTransposition_b42 (v1 : Int32) (v2 : Int32) (v3 : Int32) (v4 : Int32) (k13 : Int32 → Int32 → Int32 → Mem → Option (Except Nat Int32 × Mem)) (s0 : Int32) (M : Mem) : Option (Except Nat Int32 × Mem) :=
  ob (f_X3_allowsMoving 0 v1 s0 M) (fun x3 M4 => if x3 = 0 then (k13 v2 v3 (v4 + 1) M4) else (ob (f_X3_takeFrom 1 0 M4) (fun x5 M6 => ob (f_X3_moveStaff 1 v1 s0 M6) (fun x7 M8 => ob (f_X5_numberOfTrial 0 M8) (fun x9 M10 => if v3 ≤ x9 then (k13 v2 v3 (v4 + 1) M10) else (k13 s0 x9 (v4 + 1) M10))))))
def f_X5_bestTransposition_b13 (v1 : Int32) (k13 : Int32 → Int32 → Int32 → Mem → Option (Except Nat Int32 × Mem)) (v2 : Int32) (v3 : Int32) (v4 : Int32) (M : Mem) : Option (Except Nat Int32 × Mem) :=
  if 120 < v4 then (some (.ok v2, M)) else (if (v4 - v4 / 2 * 2) = 1 then (f_X5_bestTransposition_b42 v1 v2 v3 v4 k13 ((v4 + 1) / 2) M) else (f_X5_bestTransposition_b42 v1 v2 v3 v4 k13 (-(v4 / 2)) M))
def f_X5_bestTransposition (v1 : Int32) (M : Mem) : Option (Except Nat Int32 × Mem) :=
  oe (f_X5_requireStaff v1 M) (fun x1 M2 => lq3 (f_X5_bestTransposition_b13 v1) 9999 0 1000000 0 M2)
def f_X5_groupFromEnd_b5 (v2 : Int32) (k5 : Int64 → Int32 → Mem → Option (Int64 × Mem)) (w3 : Int64) (v5 : Int32) (M : Mem) : Option (Int64 × Mem) :=
  if v2 ≤ v5 then (some (w3, M)) else (k5 (w3 / 100000) (v5 + 1) M)
def f_X5_groupFromEnd (w0 : Int64) (v2 : Int32) (M : Mem) : Option (Int64 × Mem) :=
  lq2 (f_X5_groupFromEnd_b5 v2) 9999 w0 0 M
def f_X5_triedCell (v1 : Int32) (v2 : Int32) (v3 : Int32) (M : Mem) : Option (Int32 × Mem) :=
  ob (f_X3_hasCell 1 v1 v2 M) (fun x1 M2 => if x1 = 0 then (some (0, M2)) else (ob (f_X3_put 1 v1 v2 v3 M2) (fun x3 M4 => ob (f_X3_dropLooseHolds 1 M4) (fun x5 M6 => some (1, M6)))))
def f_X5_triedExchange (v1 : Int32) (v2 : Int32) (M : Mem) : Option (Int32 × Mem) :=
  ob (f_X3_hasStaff 1 v1 M) (fun x1 M2 => if x1 = 0 then (some (0, M2)) else (ob (f_X3_hasStaff 1 v2 M2) (fun x3 M4 => if x3 = 0 then (some (0, M4)) else (ob (f_X3_swapStaves 1 v1 v2 M4) (fun x5 M6 => some (1, M6))))))
def f_X5_triedRemoval (v1 : Int32) (M : Mem) : Option (Int32 × Mem) :=
  ob (f_X3_hasBeat 1 v1 M) (fun x1 M2 => if x1 = 0 then (some (0, M2)) else (if 1 < (M2 (iSt 1) 3) then (ob (f_X3_closeBeat 1 v1 M2) (fun x3 M4 => ob (f_X3_dropLooseHolds 1 M4) (fun x5 M6 => some (1, M6)))) else (some (0, M2))))
def f_X5_triedSetting (v1 : Int32) (v2 : Int32) (M : Mem) : Option (Int32 × Mem) :=
  ob (f_X3_allowsSetting v1 v2 M) (fun x1 M2 => if x1 = 0 then (some (0, M2)) else (ob (f_X3_changeSetting 1 v1 v2 M2) (fun x3 M4 => some (1, M4))))
def f_X5_succeeds (v1 : Int32) (M : Mem) : Option (Int32 × Mem) :=
  if (v1 / 10000) = 1 then (if ((v1 / 100) - (v1 / 100) / 10 * 10) = 0 then (ob (f_X5_triedSetting ((v1 / 1000) - (v1 / 1000) / 10 * 10) (v1 - v1 / 100 * 100) M) (fun x1 M2 => if x1 = 0 then (some (0, M2)) else (some (1, M2)))) else (some (0, M))) else (if (v1 / 10000) = 2 then (ob (f_X3_isPitch (v1 - v1 / 100 * 100) M) (fun x3 M4 => if x3 = 0 then (some (0, M4)) else (ob (f_X5_triedCell ((v1 / 1000) - (v1 / 1000) / 10 * 10) ((v1 / 100) - (v1 / 100) / 10 * 10) (v1 - v1 / 100 * 100) M4) (fun x5 M6 => if x5 = 0 then (some (0, M6)) else (some (1, M6)))))) else (if (v1 / 10000) = 3 then (if (v1 - v1 / 100 * 100) = 0 then (ob (f_X5_triedCell ((v1 / 1000) - (v1 / 1000) / 10 * 10) ((v1 / 100) - (v1 / 100) / 10 * 10) (-9) M) (fun x7 M8 => if x7 = 0 then (some (0, M8)) else (some (1, M8)))) else (some (0, M))) else (if (v1 / 10000) = 4 then (if (v1 - v1 / 100 * 100) = 0 then (ob (f_X3_allowsHold 1 ((v1 / 1000) - (v1 / 1000) / 10 * 10) ((v1 / 100) - (v1 / 100) / 10 * 10) M) (fun x9 M10 => if x9 = 0 then (some (0, M10)) else (ob (f_X5_triedCell ((v1 / 1000) - (v1 / 1000) / 10 * 10) ((v1 / 100) - (v1 / 100) / 10 * 10) 99 M10) (fun x11 M12 => if x11 = 0 then (some (0, M12)) else (some (1, M12)))))) else (some (0, M))) else (if (v1 / 10000) = 5 then (if ((v1 / 1000) - (v1 / 1000) / 10 * 10) = 0 then (if (v1 - v1 / 10 * 10) = 0 then (ob (f_X5_triedExchange ((v1 / 100) - (v1 / 100) / 10 * 10) ((v1 / 10) - (v1 / 10) / 10 * 10) M) (fun x13 M14 => if x13 = 0 then (some (0, M14)) else (some (1, M14)))) else (some (0, M))) else (some (0, M))) else (if (v1 / 10000) = 6 then (if (v1 - v1 / 100 * 100) = 0 then (ob (f_X5_triedRemoval ((10 * ((v1 / 1000) - (v1 / 1000) / 10 * 10)) + ((v1 / 100) - (v1 / 100) / 10 * 10)) M) (fun x15 M16 => if x15 = 0 then (some (0, M16)) else (some (1, M16)))) else (some (0, M))) else (if (v1 / 10000) = 7 then (if 7 < ((v1 / 1000) - (v1 / 1000) / 10 * 10) then (some (0, M)) else (ob (f_X2_numberOfWhole ((v1 / 1000) - (v1 / 1000) / 10 * 10) M) (fun x17 M18 => if x17 = (v1 - v1 / 1000 * 1000) then (some (1, M18)) else (some (0, M18))))) else (if (v1 / 10000) = 8 then (if ((v1 / 10) - (v1 / 10) / 10 * 10) = 0 then (ob (f_X3_hasCell 1 ((v1 / 1000) - (v1 / 1000) / 10 * 10) ((v1 / 100) - (v1 / 100) / 10 * 10) M) (fun x19 M20 => if x19 = 0 then (some (0, M20)) else (ob (f_X2_numberOfNote ((v1 / 1000) - (v1 / 1000) / 10 * 10) ((v1 / 100) - (v1 / 100) / 10 * 10) 0 M20) (fun x21 M22 => if x21 = (v1 - v1 / 10 * 10) then (some (1, M22)) else (some (0, M22)))))) else (some (0, M))) else (if (v1 / 10000) = 9 then (if ((v1 / 10) - (v1 / 10) / 10 * 10) = 0 then (ob (f_X3_hasCell 1 ((v1 / 1000) - (v1 / 1000) / 10 * 10) ((v1 / 100) - (v1 / 100) / 10 * 10) M) (fun x23 M24 => if x23 = 0 then (some (0, M24)) else (ob (f_X2_numberOfNote ((v1 / 1000) - (v1 / 1000) / 10 * 10) ((v1 / 100) - (v1 / 100) / 10 * 10) 1 M24) (fun x25 M26 => if x25 = (v1 - v1 / 10 * 10) then (some (1, M26)) else (some (0, M26)))))) else (some (0, M))) else (some (0, M))))))))))
def f_X5_runScript_b48 (v1 : Int32) (w2 : Int64) (k48 : Int32 → Mem → Option (Except Nat Int32 × Mem)) (v4 : Int32) (M : Mem) : Option (Except Nat Int32 × Mem) :=
  if v1 ≤ v4 then (some (.ok (-9), M)) else (ob (f_X2_make 1 M) (fun x5 M6 => ob (f_X5_groupFromEnd w2 ((v1 - 1) - v4) M6) (fun x7 M8 => ob (f_X5_succeeds (Int64.toInt32 (x7 - x7 / 100000 * 100000)) M8) (fun x9 M10 => if x9 = 0 then (some (.ok v4, M10)) else (k48 (v4 + 1) M10)))))
def f_X5_runScript (v1 : Int32) (w2 : Int64) (M : Mem) : Option (Except Nat Int32 × Mem) :=
  if v1 < 1 then (some (.error 0, M)) else (if 3 < v1 then (some (.error 0, M)) else (if (lg_cmp w2 0) < 0 then (some (.error 0, M)) else (ob (f_X5_groupFromEnd w2 v1 M) (fun x1 M2 => if (lg_cmp x1 0) = 0 then (ob (f_X3_takeFrom 1 0 M2) (fun x3 M4 => lq1 (f_X5_runScript_b48 v1 w2) 9999 0 M4)) else (some (.error 0, M2))))))
def f_X5_simulateRound (v1 : Int32) (M : Mem) : Option (Unit × Mem) :=
  if (M (iSt 1) 2) < 1 then (some ((), M)) else (if 1 ≤ (M (iSt 1) 3) then (if ¬ (M (iSt 1) 2) = 0 then (if ¬ (M (iSt 1) 3) = 0 then (ob (f_X3_isPitch ((v1 / 64) - (v1 / 64) / 64 * 64) M) (fun x1 M2 => if x1 = 0 then (if ((v1 / 64) - (v1 / 64) / 64 * 64) = 61 then (ob (f_X5_triedCell (v1 - v1 / (M (iSt 1) 2) * (M (iSt 1) 2)) ((v1 / 4) - (v1 / 4) / (M (iSt 1) 3) * (M (iSt 1) 3)) (-9) M2) (fun x7 M8 => some ((), M8))) else (ob (f_X3_allowsHold 1 (v1 - v1 / (M (iSt 1) 2) * (M (iSt 1) 2)) ((v1 / 4) - (v1 / 4) / (M (iSt 1) 3) * (M (iSt 1) 3)) M2) (fun x3 M4 => if x3 = 0 then (some ((), M4)) else (ob (f_X5_triedCell (v1 - v1 / (M (iSt 1) 2) * (M (iSt 1) 2)) ((v1 / 4) - (v1 / 4) / (M (iSt 1) 3) * (M (iSt 1) 3)) 99 M4) (fun x5 M6 => some ((), M6)))))) else (ob (f_X5_triedCell (v1 - v1 / (M (iSt 1) 2) * (M (iSt 1) 2)) ((v1 / 4) - (v1 / 4) / (M (iSt 1) 3) * (M (iSt 1) 3)) ((v1 / 64) - (v1 / 64) / 64 * 64) M2) (fun x9 M10 => some ((), M10))))) else none) else none) else (some ((), M)))
def f_X5_simulate_b113 (v6 : Int32) (M : Mem) : Option (Except Nat Int32 × Mem) :=
  ob (f_X2_numberOfWhole 0 M) (fun x9 M10 => some (.ok (x9 + (1000 * v6)), M10))
def f_X5_simulate_b87 (k87 : Int32 → Int32 → Mem → Option (Except Nat Int32 × Mem)) (v6 : Int32) (v7 : Int32) (M : Mem) : Option (Except Nat Int32 × Mem) :=
  if 3 < v7 then (f_X5_simulate_b113 v6 M) else (ob (f_X2_numberOfWhole v7 M) (fun x7 M8 => k87 (v6 + x7) (v7 + 1) M8))
def f_X5_simulate_b70  (M : Mem) : Option (Except Nat Int32 × Mem) :=
  ob (f_X2_make 1 M) (fun x5 M6 => lq2 (f_X5_simulate_b87 ) 9999 0 1 M6)
def f_X5_simulate_b36 (v3 : Int32) (k36 : Int64 → Int32 → Mem → Option (Except Nat Int32 × Mem)) (w4 : Int64) (v6 : Int32) (M : Mem) : Option (Except Nat Int32 × Mem) :=
  if v3 ≤ v6 then (f_X5_simulate_b70  M) else (ob (f_X5_simulateRound (Int64.toInt32 ((Int64.toUInt64 ((w4 * 6364136223846793005) + 1442695040888963407) >>> ((Int32.toInt64 33).toUInt64 &&& Int64.toUInt64 63)).toInt64)) M) (fun x3 M4 => k36 ((w4 * 6364136223846793005) + 1442695040888963407) (v6 + 1) M4))
def f_X5_simulate (w1 : Int64) (v3 : Int32) (M : Mem) : Option (Except Nat Int32 × Mem) :=
  if v3 < 1 then (some (.error 0, M)) else (if v3 ≤ 40 then (ob (f_X3_takeFrom 1 0 M) (fun x1 M2 => lq2 (f_X5_simulate_b36 v3) 9999 w1 0 M2)) else (some (.error 0, M)))
def f_X5_requireSlot (v0 : Int32) (M : Mem) : Option (Except Nat Unit × Mem) :=
  if v0 < 0 then (some (.error 2, M)) else (if v0 < 2 then (some (.ok (), M)) else (some (.error 2, M)))
def f_X5_save (v1 : Int32) (M : Mem) : Option (Except Nat Int32 × Mem) :=
  oe (f_X5_requireSlot v1 M) (fun x1 M2 => if inb v1 2 then (ob (f_X3_takeFrom (2 + Int32.toNatClampNeg v1) 0 M2) (fun x4 M5 => if inb v1 2 then (some (.ok ((mw M5 6 (Int32.toNatClampNeg v1) (vp_nar .boolean 1)) (iSt 0) 3), (mw M5 6 (Int32.toNatClampNeg v1) (vp_nar .boolean 1)))) else none)) else none)
def f_X5_restore (v1 : Int32) (M : Mem) : Option (Except Nat Int32 × Mem) :=
  oe (f_X5_requireSlot v1 M) (fun x1 M2 => if inb v1 2 then (if (M2 6 (Int32.toNatClampNeg v1)) = 0 then (some (.error 1, M2)) else (if inb v1 2 then (ob (f_X3_takeFrom 0 (2 + Int32.toNatClampNeg v1) M2) (fun x4 M5 => ob (f_X1_forget  M5) (fun x6 M7 => some (.ok (M7 (iSt 0) 3), M7)))) else none)) else none)
